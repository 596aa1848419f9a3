def dt227_X11_secret : List (Nat × Instr × Nat) := [(0, (.iload_n 1, 1)), (1, (.iconst 3, 1)), (2, (.invokestatic 106, 3)), (5, (.iload_n 3, 1)), (6, (.iconst 2, 1)), (7, (.bipush 6, 2)), (9, (.invokestatic 133, 3)), (12, (.iload_n 2, 1)), (13, (.iload_n 3, 1)), (14, (.invokestatic 345, 3)), (17, (.invokestatic 243, 3)), (20, (.aload_n 0, 1)), (21, (.getfield 54, 3)), (24, (.iload_n 1, 1)), (25, (.iload_n 2, 1)), (26, (.iload_n 3, 1)), (27, (.invokevirtual 348, 3)), (30, (.ireturn, 1))]
theorem dt227_X11_secret_ok : ∀ q ∈ dt227_X11_secret, decode cX11_secret q.1 = .ok q.2 := by decide +kernel
theorem dX11_secret_0 : decode cX11_secret 0 = .ok (.iload_n 1, 1) := g_dec dt227_X11_secret_ok (k := 0) rfl
theorem dX11_secret_1 : decode cX11_secret 1 = .ok (.iconst 3, 1) := g_dec dt227_X11_secret_ok (k := 1) rfl
theorem dX11_secret_2 : decode cX11_secret 2 = .ok (.invokestatic 106, 3) := g_dec dt227_X11_secret_ok (k := 2) rfl
theorem dX11_secret_5 : decode cX11_secret 5 = .ok (.iload_n 3, 1) := g_dec dt227_X11_secret_ok (k := 3) rfl
theorem dX11_secret_6 : decode cX11_secret 6 = .ok (.iconst 2, 1) := g_dec dt227_X11_secret_ok (k := 4) rfl
theorem dX11_secret_7 : decode cX11_secret 7 = .ok (.bipush 6, 2) := g_dec dt227_X11_secret_ok (k := 5) rfl
theorem dX11_secret_9 : decode cX11_secret 9 = .ok (.invokestatic 133, 3) := g_dec dt227_X11_secret_ok (k := 6) rfl
theorem dX11_secret_12 : decode cX11_secret 12 = .ok (.iload_n 2, 1) := g_dec dt227_X11_secret_ok (k := 7) rfl
theorem dX11_secret_13 : decode cX11_secret 13 = .ok (.iload_n 3, 1) := g_dec dt227_X11_secret_ok (k := 8) rfl
theorem dX11_secret_14 : decode cX11_secret 14 = .ok (.invokestatic 345, 3) := g_dec dt227_X11_secret_ok (k := 9) rfl
theorem dX11_secret_17 : decode cX11_secret 17 = .ok (.invokestatic 243, 3) := g_dec dt227_X11_secret_ok (k := 10) rfl
theorem dX11_secret_20 : decode cX11_secret 20 = .ok (.aload_n 0, 1) := g_dec dt227_X11_secret_ok (k := 11) rfl
theorem dX11_secret_21 : decode cX11_secret 21 = .ok (.getfield 54, 3) := g_dec dt227_X11_secret_ok (k := 12) rfl
theorem dX11_secret_24 : decode cX11_secret 24 = .ok (.iload_n 1, 1) := g_dec dt227_X11_secret_ok (k := 13) rfl
theorem dX11_secret_25 : decode cX11_secret 25 = .ok (.iload_n 2, 1) := g_dec dt227_X11_secret_ok (k := 14) rfl
theorem dX11_secret_26 : decode cX11_secret 26 = .ok (.iload_n 3, 1) := g_dec dt227_X11_secret_ok (k := 15) rfl
theorem dX11_secret_27 : decode cX11_secret 27 = .ok (.invokevirtual 348, 3) := g_dec dt227_X11_secret_ok (k := 16) rfl
theorem dX11_secret_30 : decode cX11_secret 30 = .ok (.ireturn, 1) := g_dec dt227_X11_secret_ok (k := 17) rfl
set_option maxRecDepth 100000 in
set_option maxHeartbeats 4000000 in
theorem k_X8_get_16 (l : Launch) (D : va_G) (y : Nat → ClassId) (aS : Nat → Nat) (sz : Nat) (h0 : Nat) (h1 : Nat) (wp18971 : Int32) : Met l yX8_get (Cond.code yX8_get cX8_get 2 (some .long) :: wsL_law) ({ frames := 0, cells := 0, slots := 0, locals := 0 } : Room) (va_Pc [.ref h0, .int 2] (gI D y aS [(h0, .inr (8, [.ref h1, .int wp18971])), (h1, .inl (y 1, 3, .inr (.inl (vp_updL (fun _ => 0) ((1 : Int32).toNatClampNeg) 3))))] sz)) (va_Ql (fun (r : Int64) (u : Unit) => 0 = r) (fun u => gO D (va_A [(h0, .inr (8, [.ref h1, .int wp18971])), (h1, .inl (y 1, 3, .inr (.inl (vp_updL (fun _ => 0) ((1 : Int32).toNatClampNeg) 3))))] sz) [(h0, .inr (8, [.ref h1, .int wp18971])), (h1, .inl (y 1, 3, .inr (.inl (vp_updL (fun _ => 0) ((1 : Int32).toNatClampNeg) 3))))]) (va_A [(h0, .inr (8, [.ref h1, .int wp18971])), (h1, .inl (y 1, 3, .inr (.inl (vp_updL (fun _ => 0) ((1 : Int32).toNatClampNeg) 3))))] sz)) 0 0 (va_A [(h0, .inr (8, [.ref h1, .int wp18971])), (h1, .inl (y 1, 3, .inr (.inl (vp_updL (fun _ => 0) ((1 : Int32).toNatClampNeg) 3))))] sz) := by
  refine g_of (by decide) (Nat.le_of_ble_eq_true rfl) ?_
  intro p e s m below meth c ls A hx hb hr hml hown hg hlocks hin hsz hK hP hD hS hA hAe hl
  rw [← hAe]
  replace hown : s.vm.findClass RX8 = some m.cls := hown
  replace hl : lv_has ls 2 [(0, .ref h0), (1, .int 2)] := hl
  refine lv_iload_n hx hb dX8_get_0 rfl (lv_at hl 1 rfl) ?_
  refine lv_if_lt (tgt := 22) hx hb dX8_get_1 (by decide) (fun c9 => absurd c9 (by decide +kernel)) (fun _ => ?_)
  refine lv_iload_n hx hb dX8_get_4 rfl (lv_at hl 1 rfl) ?_
  refine lv_aload_n hx hb dX8_get_5 rfl (lv_at hl 0 rfl) ?_
  refine gm_get (D := D) (ci := 8) (v := .ref h1) (C := RX8) (T := TX8) (N := 2) hx hb hg inlX8 hown hK.1 hP 0 rfl rfl 0 (by decide) tX8_0 (hg _ gw_98) rfl dX8_get_6 ?_
  refine va_alen hx hb hK.1 hP 1 1 rfl rfl (v := 3) rfl dX8_get_9 ?_
  refine lv_icmp_ge (tgt := 22) hx hb dX8_get_10 (by decide) (fun c9 => absurd c9 (by decide +kernel)) (fun _ => ?_)
  refine lv_aload_n hx hb dX8_get_13 rfl (lv_at hl 0 rfl) ?_
  refine gm_get (D := D) (ci := 8) (v := .ref h1) (C := RX8) (T := TX8) (N := 2) hx hb hg inlX8 hown hK.1 hP 0 rfl rfl 0 (by decide) tX8_0 (hg _ gw_98) rfl dX8_get_14 ?_
  refine lv_iload_n hx hb dX8_get_17 rfl (lv_at hl 1 rfl) ?_
  refine va_lald hx hb hK.1 hP 1 1 rfl rfl (by unfold vp_in; decide +kernel) dX8_get_18 ?_
  refine g_fj (v := 0) (by rfl) ?_
  refine lv_goto (tgt := 23) hx hb dX8_get_19 (by decide) ?_
  exact g_lret hx hb hr hlocks () hP hD hS rfl (Nat.le_of_ble_eq_true rfl) (Nat.le_of_ble_eq_true rfl) dX8_get_23
set_option maxRecDepth 100000 in
set_option maxHeartbeats 4000000 in
theorem k_X5_tellSecret_4 (l : Launch) (D : va_G) (y : Nat → ClassId) (aS : Nat → Nat) (sz : Nat) (h0 : Nat) (p1 : Int32) (h2 : Nat) (h3 : Nat) (h4 : Nat) (h5 : Nat) (wp18973 : Int32) (h7 : Nat) (wp18974 : Int32) (wf18975 : Nat → Int64) (h10 : Nat) (wp18976 : Int32) (h12 : Nat) : Met l yX5_tellSecret (Cond.code yX5_tellSecret cX5_tellSecret 7 (some .int) :: wsL_law) ({ frames := 1, cells := 0, slots := 0, locals := 23 } : Room) (va_Pc [.ref h0, .int 1, .int p1, .int 3] (gI D y aS [(h0, .inr (5, [.ref h2, .ref h3, .ref h4, .ref h5, .int wp18973])), (h4, .inr (8, [.ref h7, .int wp18974])), (h7, .inl (y 1, 18, .inr (.inl wf18975))), (h5, .inr (8, [.ref h10, .int wp18976])), (h10, .inl (y 1, 3, .inr (.inl (fun _ => 0)))), (h2, .inr (8, [.ref h12, .int 0]))] sz)) (va_Qi (fun (r : Int32) (u : Unit) => 1 = r) (fun u => gO D (va_A [(h0, .inr (5, [.ref h2, .ref h3, .ref h4, .ref h5, .int wp18973])), (h4, .inr (8, [.ref h7, .int wp18974])), (h7, .inl (y 1, 18, .inr (.inl wf18975))), (h5, .inr (8, [.ref h10, .int wp18976])), (h10, .inl (y 1, 3, .inr (.inl (fun _ => 0)))), (h2, .inr (8, [.ref h12, .int 0]))] sz) [(h0, .inr (5, [.ref h2, .ref h3, .ref h4, .ref h5, .int 0])), (h4, .inr (8, [.ref h7, .int wp18974])), (h7, .inl (y 1, 18, .inr (.inl (vp_updL (vp_updL (vp_updL wf18975 ((8 : Int32).toNatClampNeg) ((p1 - p1 / 10 * 10).toInt64)) ((7 : Int32).toNatClampNeg) (((p1 / 10) - (p1 / 10) / 10 * 10).toInt64)) ((6 : Int32).toNatClampNeg) ((((p1 / 10) / 10) - ((p1 / 10) / 10) / 10 * 10).toInt64))))), (h5, .inr (8, [.ref h10, .int wp18976])), (h10, .inl (y 1, 3, .inr (.inl (vp_updL (fun _ => 0) ((1 : Int32).toNatClampNeg) 3)))), (h2, .inr (8, [.ref h12, .int 0]))]) (va_A [(h0, .inr (5, [.ref h2, .ref h3, .ref h4, .ref h5, .int wp18973])), (h4, .inr (8, [.ref h7, .int wp18974])), (h7, .inl (y 1, 18, .inr (.inl wf18975))), (h5, .inr (8, [.ref h10, .int wp18976])), (h10, .inl (y 1, 3, .inr (.inl (fun _ => 0)))), (h2, .inr (8, [.ref h12, .int 0]))] sz)) 0 0 (va_A [(h0, .inr (5, [.ref h2, .ref h3, .ref h4, .ref h5, .int wp18973])), (h4, .inr (8, [.ref h7, .int wp18974])), (h7, .inl (y 1, 18, .inr (.inl wf18975))), (h5, .inr (8, [.ref h10, .int wp18976])), (h10, .inl (y 1, 3, .inr (.inl (fun _ => 0)))), (h2, .inr (8, [.ref h12, .int 0]))] sz) := by
  refine g_of (by decide) (Nat.le_of_ble_eq_true rfl) ?_
  intro p e s m below meth c ls A hx hb hr hml hown hg hlocks hin hsz hK hP hD hS hA hAe hl
  rw [← hAe]
  replace hown : s.vm.findClass RX5 = some m.cls := hown
  replace hl : lv_has ls 7 [(0, .ref h0), (1, .int 1), (2, .int p1), (3, .int 3)] := hl
  refine lv_iload_n hx hb dX5_tellSecret_0 rfl (lv_at hl 2 rfl) ?_
  refine lv_istore (lv' := [(4, .int p1), (0, .ref h0), (1, .int 1), (2, .int p1), (3, .int 3)]) hx hb dX5_tellSecret_1 hl (by decide) rfl ?_
  clear hl
  clear ls
  intro ls hl
  refine lv_iload_n hx hb dX5_tellSecret_3 rfl (lv_at hl 4 rfl) ?_
  refine lv_iconst (v := 1) hx hb dX5_tellSecret_4 (by decide) ?_
  refine lv_isub hx hb dX5_tellSecret_5 ?_
  refine g_fi (v := 2) (by decide +kernel) ?_
  refine lv_istore (lv' := [(5, .int 2), (4, .int p1), (0, .ref h0), (1, .int 1), (2, .int p1), (3, .int 3)]) hx hb dX5_tellSecret_6 hl (by decide) rfl ?_
  clear hl
  clear ls
  intro ls hl
  refine lv_iload hx hb dX5_tellSecret_8 (lv_at hl 0 rfl) ?_
  refine lv_if_lt (tgt := 46) hx hb dX5_tellSecret_10 (by decide) (fun c9 => absurd c9 (by decide +kernel)) (fun _ => ?_)
  refine lv_aload_n hx hb dX5_tellSecret_13 rfl (lv_at hl 2 rfl) ?_
  refine gm_get (D := D) (ci := 5) (v := .ref h4) (C := RX5) (T := TX5) (N := 5) hx hb hg inlX5 hown hK.1 hP 0 rfl rfl 2 (by decide) tX5_2 (hg _ gw_140) rfl dX5_tellSecret_14 ?_
  refine lv_iload_n hx hb dX5_tellSecret_17 rfl (lv_at hl 3 rfl) ?_
  refine lv_bipush (v := 6) hx hb dX5_tellSecret_18 (by decide +kernel) ?_
  refine lv_imul hx hb dX5_tellSecret_20 ?_
  refine g_fi (v := 6) (by decide +kernel) ?_
  refine lv_iload hx hb dX5_tellSecret_21 (lv_at hl 0 rfl) ?_
  refine lv_iadd hx hb dX5_tellSecret_23 ?_
  refine g_fi (v := 8) (by decide +kernel) ?_
  refine lv_iload hx hb dX5_tellSecret_24 (lv_at hl 1 rfl) ?_
  refine lv_bipush (v := 10) hx hb dX5_tellSecret_26 (by decide +kernel) ?_
  refine lv_irem hx hb dX5_tellSecret_28 (by decide +kernel) ?_
  refine lv_i2l (v := ((p1 - p1 / 10 * 10).toInt64)) hx hb dX5_tellSecret_29 rfl ?_
  refine g_av (wr := [(h0, .inr (5, [.ref h2, .ref h3, .ref h4, .ref h5, .int wp18973])), (h5, .inr (8, [.ref h10, .int wp18976])), (h10, .inl (y 1, 3, .inr (.inl (fun _ => 0)))), (h2, .inr (8, [.ref h12, .int 0]))]) (va_runV (As := [.int 8, .long ((p1 - p1 / 10 * 10).toInt64)]) (rest := []) ⟨hx, hb, hml, hown, hg⟩ (k_X8_set_34 l D y aS s.heap.size h4 ((p1 - p1 / 10 * 10).toInt64) h7 wp18974 wf18975) (cwV 2 hg ggV_RX5_29_X8_set rfl rfl rfl (by decide +kernel) ⟨Nat.le_of_ble_eq_true rfl, Nat.le_of_ble_eq_true rfl⟩) (g_preV (q := (RX8, TX8, 2)) hK hP hD [1, 2] rfl (by decide) (ci := 8) (q0 := 1) rfl rfl) rfl rfl hl.1 rfl (lv_room (Nat.le_of_ble_eq_true rfl)) dX5_tellSecret_30 ⟨Nat.le_of_ble_eq_true rfl, Nat.le_of_ble_eq_true rfl⟩) hP hD hS hA [1, 2] [0, 3, 4, 5] rfl rfl (by decide) (by decide) ?_
  clear hP hD hS
  refine fun u H locs hq hP hD hS => ?_
  replace hP : va_P D vwCl [(h0, .inr (5, [.ref h2, .ref h3, .ref h4, .ref h5, .int wp18973])), (h5, .inr (8, [.ref h10, .int wp18976])), (h10, .inl (y 1, 3, .inr (.inl (fun _ => 0)))), (h2, .inr (8, [.ref h12, .int 0])), (h4, .inr (8, [.ref h7, .int wp18974])), (h7, .inl (y 1, 18, .inr (.inl (vp_updL wf18975 ((8 : Int32).toNatClampNeg) ((p1 - p1 / 10 * 10).toInt64)))))] H := hP
  replace hD : va_D A [(h0, .inr (5, [.ref h2, .ref h3, .ref h4, .ref h5, .int wp18973])), (h5, .inr (8, [.ref h10, .int wp18976])), (h10, .inl (y 1, 3, .inr (.inl (fun _ => 0)))), (h2, .inr (8, [.ref h12, .int 0])), (h4, .inr (8, [.ref h7, .int wp18974])), (h7, .inl (y 1, 18, .inr (.inl (vp_updL wf18975 ((8 : Int32).toNatClampNeg) ((p1 - p1 / 10 * 10).toInt64)))))] := hD
  refine lv_iload hx hb dX5_tellSecret_33 (lv_at hl 1 rfl) ?_
  refine lv_bipush (v := 10) hx hb dX5_tellSecret_35 (by decide +kernel) ?_
  refine lv_idiv hx hb dX5_tellSecret_37 (by decide +kernel) ?_
  refine lv_istore (lv' := [(4, .int (p1 / 10)), (5, .int 2), (0, .ref h0), (1, .int 1), (2, .int p1), (3, .int 3)]) hx hb dX5_tellSecret_38 hl (by decide) rfl ?_
  clear hl
  clear ls
  intro ls hl
  refine lv_iinc (v := 1) (lv' := [(5, .int 1), (4, .int (p1 / 10)), (0, .ref h0), (1, .int 1), (2, .int p1), (3, .int 3)]) hx hb dX5_tellSecret_40 hl (k := 1) rfl (by decide +kernel) (by decide) rfl ?_
  clear hl
  clear ls
  intro ls hl
  refine lv_goto (tgt := 8) hx hb dX5_tellSecret_43 (by decide) ?_
  refine lv_iload hx hb dX5_tellSecret_8 (lv_at hl 0 rfl) ?_
  refine lv_if_lt (tgt := 46) hx hb dX5_tellSecret_10 (by decide) (fun c9 => absurd c9 (by decide +kernel)) (fun _ => ?_)
  refine lv_aload_n hx hb dX5_tellSecret_13 rfl (lv_at hl 2 rfl) ?_
  refine gm_get (D := D) (ci := 5) (v := .ref h4) (C := RX5) (T := TX5) (N := 5) hx hb hg inlX5 hown hK.1 hP 0 rfl rfl 2 (by decide) tX5_2 (hg _ gw_140) rfl dX5_tellSecret_14 ?_
  refine lv_iload_n hx hb dX5_tellSecret_17 rfl (lv_at hl 3 rfl) ?_
  refine lv_bipush (v := 6) hx hb dX5_tellSecret_18 (by decide +kernel) ?_
  refine lv_imul hx hb dX5_tellSecret_20 ?_
  refine g_fi (v := 6) (by decide +kernel) ?_
  refine lv_iload hx hb dX5_tellSecret_21 (lv_at hl 0 rfl) ?_
  refine lv_iadd hx hb dX5_tellSecret_23 ?_
  refine g_fi (v := 7) (by decide +kernel) ?_
  refine lv_iload hx hb dX5_tellSecret_24 (lv_at hl 1 rfl) ?_
  refine lv_bipush (v := 10) hx hb dX5_tellSecret_26 (by decide +kernel) ?_
  refine lv_irem hx hb dX5_tellSecret_28 (by decide +kernel) ?_
  refine lv_i2l (v := (((p1 / 10) - (p1 / 10) / 10 * 10).toInt64)) hx hb dX5_tellSecret_29 rfl ?_
  refine g_av (wr := [(h0, .inr (5, [.ref h2, .ref h3, .ref h4, .ref h5, .int wp18973])), (h5, .inr (8, [.ref h10, .int wp18976])), (h10, .inl (y 1, 3, .inr (.inl (fun _ => 0)))), (h2, .inr (8, [.ref h12, .int 0]))]) (va_runV (As := [.int 7, .long (((p1 / 10) - (p1 / 10) / 10 * 10).toInt64)]) (rest := []) ⟨hx, hb, hml, hown, hg⟩ (k_X8_set_29 l D y aS H.size h4 (((p1 / 10) - (p1 / 10) / 10 * 10).toInt64) h7 wp18974 (vp_updL wf18975 ((8 : Int32).toNatClampNeg) ((p1 - p1 / 10 * 10).toInt64))) (cwV 2 hg ggV_RX5_29_X8_set rfl rfl rfl (by decide +kernel) ⟨Nat.le_of_ble_eq_true rfl, Nat.le_of_ble_eq_true rfl⟩) (g_preV (q := (RX8, TX8, 2)) hK hP hD [4, 5] rfl (by decide) (ci := 8) (q0 := 4) rfl rfl) rfl rfl hl.1 rfl (lv_room (Nat.le_of_ble_eq_true rfl)) dX5_tellSecret_30 ⟨Nat.le_of_ble_eq_true rfl, Nat.le_of_ble_eq_true rfl⟩) hP hD hS hA [4, 5] [0, 1, 2, 3] rfl rfl (by decide) (by decide) ?_
  clear hP hD hS H locs
  refine fun u H locs hq hP hD hS => ?_
  replace hP : va_P D vwCl [(h0, .inr (5, [.ref h2, .ref h3, .ref h4, .ref h5, .int wp18973])), (h5, .inr (8, [.ref h10, .int wp18976])), (h10, .inl (y 1, 3, .inr (.inl (fun _ => 0)))), (h2, .inr (8, [.ref h12, .int 0])), (h4, .inr (8, [.ref h7, .int wp18974])), (h7, .inl (y 1, 18, .inr (.inl (vp_updL (vp_updL wf18975 ((8 : Int32).toNatClampNeg) ((p1 - p1 / 10 * 10).toInt64)) ((7 : Int32).toNatClampNeg) (((p1 / 10) - (p1 / 10) / 10 * 10).toInt64)))))] H := hP
  replace hD : va_D A [(h0, .inr (5, [.ref h2, .ref h3, .ref h4, .ref h5, .int wp18973])), (h5, .inr (8, [.ref h10, .int wp18976])), (h10, .inl (y 1, 3, .inr (.inl (fun _ => 0)))), (h2, .inr (8, [.ref h12, .int 0])), (h4, .inr (8, [.ref h7, .int wp18974])), (h7, .inl (y 1, 18, .inr (.inl (vp_updL (vp_updL wf18975 ((8 : Int32).toNatClampNeg) ((p1 - p1 / 10 * 10).toInt64)) ((7 : Int32).toNatClampNeg) (((p1 / 10) - (p1 / 10) / 10 * 10).toInt64)))))] := hD
  refine lv_iload hx hb dX5_tellSecret_33 (lv_at hl 1 rfl) ?_
  refine lv_bipush (v := 10) hx hb dX5_tellSecret_35 (by decide +kernel) ?_
  refine lv_idiv hx hb dX5_tellSecret_37 (by decide +kernel) ?_
  refine lv_istore (lv' := [(4, .int ((p1 / 10) / 10)), (5, .int 1), (0, .ref h0), (1, .int 1), (2, .int p1), (3, .int 3)]) hx hb dX5_tellSecret_38 hl (by decide) rfl ?_
  clear hl
  clear ls
  intro ls hl
  refine lv_iinc (v := 0) (lv' := [(5, .int 0), (4, .int ((p1 / 10) / 10)), (0, .ref h0), (1, .int 1), (2, .int p1), (3, .int 3)]) hx hb dX5_tellSecret_40 hl (k := 1) rfl (by decide +kernel) (by decide) rfl ?_
  clear hl
  clear ls
  intro ls hl
  refine lv_goto (tgt := 8) hx hb dX5_tellSecret_43 (by decide) ?_
  refine lv_iload hx hb dX5_tellSecret_8 (lv_at hl 0 rfl) ?_
  refine lv_if_lt (tgt := 46) hx hb dX5_tellSecret_10 (by decide) (fun c9 => absurd c9 (by decide +kernel)) (fun _ => ?_)
  refine lv_aload_n hx hb dX5_tellSecret_13 rfl (lv_at hl 2 rfl) ?_
  refine gm_get (D := D) (ci := 5) (v := .ref h4) (C := RX5) (T := TX5) (N := 5) hx hb hg inlX5 hown hK.1 hP 0 rfl rfl 2 (by decide) tX5_2 (hg _ gw_140) rfl dX5_tellSecret_14 ?_
  refine lv_iload_n hx hb dX5_tellSecret_17 rfl (lv_at hl 3 rfl) ?_
  refine lv_bipush (v := 6) hx hb dX5_tellSecret_18 (by decide +kernel) ?_
  refine lv_imul hx hb dX5_tellSecret_20 ?_
  refine g_fi (v := 6) (by decide +kernel) ?_
  refine lv_iload hx hb dX5_tellSecret_21 (lv_at hl 0 rfl) ?_
  refine lv_iadd hx hb dX5_tellSecret_23 ?_
  refine g_fi (v := 6) (by decide +kernel) ?_
  refine lv_iload hx hb dX5_tellSecret_24 (lv_at hl 1 rfl) ?_
  refine lv_bipush (v := 10) hx hb dX5_tellSecret_26 (by decide +kernel) ?_
  refine lv_irem hx hb dX5_tellSecret_28 (by decide +kernel) ?_
  refine lv_i2l (v := ((((p1 / 10) / 10) - ((p1 / 10) / 10) / 10 * 10).toInt64)) hx hb dX5_tellSecret_29 rfl ?_
  refine g_av (wr := [(h0, .inr (5, [.ref h2, .ref h3, .ref h4, .ref h5, .int wp18973])), (h5, .inr (8, [.ref h10, .int wp18976])), (h10, .inl (y 1, 3, .inr (.inl (fun _ => 0)))), (h2, .inr (8, [.ref h12, .int 0]))]) (va_runV (As := [.int 6, .long ((((p1 / 10) / 10) - ((p1 / 10) / 10) / 10 * 10).toInt64)]) (rest := []) ⟨hx, hb, hml, hown, hg⟩ (k_X8_set_30 l D y aS H.size h4 ((((p1 / 10) / 10) - ((p1 / 10) / 10) / 10 * 10).toInt64) h7 wp18974 (vp_updL (vp_updL wf18975 ((8 : Int32).toNatClampNeg) ((p1 - p1 / 10 * 10).toInt64)) ((7 : Int32).toNatClampNeg) (((p1 / 10) - (p1 / 10) / 10 * 10).toInt64))) (cwV 2 hg ggV_RX5_29_X8_set rfl rfl rfl (by decide +kernel) ⟨Nat.le_of_ble_eq_true rfl, Nat.le_of_ble_eq_true rfl⟩) (g_preV (q := (RX8, TX8, 2)) hK hP hD [4, 5] rfl (by decide) (ci := 8) (q0 := 4) rfl rfl) rfl rfl hl.1 rfl (lv_room (Nat.le_of_ble_eq_true rfl)) dX5_tellSecret_30 ⟨Nat.le_of_ble_eq_true rfl, Nat.le_of_ble_eq_true rfl⟩) hP hD hS hA [4, 5] [0, 1, 2, 3] rfl rfl (by decide) (by decide) ?_
  clear hP hD hS H locs
  refine fun u H locs hq hP hD hS => ?_
  replace hP : va_P D vwCl [(h0, .inr (5, [.ref h2, .ref h3, .ref h4, .ref h5, .int wp18973])), (h5, .inr (8, [.ref h10, .int wp18976])), (h10, .inl (y 1, 3, .inr (.inl (fun _ => 0)))), (h2, .inr (8, [.ref h12, .int 0])), (h4, .inr (8, [.ref h7, .int wp18974])), (h7, .inl (y 1, 18, .inr (.inl (vp_updL (vp_updL (vp_updL wf18975 ((8 : Int32).toNatClampNeg) ((p1 - p1 / 10 * 10).toInt64)) ((7 : Int32).toNatClampNeg) (((p1 / 10) - (p1 / 10) / 10 * 10).toInt64)) ((6 : Int32).toNatClampNeg) ((((p1 / 10) / 10) - ((p1 / 10) / 10) / 10 * 10).toInt64)))))] H := hP
  replace hD : va_D A [(h0, .inr (5, [.ref h2, .ref h3, .ref h4, .ref h5, .int wp18973])), (h5, .inr (8, [.ref h10, .int wp18976])), (h10, .inl (y 1, 3, .inr (.inl (fun _ => 0)))), (h2, .inr (8, [.ref h12, .int 0])), (h4, .inr (8, [.ref h7, .int wp18974])), (h7, .inl (y 1, 18, .inr (.inl (vp_updL (vp_updL (vp_updL wf18975 ((8 : Int32).toNatClampNeg) ((p1 - p1 / 10 * 10).toInt64)) ((7 : Int32).toNatClampNeg) (((p1 / 10) - (p1 / 10) / 10 * 10).toInt64)) ((6 : Int32).toNatClampNeg) ((((p1 / 10) / 10) - ((p1 / 10) / 10) / 10 * 10).toInt64)))))] := hD
  refine lv_iload hx hb dX5_tellSecret_33 (lv_at hl 1 rfl) ?_
  refine lv_bipush (v := 10) hx hb dX5_tellSecret_35 (by decide +kernel) ?_
  refine lv_idiv hx hb dX5_tellSecret_37 (by decide +kernel) ?_
  refine lv_istore (lv' := [(4, .int (((p1 / 10) / 10) / 10)), (5, .int 0), (0, .ref h0), (1, .int 1), (2, .int p1), (3, .int 3)]) hx hb dX5_tellSecret_38 hl (by decide) rfl ?_
  clear hl
  clear ls
  intro ls hl
  refine lv_iinc (v := (-1)) (lv' := [(5, .int (-1)), (4, .int (((p1 / 10) / 10) / 10)), (0, .ref h0), (1, .int 1), (2, .int p1), (3, .int 3)]) hx hb dX5_tellSecret_40 hl (k := 1) rfl (by decide +kernel) (by decide) rfl ?_
  clear hl
  clear ls
  intro ls hl
  refine lv_goto (tgt := 8) hx hb dX5_tellSecret_43 (by decide) ?_
  refine lv_iload hx hb dX5_tellSecret_8 (lv_at hl 0 rfl) ?_
  refine lv_if_lt (tgt := 46) hx hb dX5_tellSecret_10 (by decide) (fun _ => ?_) (fun c9 => absurd c9 (by decide +kernel))
  refine lv_aload_n hx hb dX5_tellSecret_46 rfl (lv_at hl 2 rfl) ?_
  refine gm_get (D := D) (ci := 5) (v := .ref h5) (C := RX5) (T := TX5) (N := 5) hx hb hg inlX5 hown hK.1 hP 0 rfl rfl 3 (by decide) tX5_3 (hg _ gw_141) rfl dX5_tellSecret_47 ?_
  refine lv_iload_n hx hb dX5_tellSecret_50 rfl (lv_at hl 3 rfl) ?_
  refine lv_iload_n hx hb dX5_tellSecret_51 rfl (lv_at hl 5 rfl) ?_
  refine lv_i2l (v := 3) hx hb dX5_tellSecret_52 (by decide +kernel) ?_
  refine g_av (wr := [(h0, .inr (5, [.ref h2, .ref h3, .ref h4, .ref h5, .int wp18973])), (h2, .inr (8, [.ref h12, .int 0])), (h4, .inr (8, [.ref h7, .int wp18974])), (h7, .inl (y 1, 18, .inr (.inl (vp_updL (vp_updL (vp_updL wf18975 ((8 : Int32).toNatClampNeg) ((p1 - p1 / 10 * 10).toInt64)) ((7 : Int32).toNatClampNeg) (((p1 / 10) - (p1 / 10) / 10 * 10).toInt64)) ((6 : Int32).toNatClampNeg) ((((p1 / 10) / 10) - ((p1 / 10) / 10) / 10 * 10).toInt64)))))]) (va_runV (As := [.int 1, .long 3]) (rest := []) ⟨hx, hb, hml, hown, hg⟩ (k_X8_set_25 l D y aS H.size h5 3 h10 wp18976 (fun _ => 0)) (cwV 2 hg ggV_RX5_29_X8_set rfl rfl rfl (by decide +kernel) ⟨Nat.le_of_ble_eq_true rfl, Nat.le_of_ble_eq_true rfl⟩) (g_preV (q := (RX8, TX8, 2)) hK hP hD [1, 2] rfl (by decide) (ci := 8) (q0 := 1) rfl rfl) rfl rfl hl.1 rfl (lv_room (Nat.le_of_ble_eq_true rfl)) dX5_tellSecret_53 ⟨Nat.le_of_ble_eq_true rfl, Nat.le_of_ble_eq_true rfl⟩) hP hD hS hA [1, 2] [0, 3, 4, 5] rfl rfl (by decide) (by decide) ?_
  clear hP hD hS H locs
  refine fun u H locs hq hP hD hS => ?_
  replace hP : va_P D vwCl [(h0, .inr (5, [.ref h2, .ref h3, .ref h4, .ref h5, .int wp18973])), (h2, .inr (8, [.ref h12, .int 0])), (h4, .inr (8, [.ref h7, .int wp18974])), (h7, .inl (y 1, 18, .inr (.inl (vp_updL (vp_updL (vp_updL wf18975 ((8 : Int32).toNatClampNeg) ((p1 - p1 / 10 * 10).toInt64)) ((7 : Int32).toNatClampNeg) (((p1 / 10) - (p1 / 10) / 10 * 10).toInt64)) ((6 : Int32).toNatClampNeg) ((((p1 / 10) / 10) - ((p1 / 10) / 10) / 10 * 10).toInt64))))), (h5, .inr (8, [.ref h10, .int wp18976])), (h10, .inl (y 1, 3, .inr (.inl (vp_updL (fun _ => 0) ((1 : Int32).toNatClampNeg) 3))))] H := hP
  replace hD : va_D A [(h0, .inr (5, [.ref h2, .ref h3, .ref h4, .ref h5, .int wp18973])), (h2, .inr (8, [.ref h12, .int 0])), (h4, .inr (8, [.ref h7, .int wp18974])), (h7, .inl (y 1, 18, .inr (.inl (vp_updL (vp_updL (vp_updL wf18975 ((8 : Int32).toNatClampNeg) ((p1 - p1 / 10 * 10).toInt64)) ((7 : Int32).toNatClampNeg) (((p1 / 10) - (p1 / 10) / 10 * 10).toInt64)) ((6 : Int32).toNatClampNeg) ((((p1 / 10) / 10) - ((p1 / 10) / 10) / 10 * 10).toInt64))))), (h5, .inr (8, [.ref h10, .int wp18976])), (h10, .inl (y 1, 3, .inr (.inl (vp_updL (fun _ => 0) ((1 : Int32).toNatClampNeg) 3))))] := hD
  refine lv_aload_n hx hb dX5_tellSecret_56 rfl (lv_at hl 2 rfl) ?_
  refine g_av (wr := [(h4, .inr (8, [.ref h7, .int wp18974])), (h7, .inl (y 1, 18, .inr (.inl (vp_updL (vp_updL (vp_updL wf18975 ((8 : Int32).toNatClampNeg) ((p1 - p1 / 10 * 10).toInt64)) ((7 : Int32).toNatClampNeg) (((p1 / 10) - (p1 / 10) / 10 * 10).toInt64)) ((6 : Int32).toNatClampNeg) ((((p1 / 10) / 10) - ((p1 / 10) / 10) / 10 * 10).toInt64))))), (h5, .inr (8, [.ref h10, .int wp18976])), (h10, .inl (y 1, 3, .inr (.inl (vp_updL (fun _ => 0) ((1 : Int32).toNatClampNeg) 3))))]) (va_runV (As := []) (rest := []) ⟨hx, hb, hml, hown, hg⟩ (k_X5_findOut_0 l D y aS H.size h0 h2 h3 h4 h5 wp18973 h12) (cwV 0 hg ggV_RX5_33_X5_findOut rfl rfl rfl (by decide +kernel) ⟨Nat.le_of_ble_eq_true rfl, Nat.le_of_ble_eq_true rfl⟩) (g_preV (q := (RX5, TX5, 5)) hK hP hD [0, 1] rfl (by decide) (ci := 5) (q0 := 0) rfl rfl) rfl rfl hl.1 rfl (lv_room (Nat.le_of_ble_eq_true rfl)) dX5_tellSecret_57 ⟨Nat.le_of_ble_eq_true rfl, Nat.le_of_ble_eq_true rfl⟩) hP hD hS hA [0, 1] [2, 3, 4, 5] rfl rfl (by decide) (by decide) ?_
  clear hP hD hS H locs
  refine fun u H locs hq hP hD hS => ?_
  replace hP : va_P D vwCl [(h4, .inr (8, [.ref h7, .int wp18974])), (h7, .inl (y 1, 18, .inr (.inl (vp_updL (vp_updL (vp_updL wf18975 ((8 : Int32).toNatClampNeg) ((p1 - p1 / 10 * 10).toInt64)) ((7 : Int32).toNatClampNeg) (((p1 / 10) - (p1 / 10) / 10 * 10).toInt64)) ((6 : Int32).toNatClampNeg) ((((p1 / 10) / 10) - ((p1 / 10) / 10) / 10 * 10).toInt64))))), (h5, .inr (8, [.ref h10, .int wp18976])), (h10, .inl (y 1, 3, .inr (.inl (vp_updL (fun _ => 0) ((1 : Int32).toNatClampNeg) 3)))), (h0, .inr (5, [.ref h2, .ref h3, .ref h4, .ref h5, .int 0])), (h2, .inr (8, [.ref h12, .int 0]))] H := hP
  replace hD : va_D A [(h4, .inr (8, [.ref h7, .int wp18974])), (h7, .inl (y 1, 18, .inr (.inl (vp_updL (vp_updL (vp_updL wf18975 ((8 : Int32).toNatClampNeg) ((p1 - p1 / 10 * 10).toInt64)) ((7 : Int32).toNatClampNeg) (((p1 / 10) - (p1 / 10) / 10 * 10).toInt64)) ((6 : Int32).toNatClampNeg) ((((p1 / 10) / 10) - ((p1 / 10) / 10) / 10 * 10).toInt64))))), (h5, .inr (8, [.ref h10, .int wp18976])), (h10, .inl (y 1, 3, .inr (.inl (vp_updL (fun _ => 0) ((1 : Int32).toNatClampNeg) 3)))), (h0, .inr (5, [.ref h2, .ref h3, .ref h4, .ref h5, .int 0])), (h2, .inr (8, [.ref h12, .int 0]))] := hD
  refine lv_iconst (v := 0) hx hb dX5_tellSecret_60 (by decide) ?_
  refine lv_istore (lv' := [(5, .int 0), (4, .int (((p1 / 10) / 10) / 10)), (0, .ref h0), (1, .int 1), (2, .int p1), (3, .int 3)]) hx hb dX5_tellSecret_61 hl (by decide) rfl ?_
  clear hl
  clear ls
  intro ls hl
  refine lv_iconst (v := 0) hx hb dX5_tellSecret_63 (by decide) ?_
  refine lv_istore (lv' := [(6, .int 0), (5, .int 0), (4, .int (((p1 / 10) / 10) / 10)), (0, .ref h0), (1, .int 1), (2, .int p1), (3, .int 3)]) hx hb dX5_tellSecret_64 hl (by decide) rfl ?_
  clear hl
  clear ls
  intro ls hl
  refine lv_iload hx hb dX5_tellSecret_66 (lv_at hl 0 rfl) ?_
  refine lv_iconst (v := 3) hx hb dX5_tellSecret_68 (by decide) ?_
  refine lv_icmp_ge (tgt := 95) hx hb dX5_tellSecret_69 (by decide) (fun c9 => absurd c9 (by decide +kernel)) (fun _ => ?_)
  refine lv_aload_n hx hb dX5_tellSecret_72 rfl (lv_at hl 3 rfl) ?_
  refine gm_get (D := D) (ci := 5) (v := .ref h5) (C := RX5) (T := TX5) (N := 5) hx hb hg inlX5 hown hK.1 hP 4 rfl rfl 3 (by decide) tX5_3 (hg _ gw_141) rfl dX5_tellSecret_73 ?_
  refine lv_iload hx hb dX5_tellSecret_76 (lv_at hl 0 rfl) ?_
  refine g_al (wr := [(h4, .inr (8, [.ref h7, .int wp18974])), (h7, .inl (y 1, 18, .inr (.inl (vp_updL (vp_updL (vp_updL wf18975 ((8 : Int32).toNatClampNeg) ((p1 - p1 / 10 * 10).toInt64)) ((7 : Int32).toNatClampNeg) (((p1 / 10) - (p1 / 10) / 10 * 10).toInt64)) ((6 : Int32).toNatClampNeg) ((((p1 / 10) / 10) - ((p1 / 10) / 10) / 10 * 10).toInt64))))), (h0, .inr (5, [.ref h2, .ref h3, .ref h4, .ref h5, .int 0])), (h2, .inr (8, [.ref h12, .int 0]))]) (va_runV (As := [.int 0]) (rest := []) ⟨hx, hb, hml, hown, hg⟩ (k_X8_get_14 l D y aS H.size h5 h10 wp18976) (cwV 1 hg ggV_RX5_36_X8_get rfl rfl rfl (by decide +kernel) ⟨Nat.le_of_ble_eq_true rfl, Nat.le_of_ble_eq_true rfl⟩) (g_preV (q := (RX8, TX8, 2)) hK hP hD [2, 3] rfl (by decide) (ci := 8) (q0 := 2) rfl rfl) rfl rfl hl.1 rfl (lv_room (Nat.le_of_ble_eq_true rfl)) dX5_tellSecret_78 ⟨Nat.le_of_ble_eq_true rfl, Nat.le_of_ble_eq_true rfl⟩) hP hD hS hA [2, 3] [0, 1, 4, 5] rfl rfl (by decide) (by decide) ?_
  clear hP hD hS H locs
  refine fun r18982 u H locs hq hP hD hS => ?_
  subst hq
  replace hP : va_P D vwCl [(h4, .inr (8, [.ref h7, .int wp18974])), (h7, .inl (y 1, 18, .inr (.inl (vp_updL (vp_updL (vp_updL wf18975 ((8 : Int32).toNatClampNeg) ((p1 - p1 / 10 * 10).toInt64)) ((7 : Int32).toNatClampNeg) (((p1 / 10) - (p1 / 10) / 10 * 10).toInt64)) ((6 : Int32).toNatClampNeg) ((((p1 / 10) / 10) - ((p1 / 10) / 10) / 10 * 10).toInt64))))), (h0, .inr (5, [.ref h2, .ref h3, .ref h4, .ref h5, .int 0])), (h2, .inr (8, [.ref h12, .int 0])), (h5, .inr (8, [.ref h10, .int wp18976])), (h10, .inl (y 1, 3, .inr (.inl (vp_updL (fun _ => 0) ((1 : Int32).toNatClampNeg) 3))))] H := hP
  replace hD : va_D A [(h4, .inr (8, [.ref h7, .int wp18974])), (h7, .inl (y 1, 18, .inr (.inl (vp_updL (vp_updL (vp_updL wf18975 ((8 : Int32).toNatClampNeg) ((p1 - p1 / 10 * 10).toInt64)) ((7 : Int32).toNatClampNeg) (((p1 / 10) - (p1 / 10) / 10 * 10).toInt64)) ((6 : Int32).toNatClampNeg) ((((p1 / 10) / 10) - ((p1 / 10) / 10) / 10 * 10).toInt64))))), (h0, .inr (5, [.ref h2, .ref h3, .ref h4, .ref h5, .int 0])), (h2, .inr (8, [.ref h12, .int 0])), (h5, .inr (8, [.ref h10, .int wp18976])), (h10, .inl (y 1, 3, .inr (.inl (vp_updL (fun _ => 0) ((1 : Int32).toNatClampNeg) 3))))] := hD
  refine lv_lconst (v := 0) hx hb dX5_tellSecret_81 (by decide) ?_
  refine W.lcmp hx hb dX5_tellSecret_82 ?_
  refine g_fi (v := 0) (by decide +kernel) ?_
  refine lv_if_le (tgt := 89) hx hb dX5_tellSecret_83 (by decide) (fun _ => ?_) (fun c9 => absurd c9 (by decide +kernel))
  refine lv_iinc (v := 1) (lv' := [(6, .int 1), (5, .int 0), (4, .int (((p1 / 10) / 10) / 10)), (0, .ref h0), (1, .int 1), (2, .int p1), (3, .int 3)]) hx hb dX5_tellSecret_89 hl (k := 0) rfl (by decide +kernel) (by decide) rfl ?_
  clear hl
  clear ls
  intro ls hl
  refine lv_goto (tgt := 66) hx hb dX5_tellSecret_92 (by decide) ?_
  refine lv_iload hx hb dX5_tellSecret_66 (lv_at hl 0 rfl) ?_
  refine lv_iconst (v := 3) hx hb dX5_tellSecret_68 (by decide) ?_
  refine lv_icmp_ge (tgt := 95) hx hb dX5_tellSecret_69 (by decide) (fun c9 => absurd c9 (by decide +kernel)) (fun _ => ?_)
  refine lv_aload_n hx hb dX5_tellSecret_72 rfl (lv_at hl 3 rfl) ?_
  refine gm_get (D := D) (ci := 5) (v := .ref h5) (C := RX5) (T := TX5) (N := 5) hx hb hg inlX5 hown hK.1 hP 2 rfl rfl 3 (by decide) tX5_3 (hg _ gw_141) rfl dX5_tellSecret_73 ?_
  refine lv_iload hx hb dX5_tellSecret_76 (lv_at hl 0 rfl) ?_
  refine g_al (wr := [(h4, .inr (8, [.ref h7, .int wp18974])), (h7, .inl (y 1, 18, .inr (.inl (vp_updL (vp_updL (vp_updL wf18975 ((8 : Int32).toNatClampNeg) ((p1 - p1 / 10 * 10).toInt64)) ((7 : Int32).toNatClampNeg) (((p1 / 10) - (p1 / 10) / 10 * 10).toInt64)) ((6 : Int32).toNatClampNeg) ((((p1 / 10) / 10) - ((p1 / 10) / 10) / 10 * 10).toInt64))))), (h0, .inr (5, [.ref h2, .ref h3, .ref h4, .ref h5, .int 0])), (h2, .inr (8, [.ref h12, .int 0]))]) (va_runV (As := [.int 1]) (rest := []) ⟨hx, hb, hml, hown, hg⟩ (k_X8_get_15 l D y aS H.size h5 h10 wp18976) (cwV 1 hg ggV_RX5_36_X8_get rfl rfl rfl (by decide +kernel) ⟨Nat.le_of_ble_eq_true rfl, Nat.le_of_ble_eq_true rfl⟩) (g_preV (q := (RX8, TX8, 2)) hK hP hD [4, 5] rfl (by decide) (ci := 8) (q0 := 4) rfl rfl) rfl rfl hl.1 rfl (lv_room (Nat.le_of_ble_eq_true rfl)) dX5_tellSecret_78 ⟨Nat.le_of_ble_eq_true rfl, Nat.le_of_ble_eq_true rfl⟩) hP hD hS hA [4, 5] [0, 1, 2, 3] rfl rfl (by decide) (by decide) ?_
  clear hP hD hS H locs
  refine fun r18983 u H locs hq hP hD hS => ?_
  subst hq
  replace hP : va_P D vwCl [(h4, .inr (8, [.ref h7, .int wp18974])), (h7, .inl (y 1, 18, .inr (.inl (vp_updL (vp_updL (vp_updL wf18975 ((8 : Int32).toNatClampNeg) ((p1 - p1 / 10 * 10).toInt64)) ((7 : Int32).toNatClampNeg) (((p1 / 10) - (p1 / 10) / 10 * 10).toInt64)) ((6 : Int32).toNatClampNeg) ((((p1 / 10) / 10) - ((p1 / 10) / 10) / 10 * 10).toInt64))))), (h0, .inr (5, [.ref h2, .ref h3, .ref h4, .ref h5, .int 0])), (h2, .inr (8, [.ref h12, .int 0])), (h5, .inr (8, [.ref h10, .int wp18976])), (h10, .inl (y 1, 3, .inr (.inl (vp_updL (fun _ => 0) ((1 : Int32).toNatClampNeg) 3))))] H := hP
  replace hD : va_D A [(h4, .inr (8, [.ref h7, .int wp18974])), (h7, .inl (y 1, 18, .inr (.inl (vp_updL (vp_updL (vp_updL wf18975 ((8 : Int32).toNatClampNeg) ((p1 - p1 / 10 * 10).toInt64)) ((7 : Int32).toNatClampNeg) (((p1 / 10) - (p1 / 10) / 10 * 10).toInt64)) ((6 : Int32).toNatClampNeg) ((((p1 / 10) / 10) - ((p1 / 10) / 10) / 10 * 10).toInt64))))), (h0, .inr (5, [.ref h2, .ref h3, .ref h4, .ref h5, .int 0])), (h2, .inr (8, [.ref h12, .int 0])), (h5, .inr (8, [.ref h10, .int wp18976])), (h10, .inl (y 1, 3, .inr (.inl (vp_updL (fun _ => 0) ((1 : Int32).toNatClampNeg) 3))))] := hD
  refine lv_lconst (v := 0) hx hb dX5_tellSecret_81 (by decide) ?_
  refine W.lcmp hx hb dX5_tellSecret_82 ?_
  refine g_fi (v := 1) (by decide +kernel) ?_
  refine lv_if_le (tgt := 89) hx hb dX5_tellSecret_83 (by decide) (fun c9 => absurd c9 (by decide +kernel)) (fun _ => ?_)
  refine lv_iinc (v := 1) (lv' := [(5, .int 1), (6, .int 1), (4, .int (((p1 / 10) / 10) / 10)), (0, .ref h0), (1, .int 1), (2, .int p1), (3, .int 3)]) hx hb dX5_tellSecret_86 hl (k := 1) rfl (by decide +kernel) (by decide) rfl ?_
  clear hl
  clear ls
  intro ls hl
  refine lv_iinc (v := 2) (lv' := [(6, .int 2), (5, .int 1), (4, .int (((p1 / 10) / 10) / 10)), (0, .ref h0), (1, .int 1), (2, .int p1), (3, .int 3)]) hx hb dX5_tellSecret_89 hl (k := 1) rfl (by decide +kernel) (by decide) rfl ?_
  clear hl
  clear ls
  intro ls hl
  refine lv_goto (tgt := 66) hx hb dX5_tellSecret_92 (by decide) ?_
  refine lv_iload hx hb dX5_tellSecret_66 (lv_at hl 0 rfl) ?_
  refine lv_iconst (v := 3) hx hb dX5_tellSecret_68 (by decide) ?_
  refine lv_icmp_ge (tgt := 95) hx hb dX5_tellSecret_69 (by decide) (fun c9 => absurd c9 (by decide +kernel)) (fun _ => ?_)
  refine lv_aload_n hx hb dX5_tellSecret_72 rfl (lv_at hl 3 rfl) ?_
  refine gm_get (D := D) (ci := 5) (v := .ref h5) (C := RX5) (T := TX5) (N := 5) hx hb hg inlX5 hown hK.1 hP 2 rfl rfl 3 (by decide) tX5_3 (hg _ gw_141) rfl dX5_tellSecret_73 ?_
  refine lv_iload hx hb dX5_tellSecret_76 (lv_at hl 0 rfl) ?_
  refine g_al (wr := [(h4, .inr (8, [.ref h7, .int wp18974])), (h7, .inl (y 1, 18, .inr (.inl (vp_updL (vp_updL (vp_updL wf18975 ((8 : Int32).toNatClampNeg) ((p1 - p1 / 10 * 10).toInt64)) ((7 : Int32).toNatClampNeg) (((p1 / 10) - (p1 / 10) / 10 * 10).toInt64)) ((6 : Int32).toNatClampNeg) ((((p1 / 10) / 10) - ((p1 / 10) / 10) / 10 * 10).toInt64))))), (h0, .inr (5, [.ref h2, .ref h3, .ref h4, .ref h5, .int 0])), (h2, .inr (8, [.ref h12, .int 0]))]) (va_runV (As := [.int 2]) (rest := []) ⟨hx, hb, hml, hown, hg⟩ (k_X8_get_16 l D y aS H.size h5 h10 wp18976) (cwV 1 hg ggV_RX5_36_X8_get rfl rfl rfl (by decide +kernel) ⟨Nat.le_of_ble_eq_true rfl, Nat.le_of_ble_eq_true rfl⟩) (g_preV (q := (RX8, TX8, 2)) hK hP hD [4, 5] rfl (by decide) (ci := 8) (q0 := 4) rfl rfl) rfl rfl hl.1 rfl (lv_room (Nat.le_of_ble_eq_true rfl)) dX5_tellSecret_78 ⟨Nat.le_of_ble_eq_true rfl, Nat.le_of_ble_eq_true rfl⟩) hP hD hS hA [4, 5] [0, 1, 2, 3] rfl rfl (by decide) (by decide) ?_
  clear hP hD hS H locs
  refine fun r18984 u H locs hq hP hD hS => ?_
  subst hq
  replace hP : va_P D vwCl [(h4, .inr (8, [.ref h7, .int wp18974])), (h7, .inl (y 1, 18, .inr (.inl (vp_updL (vp_updL (vp_updL wf18975 ((8 : Int32).toNatClampNeg) ((p1 - p1 / 10 * 10).toInt64)) ((7 : Int32).toNatClampNeg) (((p1 / 10) - (p1 / 10) / 10 * 10).toInt64)) ((6 : Int32).toNatClampNeg) ((((p1 / 10) / 10) - ((p1 / 10) / 10) / 10 * 10).toInt64))))), (h0, .inr (5, [.ref h2, .ref h3, .ref h4, .ref h5, .int 0])), (h2, .inr (8, [.ref h12, .int 0])), (h5, .inr (8, [.ref h10, .int wp18976])), (h10, .inl (y 1, 3, .inr (.inl (vp_updL (fun _ => 0) ((1 : Int32).toNatClampNeg) 3))))] H := hP
  replace hD : va_D A [(h4, .inr (8, [.ref h7, .int wp18974])), (h7, .inl (y 1, 18, .inr (.inl (vp_updL (vp_updL (vp_updL wf18975 ((8 : Int32).toNatClampNeg) ((p1 - p1 / 10 * 10).toInt64)) ((7 : Int32).toNatClampNeg) (((p1 / 10) - (p1 / 10) / 10 * 10).toInt64)) ((6 : Int32).toNatClampNeg) ((((p1 / 10) / 10) - ((p1 / 10) / 10) / 10 * 10).toInt64))))), (h0, .inr (5, [.ref h2, .ref h3, .ref h4, .ref h5, .int 0])), (h2, .inr (8, [.ref h12, .int 0])), (h5, .inr (8, [.ref h10, .int wp18976])), (h10, .inl (y 1, 3, .inr (.inl (vp_updL (fun _ => 0) ((1 : Int32).toNatClampNeg) 3))))] := hD
  refine lv_lconst (v := 0) hx hb dX5_tellSecret_81 (by decide) ?_
  refine W.lcmp hx hb dX5_tellSecret_82 ?_
  refine g_fi (v := 0) (by decide +kernel) ?_
  refine lv_if_le (tgt := 89) hx hb dX5_tellSecret_83 (by decide) (fun _ => ?_) (fun c9 => absurd c9 (by decide +kernel))
  refine lv_iinc (v := 3) (lv' := [(6, .int 3), (5, .int 1), (4, .int (((p1 / 10) / 10) / 10)), (0, .ref h0), (1, .int 1), (2, .int p1), (3, .int 3)]) hx hb dX5_tellSecret_89 hl (k := 0) rfl (by decide +kernel) (by decide) rfl ?_
  clear hl
  clear ls
  intro ls hl
  refine lv_goto (tgt := 66) hx hb dX5_tellSecret_92 (by decide) ?_
  refine lv_iload hx hb dX5_tellSecret_66 (lv_at hl 0 rfl) ?_
  refine lv_iconst (v := 3) hx hb dX5_tellSecret_68 (by decide) ?_
  refine lv_icmp_ge (tgt := 95) hx hb dX5_tellSecret_69 (by decide) (fun _ => ?_) (fun c9 => absurd c9 (by decide +kernel))
  refine lv_iload hx hb dX5_tellSecret_95 (lv_at hl 1 rfl) ?_
  exact g_iret hx hb hr hlocks () (hP.sub [2, 0, 1, 4, 5, 3] rfl) (hD.sub [2, 0, 1, 4, 5, 3] (by decide +kernel) rfl) hS rfl rfl (Nat.le_of_ble_eq_true rfl) (Nat.le_of_ble_eq_true rfl) dX5_tellSecret_97
set_option maxRecDepth 100000 in
set_option maxHeartbeats 4000000 in
theorem k_X8_set_35 (l : Launch) (D : va_G) (y : Nat → ClassId) (aS : Nat → Nat) (sz : Nat) (h0 : Nat) (p1 : Int64) (h2 : Nat) (wp18987 : Int32) (wf18988 : Nat → Int64) : Met l yX8_set (Cond.code yX8_set cX8_set 4 none :: wsL_law) ({ frames := 0, cells := 0, slots := 0, locals := 0 } : Room) (va_Pc [.ref h0, .int 14, .long p1] (gI D y aS [(h0, .inr (8, [.ref h2, .int wp18987])), (h2, .inl (y 1, 18, .inr (.inl wf18988)))] sz)) (va_Qv (fun (u : Unit) => True) (fun u => gO D (va_A [(h0, .inr (8, [.ref h2, .int wp18987])), (h2, .inl (y 1, 18, .inr (.inl wf18988)))] sz) [(h0, .inr (8, [.ref h2, .int wp18987])), (h2, .inl (y 1, 18, .inr (.inl (vp_updL wf18988 ((14 : Int32).toNatClampNeg) p1))))]) (va_A [(h0, .inr (8, [.ref h2, .int wp18987])), (h2, .inl (y 1, 18, .inr (.inl wf18988)))] sz)) 0 0 (va_A [(h0, .inr (8, [.ref h2, .int wp18987])), (h2, .inl (y 1, 18, .inr (.inl wf18988)))] sz) := by
  refine g_of (by decide) (Nat.le_of_ble_eq_true rfl) ?_
  intro p e s m below meth c ls A hx hb hr hml hown hg hlocks hin hsz hK hP hD hS hA hAe hl
  rw [← hAe]
  replace hown : s.vm.findClass RX8 = some m.cls := hown
  replace hl : lv_has ls 4 [(0, .ref h0), (1, .int 14), (2, .long p1)] := hl
  refine lv_iload_n hx hb dX8_set_0 rfl (lv_at hl 1 rfl) ?_
  refine lv_if_lt (tgt := 20) hx hb dX8_set_1 (by decide) (fun c9 => absurd c9 (by decide +kernel)) (fun _ => ?_)
  refine lv_iload_n hx hb dX8_set_4 rfl (lv_at hl 1 rfl) ?_
  refine lv_aload_n hx hb dX8_set_5 rfl (lv_at hl 0 rfl) ?_
  refine gm_get (D := D) (ci := 8) (v := .ref h2) (C := RX8) (T := TX8) (N := 2) hx hb hg inlX8 hown hK.1 hP 0 rfl rfl 0 (by decide) tX8_0 (hg _ gw_98) rfl dX8_set_6 ?_
  refine va_alen hx hb hK.1 hP 1 1 rfl rfl (v := 18) rfl dX8_set_9 ?_
  refine lv_icmp_ge (tgt := 20) hx hb dX8_set_10 (by decide) (fun c9 => absurd c9 (by decide +kernel)) (fun _ => ?_)
  refine lv_aload_n hx hb dX8_set_13 rfl (lv_at hl 0 rfl) ?_
  refine gm_get (D := D) (ci := 8) (v := .ref h2) (C := RX8) (T := TX8) (N := 2) hx hb hg inlX8 hown hK.1 hP 0 rfl rfl 0 (by decide) tX8_0 (hg _ gw_98) rfl dX8_set_14 ?_
  refine lv_iload_n hx hb dX8_set_17 rfl (lv_at hl 1 rfl) ?_
  refine lv_lload_n hx hb dX8_set_18 rfl (lv_at hl 2 rfl) ?_
  refine va_last hx hb hK.1 hP hD hS 1 1 rfl rfl (by unfold vp_in; decide +kernel) dX8_set_19 ?_
  clear hP hD hS
  refine fun H locs (hP : va_P D vwCl [(h0, .inr (8, [.ref h2, .int wp18987])), (h2, .inl (y 1, 18, .inr (.inl (vp_updL wf18988 ((14 : Int32).toNatClampNeg) p1))))] H) (hD : va_D A [(h0, .inr (8, [.ref h2, .int wp18987])), (h2, .inl (y 1, 18, .inr (.inl (vp_updL wf18988 ((14 : Int32).toNatClampNeg) p1))))]) hS => ?_
  exact g_vret hx hb hr hlocks () hP hD hS trivial (Nat.le_of_ble_eq_true rfl) (Nat.le_of_ble_eq_true rfl) dX8_set_20
set_option maxRecDepth 100000 in
set_option maxHeartbeats 4000000 in
theorem k_X8_get_17 (l : Launch) (D : va_G) (y : Nat → ClassId) (aS : Nat → Nat) (sz : Nat) (h0 : Nat) (h1 : Nat) (wp18994 : Int32) : Met l yX8_get (Cond.code yX8_get cX8_get 2 (some .long) :: wsL_law) ({ frames := 0, cells := 0, slots := 0, locals := 0 } : Room) (va_Pc [.ref h0, .int 0] (gI D y aS [(h0, .inr (8, [.ref h1, .int wp18994])), (h1, .inl (y 1, 3, .inr (.inl (vp_updL (fun _ => 0) ((2 : Int32).toNatClampNeg) 3))))] sz)) (va_Ql (fun (r : Int64) (u : Unit) => 0 = r) (fun u => gO D (va_A [(h0, .inr (8, [.ref h1, .int wp18994])), (h1, .inl (y 1, 3, .inr (.inl (vp_updL (fun _ => 0) ((2 : Int32).toNatClampNeg) 3))))] sz) [(h0, .inr (8, [.ref h1, .int wp18994])), (h1, .inl (y 1, 3, .inr (.inl (vp_updL (fun _ => 0) ((2 : Int32).toNatClampNeg) 3))))]) (va_A [(h0, .inr (8, [.ref h1, .int wp18994])), (h1, .inl (y 1, 3, .inr (.inl (vp_updL (fun _ => 0) ((2 : Int32).toNatClampNeg) 3))))] sz)) 0 0 (va_A [(h0, .inr (8, [.ref h1, .int wp18994])), (h1, .inl (y 1, 3, .inr (.inl (vp_updL (fun _ => 0) ((2 : Int32).toNatClampNeg) 3))))] sz) := by
  refine g_of (by decide) (Nat.le_of_ble_eq_true rfl) ?_
  intro p e s m below meth c ls A hx hb hr hml hown hg hlocks hin hsz hK hP hD hS hA hAe hl
  rw [← hAe]
  replace hown : s.vm.findClass RX8 = some m.cls := hown
  replace hl : lv_has ls 2 [(0, .ref h0), (1, .int 0)] := hl
  refine lv_iload_n hx hb dX8_get_0 rfl (lv_at hl 1 rfl) ?_
  refine lv_if_lt (tgt := 22) hx hb dX8_get_1 (by decide) (fun c9 => absurd c9 (by decide +kernel)) (fun _ => ?_)
  refine lv_iload_n hx hb dX8_get_4 rfl (lv_at hl 1 rfl) ?_
  refine lv_aload_n hx hb dX8_get_5 rfl (lv_at hl 0 rfl) ?_
  refine gm_get (D := D) (ci := 8) (v := .ref h1) (C := RX8) (T := TX8) (N := 2) hx hb hg inlX8 hown hK.1 hP 0 rfl rfl 0 (by decide) tX8_0 (hg _ gw_98) rfl dX8_get_6 ?_
  refine va_alen hx hb hK.1 hP 1 1 rfl rfl (v := 3) rfl dX8_get_9 ?_
  refine lv_icmp_ge (tgt := 22) hx hb dX8_get_10 (by decide) (fun c9 => absurd c9 (by decide +kernel)) (fun _ => ?_)
  refine lv_aload_n hx hb dX8_get_13 rfl (lv_at hl 0 rfl) ?_
  refine gm_get (D := D) (ci := 8) (v := .ref h1) (C := RX8) (T := TX8) (N := 2) hx hb hg inlX8 hown hK.1 hP 0 rfl rfl 0 (by decide) tX8_0 (hg _ gw_98) rfl dX8_get_14 ?_
  refine lv_iload_n hx hb dX8_get_17 rfl (lv_at hl 1 rfl) ?_
  refine va_lald hx hb hK.1 hP 1 1 rfl rfl (by unfold vp_in; decide +kernel) dX8_get_18 ?_
  refine g_fj (v := 0) (by rfl) ?_
  refine lv_goto (tgt := 23) hx hb dX8_get_19 (by decide) ?_
  exact g_lret hx hb hr hlocks () hP hD hS rfl (Nat.le_of_ble_eq_true rfl) (Nat.le_of_ble_eq_true rfl) dX8_get_23
set_option maxRecDepth 100000 in
set_option maxHeartbeats 4000000 in
theorem k_X8_get_18 (l : Launch) (D : va_G) (y : Nat → ClassId) (aS : Nat → Nat) (sz : Nat) (h0 : Nat) (h1 : Nat) (wp18996 : Int32) : Met l yX8_get (Cond.code yX8_get cX8_get 2 (some .long) :: wsL_law) ({ frames := 0, cells := 0, slots := 0, locals := 0 } : Room) (va_Pc [.ref h0, .int 1] (gI D y aS [(h0, .inr (8, [.ref h1, .int wp18996])), (h1, .inl (y 1, 3, .inr (.inl (vp_updL (fun _ => 0) ((2 : Int32).toNatClampNeg) 3))))] sz)) (va_Ql (fun (r : Int64) (u : Unit) => 0 = r) (fun u => gO D (va_A [(h0, .inr (8, [.ref h1, .int wp18996])), (h1, .inl (y 1, 3, .inr (.inl (vp_updL (fun _ => 0) ((2 : Int32).toNatClampNeg) 3))))] sz) [(h0, .inr (8, [.ref h1, .int wp18996])), (h1, .inl (y 1, 3, .inr (.inl (vp_updL (fun _ => 0) ((2 : Int32).toNatClampNeg) 3))))]) (va_A [(h0, .inr (8, [.ref h1, .int wp18996])), (h1, .inl (y 1, 3, .inr (.inl (vp_updL (fun _ => 0) ((2 : Int32).toNatClampNeg) 3))))] sz)) 0 0 (va_A [(h0, .inr (8, [.ref h1, .int wp18996])), (h1, .inl (y 1, 3, .inr (.inl (vp_updL (fun _ => 0) ((2 : Int32).toNatClampNeg) 3))))] sz) := by
  refine g_of (by decide) (Nat.le_of_ble_eq_true rfl) ?_
  intro p e s m below meth c ls A hx hb hr hml hown hg hlocks hin hsz hK hP hD hS hA hAe hl
  rw [← hAe]
  replace hown : s.vm.findClass RX8 = some m.cls := hown
  replace hl : lv_has ls 2 [(0, .ref h0), (1, .int 1)] := hl
  refine lv_iload_n hx hb dX8_get_0 rfl (lv_at hl 1 rfl) ?_
  refine lv_if_lt (tgt := 22) hx hb dX8_get_1 (by decide) (fun c9 => absurd c9 (by decide +kernel)) (fun _ => ?_)
  refine lv_iload_n hx hb dX8_get_4 rfl (lv_at hl 1 rfl) ?_
  refine lv_aload_n hx hb dX8_get_5 rfl (lv_at hl 0 rfl) ?_
  refine gm_get (D := D) (ci := 8) (v := .ref h1) (C := RX8) (T := TX8) (N := 2) hx hb hg inlX8 hown hK.1 hP 0 rfl rfl 0 (by decide) tX8_0 (hg _ gw_98) rfl dX8_get_6 ?_
  refine va_alen hx hb hK.1 hP 1 1 rfl rfl (v := 3) rfl dX8_get_9 ?_
  refine lv_icmp_ge (tgt := 22) hx hb dX8_get_10 (by decide) (fun c9 => absurd c9 (by decide +kernel)) (fun _ => ?_)
  refine lv_aload_n hx hb dX8_get_13 rfl (lv_at hl 0 rfl) ?_
  refine gm_get (D := D) (ci := 8) (v := .ref h1) (C := RX8) (T := TX8) (N := 2) hx hb hg inlX8 hown hK.1 hP 0 rfl rfl 0 (by decide) tX8_0 (hg _ gw_98) rfl dX8_get_14 ?_
  refine lv_iload_n hx hb dX8_get_17 rfl (lv_at hl 1 rfl) ?_
  refine va_lald hx hb hK.1 hP 1 1 rfl rfl (by unfold vp_in; decide +kernel) dX8_get_18 ?_
  refine g_fj (v := 0) (by rfl) ?_
  refine lv_goto (tgt := 23) hx hb dX8_get_19 (by decide) ?_
  exact g_lret hx hb hr hlocks () hP hD hS rfl (Nat.le_of_ble_eq_true rfl) (Nat.le_of_ble_eq_true rfl) dX8_get_23
set_option maxRecDepth 100000 in
set_option maxHeartbeats 4000000 in
theorem k_X8_get_19 (l : Launch) (D : va_G) (y : Nat → ClassId) (aS : Nat → Nat) (sz : Nat) (h0 : Nat) (h1 : Nat) (wp18998 : Int32) : Met l yX8_get (Cond.code yX8_get cX8_get 2 (some .long) :: wsL_law) ({ frames := 0, cells := 0, slots := 0, locals := 0 } : Room) (va_Pc [.ref h0, .int 2] (gI D y aS [(h0, .inr (8, [.ref h1, .int wp18998])), (h1, .inl (y 1, 3, .inr (.inl (vp_updL (fun _ => 0) ((2 : Int32).toNatClampNeg) 3))))] sz)) (va_Ql (fun (r : Int64) (u : Unit) => 3 = r) (fun u => gO D (va_A [(h0, .inr (8, [.ref h1, .int wp18998])), (h1, .inl (y 1, 3, .inr (.inl (vp_updL (fun _ => 0) ((2 : Int32).toNatClampNeg) 3))))] sz) [(h0, .inr (8, [.ref h1, .int wp18998])), (h1, .inl (y 1, 3, .inr (.inl (vp_updL (fun _ => 0) ((2 : Int32).toNatClampNeg) 3))))]) (va_A [(h0, .inr (8, [.ref h1, .int wp18998])), (h1, .inl (y 1, 3, .inr (.inl (vp_updL (fun _ => 0) ((2 : Int32).toNatClampNeg) 3))))] sz)) 0 0 (va_A [(h0, .inr (8, [.ref h1, .int wp18998])), (h1, .inl (y 1, 3, .inr (.inl (vp_updL (fun _ => 0) ((2 : Int32).toNatClampNeg) 3))))] sz) := by
  refine g_of (by decide) (Nat.le_of_ble_eq_true rfl) ?_
  intro p e s m below meth c ls A hx hb hr hml hown hg hlocks hin hsz hK hP hD hS hA hAe hl
  rw [← hAe]
  replace hown : s.vm.findClass RX8 = some m.cls := hown
  replace hl : lv_has ls 2 [(0, .ref h0), (1, .int 2)] := hl
  refine lv_iload_n hx hb dX8_get_0 rfl (lv_at hl 1 rfl) ?_
  refine lv_if_lt (tgt := 22) hx hb dX8_get_1 (by decide) (fun c9 => absurd c9 (by decide +kernel)) (fun _ => ?_)
  refine lv_iload_n hx hb dX8_get_4 rfl (lv_at hl 1 rfl) ?_
  refine lv_aload_n hx hb dX8_get_5 rfl (lv_at hl 0 rfl) ?_
  refine gm_get (D := D) (ci := 8) (v := .ref h1) (C := RX8) (T := TX8) (N := 2) hx hb hg inlX8 hown hK.1 hP 0 rfl rfl 0 (by decide) tX8_0 (hg _ gw_98) rfl dX8_get_6 ?_
  refine va_alen hx hb hK.1 hP 1 1 rfl rfl (v := 3) rfl dX8_get_9 ?_
  refine lv_icmp_ge (tgt := 22) hx hb dX8_get_10 (by decide) (fun c9 => absurd c9 (by decide +kernel)) (fun _ => ?_)
  refine lv_aload_n hx hb dX8_get_13 rfl (lv_at hl 0 rfl) ?_
  refine gm_get (D := D) (ci := 8) (v := .ref h1) (C := RX8) (T := TX8) (N := 2) hx hb hg inlX8 hown hK.1 hP 0 rfl rfl 0 (by decide) tX8_0 (hg _ gw_98) rfl dX8_get_14 ?_
  refine lv_iload_n hx hb dX8_get_17 rfl (lv_at hl 1 rfl) ?_
  refine va_lald hx hb hK.1 hP 1 1 rfl rfl (by unfold vp_in; decide +kernel) dX8_get_18 ?_
  refine g_fj (v := 3) (by rfl) ?_
  refine lv_goto (tgt := 23) hx hb dX8_get_19 (by decide) ?_
  exact g_lret hx hb hr hlocks () hP hD hS rfl (Nat.le_of_ble_eq_true rfl) (Nat.le_of_ble_eq_true rfl) dX8_get_23
set_option maxRecDepth 100000 in
set_option maxHeartbeats 4000000 in
theorem k_X5_tellSecret_5 (l : Launch) (D : va_G) (y : Nat → ClassId) (aS : Nat → Nat) (sz : Nat) (h0 : Nat) (p1 : Int32) (h2 : Nat) (h3 : Nat) (h4 : Nat) (h5 : Nat) (wp19000 : Int32) (h7 : Nat) (wp19001 : Int32) (wf19002 : Nat → Int64) (h10 : Nat) (wp19003 : Int32) (h12 : Nat) : Met l yX5_tellSecret (Cond.code yX5_tellSecret cX5_tellSecret 7 (some .int) :: wsL_law) ({ frames := 1, cells := 0, slots := 0, locals := 23 } : Room) (va_Pc [.ref h0, .int 2, .int p1, .int 3] (gI D y aS [(h0, .inr (5, [.ref h2, .ref h3, .ref h4, .ref h5, .int wp19000])), (h4, .inr (8, [.ref h7, .int wp19001])), (h7, .inl (y 1, 18, .inr (.inl wf19002))), (h5, .inr (8, [.ref h10, .int wp19003])), (h10, .inl (y 1, 3, .inr (.inl (fun _ => 0)))), (h2, .inr (8, [.ref h12, .int 0]))] sz)) (va_Qi (fun (r : Int32) (u : Unit) => 1 = r) (fun u => gO D (va_A [(h0, .inr (5, [.ref h2, .ref h3, .ref h4, .ref h5, .int wp19000])), (h4, .inr (8, [.ref h7, .int wp19001])), (h7, .inl (y 1, 18, .inr (.inl wf19002))), (h5, .inr (8, [.ref h10, .int wp19003])), (h10, .inl (y 1, 3, .inr (.inl (fun _ => 0)))), (h2, .inr (8, [.ref h12, .int 0]))] sz) [(h0, .inr (5, [.ref h2, .ref h3, .ref h4, .ref h5, .int 0])), (h4, .inr (8, [.ref h7, .int wp19001])), (h7, .inl (y 1, 18, .inr (.inl (vp_updL (vp_updL (vp_updL wf19002 ((14 : Int32).toNatClampNeg) ((p1 - p1 / 10 * 10).toInt64)) ((13 : Int32).toNatClampNeg) (((p1 / 10) - (p1 / 10) / 10 * 10).toInt64)) ((12 : Int32).toNatClampNeg) ((((p1 / 10) / 10) - ((p1 / 10) / 10) / 10 * 10).toInt64))))), (h5, .inr (8, [.ref h10, .int wp19003])), (h10, .inl (y 1, 3, .inr (.inl (vp_updL (fun _ => 0) ((2 : Int32).toNatClampNeg) 3)))), (h2, .inr (8, [.ref h12, .int 0]))]) (va_A [(h0, .inr (5, [.ref h2, .ref h3, .ref h4, .ref h5, .int wp19000])), (h4, .inr (8, [.ref h7, .int wp19001])), (h7, .inl (y 1, 18, .inr (.inl wf19002))), (h5, .inr (8, [.ref h10, .int wp19003])), (h10, .inl (y 1, 3, .inr (.inl (fun _ => 0)))), (h2, .inr (8, [.ref h12, .int 0]))] sz)) 0 0 (va_A [(h0, .inr (5, [.ref h2, .ref h3, .ref h4, .ref h5, .int wp19000])), (h4, .inr (8, [.ref h7, .int wp19001])), (h7, .inl (y 1, 18, .inr (.inl wf19002))), (h5, .inr (8, [.ref h10, .int wp19003])), (h10, .inl (y 1, 3, .inr (.inl (fun _ => 0)))), (h2, .inr (8, [.ref h12, .int 0]))] sz) := by
  refine g_of (by decide) (Nat.le_of_ble_eq_true rfl) ?_
  intro p e s m below meth c ls A hx hb hr hml hown hg hlocks hin hsz hK hP hD hS hA hAe hl
  rw [← hAe]
  replace hown : s.vm.findClass RX5 = some m.cls := hown
  replace hl : lv_has ls 7 [(0, .ref h0), (1, .int 2), (2, .int p1), (3, .int 3)] := hl
  refine lv_iload_n hx hb dX5_tellSecret_0 rfl (lv_at hl 2 rfl) ?_
  refine lv_istore (lv' := [(4, .int p1), (0, .ref h0), (1, .int 2), (2, .int p1), (3, .int 3)]) hx hb dX5_tellSecret_1 hl (by decide) rfl ?_
  clear hl
  clear ls
  intro ls hl
  refine lv_iload_n hx hb dX5_tellSecret_3 rfl (lv_at hl 4 rfl) ?_
  refine lv_iconst (v := 1) hx hb dX5_tellSecret_4 (by decide) ?_
  refine lv_isub hx hb dX5_tellSecret_5 ?_
  refine g_fi (v := 2) (by decide +kernel) ?_
  refine lv_istore (lv' := [(5, .int 2), (4, .int p1), (0, .ref h0), (1, .int 2), (2, .int p1), (3, .int 3)]) hx hb dX5_tellSecret_6 hl (by decide) rfl ?_
  clear hl
  clear ls
  intro ls hl
  refine lv_iload hx hb dX5_tellSecret_8 (lv_at hl 0 rfl) ?_
  refine lv_if_lt (tgt := 46) hx hb dX5_tellSecret_10 (by decide) (fun c9 => absurd c9 (by decide +kernel)) (fun _ => ?_)
  refine lv_aload_n hx hb dX5_tellSecret_13 rfl (lv_at hl 2 rfl) ?_
  refine gm_get (D := D) (ci := 5) (v := .ref h4) (C := RX5) (T := TX5) (N := 5) hx hb hg inlX5 hown hK.1 hP 0 rfl rfl 2 (by decide) tX5_2 (hg _ gw_140) rfl dX5_tellSecret_14 ?_
  refine lv_iload_n hx hb dX5_tellSecret_17 rfl (lv_at hl 3 rfl) ?_
  refine lv_bipush (v := 6) hx hb dX5_tellSecret_18 (by decide +kernel) ?_
  refine lv_imul hx hb dX5_tellSecret_20 ?_
  refine g_fi (v := 12) (by decide +kernel) ?_
  refine lv_iload hx hb dX5_tellSecret_21 (lv_at hl 0 rfl) ?_
  refine lv_iadd hx hb dX5_tellSecret_23 ?_
  refine g_fi (v := 14) (by decide +kernel) ?_
  refine lv_iload hx hb dX5_tellSecret_24 (lv_at hl 1 rfl) ?_
  refine lv_bipush (v := 10) hx hb dX5_tellSecret_26 (by decide +kernel) ?_
  refine lv_irem hx hb dX5_tellSecret_28 (by decide +kernel) ?_
  refine lv_i2l (v := ((p1 - p1 / 10 * 10).toInt64)) hx hb dX5_tellSecret_29 rfl ?_
  refine g_av (wr := [(h0, .inr (5, [.ref h2, .ref h3, .ref h4, .ref h5, .int wp19000])), (h5, .inr (8, [.ref h10, .int wp19003])), (h10, .inl (y 1, 3, .inr (.inl (fun _ => 0)))), (h2, .inr (8, [.ref h12, .int 0]))]) (va_runV (As := [.int 14, .long ((p1 - p1 / 10 * 10).toInt64)]) (rest := []) ⟨hx, hb, hml, hown, hg⟩ (k_X8_set_35 l D y aS s.heap.size h4 ((p1 - p1 / 10 * 10).toInt64) h7 wp19001 wf19002) (cwV 2 hg ggV_RX5_29_X8_set rfl rfl rfl (by decide +kernel) ⟨Nat.le_of_ble_eq_true rfl, Nat.le_of_ble_eq_true rfl⟩) (g_preV (q := (RX8, TX8, 2)) hK hP hD [1, 2] rfl (by decide) (ci := 8) (q0 := 1) rfl rfl) rfl rfl hl.1 rfl (lv_room (Nat.le_of_ble_eq_true rfl)) dX5_tellSecret_30 ⟨Nat.le_of_ble_eq_true rfl, Nat.le_of_ble_eq_true rfl⟩) hP hD hS hA [1, 2] [0, 3, 4, 5] rfl rfl (by decide) (by decide) ?_
  clear hP hD hS
  refine fun u H locs hq hP hD hS => ?_
  replace hP : va_P D vwCl [(h0, .inr (5, [.ref h2, .ref h3, .ref h4, .ref h5, .int wp19000])), (h5, .inr (8, [.ref h10, .int wp19003])), (h10, .inl (y 1, 3, .inr (.inl (fun _ => 0)))), (h2, .inr (8, [.ref h12, .int 0])), (h4, .inr (8, [.ref h7, .int wp19001])), (h7, .inl (y 1, 18, .inr (.inl (vp_updL wf19002 ((14 : Int32).toNatClampNeg) ((p1 - p1 / 10 * 10).toInt64)))))] H := hP
  replace hD : va_D A [(h0, .inr (5, [.ref h2, .ref h3, .ref h4, .ref h5, .int wp19000])), (h5, .inr (8, [.ref h10, .int wp19003])), (h10, .inl (y 1, 3, .inr (.inl (fun _ => 0)))), (h2, .inr (8, [.ref h12, .int 0])), (h4, .inr (8, [.ref h7, .int wp19001])), (h7, .inl (y 1, 18, .inr (.inl (vp_updL wf19002 ((14 : Int32).toNatClampNeg) ((p1 - p1 / 10 * 10).toInt64)))))] := hD
  refine lv_iload hx hb dX5_tellSecret_33 (lv_at hl 1 rfl) ?_
  refine lv_bipush (v := 10) hx hb dX5_tellSecret_35 (by decide +kernel) ?_
  refine lv_idiv hx hb dX5_tellSecret_37 (by decide +kernel) ?_
  refine lv_istore (lv' := [(4, .int (p1 / 10)), (5, .int 2), (0, .ref h0), (1, .int 2), (2, .int p1), (3, .int 3)]) hx hb dX5_tellSecret_38 hl (by decide) rfl ?_
  clear hl
  clear ls
  intro ls hl
  refine lv_iinc (v := 1) (lv' := [(5, .int 1), (4, .int (p1 / 10)), (0, .ref h0), (1, .int 2), (2, .int p1), (3, .int 3)]) hx hb dX5_tellSecret_40 hl (k := 1) rfl (by decide +kernel) (by decide) rfl ?_
  clear hl
  clear ls
  intro ls hl
  refine lv_goto (tgt := 8) hx hb dX5_tellSecret_43 (by decide) ?_
  refine lv_iload hx hb dX5_tellSecret_8 (lv_at hl 0 rfl) ?_
  refine lv_if_lt (tgt := 46) hx hb dX5_tellSecret_10 (by decide) (fun c9 => absurd c9 (by decide +kernel)) (fun _ => ?_)
  refine lv_aload_n hx hb dX5_tellSecret_13 rfl (lv_at hl 2 rfl) ?_
  refine gm_get (D := D) (ci := 5) (v := .ref h4) (C := RX5) (T := TX5) (N := 5) hx hb hg inlX5 hown hK.1 hP 0 rfl rfl 2 (by decide) tX5_2 (hg _ gw_140) rfl dX5_tellSecret_14 ?_
  refine lv_iload_n hx hb dX5_tellSecret_17 rfl (lv_at hl 3 rfl) ?_
  refine lv_bipush (v := 6) hx hb dX5_tellSecret_18 (by decide +kernel) ?_
  refine lv_imul hx hb dX5_tellSecret_20 ?_
  refine g_fi (v := 12) (by decide +kernel) ?_
  refine lv_iload hx hb dX5_tellSecret_21 (lv_at hl 0 rfl) ?_
  refine lv_iadd hx hb dX5_tellSecret_23 ?_
  refine g_fi (v := 13) (by decide +kernel) ?_
  refine lv_iload hx hb dX5_tellSecret_24 (lv_at hl 1 rfl) ?_
  refine lv_bipush (v := 10) hx hb dX5_tellSecret_26 (by decide +kernel) ?_
  refine lv_irem hx hb dX5_tellSecret_28 (by decide +kernel) ?_
  refine lv_i2l (v := (((p1 / 10) - (p1 / 10) / 10 * 10).toInt64)) hx hb dX5_tellSecret_29 rfl ?_
  refine g_av (wr := [(h0, .inr (5, [.ref h2, .ref h3, .ref h4, .ref h5, .int wp19000])), (h5, .inr (8, [.ref h10, .int wp19003])), (h10, .inl (y 1, 3, .inr (.inl (fun _ => 0)))), (h2, .inr (8, [.ref h12, .int 0]))]) (va_runV (As := [.int 13, .long (((p1 / 10) - (p1 / 10) / 10 * 10).toInt64)]) (rest := []) ⟨hx, hb, hml, hown, hg⟩ (k_X8_set_31 l D y aS H.size h4 (((p1 / 10) - (p1 / 10) / 10 * 10).toInt64) h7 wp19001 (vp_updL wf19002 ((14 : Int32).toNatClampNeg) ((p1 - p1 / 10 * 10).toInt64))) (cwV 2 hg ggV_RX5_29_X8_set rfl rfl rfl (by decide +kernel) ⟨Nat.le_of_ble_eq_true rfl, Nat.le_of_ble_eq_true rfl⟩) (g_preV (q := (RX8, TX8, 2)) hK hP hD [4, 5] rfl (by decide) (ci := 8) (q0 := 4) rfl rfl) rfl rfl hl.1 rfl (lv_room (Nat.le_of_ble_eq_true rfl)) dX5_tellSecret_30 ⟨Nat.le_of_ble_eq_true rfl, Nat.le_of_ble_eq_true rfl⟩) hP hD hS hA [4, 5] [0, 1, 2, 3] rfl rfl (by decide) (by decide) ?_
  clear hP hD hS H locs
  refine fun u H locs hq hP hD hS => ?_
  replace hP : va_P D vwCl [(h0, .inr (5, [.ref h2, .ref h3, .ref h4, .ref h5, .int wp19000])), (h5, .inr (8, [.ref h10, .int wp19003])), (h10, .inl (y 1, 3, .inr (.inl (fun _ => 0)))), (h2, .inr (8, [.ref h12, .int 0])), (h4, .inr (8, [.ref h7, .int wp19001])), (h7, .inl (y 1, 18, .inr (.inl (vp_updL (vp_updL wf19002 ((14 : Int32).toNatClampNeg) ((p1 - p1 / 10 * 10).toInt64)) ((13 : Int32).toNatClampNeg) (((p1 / 10) - (p1 / 10) / 10 * 10).toInt64)))))] H := hP
  replace hD : va_D A [(h0, .inr (5, [.ref h2, .ref h3, .ref h4, .ref h5, .int wp19000])), (h5, .inr (8, [.ref h10, .int wp19003])), (h10, .inl (y 1, 3, .inr (.inl (fun _ => 0)))), (h2, .inr (8, [.ref h12, .int 0])), (h4, .inr (8, [.ref h7, .int wp19001])), (h7, .inl (y 1, 18, .inr (.inl (vp_updL (vp_updL wf19002 ((14 : Int32).toNatClampNeg) ((p1 - p1 / 10 * 10).toInt64)) ((13 : Int32).toNatClampNeg) (((p1 / 10) - (p1 / 10) / 10 * 10).toInt64)))))] := hD
  refine lv_iload hx hb dX5_tellSecret_33 (lv_at hl 1 rfl) ?_
  refine lv_bipush (v := 10) hx hb dX5_tellSecret_35 (by decide +kernel) ?_
  refine lv_idiv hx hb dX5_tellSecret_37 (by decide +kernel) ?_
  refine lv_istore (lv' := [(4, .int ((p1 / 10) / 10)), (5, .int 1), (0, .ref h0), (1, .int 2), (2, .int p1), (3, .int 3)]) hx hb dX5_tellSecret_38 hl (by decide) rfl ?_
  clear hl
  clear ls
  intro ls hl
  refine lv_iinc (v := 0) (lv' := [(5, .int 0), (4, .int ((p1 / 10) / 10)), (0, .ref h0), (1, .int 2), (2, .int p1), (3, .int 3)]) hx hb dX5_tellSecret_40 hl (k := 1) rfl (by decide +kernel) (by decide) rfl ?_
  clear hl
  clear ls
  intro ls hl
  refine lv_goto (tgt := 8) hx hb dX5_tellSecret_43 (by decide) ?_
  refine lv_iload hx hb dX5_tellSecret_8 (lv_at hl 0 rfl) ?_
  refine lv_if_lt (tgt := 46) hx hb dX5_tellSecret_10 (by decide) (fun c9 => absurd c9 (by decide +kernel)) (fun _ => ?_)
  refine lv_aload_n hx hb dX5_tellSecret_13 rfl (lv_at hl 2 rfl) ?_
  refine gm_get (D := D) (ci := 5) (v := .ref h4) (C := RX5) (T := TX5) (N := 5) hx hb hg inlX5 hown hK.1 hP 0 rfl rfl 2 (by decide) tX5_2 (hg _ gw_140) rfl dX5_tellSecret_14 ?_
  refine lv_iload_n hx hb dX5_tellSecret_17 rfl (lv_at hl 3 rfl) ?_
  refine lv_bipush (v := 6) hx hb dX5_tellSecret_18 (by decide +kernel) ?_
  refine lv_imul hx hb dX5_tellSecret_20 ?_
  refine g_fi (v := 12) (by decide +kernel) ?_
  refine lv_iload hx hb dX5_tellSecret_21 (lv_at hl 0 rfl) ?_
  refine lv_iadd hx hb dX5_tellSecret_23 ?_
  refine g_fi (v := 12) (by decide +kernel) ?_
  refine lv_iload hx hb dX5_tellSecret_24 (lv_at hl 1 rfl) ?_
  refine lv_bipush (v := 10) hx hb dX5_tellSecret_26 (by decide +kernel) ?_
  refine lv_irem hx hb dX5_tellSecret_28 (by decide +kernel) ?_
  refine lv_i2l (v := ((((p1 / 10) / 10) - ((p1 / 10) / 10) / 10 * 10).toInt64)) hx hb dX5_tellSecret_29 rfl ?_
  refine g_av (wr := [(h0, .inr (5, [.ref h2, .ref h3, .ref h4, .ref h5, .int wp19000])), (h5, .inr (8, [.ref h10, .int wp19003])), (h10, .inl (y 1, 3, .inr (.inl (fun _ => 0)))), (h2, .inr (8, [.ref h12, .int 0]))]) (va_runV (As := [.int 12, .long ((((p1 / 10) / 10) - ((p1 / 10) / 10) / 10 * 10).toInt64)]) (rest := []) ⟨hx, hb, hml, hown, hg⟩ (k_X8_set_32 l D y aS H.size h4 ((((p1 / 10) / 10) - ((p1 / 10) / 10) / 10 * 10).toInt64) h7 wp19001 (vp_updL (vp_updL wf19002 ((14 : Int32).toNatClampNeg) ((p1 - p1 / 10 * 10).toInt64)) ((13 : Int32).toNatClampNeg) (((p1 / 10) - (p1 / 10) / 10 * 10).toInt64))) (cwV 2 hg ggV_RX5_29_X8_set rfl rfl rfl (by decide +kernel) ⟨Nat.le_of_ble_eq_true rfl, Nat.le_of_ble_eq_true rfl⟩) (g_preV (q := (RX8, TX8, 2)) hK hP hD [4, 5] rfl (by decide) (ci := 8) (q0 := 4) rfl rfl) rfl rfl hl.1 rfl (lv_room (Nat.le_of_ble_eq_true rfl)) dX5_tellSecret_30 ⟨Nat.le_of_ble_eq_true rfl, Nat.le_of_ble_eq_true rfl⟩) hP hD hS hA [4, 5] [0, 1, 2, 3] rfl rfl (by decide) (by decide) ?_
  clear hP hD hS H locs
  refine fun u H locs hq hP hD hS => ?_
  replace hP : va_P D vwCl [(h0, .inr (5, [.ref h2, .ref h3, .ref h4, .ref h5, .int wp19000])), (h5, .inr (8, [.ref h10, .int wp19003])), (h10, .inl (y 1, 3, .inr (.inl (fun _ => 0)))), (h2, .inr (8, [.ref h12, .int 0])), (h4, .inr (8, [.ref h7, .int wp19001])), (h7, .inl (y 1, 18, .inr (.inl (vp_updL (vp_updL (vp_updL wf19002 ((14 : Int32).toNatClampNeg) ((p1 - p1 / 10 * 10).toInt64)) ((13 : Int32).toNatClampNeg) (((p1 / 10) - (p1 / 10) / 10 * 10).toInt64)) ((12 : Int32).toNatClampNeg) ((((p1 / 10) / 10) - ((p1 / 10) / 10) / 10 * 10).toInt64)))))] H := hP
  replace hD : va_D A [(h0, .inr (5, [.ref h2, .ref h3, .ref h4, .ref h5, .int wp19000])), (h5, .inr (8, [.ref h10, .int wp19003])), (h10, .inl (y 1, 3, .inr (.inl (fun _ => 0)))), (h2, .inr (8, [.ref h12, .int 0])), (h4, .inr (8, [.ref h7, .int wp19001])), (h7, .inl (y 1, 18, .inr (.inl (vp_updL (vp_updL (vp_updL wf19002 ((14 : Int32).toNatClampNeg) ((p1 - p1 / 10 * 10).toInt64)) ((13 : Int32).toNatClampNeg) (((p1 / 10) - (p1 / 10) / 10 * 10).toInt64)) ((12 : Int32).toNatClampNeg) ((((p1 / 10) / 10) - ((p1 / 10) / 10) / 10 * 10).toInt64)))))] := hD
  refine lv_iload hx hb dX5_tellSecret_33 (lv_at hl 1 rfl) ?_
  refine lv_bipush (v := 10) hx hb dX5_tellSecret_35 (by decide +kernel) ?_
  refine lv_idiv hx hb dX5_tellSecret_37 (by decide +kernel) ?_
  refine lv_istore (lv' := [(4, .int (((p1 / 10) / 10) / 10)), (5, .int 0), (0, .ref h0), (1, .int 2), (2, .int p1), (3, .int 3)]) hx hb dX5_tellSecret_38 hl (by decide) rfl ?_
  clear hl
  clear ls
  intro ls hl
  refine lv_iinc (v := (-1)) (lv' := [(5, .int (-1)), (4, .int (((p1 / 10) / 10) / 10)), (0, .ref h0), (1, .int 2), (2, .int p1), (3, .int 3)]) hx hb dX5_tellSecret_40 hl (k := 1) rfl (by decide +kernel) (by decide) rfl ?_
  clear hl
  clear ls
  intro ls hl
  refine lv_goto (tgt := 8) hx hb dX5_tellSecret_43 (by decide) ?_
  refine lv_iload hx hb dX5_tellSecret_8 (lv_at hl 0 rfl) ?_
  refine lv_if_lt (tgt := 46) hx hb dX5_tellSecret_10 (by decide) (fun _ => ?_) (fun c9 => absurd c9 (by decide +kernel))
  refine lv_aload_n hx hb dX5_tellSecret_46 rfl (lv_at hl 2 rfl) ?_
  refine gm_get (D := D) (ci := 5) (v := .ref h5) (C := RX5) (T := TX5) (N := 5) hx hb hg inlX5 hown hK.1 hP 0 rfl rfl 3 (by decide) tX5_3 (hg _ gw_141) rfl dX5_tellSecret_47 ?_
  refine lv_iload_n hx hb dX5_tellSecret_50 rfl (lv_at hl 3 rfl) ?_
  refine lv_iload_n hx hb dX5_tellSecret_51 rfl (lv_at hl 5 rfl) ?_
  refine lv_i2l (v := 3) hx hb dX5_tellSecret_52 (by decide +kernel) ?_
  refine g_av (wr := [(h0, .inr (5, [.ref h2, .ref h3, .ref h4, .ref h5, .int wp19000])), (h2, .inr (8, [.ref h12, .int 0])), (h4, .inr (8, [.ref h7, .int wp19001])), (h7, .inl (y 1, 18, .inr (.inl (vp_updL (vp_updL (vp_updL wf19002 ((14 : Int32).toNatClampNeg) ((p1 - p1 / 10 * 10).toInt64)) ((13 : Int32).toNatClampNeg) (((p1 / 10) - (p1 / 10) / 10 * 10).toInt64)) ((12 : Int32).toNatClampNeg) ((((p1 / 10) / 10) - ((p1 / 10) / 10) / 10 * 10).toInt64)))))]) (va_runV (As := [.int 2, .long 3]) (rest := []) ⟨hx, hb, hml, hown, hg⟩ (k_X8_set_26 l D y aS H.size h5 3 h10 wp19003 (fun _ => 0)) (cwV 2 hg ggV_RX5_29_X8_set rfl rfl rfl (by decide +kernel) ⟨Nat.le_of_ble_eq_true rfl, Nat.le_of_ble_eq_true rfl⟩) (g_preV (q := (RX8, TX8, 2)) hK hP hD [1, 2] rfl (by decide) (ci := 8) (q0 := 1) rfl rfl) rfl rfl hl.1 rfl (lv_room (Nat.le_of_ble_eq_true rfl)) dX5_tellSecret_53 ⟨Nat.le_of_ble_eq_true rfl, Nat.le_of_ble_eq_true rfl⟩) hP hD hS hA [1, 2] [0, 3, 4, 5] rfl rfl (by decide) (by decide) ?_
  clear hP hD hS H locs
  refine fun u H locs hq hP hD hS => ?_
  replace hP : va_P D vwCl [(h0, .inr (5, [.ref h2, .ref h3, .ref h4, .ref h5, .int wp19000])), (h2, .inr (8, [.ref h12, .int 0])), (h4, .inr (8, [.ref h7, .int wp19001])), (h7, .inl (y 1, 18, .inr (.inl (vp_updL (vp_updL (vp_updL wf19002 ((14 : Int32).toNatClampNeg) ((p1 - p1 / 10 * 10).toInt64)) ((13 : Int32).toNatClampNeg) (((p1 / 10) - (p1 / 10) / 10 * 10).toInt64)) ((12 : Int32).toNatClampNeg) ((((p1 / 10) / 10) - ((p1 / 10) / 10) / 10 * 10).toInt64))))), (h5, .inr (8, [.ref h10, .int wp19003])), (h10, .inl (y 1, 3, .inr (.inl (vp_updL (fun _ => 0) ((2 : Int32).toNatClampNeg) 3))))] H := hP
  replace hD : va_D A [(h0, .inr (5, [.ref h2, .ref h3, .ref h4, .ref h5, .int wp19000])), (h2, .inr (8, [.ref h12, .int 0])), (h4, .inr (8, [.ref h7, .int wp19001])), (h7, .inl (y 1, 18, .inr (.inl (vp_updL (vp_updL (vp_updL wf19002 ((14 : Int32).toNatClampNeg) ((p1 - p1 / 10 * 10).toInt64)) ((13 : Int32).toNatClampNeg) (((p1 / 10) - (p1 / 10) / 10 * 10).toInt64)) ((12 : Int32).toNatClampNeg) ((((p1 / 10) / 10) - ((p1 / 10) / 10) / 10 * 10).toInt64))))), (h5, .inr (8, [.ref h10, .int wp19003])), (h10, .inl (y 1, 3, .inr (.inl (vp_updL (fun _ => 0) ((2 : Int32).toNatClampNeg) 3))))] := hD
  refine lv_aload_n hx hb dX5_tellSecret_56 rfl (lv_at hl 2 rfl) ?_
  refine g_av (wr := [(h4, .inr (8, [.ref h7, .int wp19001])), (h7, .inl (y 1, 18, .inr (.inl (vp_updL (vp_updL (vp_updL wf19002 ((14 : Int32).toNatClampNeg) ((p1 - p1 / 10 * 10).toInt64)) ((13 : Int32).toNatClampNeg) (((p1 / 10) - (p1 / 10) / 10 * 10).toInt64)) ((12 : Int32).toNatClampNeg) ((((p1 / 10) / 10) - ((p1 / 10) / 10) / 10 * 10).toInt64))))), (h5, .inr (8, [.ref h10, .int wp19003])), (h10, .inl (y 1, 3, .inr (.inl (vp_updL (fun _ => 0) ((2 : Int32).toNatClampNeg) 3))))]) (va_runV (As := []) (rest := []) ⟨hx, hb, hml, hown, hg⟩ (k_X5_findOut_0 l D y aS H.size h0 h2 h3 h4 h5 wp19000 h12) (cwV 0 hg ggV_RX5_33_X5_findOut rfl rfl rfl (by decide +kernel) ⟨Nat.le_of_ble_eq_true rfl, Nat.le_of_ble_eq_true rfl⟩) (g_preV (q := (RX5, TX5, 5)) hK hP hD [0, 1] rfl (by decide) (ci := 5) (q0 := 0) rfl rfl) rfl rfl hl.1 rfl (lv_room (Nat.le_of_ble_eq_true rfl)) dX5_tellSecret_57 ⟨Nat.le_of_ble_eq_true rfl, Nat.le_of_ble_eq_true rfl⟩) hP hD hS hA [0, 1] [2, 3, 4, 5] rfl rfl (by decide) (by decide) ?_
  clear hP hD hS H locs
  refine fun u H locs hq hP hD hS => ?_
  replace hP : va_P D vwCl [(h4, .inr (8, [.ref h7, .int wp19001])), (h7, .inl (y 1, 18, .inr (.inl (vp_updL (vp_updL (vp_updL wf19002 ((14 : Int32).toNatClampNeg) ((p1 - p1 / 10 * 10).toInt64)) ((13 : Int32).toNatClampNeg) (((p1 / 10) - (p1 / 10) / 10 * 10).toInt64)) ((12 : Int32).toNatClampNeg) ((((p1 / 10) / 10) - ((p1 / 10) / 10) / 10 * 10).toInt64))))), (h5, .inr (8, [.ref h10, .int wp19003])), (h10, .inl (y 1, 3, .inr (.inl (vp_updL (fun _ => 0) ((2 : Int32).toNatClampNeg) 3)))), (h0, .inr (5, [.ref h2, .ref h3, .ref h4, .ref h5, .int 0])), (h2, .inr (8, [.ref h12, .int 0]))] H := hP
  replace hD : va_D A [(h4, .inr (8, [.ref h7, .int wp19001])), (h7, .inl (y 1, 18, .inr (.inl (vp_updL (vp_updL (vp_updL wf19002 ((14 : Int32).toNatClampNeg) ((p1 - p1 / 10 * 10).toInt64)) ((13 : Int32).toNatClampNeg) (((p1 / 10) - (p1 / 10) / 10 * 10).toInt64)) ((12 : Int32).toNatClampNeg) ((((p1 / 10) / 10) - ((p1 / 10) / 10) / 10 * 10).toInt64))))), (h5, .inr (8, [.ref h10, .int wp19003])), (h10, .inl (y 1, 3, .inr (.inl (vp_updL (fun _ => 0) ((2 : Int32).toNatClampNeg) 3)))), (h0, .inr (5, [.ref h2, .ref h3, .ref h4, .ref h5, .int 0])), (h2, .inr (8, [.ref h12, .int 0]))] := hD
  refine lv_iconst (v := 0) hx hb dX5_tellSecret_60 (by decide) ?_
  refine lv_istore (lv' := [(5, .int 0), (4, .int (((p1 / 10) / 10) / 10)), (0, .ref h0), (1, .int 2), (2, .int p1), (3, .int 3)]) hx hb dX5_tellSecret_61 hl (by decide) rfl ?_
  clear hl
  clear ls
  intro ls hl
  refine lv_iconst (v := 0) hx hb dX5_tellSecret_63 (by decide) ?_
  refine lv_istore (lv' := [(6, .int 0), (5, .int 0), (4, .int (((p1 / 10) / 10) / 10)), (0, .ref h0), (1, .int 2), (2, .int p1), (3, .int 3)]) hx hb dX5_tellSecret_64 hl (by decide) rfl ?_
  clear hl
  clear ls
  intro ls hl
  refine lv_iload hx hb dX5_tellSecret_66 (lv_at hl 0 rfl) ?_
  refine lv_iconst (v := 3) hx hb dX5_tellSecret_68 (by decide) ?_
  refine lv_icmp_ge (tgt := 95) hx hb dX5_tellSecret_69 (by decide) (fun c9 => absurd c9 (by decide +kernel)) (fun _ => ?_)
  refine lv_aload_n hx hb dX5_tellSecret_72 rfl (lv_at hl 3 rfl) ?_
  refine gm_get (D := D) (ci := 5) (v := .ref h5) (C := RX5) (T := TX5) (N := 5) hx hb hg inlX5 hown hK.1 hP 4 rfl rfl 3 (by decide) tX5_3 (hg _ gw_141) rfl dX5_tellSecret_73 ?_
  refine lv_iload hx hb dX5_tellSecret_76 (lv_at hl 0 rfl) ?_
  refine g_al (wr := [(h4, .inr (8, [.ref h7, .int wp19001])), (h7, .inl (y 1, 18, .inr (.inl (vp_updL (vp_updL (vp_updL wf19002 ((14 : Int32).toNatClampNeg) ((p1 - p1 / 10 * 10).toInt64)) ((13 : Int32).toNatClampNeg) (((p1 / 10) - (p1 / 10) / 10 * 10).toInt64)) ((12 : Int32).toNatClampNeg) ((((p1 / 10) / 10) - ((p1 / 10) / 10) / 10 * 10).toInt64))))), (h0, .inr (5, [.ref h2, .ref h3, .ref h4, .ref h5, .int 0])), (h2, .inr (8, [.ref h12, .int 0]))]) (va_runV (As := [.int 0]) (rest := []) ⟨hx, hb, hml, hown, hg⟩ (k_X8_get_17 l D y aS H.size h5 h10 wp19003) (cwV 1 hg ggV_RX5_36_X8_get rfl rfl rfl (by decide +kernel) ⟨Nat.le_of_ble_eq_true rfl, Nat.le_of_ble_eq_true rfl⟩) (g_preV (q := (RX8, TX8, 2)) hK hP hD [2, 3] rfl (by decide) (ci := 8) (q0 := 2) rfl rfl) rfl rfl hl.1 rfl (lv_room (Nat.le_of_ble_eq_true rfl)) dX5_tellSecret_78 ⟨Nat.le_of_ble_eq_true rfl, Nat.le_of_ble_eq_true rfl⟩) hP hD hS hA [2, 3] [0, 1, 4, 5] rfl rfl (by decide) (by decide) ?_
  clear hP hD hS H locs
  refine fun r19009 u H locs hq hP hD hS => ?_
  subst hq
  replace hP : va_P D vwCl [(h4, .inr (8, [.ref h7, .int wp19001])), (h7, .inl (y 1, 18, .inr (.inl (vp_updL (vp_updL (vp_updL wf19002 ((14 : Int32).toNatClampNeg) ((p1 - p1 / 10 * 10).toInt64)) ((13 : Int32).toNatClampNeg) (((p1 / 10) - (p1 / 10) / 10 * 10).toInt64)) ((12 : Int32).toNatClampNeg) ((((p1 / 10) / 10) - ((p1 / 10) / 10) / 10 * 10).toInt64))))), (h0, .inr (5, [.ref h2, .ref h3, .ref h4, .ref h5, .int 0])), (h2, .inr (8, [.ref h12, .int 0])), (h5, .inr (8, [.ref h10, .int wp19003])), (h10, .inl (y 1, 3, .inr (.inl (vp_updL (fun _ => 0) ((2 : Int32).toNatClampNeg) 3))))] H := hP
  replace hD : va_D A [(h4, .inr (8, [.ref h7, .int wp19001])), (h7, .inl (y 1, 18, .inr (.inl (vp_updL (vp_updL (vp_updL wf19002 ((14 : Int32).toNatClampNeg) ((p1 - p1 / 10 * 10).toInt64)) ((13 : Int32).toNatClampNeg) (((p1 / 10) - (p1 / 10) / 10 * 10).toInt64)) ((12 : Int32).toNatClampNeg) ((((p1 / 10) / 10) - ((p1 / 10) / 10) / 10 * 10).toInt64))))), (h0, .inr (5, [.ref h2, .ref h3, .ref h4, .ref h5, .int 0])), (h2, .inr (8, [.ref h12, .int 0])), (h5, .inr (8, [.ref h10, .int wp19003])), (h10, .inl (y 1, 3, .inr (.inl (vp_updL (fun _ => 0) ((2 : Int32).toNatClampNeg) 3))))] := hD
  refine lv_lconst (v := 0) hx hb dX5_tellSecret_81 (by decide) ?_
  refine W.lcmp hx hb dX5_tellSecret_82 ?_
  refine g_fi (v := 0) (by decide +kernel) ?_
  refine lv_if_le (tgt := 89) hx hb dX5_tellSecret_83 (by decide) (fun _ => ?_) (fun c9 => absurd c9 (by decide +kernel))
  refine lv_iinc (v := 1) (lv' := [(6, .int 1), (5, .int 0), (4, .int (((p1 / 10) / 10) / 10)), (0, .ref h0), (1, .int 2), (2, .int p1), (3, .int 3)]) hx hb dX5_tellSecret_89 hl (k := 0) rfl (by decide +kernel) (by decide) rfl ?_
  clear hl
  clear ls
  intro ls hl
  refine lv_goto (tgt := 66) hx hb dX5_tellSecret_92 (by decide) ?_
  refine lv_iload hx hb dX5_tellSecret_66 (lv_at hl 0 rfl) ?_
  refine lv_iconst (v := 3) hx hb dX5_tellSecret_68 (by decide) ?_
  refine lv_icmp_ge (tgt := 95) hx hb dX5_tellSecret_69 (by decide) (fun c9 => absurd c9 (by decide +kernel)) (fun _ => ?_)
  refine lv_aload_n hx hb dX5_tellSecret_72 rfl (lv_at hl 3 rfl) ?_
  refine gm_get (D := D) (ci := 5) (v := .ref h5) (C := RX5) (T := TX5) (N := 5) hx hb hg inlX5 hown hK.1 hP 2 rfl rfl 3 (by decide) tX5_3 (hg _ gw_141) rfl dX5_tellSecret_73 ?_
  refine lv_iload hx hb dX5_tellSecret_76 (lv_at hl 0 rfl) ?_
  refine g_al (wr := [(h4, .inr (8, [.ref h7, .int wp19001])), (h7, .inl (y 1, 18, .inr (.inl (vp_updL (vp_updL (vp_updL wf19002 ((14 : Int32).toNatClampNeg) ((p1 - p1 / 10 * 10).toInt64)) ((13 : Int32).toNatClampNeg) (((p1 / 10) - (p1 / 10) / 10 * 10).toInt64)) ((12 : Int32).toNatClampNeg) ((((p1 / 10) / 10) - ((p1 / 10) / 10) / 10 * 10).toInt64))))), (h0, .inr (5, [.ref h2, .ref h3, .ref h4, .ref h5, .int 0])), (h2, .inr (8, [.ref h12, .int 0]))]) (va_runV (As := [.int 1]) (rest := []) ⟨hx, hb, hml, hown, hg⟩ (k_X8_get_18 l D y aS H.size h5 h10 wp19003) (cwV 1 hg ggV_RX5_36_X8_get rfl rfl rfl (by decide +kernel) ⟨Nat.le_of_ble_eq_true rfl, Nat.le_of_ble_eq_true rfl⟩) (g_preV (q := (RX8, TX8, 2)) hK hP hD [4, 5] rfl (by decide) (ci := 8) (q0 := 4) rfl rfl) rfl rfl hl.1 rfl (lv_room (Nat.le_of_ble_eq_true rfl)) dX5_tellSecret_78 ⟨Nat.le_of_ble_eq_true rfl, Nat.le_of_ble_eq_true rfl⟩) hP hD hS hA [4, 5] [0, 1, 2, 3] rfl rfl (by decide) (by decide) ?_
  clear hP hD hS H locs
  refine fun r19010 u H locs hq hP hD hS => ?_
  subst hq
  replace hP : va_P D vwCl [(h4, .inr (8, [.ref h7, .int wp19001])), (h7, .inl (y 1, 18, .inr (.inl (vp_updL (vp_updL (vp_updL wf19002 ((14 : Int32).toNatClampNeg) ((p1 - p1 / 10 * 10).toInt64)) ((13 : Int32).toNatClampNeg) (((p1 / 10) - (p1 / 10) / 10 * 10).toInt64)) ((12 : Int32).toNatClampNeg) ((((p1 / 10) / 10) - ((p1 / 10) / 10) / 10 * 10).toInt64))))), (h0, .inr (5, [.ref h2, .ref h3, .ref h4, .ref h5, .int 0])), (h2, .inr (8, [.ref h12, .int 0])), (h5, .inr (8, [.ref h10, .int wp19003])), (h10, .inl (y 1, 3, .inr (.inl (vp_updL (fun _ => 0) ((2 : Int32).toNatClampNeg) 3))))] H := hP
  replace hD : va_D A [(h4, .inr (8, [.ref h7, .int wp19001])), (h7, .inl (y 1, 18, .inr (.inl (vp_updL (vp_updL (vp_updL wf19002 ((14 : Int32).toNatClampNeg) ((p1 - p1 / 10 * 10).toInt64)) ((13 : Int32).toNatClampNeg) (((p1 / 10) - (p1 / 10) / 10 * 10).toInt64)) ((12 : Int32).toNatClampNeg) ((((p1 / 10) / 10) - ((p1 / 10) / 10) / 10 * 10).toInt64))))), (h0, .inr (5, [.ref h2, .ref h3, .ref h4, .ref h5, .int 0])), (h2, .inr (8, [.ref h12, .int 0])), (h5, .inr (8, [.ref h10, .int wp19003])), (h10, .inl (y 1, 3, .inr (.inl (vp_updL (fun _ => 0) ((2 : Int32).toNatClampNeg) 3))))] := hD
  refine lv_lconst (v := 0) hx hb dX5_tellSecret_81 (by decide) ?_
  refine W.lcmp hx hb dX5_tellSecret_82 ?_
  refine g_fi (v := 0) (by decide +kernel) ?_
  refine lv_if_le (tgt := 89) hx hb dX5_tellSecret_83 (by decide) (fun _ => ?_) (fun c9 => absurd c9 (by decide +kernel))
  refine lv_iinc (v := 2) (lv' := [(6, .int 2), (5, .int 0), (4, .int (((p1 / 10) / 10) / 10)), (0, .ref h0), (1, .int 2), (2, .int p1), (3, .int 3)]) hx hb dX5_tellSecret_89 hl (k := 0) rfl (by decide +kernel) (by decide) rfl ?_
  clear hl
  clear ls
  intro ls hl
  refine lv_goto (tgt := 66) hx hb dX5_tellSecret_92 (by decide) ?_
  refine lv_iload hx hb dX5_tellSecret_66 (lv_at hl 0 rfl) ?_
  refine lv_iconst (v := 3) hx hb dX5_tellSecret_68 (by decide) ?_
  refine lv_icmp_ge (tgt := 95) hx hb dX5_tellSecret_69 (by decide) (fun c9 => absurd c9 (by decide +kernel)) (fun _ => ?_)
  refine lv_aload_n hx hb dX5_tellSecret_72 rfl (lv_at hl 3 rfl) ?_
  refine gm_get (D := D) (ci := 5) (v := .ref h5) (C := RX5) (T := TX5) (N := 5) hx hb hg inlX5 hown hK.1 hP 2 rfl rfl 3 (by decide) tX5_3 (hg _ gw_141) rfl dX5_tellSecret_73 ?_
  refine lv_iload hx hb dX5_tellSecret_76 (lv_at hl 0 rfl) ?_
  refine g_al (wr := [(h4, .inr (8, [.ref h7, .int wp19001])), (h7, .inl (y 1, 18, .inr (.inl (vp_updL (vp_updL (vp_updL wf19002 ((14 : Int32).toNatClampNeg) ((p1 - p1 / 10 * 10).toInt64)) ((13 : Int32).toNatClampNeg) (((p1 / 10) - (p1 / 10) / 10 * 10).toInt64)) ((12 : Int32).toNatClampNeg) ((((p1 / 10) / 10) - ((p1 / 10) / 10) / 10 * 10).toInt64))))), (h0, .inr (5, [.ref h2, .ref h3, .ref h4, .ref h5, .int 0])), (h2, .inr (8, [.ref h12, .int 0]))]) (va_runV (As := [.int 2]) (rest := []) ⟨hx, hb, hml, hown, hg⟩ (k_X8_get_19 l D y aS H.size h5 h10 wp19003) (cwV 1 hg ggV_RX5_36_X8_get rfl rfl rfl (by decide +kernel) ⟨Nat.le_of_ble_eq_true rfl, Nat.le_of_ble_eq_true rfl⟩) (g_preV (q := (RX8, TX8, 2)) hK hP hD [4, 5] rfl (by decide) (ci := 8) (q0 := 4) rfl rfl) rfl rfl hl.1 rfl (lv_room (Nat.le_of_ble_eq_true rfl)) dX5_tellSecret_78 ⟨Nat.le_of_ble_eq_true rfl, Nat.le_of_ble_eq_true rfl⟩) hP hD hS hA [4, 5] [0, 1, 2, 3] rfl rfl (by decide) (by decide) ?_
  clear hP hD hS H locs
  refine fun r19011 u H locs hq hP hD hS => ?_
  subst hq
  replace hP : va_P D vwCl [(h4, .inr (8, [.ref h7, .int wp19001])), (h7, .inl (y 1, 18, .inr (.inl (vp_updL (vp_updL (vp_updL wf19002 ((14 : Int32).toNatClampNeg) ((p1 - p1 / 10 * 10).toInt64)) ((13 : Int32).toNatClampNeg) (((p1 / 10) - (p1 / 10) / 10 * 10).toInt64)) ((12 : Int32).toNatClampNeg) ((((p1 / 10) / 10) - ((p1 / 10) / 10) / 10 * 10).toInt64))))), (h0, .inr (5, [.ref h2, .ref h3, .ref h4, .ref h5, .int 0])), (h2, .inr (8, [.ref h12, .int 0])), (h5, .inr (8, [.ref h10, .int wp19003])), (h10, .inl (y 1, 3, .inr (.inl (vp_updL (fun _ => 0) ((2 : Int32).toNatClampNeg) 3))))] H := hP
  replace hD : va_D A [(h4, .inr (8, [.ref h7, .int wp19001])), (h7, .inl (y 1, 18, .inr (.inl (vp_updL (vp_updL (vp_updL wf19002 ((14 : Int32).toNatClampNeg) ((p1 - p1 / 10 * 10).toInt64)) ((13 : Int32).toNatClampNeg) (((p1 / 10) - (p1 / 10) / 10 * 10).toInt64)) ((12 : Int32).toNatClampNeg) ((((p1 / 10) / 10) - ((p1 / 10) / 10) / 10 * 10).toInt64))))), (h0, .inr (5, [.ref h2, .ref h3, .ref h4, .ref h5, .int 0])), (h2, .inr (8, [.ref h12, .int 0])), (h5, .inr (8, [.ref h10, .int wp19003])), (h10, .inl (y 1, 3, .inr (.inl (vp_updL (fun _ => 0) ((2 : Int32).toNatClampNeg) 3))))] := hD
  refine lv_lconst (v := 0) hx hb dX5_tellSecret_81 (by decide) ?_
  refine W.lcmp hx hb dX5_tellSecret_82 ?_
  refine g_fi (v := 1) (by decide +kernel) ?_
  refine lv_if_le (tgt := 89) hx hb dX5_tellSecret_83 (by decide) (fun c9 => absurd c9 (by decide +kernel)) (fun _ => ?_)
  refine lv_iinc (v := 1) (lv' := [(5, .int 1), (6, .int 2), (4, .int (((p1 / 10) / 10) / 10)), (0, .ref h0), (1, .int 2), (2, .int p1), (3, .int 3)]) hx hb dX5_tellSecret_86 hl (k := 1) rfl (by decide +kernel) (by decide) rfl ?_
  clear hl
  clear ls
  intro ls hl
  refine lv_iinc (v := 3) (lv' := [(6, .int 3), (5, .int 1), (4, .int (((p1 / 10) / 10) / 10)), (0, .ref h0), (1, .int 2), (2, .int p1), (3, .int 3)]) hx hb dX5_tellSecret_89 hl (k := 1) rfl (by decide +kernel) (by decide) rfl ?_
  clear hl
  clear ls
  intro ls hl
  refine lv_goto (tgt := 66) hx hb dX5_tellSecret_92 (by decide) ?_
  refine lv_iload hx hb dX5_tellSecret_66 (lv_at hl 0 rfl) ?_
  refine lv_iconst (v := 3) hx hb dX5_tellSecret_68 (by decide) ?_
  refine lv_icmp_ge (tgt := 95) hx hb dX5_tellSecret_69 (by decide) (fun _ => ?_) (fun c9 => absurd c9 (by decide +kernel))
  refine lv_iload hx hb dX5_tellSecret_95 (lv_at hl 1 rfl) ?_
  exact g_iret hx hb hr hlocks () (hP.sub [2, 0, 1, 4, 5, 3] rfl) (hD.sub [2, 0, 1, 4, 5, 3] (by decide +kernel) rfl) hS rfl rfl (Nat.le_of_ble_eq_true rfl) (Nat.le_of_ble_eq_true rfl) dX5_tellSecret_97
set_option maxRecDepth 100000 in
set_option maxHeartbeats 4000000 in
theorem k_X8_set_36 (l : Launch) (D : va_G) (y : Nat → ClassId) (aS : Nat → Nat) (sz : Nat) (h0 : Nat) (p1 : Int64) (h2 : Nat) (wp19017 : Int32) (wf19018 : Nat → Int64) : Met l yX8_set (Cond.code yX8_set cX8_set 4 none :: wsL_law) ({ frames := 0, cells := 0, slots := 0, locals := 0 } : Room) (va_Pc [.ref h0, .int 3, .long p1] (gI D y aS [(h0, .inr (8, [.ref h2, .int wp19017])), (h2, .inl (y 1, 18, .inr (.inl wf19018)))] sz)) (va_Qv (fun (u : Unit) => True) (fun u => gO D (va_A [(h0, .inr (8, [.ref h2, .int wp19017])), (h2, .inl (y 1, 18, .inr (.inl wf19018)))] sz) [(h0, .inr (8, [.ref h2, .int wp19017])), (h2, .inl (y 1, 18, .inr (.inl (vp_updL wf19018 ((3 : Int32).toNatClampNeg) p1))))]) (va_A [(h0, .inr (8, [.ref h2, .int wp19017])), (h2, .inl (y 1, 18, .inr (.inl wf19018)))] sz)) 0 0 (va_A [(h0, .inr (8, [.ref h2, .int wp19017])), (h2, .inl (y 1, 18, .inr (.inl wf19018)))] sz) := by
  refine g_of (by decide) (Nat.le_of_ble_eq_true rfl) ?_
  intro p e s m below meth c ls A hx hb hr hml hown hg hlocks hin hsz hK hP hD hS hA hAe hl
  rw [← hAe]
  replace hown : s.vm.findClass RX8 = some m.cls := hown
  replace hl : lv_has ls 4 [(0, .ref h0), (1, .int 3), (2, .long p1)] := hl
  refine lv_iload_n hx hb dX8_set_0 rfl (lv_at hl 1 rfl) ?_
  refine lv_if_lt (tgt := 20) hx hb dX8_set_1 (by decide) (fun c9 => absurd c9 (by decide +kernel)) (fun _ => ?_)
  refine lv_iload_n hx hb dX8_set_4 rfl (lv_at hl 1 rfl) ?_
  refine lv_aload_n hx hb dX8_set_5 rfl (lv_at hl 0 rfl) ?_
  refine gm_get (D := D) (ci := 8) (v := .ref h2) (C := RX8) (T := TX8) (N := 2) hx hb hg inlX8 hown hK.1 hP 0 rfl rfl 0 (by decide) tX8_0 (hg _ gw_98) rfl dX8_set_6 ?_
  refine va_alen hx hb hK.1 hP 1 1 rfl rfl (v := 18) rfl dX8_set_9 ?_
  refine lv_icmp_ge (tgt := 20) hx hb dX8_set_10 (by decide) (fun c9 => absurd c9 (by decide +kernel)) (fun _ => ?_)
  refine lv_aload_n hx hb dX8_set_13 rfl (lv_at hl 0 rfl) ?_
  refine gm_get (D := D) (ci := 8) (v := .ref h2) (C := RX8) (T := TX8) (N := 2) hx hb hg inlX8 hown hK.1 hP 0 rfl rfl 0 (by decide) tX8_0 (hg _ gw_98) rfl dX8_set_14 ?_
  refine lv_iload_n hx hb dX8_set_17 rfl (lv_at hl 1 rfl) ?_
  refine lv_lload_n hx hb dX8_set_18 rfl (lv_at hl 2 rfl) ?_
  refine va_last hx hb hK.1 hP hD hS 1 1 rfl rfl (by unfold vp_in; decide +kernel) dX8_set_19 ?_
  clear hP hD hS
  refine fun H locs (hP : va_P D vwCl [(h0, .inr (8, [.ref h2, .int wp19017])), (h2, .inl (y 1, 18, .inr (.inl (vp_updL wf19018 ((3 : Int32).toNatClampNeg) p1))))] H) (hD : va_D A [(h0, .inr (8, [.ref h2, .int wp19017])), (h2, .inl (y 1, 18, .inr (.inl (vp_updL wf19018 ((3 : Int32).toNatClampNeg) p1))))]) hS => ?_
  exact g_vret hx hb hr hlocks () hP hD hS trivial (Nat.le_of_ble_eq_true rfl) (Nat.le_of_ble_eq_true rfl) dX8_set_20
set_option maxRecDepth 100000 in
set_option maxHeartbeats 4000000 in
theorem k_X8_get_20 (l : Launch) (D : va_G) (y : Nat → ClassId) (aS : Nat → Nat) (sz : Nat) (h0 : Nat) (h1 : Nat) (wp19025 : Int32) : Met l yX8_get (Cond.code yX8_get cX8_get 2 (some .long) :: wsL_law) ({ frames := 0, cells := 0, slots := 0, locals := 0 } : Room) (va_Pc [.ref h0, .int 0] (gI D y aS [(h0, .inr (8, [.ref h1, .int wp19025])), (h1, .inl (y 1, 3, .inr (.inl (vp_updL (fun _ => 0) ((0 : Int32).toNatClampNeg) 4))))] sz)) (va_Ql (fun (r : Int64) (u : Unit) => 4 = r) (fun u => gO D (va_A [(h0, .inr (8, [.ref h1, .int wp19025])), (h1, .inl (y 1, 3, .inr (.inl (vp_updL (fun _ => 0) ((0 : Int32).toNatClampNeg) 4))))] sz) [(h0, .inr (8, [.ref h1, .int wp19025])), (h1, .inl (y 1, 3, .inr (.inl (vp_updL (fun _ => 0) ((0 : Int32).toNatClampNeg) 4))))]) (va_A [(h0, .inr (8, [.ref h1, .int wp19025])), (h1, .inl (y 1, 3, .inr (.inl (vp_updL (fun _ => 0) ((0 : Int32).toNatClampNeg) 4))))] sz)) 0 0 (va_A [(h0, .inr (8, [.ref h1, .int wp19025])), (h1, .inl (y 1, 3, .inr (.inl (vp_updL (fun _ => 0) ((0 : Int32).toNatClampNeg) 4))))] sz) := by
  refine g_of (by decide) (Nat.le_of_ble_eq_true rfl) ?_
  intro p e s m below meth c ls A hx hb hr hml hown hg hlocks hin hsz hK hP hD hS hA hAe hl
  rw [← hAe]
  replace hown : s.vm.findClass RX8 = some m.cls := hown
  replace hl : lv_has ls 2 [(0, .ref h0), (1, .int 0)] := hl
  refine lv_iload_n hx hb dX8_get_0 rfl (lv_at hl 1 rfl) ?_
  refine lv_if_lt (tgt := 22) hx hb dX8_get_1 (by decide) (fun c9 => absurd c9 (by decide +kernel)) (fun _ => ?_)
  refine lv_iload_n hx hb dX8_get_4 rfl (lv_at hl 1 rfl) ?_
  refine lv_aload_n hx hb dX8_get_5 rfl (lv_at hl 0 rfl) ?_
  refine gm_get (D := D) (ci := 8) (v := .ref h1) (C := RX8) (T := TX8) (N := 2) hx hb hg inlX8 hown hK.1 hP 0 rfl rfl 0 (by decide) tX8_0 (hg _ gw_98) rfl dX8_get_6 ?_
  refine va_alen hx hb hK.1 hP 1 1 rfl rfl (v := 3) rfl dX8_get_9 ?_
  refine lv_icmp_ge (tgt := 22) hx hb dX8_get_10 (by decide) (fun c9 => absurd c9 (by decide +kernel)) (fun _ => ?_)
  refine lv_aload_n hx hb dX8_get_13 rfl (lv_at hl 0 rfl) ?_
  refine gm_get (D := D) (ci := 8) (v := .ref h1) (C := RX8) (T := TX8) (N := 2) hx hb hg inlX8 hown hK.1 hP 0 rfl rfl 0 (by decide) tX8_0 (hg _ gw_98) rfl dX8_get_14 ?_
  refine lv_iload_n hx hb dX8_get_17 rfl (lv_at hl 1 rfl) ?_
  refine va_lald hx hb hK.1 hP 1 1 rfl rfl (by unfold vp_in; decide +kernel) dX8_get_18 ?_
  refine g_fj (v := 4) (by rfl) ?_
  refine lv_goto (tgt := 23) hx hb dX8_get_19 (by decide) ?_
  exact g_lret hx hb hr hlocks () hP hD hS rfl (Nat.le_of_ble_eq_true rfl) (Nat.le_of_ble_eq_true rfl) dX8_get_23
set_option maxRecDepth 100000 in
set_option maxHeartbeats 4000000 in
theorem k_X8_get_21 (l : Launch) (D : va_G) (y : Nat → ClassId) (aS : Nat → Nat) (sz : Nat) (h0 : Nat) (h1 : Nat) (wp19027 : Int32) : Met l yX8_get (Cond.code yX8_get cX8_get 2 (some .long) :: wsL_law) ({ frames := 0, cells := 0, slots := 0, locals := 0 } : Room) (va_Pc [.ref h0, .int 1] (gI D y aS [(h0, .inr (8, [.ref h1, .int wp19027])), (h1, .inl (y 1, 3, .inr (.inl (vp_updL (fun _ => 0) ((0 : Int32).toNatClampNeg) 4))))] sz)) (va_Ql (fun (r : Int64) (u : Unit) => 0 = r) (fun u => gO D (va_A [(h0, .inr (8, [.ref h1, .int wp19027])), (h1, .inl (y 1, 3, .inr (.inl (vp_updL (fun _ => 0) ((0 : Int32).toNatClampNeg) 4))))] sz) [(h0, .inr (8, [.ref h1, .int wp19027])), (h1, .inl (y 1, 3, .inr (.inl (vp_updL (fun _ => 0) ((0 : Int32).toNatClampNeg) 4))))]) (va_A [(h0, .inr (8, [.ref h1, .int wp19027])), (h1, .inl (y 1, 3, .inr (.inl (vp_updL (fun _ => 0) ((0 : Int32).toNatClampNeg) 4))))] sz)) 0 0 (va_A [(h0, .inr (8, [.ref h1, .int wp19027])), (h1, .inl (y 1, 3, .inr (.inl (vp_updL (fun _ => 0) ((0 : Int32).toNatClampNeg) 4))))] sz) := by
  refine g_of (by decide) (Nat.le_of_ble_eq_true rfl) ?_
  intro p e s m below meth c ls A hx hb hr hml hown hg hlocks hin hsz hK hP hD hS hA hAe hl
  rw [← hAe]
  replace hown : s.vm.findClass RX8 = some m.cls := hown
  replace hl : lv_has ls 2 [(0, .ref h0), (1, .int 1)] := hl
  refine lv_iload_n hx hb dX8_get_0 rfl (lv_at hl 1 rfl) ?_
  refine lv_if_lt (tgt := 22) hx hb dX8_get_1 (by decide) (fun c9 => absurd c9 (by decide +kernel)) (fun _ => ?_)
  refine lv_iload_n hx hb dX8_get_4 rfl (lv_at hl 1 rfl) ?_
  refine lv_aload_n hx hb dX8_get_5 rfl (lv_at hl 0 rfl) ?_
  refine gm_get (D := D) (ci := 8) (v := .ref h1) (C := RX8) (T := TX8) (N := 2) hx hb hg inlX8 hown hK.1 hP 0 rfl rfl 0 (by decide) tX8_0 (hg _ gw_98) rfl dX8_get_6 ?_
  refine va_alen hx hb hK.1 hP 1 1 rfl rfl (v := 3) rfl dX8_get_9 ?_
  refine lv_icmp_ge (tgt := 22) hx hb dX8_get_10 (by decide) (fun c9 => absurd c9 (by decide +kernel)) (fun _ => ?_)
  refine lv_aload_n hx hb dX8_get_13 rfl (lv_at hl 0 rfl) ?_
  refine gm_get (D := D) (ci := 8) (v := .ref h1) (C := RX8) (T := TX8) (N := 2) hx hb hg inlX8 hown hK.1 hP 0 rfl rfl 0 (by decide) tX8_0 (hg _ gw_98) rfl dX8_get_14 ?_
  refine lv_iload_n hx hb dX8_get_17 rfl (lv_at hl 1 rfl) ?_
  refine va_lald hx hb hK.1 hP 1 1 rfl rfl (by unfold vp_in; decide +kernel) dX8_get_18 ?_
  refine g_fj (v := 0) (by rfl) ?_
  refine lv_goto (tgt := 23) hx hb dX8_get_19 (by decide) ?_
  exact g_lret hx hb hr hlocks () hP hD hS rfl (Nat.le_of_ble_eq_true rfl) (Nat.le_of_ble_eq_true rfl) dX8_get_23
set_option maxRecDepth 100000 in
set_option maxHeartbeats 4000000 in
theorem k_X8_get_22 (l : Launch) (D : va_G) (y : Nat → ClassId) (aS : Nat → Nat) (sz : Nat) (h0 : Nat) (h1 : Nat) (wp19029 : Int32) : Met l yX8_get (Cond.code yX8_get cX8_get 2 (some .long) :: wsL_law) ({ frames := 0, cells := 0, slots := 0, locals := 0 } : Room) (va_Pc [.ref h0, .int 2] (gI D y aS [(h0, .inr (8, [.ref h1, .int wp19029])), (h1, .inl (y 1, 3, .inr (.inl (vp_updL (fun _ => 0) ((0 : Int32).toNatClampNeg) 4))))] sz)) (va_Ql (fun (r : Int64) (u : Unit) => 0 = r) (fun u => gO D (va_A [(h0, .inr (8, [.ref h1, .int wp19029])), (h1, .inl (y 1, 3, .inr (.inl (vp_updL (fun _ => 0) ((0 : Int32).toNatClampNeg) 4))))] sz) [(h0, .inr (8, [.ref h1, .int wp19029])), (h1, .inl (y 1, 3, .inr (.inl (vp_updL (fun _ => 0) ((0 : Int32).toNatClampNeg) 4))))]) (va_A [(h0, .inr (8, [.ref h1, .int wp19029])), (h1, .inl (y 1, 3, .inr (.inl (vp_updL (fun _ => 0) ((0 : Int32).toNatClampNeg) 4))))] sz)) 0 0 (va_A [(h0, .inr (8, [.ref h1, .int wp19029])), (h1, .inl (y 1, 3, .inr (.inl (vp_updL (fun _ => 0) ((0 : Int32).toNatClampNeg) 4))))] sz) := by
  refine g_of (by decide) (Nat.le_of_ble_eq_true rfl) ?_
  intro p e s m below meth c ls A hx hb hr hml hown hg hlocks hin hsz hK hP hD hS hA hAe hl
  rw [← hAe]
  replace hown : s.vm.findClass RX8 = some m.cls := hown
  replace hl : lv_has ls 2 [(0, .ref h0), (1, .int 2)] := hl
  refine lv_iload_n hx hb dX8_get_0 rfl (lv_at hl 1 rfl) ?_
  refine lv_if_lt (tgt := 22) hx hb dX8_get_1 (by decide) (fun c9 => absurd c9 (by decide +kernel)) (fun _ => ?_)
  refine lv_iload_n hx hb dX8_get_4 rfl (lv_at hl 1 rfl) ?_
  refine lv_aload_n hx hb dX8_get_5 rfl (lv_at hl 0 rfl) ?_
  refine gm_get (D := D) (ci := 8) (v := .ref h1) (C := RX8) (T := TX8) (N := 2) hx hb hg inlX8 hown hK.1 hP 0 rfl rfl 0 (by decide) tX8_0 (hg _ gw_98) rfl dX8_get_6 ?_
  refine va_alen hx hb hK.1 hP 1 1 rfl rfl (v := 3) rfl dX8_get_9 ?_
  refine lv_icmp_ge (tgt := 22) hx hb dX8_get_10 (by decide) (fun c9 => absurd c9 (by decide +kernel)) (fun _ => ?_)
  refine lv_aload_n hx hb dX8_get_13 rfl (lv_at hl 0 rfl) ?_
  refine gm_get (D := D) (ci := 8) (v := .ref h1) (C := RX8) (T := TX8) (N := 2) hx hb hg inlX8 hown hK.1 hP 0 rfl rfl 0 (by decide) tX8_0 (hg _ gw_98) rfl dX8_get_14 ?_
  refine lv_iload_n hx hb dX8_get_17 rfl (lv_at hl 1 rfl) ?_
  refine va_lald hx hb hK.1 hP 1 1 rfl rfl (by unfold vp_in; decide +kernel) dX8_get_18 ?_
  refine g_fj (v := 0) (by rfl) ?_
  refine lv_goto (tgt := 23) hx hb dX8_get_19 (by decide) ?_
  exact g_lret hx hb hr hlocks () hP hD hS rfl (Nat.le_of_ble_eq_true rfl) (Nat.le_of_ble_eq_true rfl) dX8_get_23
set_option maxRecDepth 100000 in
set_option maxHeartbeats 4000000 in
theorem k_X5_tellSecret_6 (l : Launch) (D : va_G) (y : Nat → ClassId) (aS : Nat → Nat) (sz : Nat) (h0 : Nat) (p1 : Int32) (h2 : Nat) (h3 : Nat) (h4 : Nat) (h5 : Nat) (wp19031 : Int32) (h7 : Nat) (wp19032 : Int32) (wf19033 : Nat → Int64) (h10 : Nat) (wp19034 : Int32) (h12 : Nat) : Met l yX5_tellSecret (Cond.code yX5_tellSecret cX5_tellSecret 7 (some .int) :: wsL_law) ({ frames := 1, cells := 0, slots := 0, locals := 23 } : Room) (va_Pc [.ref h0, .int 0, .int p1, .int 4] (gI D y aS [(h0, .inr (5, [.ref h2, .ref h3, .ref h4, .ref h5, .int wp19031])), (h4, .inr (8, [.ref h7, .int wp19032])), (h7, .inl (y 1, 18, .inr (.inl wf19033))), (h5, .inr (8, [.ref h10, .int wp19034])), (h10, .inl (y 1, 3, .inr (.inl (fun _ => 0)))), (h2, .inr (8, [.ref h12, .int 0]))] sz)) (va_Qi (fun (r : Int32) (u : Unit) => 1 = r) (fun u => gO D (va_A [(h0, .inr (5, [.ref h2, .ref h3, .ref h4, .ref h5, .int wp19031])), (h4, .inr (8, [.ref h7, .int wp19032])), (h7, .inl (y 1, 18, .inr (.inl wf19033))), (h5, .inr (8, [.ref h10, .int wp19034])), (h10, .inl (y 1, 3, .inr (.inl (fun _ => 0)))), (h2, .inr (8, [.ref h12, .int 0]))] sz) [(h0, .inr (5, [.ref h2, .ref h3, .ref h4, .ref h5, .int 0])), (h4, .inr (8, [.ref h7, .int wp19032])), (h7, .inl (y 1, 18, .inr (.inl (vp_updL (vp_updL (vp_updL (vp_updL wf19033 ((3 : Int32).toNatClampNeg) ((p1 - p1 / 10 * 10).toInt64)) ((2 : Int32).toNatClampNeg) (((p1 / 10) - (p1 / 10) / 10 * 10).toInt64)) ((1 : Int32).toNatClampNeg) ((((p1 / 10) / 10) - ((p1 / 10) / 10) / 10 * 10).toInt64)) ((0 : Int32).toNatClampNeg) (((((p1 / 10) / 10) / 10) - (((p1 / 10) / 10) / 10) / 10 * 10).toInt64))))), (h5, .inr (8, [.ref h10, .int wp19034])), (h10, .inl (y 1, 3, .inr (.inl (vp_updL (fun _ => 0) ((0 : Int32).toNatClampNeg) 4)))), (h2, .inr (8, [.ref h12, .int 0]))]) (va_A [(h0, .inr (5, [.ref h2, .ref h3, .ref h4, .ref h5, .int wp19031])), (h4, .inr (8, [.ref h7, .int wp19032])), (h7, .inl (y 1, 18, .inr (.inl wf19033))), (h5, .inr (8, [.ref h10, .int wp19034])), (h10, .inl (y 1, 3, .inr (.inl (fun _ => 0)))), (h2, .inr (8, [.ref h12, .int 0]))] sz)) 0 0 (va_A [(h0, .inr (5, [.ref h2, .ref h3, .ref h4, .ref h5, .int wp19031])), (h4, .inr (8, [.ref h7, .int wp19032])), (h7, .inl (y 1, 18, .inr (.inl wf19033))), (h5, .inr (8, [.ref h10, .int wp19034])), (h10, .inl (y 1, 3, .inr (.inl (fun _ => 0)))), (h2, .inr (8, [.ref h12, .int 0]))] sz) := by
  refine g_of (by decide) (Nat.le_of_ble_eq_true rfl) ?_
  intro p e s m below meth c ls A hx hb hr hml hown hg hlocks hin hsz hK hP hD hS hA hAe hl
  rw [← hAe]
  replace hown : s.vm.findClass RX5 = some m.cls := hown
  replace hl : lv_has ls 7 [(0, .ref h0), (1, .int 0), (2, .int p1), (3, .int 4)] := hl
  refine lv_iload_n hx hb dX5_tellSecret_0 rfl (lv_at hl 2 rfl) ?_
  refine lv_istore (lv' := [(4, .int p1), (0, .ref h0), (1, .int 0), (2, .int p1), (3, .int 4)]) hx hb dX5_tellSecret_1 hl (by decide) rfl ?_
  clear hl
  clear ls
  intro ls hl
  refine lv_iload_n hx hb dX5_tellSecret_3 rfl (lv_at hl 4 rfl) ?_
  refine lv_iconst (v := 1) hx hb dX5_tellSecret_4 (by decide) ?_
  refine lv_isub hx hb dX5_tellSecret_5 ?_
  refine g_fi (v := 3) (by decide +kernel) ?_
  refine lv_istore (lv' := [(5, .int 3), (4, .int p1), (0, .ref h0), (1, .int 0), (2, .int p1), (3, .int 4)]) hx hb dX5_tellSecret_6 hl (by decide) rfl ?_
  clear hl
  clear ls
  intro ls hl
  refine lv_iload hx hb dX5_tellSecret_8 (lv_at hl 0 rfl) ?_
  refine lv_if_lt (tgt := 46) hx hb dX5_tellSecret_10 (by decide) (fun c9 => absurd c9 (by decide +kernel)) (fun _ => ?_)
  refine lv_aload_n hx hb dX5_tellSecret_13 rfl (lv_at hl 2 rfl) ?_
  refine gm_get (D := D) (ci := 5) (v := .ref h4) (C := RX5) (T := TX5) (N := 5) hx hb hg inlX5 hown hK.1 hP 0 rfl rfl 2 (by decide) tX5_2 (hg _ gw_140) rfl dX5_tellSecret_14 ?_
  refine lv_iload_n hx hb dX5_tellSecret_17 rfl (lv_at hl 3 rfl) ?_
  refine lv_bipush (v := 6) hx hb dX5_tellSecret_18 (by decide +kernel) ?_
  refine lv_imul hx hb dX5_tellSecret_20 ?_
  refine g_fi (v := 0) (by decide +kernel) ?_
  refine lv_iload hx hb dX5_tellSecret_21 (lv_at hl 0 rfl) ?_
  refine lv_iadd hx hb dX5_tellSecret_23 ?_
  refine g_fi (v := 3) (by decide +kernel) ?_
  refine lv_iload hx hb dX5_tellSecret_24 (lv_at hl 1 rfl) ?_
  refine lv_bipush (v := 10) hx hb dX5_tellSecret_26 (by decide +kernel) ?_
  refine lv_irem hx hb dX5_tellSecret_28 (by decide +kernel) ?_
  refine lv_i2l (v := ((p1 - p1 / 10 * 10).toInt64)) hx hb dX5_tellSecret_29 rfl ?_
  refine g_av (wr := [(h0, .inr (5, [.ref h2, .ref h3, .ref h4, .ref h5, .int wp19031])), (h5, .inr (8, [.ref h10, .int wp19034])), (h10, .inl (y 1, 3, .inr (.inl (fun _ => 0)))), (h2, .inr (8, [.ref h12, .int 0]))]) (va_runV (As := [.int 3, .long ((p1 - p1 / 10 * 10).toInt64)]) (rest := []) ⟨hx, hb, hml, hown, hg⟩ (k_X8_set_36 l D y aS s.heap.size h4 ((p1 - p1 / 10 * 10).toInt64) h7 wp19032 wf19033) (cwV 2 hg ggV_RX5_29_X8_set rfl rfl rfl (by decide +kernel) ⟨Nat.le_of_ble_eq_true rfl, Nat.le_of_ble_eq_true rfl⟩) (g_preV (q := (RX8, TX8, 2)) hK hP hD [1, 2] rfl (by decide) (ci := 8) (q0 := 1) rfl rfl) rfl rfl hl.1 rfl (lv_room (Nat.le_of_ble_eq_true rfl)) dX5_tellSecret_30 ⟨Nat.le_of_ble_eq_true rfl, Nat.le_of_ble_eq_true rfl⟩) hP hD hS hA [1, 2] [0, 3, 4, 5] rfl rfl (by decide) (by decide) ?_
  clear hP hD hS
  refine fun u H locs hq hP hD hS => ?_
  replace hP : va_P D vwCl [(h0, .inr (5, [.ref h2, .ref h3, .ref h4, .ref h5, .int wp19031])), (h5, .inr (8, [.ref h10, .int wp19034])), (h10, .inl (y 1, 3, .inr (.inl (fun _ => 0)))), (h2, .inr (8, [.ref h12, .int 0])), (h4, .inr (8, [.ref h7, .int wp19032])), (h7, .inl (y 1, 18, .inr (.inl (vp_updL wf19033 ((3 : Int32).toNatClampNeg) ((p1 - p1 / 10 * 10).toInt64)))))] H := hP
  replace hD : va_D A [(h0, .inr (5, [.ref h2, .ref h3, .ref h4, .ref h5, .int wp19031])), (h5, .inr (8, [.ref h10, .int wp19034])), (h10, .inl (y 1, 3, .inr (.inl (fun _ => 0)))), (h2, .inr (8, [.ref h12, .int 0])), (h4, .inr (8, [.ref h7, .int wp19032])), (h7, .inl (y 1, 18, .inr (.inl (vp_updL wf19033 ((3 : Int32).toNatClampNeg) ((p1 - p1 / 10 * 10).toInt64)))))] := hD
  refine lv_iload hx hb dX5_tellSecret_33 (lv_at hl 1 rfl) ?_
  refine lv_bipush (v := 10) hx hb dX5_tellSecret_35 (by decide +kernel) ?_
  refine lv_idiv hx hb dX5_tellSecret_37 (by decide +kernel) ?_
  refine lv_istore (lv' := [(4, .int (p1 / 10)), (5, .int 3), (0, .ref h0), (1, .int 0), (2, .int p1), (3, .int 4)]) hx hb dX5_tellSecret_38 hl (by decide) rfl ?_
  clear hl
  clear ls
  intro ls hl
  refine lv_iinc (v := 2) (lv' := [(5, .int 2), (4, .int (p1 / 10)), (0, .ref h0), (1, .int 0), (2, .int p1), (3, .int 4)]) hx hb dX5_tellSecret_40 hl (k := 1) rfl (by decide +kernel) (by decide) rfl ?_
  clear hl
  clear ls
  intro ls hl
  refine lv_goto (tgt := 8) hx hb dX5_tellSecret_43 (by decide) ?_
  refine lv_iload hx hb dX5_tellSecret_8 (lv_at hl 0 rfl) ?_
  refine lv_if_lt (tgt := 46) hx hb dX5_tellSecret_10 (by decide) (fun c9 => absurd c9 (by decide +kernel)) (fun _ => ?_)
  refine lv_aload_n hx hb dX5_tellSecret_13 rfl (lv_at hl 2 rfl) ?_
  refine gm_get (D := D) (ci := 5) (v := .ref h4) (C := RX5) (T := TX5) (N := 5) hx hb hg inlX5 hown hK.1 hP 0 rfl rfl 2 (by decide) tX5_2 (hg _ gw_140) rfl dX5_tellSecret_14 ?_
  refine lv_iload_n hx hb dX5_tellSecret_17 rfl (lv_at hl 3 rfl) ?_
  refine lv_bipush (v := 6) hx hb dX5_tellSecret_18 (by decide +kernel) ?_
  refine lv_imul hx hb dX5_tellSecret_20 ?_
  refine g_fi (v := 0) (by decide +kernel) ?_
  refine lv_iload hx hb dX5_tellSecret_21 (lv_at hl 0 rfl) ?_
  refine lv_iadd hx hb dX5_tellSecret_23 ?_
  refine g_fi (v := 2) (by decide +kernel) ?_
  refine lv_iload hx hb dX5_tellSecret_24 (lv_at hl 1 rfl) ?_
  refine lv_bipush (v := 10) hx hb dX5_tellSecret_26 (by decide +kernel) ?_
  refine lv_irem hx hb dX5_tellSecret_28 (by decide +kernel) ?_
  refine lv_i2l (v := (((p1 / 10) - (p1 / 10) / 10 * 10).toInt64)) hx hb dX5_tellSecret_29 rfl ?_
  refine g_av (wr := [(h0, .inr (5, [.ref h2, .ref h3, .ref h4, .ref h5, .int wp19031])), (h5, .inr (8, [.ref h10, .int wp19034])), (h10, .inl (y 1, 3, .inr (.inl (fun _ => 0)))), (h2, .inr (8, [.ref h12, .int 0]))]) (va_runV (As := [.int 2, .long (((p1 / 10) - (p1 / 10) / 10 * 10).toInt64)]) (rest := []) ⟨hx, hb, hml, hown, hg⟩ (k_X8_set_33 l D y aS H.size h4 (((p1 / 10) - (p1 / 10) / 10 * 10).toInt64) h7 wp19032 (vp_updL wf19033 ((3 : Int32).toNatClampNeg) ((p1 - p1 / 10 * 10).toInt64))) (cwV 2 hg ggV_RX5_29_X8_set rfl rfl rfl (by decide +kernel) ⟨Nat.le_of_ble_eq_true rfl, Nat.le_of_ble_eq_true rfl⟩) (g_preV (q := (RX8, TX8, 2)) hK hP hD [4, 5] rfl (by decide) (ci := 8) (q0 := 4) rfl rfl) rfl rfl hl.1 rfl (lv_room (Nat.le_of_ble_eq_true rfl)) dX5_tellSecret_30 ⟨Nat.le_of_ble_eq_true rfl, Nat.le_of_ble_eq_true rfl⟩) hP hD hS hA [4, 5] [0, 1, 2, 3] rfl rfl (by decide) (by decide) ?_
  clear hP hD hS H locs
  refine fun u H locs hq hP hD hS => ?_
  replace hP : va_P D vwCl [(h0, .inr (5, [.ref h2, .ref h3, .ref h4, .ref h5, .int wp19031])), (h5, .inr (8, [.ref h10, .int wp19034])), (h10, .inl (y 1, 3, .inr (.inl (fun _ => 0)))), (h2, .inr (8, [.ref h12, .int 0])), (h4, .inr (8, [.ref h7, .int wp19032])), (h7, .inl (y 1, 18, .inr (.inl (vp_updL (vp_updL wf19033 ((3 : Int32).toNatClampNeg) ((p1 - p1 / 10 * 10).toInt64)) ((2 : Int32).toNatClampNeg) (((p1 / 10) - (p1 / 10) / 10 * 10).toInt64)))))] H := hP
  replace hD : va_D A [(h0, .inr (5, [.ref h2, .ref h3, .ref h4, .ref h5, .int wp19031])), (h5, .inr (8, [.ref h10, .int wp19034])), (h10, .inl (y 1, 3, .inr (.inl (fun _ => 0)))), (h2, .inr (8, [.ref h12, .int 0])), (h4, .inr (8, [.ref h7, .int wp19032])), (h7, .inl (y 1, 18, .inr (.inl (vp_updL (vp_updL wf19033 ((3 : Int32).toNatClampNeg) ((p1 - p1 / 10 * 10).toInt64)) ((2 : Int32).toNatClampNeg) (((p1 / 10) - (p1 / 10) / 10 * 10).toInt64)))))] := hD
  refine lv_iload hx hb dX5_tellSecret_33 (lv_at hl 1 rfl) ?_
  refine lv_bipush (v := 10) hx hb dX5_tellSecret_35 (by decide +kernel) ?_
  refine lv_idiv hx hb dX5_tellSecret_37 (by decide +kernel) ?_
  refine lv_istore (lv' := [(4, .int ((p1 / 10) / 10)), (5, .int 2), (0, .ref h0), (1, .int 0), (2, .int p1), (3, .int 4)]) hx hb dX5_tellSecret_38 hl (by decide) rfl ?_
  clear hl
  clear ls
  intro ls hl
  refine lv_iinc (v := 1) (lv' := [(5, .int 1), (4, .int ((p1 / 10) / 10)), (0, .ref h0), (1, .int 0), (2, .int p1), (3, .int 4)]) hx hb dX5_tellSecret_40 hl (k := 1) rfl (by decide +kernel) (by decide) rfl ?_
  clear hl
  clear ls
  intro ls hl
  refine lv_goto (tgt := 8) hx hb dX5_tellSecret_43 (by decide) ?_
  refine lv_iload hx hb dX5_tellSecret_8 (lv_at hl 0 rfl) ?_
  refine lv_if_lt (tgt := 46) hx hb dX5_tellSecret_10 (by decide) (fun c9 => absurd c9 (by decide +kernel)) (fun _ => ?_)
  refine lv_aload_n hx hb dX5_tellSecret_13 rfl (lv_at hl 2 rfl) ?_
  refine gm_get (D := D) (ci := 5) (v := .ref h4) (C := RX5) (T := TX5) (N := 5) hx hb hg inlX5 hown hK.1 hP 0 rfl rfl 2 (by decide) tX5_2 (hg _ gw_140) rfl dX5_tellSecret_14 ?_
  refine lv_iload_n hx hb dX5_tellSecret_17 rfl (lv_at hl 3 rfl) ?_
  refine lv_bipush (v := 6) hx hb dX5_tellSecret_18 (by decide +kernel) ?_
  refine lv_imul hx hb dX5_tellSecret_20 ?_
  refine g_fi (v := 0) (by decide +kernel) ?_
  refine lv_iload hx hb dX5_tellSecret_21 (lv_at hl 0 rfl) ?_
  refine lv_iadd hx hb dX5_tellSecret_23 ?_
  refine g_fi (v := 1) (by decide +kernel) ?_
  refine lv_iload hx hb dX5_tellSecret_24 (lv_at hl 1 rfl) ?_
  refine lv_bipush (v := 10) hx hb dX5_tellSecret_26 (by decide +kernel) ?_
  refine lv_irem hx hb dX5_tellSecret_28 (by decide +kernel) ?_
  refine lv_i2l (v := ((((p1 / 10) / 10) - ((p1 / 10) / 10) / 10 * 10).toInt64)) hx hb dX5_tellSecret_29 rfl ?_
  refine g_av (wr := [(h0, .inr (5, [.ref h2, .ref h3, .ref h4, .ref h5, .int wp19031])), (h5, .inr (8, [.ref h10, .int wp19034])), (h10, .inl (y 1, 3, .inr (.inl (fun _ => 0)))), (h2, .inr (8, [.ref h12, .int 0]))]) (va_runV (As := [.int 1, .long ((((p1 / 10) / 10) - ((p1 / 10) / 10) / 10 * 10).toInt64)]) (rest := []) ⟨hx, hb, hml, hown, hg⟩ (k_X8_set_27 l D y aS H.size h4 ((((p1 / 10) / 10) - ((p1 / 10) / 10) / 10 * 10).toInt64) h7 wp19032 (vp_updL (vp_updL wf19033 ((3 : Int32).toNatClampNeg) ((p1 - p1 / 10 * 10).toInt64)) ((2 : Int32).toNatClampNeg) (((p1 / 10) - (p1 / 10) / 10 * 10).toInt64))) (cwV 2 hg ggV_RX5_29_X8_set rfl rfl rfl (by decide +kernel) ⟨Nat.le_of_ble_eq_true rfl, Nat.le_of_ble_eq_true rfl⟩) (g_preV (q := (RX8, TX8, 2)) hK hP hD [4, 5] rfl (by decide) (ci := 8) (q0 := 4) rfl rfl) rfl rfl hl.1 rfl (lv_room (Nat.le_of_ble_eq_true rfl)) dX5_tellSecret_30 ⟨Nat.le_of_ble_eq_true rfl, Nat.le_of_ble_eq_true rfl⟩) hP hD hS hA [4, 5] [0, 1, 2, 3] rfl rfl (by decide) (by decide) ?_
  clear hP hD hS H locs
  refine fun u H locs hq hP hD hS => ?_
  replace hP : va_P D vwCl [(h0, .inr (5, [.ref h2, .ref h3, .ref h4, .ref h5, .int wp19031])), (h5, .inr (8, [.ref h10, .int wp19034])), (h10, .inl (y 1, 3, .inr (.inl (fun _ => 0)))), (h2, .inr (8, [.ref h12, .int 0])), (h4, .inr (8, [.ref h7, .int wp19032])), (h7, .inl (y 1, 18, .inr (.inl (vp_updL (vp_updL (vp_updL wf19033 ((3 : Int32).toNatClampNeg) ((p1 - p1 / 10 * 10).toInt64)) ((2 : Int32).toNatClampNeg) (((p1 / 10) - (p1 / 10) / 10 * 10).toInt64)) ((1 : Int32).toNatClampNeg) ((((p1 / 10) / 10) - ((p1 / 10) / 10) / 10 * 10).toInt64)))))] H := hP
  replace hD : va_D A [(h0, .inr (5, [.ref h2, .ref h3, .ref h4, .ref h5, .int wp19031])), (h5, .inr (8, [.ref h10, .int wp19034])), (h10, .inl (y 1, 3, .inr (.inl (fun _ => 0)))), (h2, .inr (8, [.ref h12, .int 0])), (h4, .inr (8, [.ref h7, .int wp19032])), (h7, .inl (y 1, 18, .inr (.inl (vp_updL (vp_updL (vp_updL wf19033 ((3 : Int32).toNatClampNeg) ((p1 - p1 / 10 * 10).toInt64)) ((2 : Int32).toNatClampNeg) (((p1 / 10) - (p1 / 10) / 10 * 10).toInt64)) ((1 : Int32).toNatClampNeg) ((((p1 / 10) / 10) - ((p1 / 10) / 10) / 10 * 10).toInt64)))))] := hD
  refine lv_iload hx hb dX5_tellSecret_33 (lv_at hl 1 rfl) ?_
  refine lv_bipush (v := 10) hx hb dX5_tellSecret_35 (by decide +kernel) ?_
  refine lv_idiv hx hb dX5_tellSecret_37 (by decide +kernel) ?_
  refine lv_istore (lv' := [(4, .int (((p1 / 10) / 10) / 10)), (5, .int 1), (0, .ref h0), (1, .int 0), (2, .int p1), (3, .int 4)]) hx hb dX5_tellSecret_38 hl (by decide) rfl ?_
  clear hl
  clear ls
  intro ls hl
  refine lv_iinc (v := 0) (lv' := [(5, .int 0), (4, .int (((p1 / 10) / 10) / 10)), (0, .ref h0), (1, .int 0), (2, .int p1), (3, .int 4)]) hx hb dX5_tellSecret_40 hl (k := 1) rfl (by decide +kernel) (by decide) rfl ?_
  clear hl
  clear ls
  intro ls hl
  refine lv_goto (tgt := 8) hx hb dX5_tellSecret_43 (by decide) ?_
  refine lv_iload hx hb dX5_tellSecret_8 (lv_at hl 0 rfl) ?_
  refine lv_if_lt (tgt := 46) hx hb dX5_tellSecret_10 (by decide) (fun c9 => absurd c9 (by decide +kernel)) (fun _ => ?_)
  refine lv_aload_n hx hb dX5_tellSecret_13 rfl (lv_at hl 2 rfl) ?_
  refine gm_get (D := D) (ci := 5) (v := .ref h4) (C := RX5) (T := TX5) (N := 5) hx hb hg inlX5 hown hK.1 hP 0 rfl rfl 2 (by decide) tX5_2 (hg _ gw_140) rfl dX5_tellSecret_14 ?_
  refine lv_iload_n hx hb dX5_tellSecret_17 rfl (lv_at hl 3 rfl) ?_
  refine lv_bipush (v := 6) hx hb dX5_tellSecret_18 (by decide +kernel) ?_
  refine lv_imul hx hb dX5_tellSecret_20 ?_
  refine g_fi (v := 0) (by decide +kernel) ?_
  refine lv_iload hx hb dX5_tellSecret_21 (lv_at hl 0 rfl) ?_
  refine lv_iadd hx hb dX5_tellSecret_23 ?_
  refine g_fi (v := 0) (by decide +kernel) ?_
  refine lv_iload hx hb dX5_tellSecret_24 (lv_at hl 1 rfl) ?_
  refine lv_bipush (v := 10) hx hb dX5_tellSecret_26 (by decide +kernel) ?_
  refine lv_irem hx hb dX5_tellSecret_28 (by decide +kernel) ?_
  refine lv_i2l (v := (((((p1 / 10) / 10) / 10) - (((p1 / 10) / 10) / 10) / 10 * 10).toInt64)) hx hb dX5_tellSecret_29 rfl ?_
  refine g_av (wr := [(h0, .inr (5, [.ref h2, .ref h3, .ref h4, .ref h5, .int wp19031])), (h5, .inr (8, [.ref h10, .int wp19034])), (h10, .inl (y 1, 3, .inr (.inl (fun _ => 0)))), (h2, .inr (8, [.ref h12, .int 0]))]) (va_runV (As := [.int 0, .long (((((p1 / 10) / 10) / 10) - (((p1 / 10) / 10) / 10) / 10 * 10).toInt64)]) (rest := []) ⟨hx, hb, hml, hown, hg⟩ (k_X8_set_28 l D y aS H.size h4 (((((p1 / 10) / 10) / 10) - (((p1 / 10) / 10) / 10) / 10 * 10).toInt64) h7 wp19032 (vp_updL (vp_updL (vp_updL wf19033 ((3 : Int32).toNatClampNeg) ((p1 - p1 / 10 * 10).toInt64)) ((2 : Int32).toNatClampNeg) (((p1 / 10) - (p1 / 10) / 10 * 10).toInt64)) ((1 : Int32).toNatClampNeg) ((((p1 / 10) / 10) - ((p1 / 10) / 10) / 10 * 10).toInt64))) (cwV 2 hg ggV_RX5_29_X8_set rfl rfl rfl (by decide +kernel) ⟨Nat.le_of_ble_eq_true rfl, Nat.le_of_ble_eq_true rfl⟩) (g_preV (q := (RX8, TX8, 2)) hK hP hD [4, 5] rfl (by decide) (ci := 8) (q0 := 4) rfl rfl) rfl rfl hl.1 rfl (lv_room (Nat.le_of_ble_eq_true rfl)) dX5_tellSecret_30 ⟨Nat.le_of_ble_eq_true rfl, Nat.le_of_ble_eq_true rfl⟩) hP hD hS hA [4, 5] [0, 1, 2, 3] rfl rfl (by decide) (by decide) ?_
  clear hP hD hS H locs
  refine fun u H locs hq hP hD hS => ?_
  replace hP : va_P D vwCl [(h0, .inr (5, [.ref h2, .ref h3, .ref h4, .ref h5, .int wp19031])), (h5, .inr (8, [.ref h10, .int wp19034])), (h10, .inl (y 1, 3, .inr (.inl (fun _ => 0)))), (h2, .inr (8, [.ref h12, .int 0])), (h4, .inr (8, [.ref h7, .int wp19032])), (h7, .inl (y 1, 18, .inr (.inl (vp_updL (vp_updL (vp_updL (vp_updL wf19033 ((3 : Int32).toNatClampNeg) ((p1 - p1 / 10 * 10).toInt64)) ((2 : Int32).toNatClampNeg) (((p1 / 10) - (p1 / 10) / 10 * 10).toInt64)) ((1 : Int32).toNatClampNeg) ((((p1 / 10) / 10) - ((p1 / 10) / 10) / 10 * 10).toInt64)) ((0 : Int32).toNatClampNeg) (((((p1 / 10) / 10) / 10) - (((p1 / 10) / 10) / 10) / 10 * 10).toInt64)))))] H := hP
  replace hD : va_D A [(h0, .inr (5, [.ref h2, .ref h3, .ref h4, .ref h5, .int wp19031])), (h5, .inr (8, [.ref h10, .int wp19034])), (h10, .inl (y 1, 3, .inr (.inl (fun _ => 0)))), (h2, .inr (8, [.ref h12, .int 0])), (h4, .inr (8, [.ref h7, .int wp19032])), (h7, .inl (y 1, 18, .inr (.inl (vp_updL (vp_updL (vp_updL (vp_updL wf19033 ((3 : Int32).toNatClampNeg) ((p1 - p1 / 10 * 10).toInt64)) ((2 : Int32).toNatClampNeg) (((p1 / 10) - (p1 / 10) / 10 * 10).toInt64)) ((1 : Int32).toNatClampNeg) ((((p1 / 10) / 10) - ((p1 / 10) / 10) / 10 * 10).toInt64)) ((0 : Int32).toNatClampNeg) (((((p1 / 10) / 10) / 10) - (((p1 / 10) / 10) / 10) / 10 * 10).toInt64)))))] := hD
  refine lv_iload hx hb dX5_tellSecret_33 (lv_at hl 1 rfl) ?_
  refine lv_bipush (v := 10) hx hb dX5_tellSecret_35 (by decide +kernel) ?_
  refine lv_idiv hx hb dX5_tellSecret_37 (by decide +kernel) ?_
  refine lv_istore (lv' := [(4, .int ((((p1 / 10) / 10) / 10) / 10)), (5, .int 0), (0, .ref h0), (1, .int 0), (2, .int p1), (3, .int 4)]) hx hb dX5_tellSecret_38 hl (by decide) rfl ?_
  clear hl
  clear ls
  intro ls hl
  refine lv_iinc (v := (-1)) (lv' := [(5, .int (-1)), (4, .int ((((p1 / 10) / 10) / 10) / 10)), (0, .ref h0), (1, .int 0), (2, .int p1), (3, .int 4)]) hx hb dX5_tellSecret_40 hl (k := 1) rfl (by decide +kernel) (by decide) rfl ?_
  clear hl
  clear ls
  intro ls hl
  refine lv_goto (tgt := 8) hx hb dX5_tellSecret_43 (by decide) ?_
  refine lv_iload hx hb dX5_tellSecret_8 (lv_at hl 0 rfl) ?_
  refine lv_if_lt (tgt := 46) hx hb dX5_tellSecret_10 (by decide) (fun _ => ?_) (fun c9 => absurd c9 (by decide +kernel))
  refine lv_aload_n hx hb dX5_tellSecret_46 rfl (lv_at hl 2 rfl) ?_
  refine gm_get (D := D) (ci := 5) (v := .ref h5) (C := RX5) (T := TX5) (N := 5) hx hb hg inlX5 hown hK.1 hP 0 rfl rfl 3 (by decide) tX5_3 (hg _ gw_141) rfl dX5_tellSecret_47 ?_
  refine lv_iload_n hx hb dX5_tellSecret_50 rfl (lv_at hl 3 rfl) ?_
  refine lv_iload_n hx hb dX5_tellSecret_51 rfl (lv_at hl 5 rfl) ?_
  refine lv_i2l (v := 4) hx hb dX5_tellSecret_52 (by decide +kernel) ?_
  refine g_av (wr := [(h0, .inr (5, [.ref h2, .ref h3, .ref h4, .ref h5, .int wp19031])), (h2, .inr (8, [.ref h12, .int 0])), (h4, .inr (8, [.ref h7, .int wp19032])), (h7, .inl (y 1, 18, .inr (.inl (vp_updL (vp_updL (vp_updL (vp_updL wf19033 ((3 : Int32).toNatClampNeg) ((p1 - p1 / 10 * 10).toInt64)) ((2 : Int32).toNatClampNeg) (((p1 / 10) - (p1 / 10) / 10 * 10).toInt64)) ((1 : Int32).toNatClampNeg) ((((p1 / 10) / 10) - ((p1 / 10) / 10) / 10 * 10).toInt64)) ((0 : Int32).toNatClampNeg) (((((p1 / 10) / 10) / 10) - (((p1 / 10) / 10) / 10) / 10 * 10).toInt64)))))]) (va_runV (As := [.int 0, .long 4]) (rest := []) ⟨hx, hb, hml, hown, hg⟩ (k_X8_set_24 l D y aS H.size h5 4 h10 wp19034 (fun _ => 0)) (cwV 2 hg ggV_RX5_29_X8_set rfl rfl rfl (by decide +kernel) ⟨Nat.le_of_ble_eq_true rfl, Nat.le_of_ble_eq_true rfl⟩) (g_preV (q := (RX8, TX8, 2)) hK hP hD [1, 2] rfl (by decide) (ci := 8) (q0 := 1) rfl rfl) rfl rfl hl.1 rfl (lv_room (Nat.le_of_ble_eq_true rfl)) dX5_tellSecret_53 ⟨Nat.le_of_ble_eq_true rfl, Nat.le_of_ble_eq_true rfl⟩) hP hD hS hA [1, 2] [0, 3, 4, 5] rfl rfl (by decide) (by decide) ?_
  clear hP hD hS H locs
  refine fun u H locs hq hP hD hS => ?_
  replace hP : va_P D vwCl [(h0, .inr (5, [.ref h2, .ref h3, .ref h4, .ref h5, .int wp19031])), (h2, .inr (8, [.ref h12, .int 0])), (h4, .inr (8, [.ref h7, .int wp19032])), (h7, .inl (y 1, 18, .inr (.inl (vp_updL (vp_updL (vp_updL (vp_updL wf19033 ((3 : Int32).toNatClampNeg) ((p1 - p1 / 10 * 10).toInt64)) ((2 : Int32).toNatClampNeg) (((p1 / 10) - (p1 / 10) / 10 * 10).toInt64)) ((1 : Int32).toNatClampNeg) ((((p1 / 10) / 10) - ((p1 / 10) / 10) / 10 * 10).toInt64)) ((0 : Int32).toNatClampNeg) (((((p1 / 10) / 10) / 10) - (((p1 / 10) / 10) / 10) / 10 * 10).toInt64))))), (h5, .inr (8, [.ref h10, .int wp19034])), (h10, .inl (y 1, 3, .inr (.inl (vp_updL (fun _ => 0) ((0 : Int32).toNatClampNeg) 4))))] H := hP
  replace hD : va_D A [(h0, .inr (5, [.ref h2, .ref h3, .ref h4, .ref h5, .int wp19031])), (h2, .inr (8, [.ref h12, .int 0])), (h4, .inr (8, [.ref h7, .int wp19032])), (h7, .inl (y 1, 18, .inr (.inl (vp_updL (vp_updL (vp_updL (vp_updL wf19033 ((3 : Int32).toNatClampNeg) ((p1 - p1 / 10 * 10).toInt64)) ((2 : Int32).toNatClampNeg) (((p1 / 10) - (p1 / 10) / 10 * 10).toInt64)) ((1 : Int32).toNatClampNeg) ((((p1 / 10) / 10) - ((p1 / 10) / 10) / 10 * 10).toInt64)) ((0 : Int32).toNatClampNeg) (((((p1 / 10) / 10) / 10) - (((p1 / 10) / 10) / 10) / 10 * 10).toInt64))))), (h5, .inr (8, [.ref h10, .int wp19034])), (h10, .inl (y 1, 3, .inr (.inl (vp_updL (fun _ => 0) ((0 : Int32).toNatClampNeg) 4))))] := hD
  refine lv_aload_n hx hb dX5_tellSecret_56 rfl (lv_at hl 2 rfl) ?_
  refine g_av (wr := [(h4, .inr (8, [.ref h7, .int wp19032])), (h7, .inl (y 1, 18, .inr (.inl (vp_updL (vp_updL (vp_updL (vp_updL wf19033 ((3 : Int32).toNatClampNeg) ((p1 - p1 / 10 * 10).toInt64)) ((2 : Int32).toNatClampNeg) (((p1 / 10) - (p1 / 10) / 10 * 10).toInt64)) ((1 : Int32).toNatClampNeg) ((((p1 / 10) / 10) - ((p1 / 10) / 10) / 10 * 10).toInt64)) ((0 : Int32).toNatClampNeg) (((((p1 / 10) / 10) / 10) - (((p1 / 10) / 10) / 10) / 10 * 10).toInt64))))), (h5, .inr (8, [.ref h10, .int wp19034])), (h10, .inl (y 1, 3, .inr (.inl (vp_updL (fun _ => 0) ((0 : Int32).toNatClampNeg) 4))))]) (va_runV (As := []) (rest := []) ⟨hx, hb, hml, hown, hg⟩ (k_X5_findOut_0 l D y aS H.size h0 h2 h3 h4 h5 wp19031 h12) (cwV 0 hg ggV_RX5_33_X5_findOut rfl rfl rfl (by decide +kernel) ⟨Nat.le_of_ble_eq_true rfl, Nat.le_of_ble_eq_true rfl⟩) (g_preV (q := (RX5, TX5, 5)) hK hP hD [0, 1] rfl (by decide) (ci := 5) (q0 := 0) rfl rfl) rfl rfl hl.1 rfl (lv_room (Nat.le_of_ble_eq_true rfl)) dX5_tellSecret_57 ⟨Nat.le_of_ble_eq_true rfl, Nat.le_of_ble_eq_true rfl⟩) hP hD hS hA [0, 1] [2, 3, 4, 5] rfl rfl (by decide) (by decide) ?_
  clear hP hD hS H locs
  refine fun u H locs hq hP hD hS => ?_
  replace hP : va_P D vwCl [(h4, .inr (8, [.ref h7, .int wp19032])), (h7, .inl (y 1, 18, .inr (.inl (vp_updL (vp_updL (vp_updL (vp_updL wf19033 ((3 : Int32).toNatClampNeg) ((p1 - p1 / 10 * 10).toInt64)) ((2 : Int32).toNatClampNeg) (((p1 / 10) - (p1 / 10) / 10 * 10).toInt64)) ((1 : Int32).toNatClampNeg) ((((p1 / 10) / 10) - ((p1 / 10) / 10) / 10 * 10).toInt64)) ((0 : Int32).toNatClampNeg) (((((p1 / 10) / 10) / 10) - (((p1 / 10) / 10) / 10) / 10 * 10).toInt64))))), (h5, .inr (8, [.ref h10, .int wp19034])), (h10, .inl (y 1, 3, .inr (.inl (vp_updL (fun _ => 0) ((0 : Int32).toNatClampNeg) 4)))), (h0, .inr (5, [.ref h2, .ref h3, .ref h4, .ref h5, .int 0])), (h2, .inr (8, [.ref h12, .int 0]))] H := hP
  replace hD : va_D A [(h4, .inr (8, [.ref h7, .int wp19032])), (h7, .inl (y 1, 18, .inr (.inl (vp_updL (vp_updL (vp_updL (vp_updL wf19033 ((3 : Int32).toNatClampNeg) ((p1 - p1 / 10 * 10).toInt64)) ((2 : Int32).toNatClampNeg) (((p1 / 10) - (p1 / 10) / 10 * 10).toInt64)) ((1 : Int32).toNatClampNeg) ((((p1 / 10) / 10) - ((p1 / 10) / 10) / 10 * 10).toInt64)) ((0 : Int32).toNatClampNeg) (((((p1 / 10) / 10) / 10) - (((p1 / 10) / 10) / 10) / 10 * 10).toInt64))))), (h5, .inr (8, [.ref h10, .int wp19034])), (h10, .inl (y 1, 3, .inr (.inl (vp_updL (fun _ => 0) ((0 : Int32).toNatClampNeg) 4)))), (h0, .inr (5, [.ref h2, .ref h3, .ref h4, .ref h5, .int 0])), (h2, .inr (8, [.ref h12, .int 0]))] := hD
  refine lv_iconst (v := 0) hx hb dX5_tellSecret_60 (by decide) ?_
  refine lv_istore (lv' := [(5, .int 0), (4, .int ((((p1 / 10) / 10) / 10) / 10)), (0, .ref h0), (1, .int 0), (2, .int p1), (3, .int 4)]) hx hb dX5_tellSecret_61 hl (by decide) rfl ?_
  clear hl
  clear ls
  intro ls hl
  refine lv_iconst (v := 0) hx hb dX5_tellSecret_63 (by decide) ?_
  refine lv_istore (lv' := [(6, .int 0), (5, .int 0), (4, .int ((((p1 / 10) / 10) / 10) / 10)), (0, .ref h0), (1, .int 0), (2, .int p1), (3, .int 4)]) hx hb dX5_tellSecret_64 hl (by decide) rfl ?_
  clear hl
  clear ls
  intro ls hl
  refine lv_iload hx hb dX5_tellSecret_66 (lv_at hl 0 rfl) ?_
  refine lv_iconst (v := 3) hx hb dX5_tellSecret_68 (by decide) ?_
  refine lv_icmp_ge (tgt := 95) hx hb dX5_tellSecret_69 (by decide) (fun c9 => absurd c9 (by decide +kernel)) (fun _ => ?_)
  refine lv_aload_n hx hb dX5_tellSecret_72 rfl (lv_at hl 3 rfl) ?_
  refine gm_get (D := D) (ci := 5) (v := .ref h5) (C := RX5) (T := TX5) (N := 5) hx hb hg inlX5 hown hK.1 hP 4 rfl rfl 3 (by decide) tX5_3 (hg _ gw_141) rfl dX5_tellSecret_73 ?_
  refine lv_iload hx hb dX5_tellSecret_76 (lv_at hl 0 rfl) ?_
  refine g_al (wr := [(h4, .inr (8, [.ref h7, .int wp19032])), (h7, .inl (y 1, 18, .inr (.inl (vp_updL (vp_updL (vp_updL (vp_updL wf19033 ((3 : Int32).toNatClampNeg) ((p1 - p1 / 10 * 10).toInt64)) ((2 : Int32).toNatClampNeg) (((p1 / 10) - (p1 / 10) / 10 * 10).toInt64)) ((1 : Int32).toNatClampNeg) ((((p1 / 10) / 10) - ((p1 / 10) / 10) / 10 * 10).toInt64)) ((0 : Int32).toNatClampNeg) (((((p1 / 10) / 10) / 10) - (((p1 / 10) / 10) / 10) / 10 * 10).toInt64))))), (h0, .inr (5, [.ref h2, .ref h3, .ref h4, .ref h5, .int 0])), (h2, .inr (8, [.ref h12, .int 0]))]) (va_runV (As := [.int 0]) (rest := []) ⟨hx, hb, hml, hown, hg⟩ (k_X8_get_20 l D y aS H.size h5 h10 wp19034) (cwV 1 hg ggV_RX5_36_X8_get rfl rfl rfl (by decide +kernel) ⟨Nat.le_of_ble_eq_true rfl, Nat.le_of_ble_eq_true rfl⟩) (g_preV (q := (RX8, TX8, 2)) hK hP hD [2, 3] rfl (by decide) (ci := 8) (q0 := 2) rfl rfl) rfl rfl hl.1 rfl (lv_room (Nat.le_of_ble_eq_true rfl)) dX5_tellSecret_78 ⟨Nat.le_of_ble_eq_true rfl, Nat.le_of_ble_eq_true rfl⟩) hP hD hS hA [2, 3] [0, 1, 4, 5] rfl rfl (by decide) (by decide) ?_
  clear hP hD hS H locs
  refine fun r19041 u H locs hq hP hD hS => ?_
  subst hq
  replace hP : va_P D vwCl [(h4, .inr (8, [.ref h7, .int wp19032])), (h7, .inl (y 1, 18, .inr (.inl (vp_updL (vp_updL (vp_updL (vp_updL wf19033 ((3 : Int32).toNatClampNeg) ((p1 - p1 / 10 * 10).toInt64)) ((2 : Int32).toNatClampNeg) (((p1 / 10) - (p1 / 10) / 10 * 10).toInt64)) ((1 : Int32).toNatClampNeg) ((((p1 / 10) / 10) - ((p1 / 10) / 10) / 10 * 10).toInt64)) ((0 : Int32).toNatClampNeg) (((((p1 / 10) / 10) / 10) - (((p1 / 10) / 10) / 10) / 10 * 10).toInt64))))), (h0, .inr (5, [.ref h2, .ref h3, .ref h4, .ref h5, .int 0])), (h2, .inr (8, [.ref h12, .int 0])), (h5, .inr (8, [.ref h10, .int wp19034])), (h10, .inl (y 1, 3, .inr (.inl (vp_updL (fun _ => 0) ((0 : Int32).toNatClampNeg) 4))))] H := hP
  replace hD : va_D A [(h4, .inr (8, [.ref h7, .int wp19032])), (h7, .inl (y 1, 18, .inr (.inl (vp_updL (vp_updL (vp_updL (vp_updL wf19033 ((3 : Int32).toNatClampNeg) ((p1 - p1 / 10 * 10).toInt64)) ((2 : Int32).toNatClampNeg) (((p1 / 10) - (p1 / 10) / 10 * 10).toInt64)) ((1 : Int32).toNatClampNeg) ((((p1 / 10) / 10) - ((p1 / 10) / 10) / 10 * 10).toInt64)) ((0 : Int32).toNatClampNeg) (((((p1 / 10) / 10) / 10) - (((p1 / 10) / 10) / 10) / 10 * 10).toInt64))))), (h0, .inr (5, [.ref h2, .ref h3, .ref h4, .ref h5, .int 0])), (h2, .inr (8, [.ref h12, .int 0])), (h5, .inr (8, [.ref h10, .int wp19034])), (h10, .inl (y 1, 3, .inr (.inl (vp_updL (fun _ => 0) ((0 : Int32).toNatClampNeg) 4))))] := hD
  refine lv_lconst (v := 0) hx hb dX5_tellSecret_81 (by decide) ?_
  refine W.lcmp hx hb dX5_tellSecret_82 ?_
  refine g_fi (v := 1) (by decide +kernel) ?_
  refine lv_if_le (tgt := 89) hx hb dX5_tellSecret_83 (by decide) (fun c9 => absurd c9 (by decide +kernel)) (fun _ => ?_)
  refine lv_iinc (v := 1) (lv' := [(5, .int 1), (6, .int 0), (4, .int ((((p1 / 10) / 10) / 10) / 10)), (0, .ref h0), (1, .int 0), (2, .int p1), (3, .int 4)]) hx hb dX5_tellSecret_86 hl (k := 1) rfl (by decide +kernel) (by decide) rfl ?_
  clear hl
  clear ls
  intro ls hl
  refine lv_iinc (v := 1) (lv' := [(6, .int 1), (5, .int 1), (4, .int ((((p1 / 10) / 10) / 10) / 10)), (0, .ref h0), (1, .int 0), (2, .int p1), (3, .int 4)]) hx hb dX5_tellSecret_89 hl (k := 1) rfl (by decide +kernel) (by decide) rfl ?_
  clear hl
  clear ls
  intro ls hl
  refine lv_goto (tgt := 66) hx hb dX5_tellSecret_92 (by decide) ?_
  refine lv_iload hx hb dX5_tellSecret_66 (lv_at hl 0 rfl) ?_
  refine lv_iconst (v := 3) hx hb dX5_tellSecret_68 (by decide) ?_
  refine lv_icmp_ge (tgt := 95) hx hb dX5_tellSecret_69 (by decide) (fun c9 => absurd c9 (by decide +kernel)) (fun _ => ?_)
  refine lv_aload_n hx hb dX5_tellSecret_72 rfl (lv_at hl 3 rfl) ?_
  refine gm_get (D := D) (ci := 5) (v := .ref h5) (C := RX5) (T := TX5) (N := 5) hx hb hg inlX5 hown hK.1 hP 2 rfl rfl 3 (by decide) tX5_3 (hg _ gw_141) rfl dX5_tellSecret_73 ?_
  refine lv_iload hx hb dX5_tellSecret_76 (lv_at hl 0 rfl) ?_
  refine g_al (wr := [(h4, .inr (8, [.ref h7, .int wp19032])), (h7, .inl (y 1, 18, .inr (.inl (vp_updL (vp_updL (vp_updL (vp_updL wf19033 ((3 : Int32).toNatClampNeg) ((p1 - p1 / 10 * 10).toInt64)) ((2 : Int32).toNatClampNeg) (((p1 / 10) - (p1 / 10) / 10 * 10).toInt64)) ((1 : Int32).toNatClampNeg) ((((p1 / 10) / 10) - ((p1 / 10) / 10) / 10 * 10).toInt64)) ((0 : Int32).toNatClampNeg) (((((p1 / 10) / 10) / 10) - (((p1 / 10) / 10) / 10) / 10 * 10).toInt64))))), (h0, .inr (5, [.ref h2, .ref h3, .ref h4, .ref h5, .int 0])), (h2, .inr (8, [.ref h12, .int 0]))]) (va_runV (As := [.int 1]) (rest := []) ⟨hx, hb, hml, hown, hg⟩ (k_X8_get_21 l D y aS H.size h5 h10 wp19034) (cwV 1 hg ggV_RX5_36_X8_get rfl rfl rfl (by decide +kernel) ⟨Nat.le_of_ble_eq_true rfl, Nat.le_of_ble_eq_true rfl⟩) (g_preV (q := (RX8, TX8, 2)) hK hP hD [4, 5] rfl (by decide) (ci := 8) (q0 := 4) rfl rfl) rfl rfl hl.1 rfl (lv_room (Nat.le_of_ble_eq_true rfl)) dX5_tellSecret_78 ⟨Nat.le_of_ble_eq_true rfl, Nat.le_of_ble_eq_true rfl⟩) hP hD hS hA [4, 5] [0, 1, 2, 3] rfl rfl (by decide) (by decide) ?_
  clear hP hD hS H locs
  refine fun r19042 u H locs hq hP hD hS => ?_
  subst hq
  replace hP : va_P D vwCl [(h4, .inr (8, [.ref h7, .int wp19032])), (h7, .inl (y 1, 18, .inr (.inl (vp_updL (vp_updL (vp_updL (vp_updL wf19033 ((3 : Int32).toNatClampNeg) ((p1 - p1 / 10 * 10).toInt64)) ((2 : Int32).toNatClampNeg) (((p1 / 10) - (p1 / 10) / 10 * 10).toInt64)) ((1 : Int32).toNatClampNeg) ((((p1 / 10) / 10) - ((p1 / 10) / 10) / 10 * 10).toInt64)) ((0 : Int32).toNatClampNeg) (((((p1 / 10) / 10) / 10) - (((p1 / 10) / 10) / 10) / 10 * 10).toInt64))))), (h0, .inr (5, [.ref h2, .ref h3, .ref h4, .ref h5, .int 0])), (h2, .inr (8, [.ref h12, .int 0])), (h5, .inr (8, [.ref h10, .int wp19034])), (h10, .inl (y 1, 3, .inr (.inl (vp_updL (fun _ => 0) ((0 : Int32).toNatClampNeg) 4))))] H := hP
  replace hD : va_D A [(h4, .inr (8, [.ref h7, .int wp19032])), (h7, .inl (y 1, 18, .inr (.inl (vp_updL (vp_updL (vp_updL (vp_updL wf19033 ((3 : Int32).toNatClampNeg) ((p1 - p1 / 10 * 10).toInt64)) ((2 : Int32).toNatClampNeg) (((p1 / 10) - (p1 / 10) / 10 * 10).toInt64)) ((1 : Int32).toNatClampNeg) ((((p1 / 10) / 10) - ((p1 / 10) / 10) / 10 * 10).toInt64)) ((0 : Int32).toNatClampNeg) (((((p1 / 10) / 10) / 10) - (((p1 / 10) / 10) / 10) / 10 * 10).toInt64))))), (h0, .inr (5, [.ref h2, .ref h3, .ref h4, .ref h5, .int 0])), (h2, .inr (8, [.ref h12, .int 0])), (h5, .inr (8, [.ref h10, .int wp19034])), (h10, .inl (y 1, 3, .inr (.inl (vp_updL (fun _ => 0) ((0 : Int32).toNatClampNeg) 4))))] := hD
  refine lv_lconst (v := 0) hx hb dX5_tellSecret_81 (by decide) ?_
  refine W.lcmp hx hb dX5_tellSecret_82 ?_
  refine g_fi (v := 0) (by decide +kernel) ?_
  refine lv_if_le (tgt := 89) hx hb dX5_tellSecret_83 (by decide) (fun _ => ?_) (fun c9 => absurd c9 (by decide +kernel))
  refine lv_iinc (v := 2) (lv' := [(6, .int 2), (5, .int 1), (4, .int ((((p1 / 10) / 10) / 10) / 10)), (0, .ref h0), (1, .int 0), (2, .int p1), (3, .int 4)]) hx hb dX5_tellSecret_89 hl (k := 0) rfl (by decide +kernel) (by decide) rfl ?_
  clear hl
  clear ls
  intro ls hl
  refine lv_goto (tgt := 66) hx hb dX5_tellSecret_92 (by decide) ?_
  refine lv_iload hx hb dX5_tellSecret_66 (lv_at hl 0 rfl) ?_
  refine lv_iconst (v := 3) hx hb dX5_tellSecret_68 (by decide) ?_
  refine lv_icmp_ge (tgt := 95) hx hb dX5_tellSecret_69 (by decide) (fun c9 => absurd c9 (by decide +kernel)) (fun _ => ?_)
  refine lv_aload_n hx hb dX5_tellSecret_72 rfl (lv_at hl 3 rfl) ?_
  refine gm_get (D := D) (ci := 5) (v := .ref h5) (C := RX5) (T := TX5) (N := 5) hx hb hg inlX5 hown hK.1 hP 2 rfl rfl 3 (by decide) tX5_3 (hg _ gw_141) rfl dX5_tellSecret_73 ?_
  refine lv_iload hx hb dX5_tellSecret_76 (lv_at hl 0 rfl) ?_
  refine g_al (wr := [(h4, .inr (8, [.ref h7, .int wp19032])), (h7, .inl (y 1, 18, .inr (.inl (vp_updL (vp_updL (vp_updL (vp_updL wf19033 ((3 : Int32).toNatClampNeg) ((p1 - p1 / 10 * 10).toInt64)) ((2 : Int32).toNatClampNeg) (((p1 / 10) - (p1 / 10) / 10 * 10).toInt64)) ((1 : Int32).toNatClampNeg) ((((p1 / 10) / 10) - ((p1 / 10) / 10) / 10 * 10).toInt64)) ((0 : Int32).toNatClampNeg) (((((p1 / 10) / 10) / 10) - (((p1 / 10) / 10) / 10) / 10 * 10).toInt64))))), (h0, .inr (5, [.ref h2, .ref h3, .ref h4, .ref h5, .int 0])), (h2, .inr (8, [.ref h12, .int 0]))]) (va_runV (As := [.int 2]) (rest := []) ⟨hx, hb, hml, hown, hg⟩ (k_X8_get_22 l D y aS H.size h5 h10 wp19034) (cwV 1 hg ggV_RX5_36_X8_get rfl rfl rfl (by decide +kernel) ⟨Nat.le_of_ble_eq_true rfl, Nat.le_of_ble_eq_true rfl⟩) (g_preV (q := (RX8, TX8, 2)) hK hP hD [4, 5] rfl (by decide) (ci := 8) (q0 := 4) rfl rfl) rfl rfl hl.1 rfl (lv_room (Nat.le_of_ble_eq_true rfl)) dX5_tellSecret_78 ⟨Nat.le_of_ble_eq_true rfl, Nat.le_of_ble_eq_true rfl⟩) hP hD hS hA [4, 5] [0, 1, 2, 3] rfl rfl (by decide) (by decide) ?_
  clear hP hD hS H locs
  refine fun r19043 u H locs hq hP hD hS => ?_
  subst hq
  replace hP : va_P D vwCl [(h4, .inr (8, [.ref h7, .int wp19032])), (h7, .inl (y 1, 18, .inr (.inl (vp_updL (vp_updL (vp_updL (vp_updL wf19033 ((3 : Int32).toNatClampNeg) ((p1 - p1 / 10 * 10).toInt64)) ((2 : Int32).toNatClampNeg) (((p1 / 10) - (p1 / 10) / 10 * 10).toInt64)) ((1 : Int32).toNatClampNeg) ((((p1 / 10) / 10) - ((p1 / 10) / 10) / 10 * 10).toInt64)) ((0 : Int32).toNatClampNeg) (((((p1 / 10) / 10) / 10) - (((p1 / 10) / 10) / 10) / 10 * 10).toInt64))))), (h0, .inr (5, [.ref h2, .ref h3, .ref h4, .ref h5, .int 0])), (h2, .inr (8, [.ref h12, .int 0])), (h5, .inr (8, [.ref h10, .int wp19034])), (h10, .inl (y 1, 3, .inr (.inl (vp_updL (fun _ => 0) ((0 : Int32).toNatClampNeg) 4))))] H := hP
  replace hD : va_D A [(h4, .inr (8, [.ref h7, .int wp19032])), (h7, .inl (y 1, 18, .inr (.inl (vp_updL (vp_updL (vp_updL (vp_updL wf19033 ((3 : Int32).toNatClampNeg) ((p1 - p1 / 10 * 10).toInt64)) ((2 : Int32).toNatClampNeg) (((p1 / 10) - (p1 / 10) / 10 * 10).toInt64)) ((1 : Int32).toNatClampNeg) ((((p1 / 10) / 10) - ((p1 / 10) / 10) / 10 * 10).toInt64)) ((0 : Int32).toNatClampNeg) (((((p1 / 10) / 10) / 10) - (((p1 / 10) / 10) / 10) / 10 * 10).toInt64))))), (h0, .inr (5, [.ref h2, .ref h3, .ref h4, .ref h5, .int 0])), (h2, .inr (8, [.ref h12, .int 0])), (h5, .inr (8, [.ref h10, .int wp19034])), (h10, .inl (y 1, 3, .inr (.inl (vp_updL (fun _ => 0) ((0 : Int32).toNatClampNeg) 4))))] := hD
  refine lv_lconst (v := 0) hx hb dX5_tellSecret_81 (by decide) ?_
  refine W.lcmp hx hb dX5_tellSecret_82 ?_
  refine g_fi (v := 0) (by decide +kernel) ?_
  refine lv_if_le (tgt := 89) hx hb dX5_tellSecret_83 (by decide) (fun _ => ?_) (fun c9 => absurd c9 (by decide +kernel))
  refine lv_iinc (v := 3) (lv' := [(6, .int 3), (5, .int 1), (4, .int ((((p1 / 10) / 10) / 10) / 10)), (0, .ref h0), (1, .int 0), (2, .int p1), (3, .int 4)]) hx hb dX5_tellSecret_89 hl (k := 0) rfl (by decide +kernel) (by decide) rfl ?_
  clear hl
  clear ls
  intro ls hl
  refine lv_goto (tgt := 66) hx hb dX5_tellSecret_92 (by decide) ?_
  refine lv_iload hx hb dX5_tellSecret_66 (lv_at hl 0 rfl) ?_
  refine lv_iconst (v := 3) hx hb dX5_tellSecret_68 (by decide) ?_
  refine lv_icmp_ge (tgt := 95) hx hb dX5_tellSecret_69 (by decide) (fun _ => ?_) (fun c9 => absurd c9 (by decide +kernel))
  refine lv_iload hx hb dX5_tellSecret_95 (lv_at hl 1 rfl) ?_
  exact g_iret hx hb hr hlocks () (hP.sub [2, 0, 1, 4, 5, 3] rfl) (hD.sub [2, 0, 1, 4, 5, 3] (by decide +kernel) rfl) hS rfl rfl (Nat.le_of_ble_eq_true rfl) (Nat.le_of_ble_eq_true rfl) dX5_tellSecret_97
set_option maxRecDepth 100000 in
set_option maxHeartbeats 4000000 in
theorem k_X8_set_37 (l : Launch) (D : va_G) (y : Nat → ClassId) (aS : Nat → Nat) (sz : Nat) (h0 : Nat) (p1 : Int64) (h2 : Nat) (wp19046 : Int32) (wf19047 : Nat → Int64) : Met l yX8_set (Cond.code yX8_set cX8_set 4 none :: wsL_law) ({ frames := 0, cells := 0, slots := 0, locals := 0 } : Room) (va_Pc [.ref h0, .int 9, .long p1] (gI D y aS [(h0, .inr (8, [.ref h2, .int wp19046])), (h2, .inl (y 1, 18, .inr (.inl wf19047)))] sz)) (va_Qv (fun (u : Unit) => True) (fun u => gO D (va_A [(h0, .inr (8, [.ref h2, .int wp19046])), (h2, .inl (y 1, 18, .inr (.inl wf19047)))] sz) [(h0, .inr (8, [.ref h2, .int wp19046])), (h2, .inl (y 1, 18, .inr (.inl (vp_updL wf19047 ((9 : Int32).toNatClampNeg) p1))))]) (va_A [(h0, .inr (8, [.ref h2, .int wp19046])), (h2, .inl (y 1, 18, .inr (.inl wf19047)))] sz)) 0 0 (va_A [(h0, .inr (8, [.ref h2, .int wp19046])), (h2, .inl (y 1, 18, .inr (.inl wf19047)))] sz) := by
  refine g_of (by decide) (Nat.le_of_ble_eq_true rfl) ?_
  intro p e s m below meth c ls A hx hb hr hml hown hg hlocks hin hsz hK hP hD hS hA hAe hl
  rw [← hAe]
  replace hown : s.vm.findClass RX8 = some m.cls := hown
  replace hl : lv_has ls 4 [(0, .ref h0), (1, .int 9), (2, .long p1)] := hl
  refine lv_iload_n hx hb dX8_set_0 rfl (lv_at hl 1 rfl) ?_
  refine lv_if_lt (tgt := 20) hx hb dX8_set_1 (by decide) (fun c9 => absurd c9 (by decide +kernel)) (fun _ => ?_)
  refine lv_iload_n hx hb dX8_set_4 rfl (lv_at hl 1 rfl) ?_
  refine lv_aload_n hx hb dX8_set_5 rfl (lv_at hl 0 rfl) ?_
  refine gm_get (D := D) (ci := 8) (v := .ref h2) (C := RX8) (T := TX8) (N := 2) hx hb hg inlX8 hown hK.1 hP 0 rfl rfl 0 (by decide) tX8_0 (hg _ gw_98) rfl dX8_set_6 ?_
  refine va_alen hx hb hK.1 hP 1 1 rfl rfl (v := 18) rfl dX8_set_9 ?_
  refine lv_icmp_ge (tgt := 20) hx hb dX8_set_10 (by decide) (fun c9 => absurd c9 (by decide +kernel)) (fun _ => ?_)
  refine lv_aload_n hx hb dX8_set_13 rfl (lv_at hl 0 rfl) ?_
  refine gm_get (D := D) (ci := 8) (v := .ref h2) (C := RX8) (T := TX8) (N := 2) hx hb hg inlX8 hown hK.1 hP 0 rfl rfl 0 (by decide) tX8_0 (hg _ gw_98) rfl dX8_set_14 ?_
  refine lv_iload_n hx hb dX8_set_17 rfl (lv_at hl 1 rfl) ?_
  refine lv_lload_n hx hb dX8_set_18 rfl (lv_at hl 2 rfl) ?_
  refine va_last hx hb hK.1 hP hD hS 1 1 rfl rfl (by unfold vp_in; decide +kernel) dX8_set_19 ?_
  clear hP hD hS
  refine fun H locs (hP : va_P D vwCl [(h0, .inr (8, [.ref h2, .int wp19046])), (h2, .inl (y 1, 18, .inr (.inl (vp_updL wf19047 ((9 : Int32).toNatClampNeg) p1))))] H) (hD : va_D A [(h0, .inr (8, [.ref h2, .int wp19046])), (h2, .inl (y 1, 18, .inr (.inl (vp_updL wf19047 ((9 : Int32).toNatClampNeg) p1))))]) hS => ?_
  exact g_vret hx hb hr hlocks () hP hD hS trivial (Nat.le_of_ble_eq_true rfl) (Nat.le_of_ble_eq_true rfl) dX8_set_20
set_option maxRecDepth 100000 in
set_option maxHeartbeats 4000000 in
theorem k_X8_get_23 (l : Launch) (D : va_G) (y : Nat → ClassId) (aS : Nat → Nat) (sz : Nat) (h0 : Nat) (h1 : Nat) (wp19054 : Int32) : Met l yX8_get (Cond.code yX8_get cX8_get 2 (some .long) :: wsL_law) ({ frames := 0, cells := 0, slots := 0, locals := 0 } : Room) (va_Pc [.ref h0, .int 0] (gI D y aS [(h0, .inr (8, [.ref h1, .int wp19054])), (h1, .inl (y 1, 3, .inr (.inl (vp_updL (fun _ => 0) ((1 : Int32).toNatClampNeg) 4))))] sz)) (va_Ql (fun (r : Int64) (u : Unit) => 0 = r) (fun u => gO D (va_A [(h0, .inr (8, [.ref h1, .int wp19054])), (h1, .inl (y 1, 3, .inr (.inl (vp_updL (fun _ => 0) ((1 : Int32).toNatClampNeg) 4))))] sz) [(h0, .inr (8, [.ref h1, .int wp19054])), (h1, .inl (y 1, 3, .inr (.inl (vp_updL (fun _ => 0) ((1 : Int32).toNatClampNeg) 4))))]) (va_A [(h0, .inr (8, [.ref h1, .int wp19054])), (h1, .inl (y 1, 3, .inr (.inl (vp_updL (fun _ => 0) ((1 : Int32).toNatClampNeg) 4))))] sz)) 0 0 (va_A [(h0, .inr (8, [.ref h1, .int wp19054])), (h1, .inl (y 1, 3, .inr (.inl (vp_updL (fun _ => 0) ((1 : Int32).toNatClampNeg) 4))))] sz) := by
  refine g_of (by decide) (Nat.le_of_ble_eq_true rfl) ?_
  intro p e s m below meth c ls A hx hb hr hml hown hg hlocks hin hsz hK hP hD hS hA hAe hl
  rw [← hAe]
  replace hown : s.vm.findClass RX8 = some m.cls := hown
  replace hl : lv_has ls 2 [(0, .ref h0), (1, .int 0)] := hl
  refine lv_iload_n hx hb dX8_get_0 rfl (lv_at hl 1 rfl) ?_
  refine lv_if_lt (tgt := 22) hx hb dX8_get_1 (by decide) (fun c9 => absurd c9 (by decide +kernel)) (fun _ => ?_)
  refine lv_iload_n hx hb dX8_get_4 rfl (lv_at hl 1 rfl) ?_
  refine lv_aload_n hx hb dX8_get_5 rfl (lv_at hl 0 rfl) ?_
  refine gm_get (D := D) (ci := 8) (v := .ref h1) (C := RX8) (T := TX8) (N := 2) hx hb hg inlX8 hown hK.1 hP 0 rfl rfl 0 (by decide) tX8_0 (hg _ gw_98) rfl dX8_get_6 ?_
  refine va_alen hx hb hK.1 hP 1 1 rfl rfl (v := 3) rfl dX8_get_9 ?_
  refine lv_icmp_ge (tgt := 22) hx hb dX8_get_10 (by decide) (fun c9 => absurd c9 (by decide +kernel)) (fun _ => ?_)
  refine lv_aload_n hx hb dX8_get_13 rfl (lv_at hl 0 rfl) ?_
  refine gm_get (D := D) (ci := 8) (v := .ref h1) (C := RX8) (T := TX8) (N := 2) hx hb hg inlX8 hown hK.1 hP 0 rfl rfl 0 (by decide) tX8_0 (hg _ gw_98) rfl dX8_get_14 ?_
  refine lv_iload_n hx hb dX8_get_17 rfl (lv_at hl 1 rfl) ?_
  refine va_lald hx hb hK.1 hP 1 1 rfl rfl (by unfold vp_in; decide +kernel) dX8_get_18 ?_
  refine g_fj (v := 0) (by rfl) ?_
  refine lv_goto (tgt := 23) hx hb dX8_get_19 (by decide) ?_
  exact g_lret hx hb hr hlocks () hP hD hS rfl (Nat.le_of_ble_eq_true rfl) (Nat.le_of_ble_eq_true rfl) dX8_get_23
set_option maxRecDepth 100000 in
set_option maxHeartbeats 4000000 in
theorem k_X8_get_24 (l : Launch) (D : va_G) (y : Nat → ClassId) (aS : Nat → Nat) (sz : Nat) (h0 : Nat) (h1 : Nat) (wp19056 : Int32) : Met l yX8_get (Cond.code yX8_get cX8_get 2 (some .long) :: wsL_law) ({ frames := 0, cells := 0, slots := 0, locals := 0 } : Room) (va_Pc [.ref h0, .int 1] (gI D y aS [(h0, .inr (8, [.ref h1, .int wp19056])), (h1, .inl (y 1, 3, .inr (.inl (vp_updL (fun _ => 0) ((1 : Int32).toNatClampNeg) 4))))] sz)) (va_Ql (fun (r : Int64) (u : Unit) => 4 = r) (fun u => gO D (va_A [(h0, .inr (8, [.ref h1, .int wp19056])), (h1, .inl (y 1, 3, .inr (.inl (vp_updL (fun _ => 0) ((1 : Int32).toNatClampNeg) 4))))] sz) [(h0, .inr (8, [.ref h1, .int wp19056])), (h1, .inl (y 1, 3, .inr (.inl (vp_updL (fun _ => 0) ((1 : Int32).toNatClampNeg) 4))))]) (va_A [(h0, .inr (8, [.ref h1, .int wp19056])), (h1, .inl (y 1, 3, .inr (.inl (vp_updL (fun _ => 0) ((1 : Int32).toNatClampNeg) 4))))] sz)) 0 0 (va_A [(h0, .inr (8, [.ref h1, .int wp19056])), (h1, .inl (y 1, 3, .inr (.inl (vp_updL (fun _ => 0) ((1 : Int32).toNatClampNeg) 4))))] sz) := by
  refine g_of (by decide) (Nat.le_of_ble_eq_true rfl) ?_
  intro p e s m below meth c ls A hx hb hr hml hown hg hlocks hin hsz hK hP hD hS hA hAe hl
  rw [← hAe]
  replace hown : s.vm.findClass RX8 = some m.cls := hown
  replace hl : lv_has ls 2 [(0, .ref h0), (1, .int 1)] := hl
  refine lv_iload_n hx hb dX8_get_0 rfl (lv_at hl 1 rfl) ?_
  refine lv_if_lt (tgt := 22) hx hb dX8_get_1 (by decide) (fun c9 => absurd c9 (by decide +kernel)) (fun _ => ?_)
  refine lv_iload_n hx hb dX8_get_4 rfl (lv_at hl 1 rfl) ?_
  refine lv_aload_n hx hb dX8_get_5 rfl (lv_at hl 0 rfl) ?_
  refine gm_get (D := D) (ci := 8) (v := .ref h1) (C := RX8) (T := TX8) (N := 2) hx hb hg inlX8 hown hK.1 hP 0 rfl rfl 0 (by decide) tX8_0 (hg _ gw_98) rfl dX8_get_6 ?_
  refine va_alen hx hb hK.1 hP 1 1 rfl rfl (v := 3) rfl dX8_get_9 ?_
  refine lv_icmp_ge (tgt := 22) hx hb dX8_get_10 (by decide) (fun c9 => absurd c9 (by decide +kernel)) (fun _ => ?_)
  refine lv_aload_n hx hb dX8_get_13 rfl (lv_at hl 0 rfl) ?_
  refine gm_get (D := D) (ci := 8) (v := .ref h1) (C := RX8) (T := TX8) (N := 2) hx hb hg inlX8 hown hK.1 hP 0 rfl rfl 0 (by decide) tX8_0 (hg _ gw_98) rfl dX8_get_14 ?_
  refine lv_iload_n hx hb dX8_get_17 rfl (lv_at hl 1 rfl) ?_
  refine va_lald hx hb hK.1 hP 1 1 rfl rfl (by unfold vp_in; decide +kernel) dX8_get_18 ?_
  refine g_fj (v := 4) (by rfl) ?_
  refine lv_goto (tgt := 23) hx hb dX8_get_19 (by decide) ?_
  exact g_lret hx hb hr hlocks () hP hD hS rfl (Nat.le_of_ble_eq_true rfl) (Nat.le_of_ble_eq_true rfl) dX8_get_23
set_option maxRecDepth 100000 in
set_option maxHeartbeats 4000000 in
theorem k_X8_get_25 (l : Launch) (D : va_G) (y : Nat → ClassId) (aS : Nat → Nat) (sz : Nat) (h0 : Nat) (h1 : Nat) (wp19058 : Int32) : Met l yX8_get (Cond.code yX8_get cX8_get 2 (some .long) :: wsL_law) ({ frames := 0, cells := 0, slots := 0, locals := 0 } : Room) (va_Pc [.ref h0, .int 2] (gI D y aS [(h0, .inr (8, [.ref h1, .int wp19058])), (h1, .inl (y 1, 3, .inr (.inl (vp_updL (fun _ => 0) ((1 : Int32).toNatClampNeg) 4))))] sz)) (va_Ql (fun (r : Int64) (u : Unit) => 0 = r) (fun u => gO D (va_A [(h0, .inr (8, [.ref h1, .int wp19058])), (h1, .inl (y 1, 3, .inr (.inl (vp_updL (fun _ => 0) ((1 : Int32).toNatClampNeg) 4))))] sz) [(h0, .inr (8, [.ref h1, .int wp19058])), (h1, .inl (y 1, 3, .inr (.inl (vp_updL (fun _ => 0) ((1 : Int32).toNatClampNeg) 4))))]) (va_A [(h0, .inr (8, [.ref h1, .int wp19058])), (h1, .inl (y 1, 3, .inr (.inl (vp_updL (fun _ => 0) ((1 : Int32).toNatClampNeg) 4))))] sz)) 0 0 (va_A [(h0, .inr (8, [.ref h1, .int wp19058])), (h1, .inl (y 1, 3, .inr (.inl (vp_updL (fun _ => 0) ((1 : Int32).toNatClampNeg) 4))))] sz) := by
  refine g_of (by decide) (Nat.le_of_ble_eq_true rfl) ?_
  intro p e s m below meth c ls A hx hb hr hml hown hg hlocks hin hsz hK hP hD hS hA hAe hl
  rw [← hAe]
  replace hown : s.vm.findClass RX8 = some m.cls := hown
  replace hl : lv_has ls 2 [(0, .ref h0), (1, .int 2)] := hl
  refine lv_iload_n hx hb dX8_get_0 rfl (lv_at hl 1 rfl) ?_
  refine lv_if_lt (tgt := 22) hx hb dX8_get_1 (by decide) (fun c9 => absurd c9 (by decide +kernel)) (fun _ => ?_)
  refine lv_iload_n hx hb dX8_get_4 rfl (lv_at hl 1 rfl) ?_
  refine lv_aload_n hx hb dX8_get_5 rfl (lv_at hl 0 rfl) ?_
  refine gm_get (D := D) (ci := 8) (v := .ref h1) (C := RX8) (T := TX8) (N := 2) hx hb hg inlX8 hown hK.1 hP 0 rfl rfl 0 (by decide) tX8_0 (hg _ gw_98) rfl dX8_get_6 ?_
  refine va_alen hx hb hK.1 hP 1 1 rfl rfl (v := 3) rfl dX8_get_9 ?_
  refine lv_icmp_ge (tgt := 22) hx hb dX8_get_10 (by decide) (fun c9 => absurd c9 (by decide +kernel)) (fun _ => ?_)
  refine lv_aload_n hx hb dX8_get_13 rfl (lv_at hl 0 rfl) ?_
  refine gm_get (D := D) (ci := 8) (v := .ref h1) (C := RX8) (T := TX8) (N := 2) hx hb hg inlX8 hown hK.1 hP 0 rfl rfl 0 (by decide) tX8_0 (hg _ gw_98) rfl dX8_get_14 ?_
  refine lv_iload_n hx hb dX8_get_17 rfl (lv_at hl 1 rfl) ?_
  refine va_lald hx hb hK.1 hP 1 1 rfl rfl (by unfold vp_in; decide +kernel) dX8_get_18 ?_
  refine g_fj (v := 0) (by rfl) ?_
  refine lv_goto (tgt := 23) hx hb dX8_get_19 (by decide) ?_
  exact g_lret hx hb hr hlocks () hP hD hS rfl (Nat.le_of_ble_eq_true rfl) (Nat.le_of_ble_eq_true rfl) dX8_get_23
set_option maxRecDepth 100000 in
set_option maxHeartbeats 4000000 in
theorem k_X5_tellSecret_7 (l : Launch) (D : va_G) (y : Nat → ClassId) (aS : Nat → Nat) (sz : Nat) (h0 : Nat) (p1 : Int32) (h2 : Nat) (h3 : Nat) (h4 : Nat) (h5 : Nat) (wp19060 : Int32) (h7 : Nat) (wp19061 : Int32) (wf19062 : Nat → Int64) (h10 : Nat) (wp19063 : Int32) (h12 : Nat) : Met l yX5_tellSecret (Cond.code yX5_tellSecret cX5_tellSecret 7 (some .int) :: wsL_law) ({ frames := 1, cells := 0, slots := 0, locals := 23 } : Room) (va_Pc [.ref h0, .int 1, .int p1, .int 4] (gI D y aS [(h0, .inr (5, [.ref h2, .ref h3, .ref h4, .ref h5, .int wp19060])), (h4, .inr (8, [.ref h7, .int wp19061])), (h7, .inl (y 1, 18, .inr (.inl wf19062))), (h5, .inr (8, [.ref h10, .int wp19063])), (h10, .inl (y 1, 3, .inr (.inl (fun _ => 0)))), (h2, .inr (8, [.ref h12, .int 0]))] sz)) (va_Qi (fun (r : Int32) (u : Unit) => 1 = r) (fun u => gO D (va_A [(h0, .inr (5, [.ref h2, .ref h3, .ref h4, .ref h5, .int wp19060])), (h4, .inr (8, [.ref h7, .int wp19061])), (h7, .inl (y 1, 18, .inr (.inl wf19062))), (h5, .inr (8, [.ref h10, .int wp19063])), (h10, .inl (y 1, 3, .inr (.inl (fun _ => 0)))), (h2, .inr (8, [.ref h12, .int 0]))] sz) [(h0, .inr (5, [.ref h2, .ref h3, .ref h4, .ref h5, .int 0])), (h4, .inr (8, [.ref h7, .int wp19061])), (h7, .inl (y 1, 18, .inr (.inl (vp_updL (vp_updL (vp_updL (vp_updL wf19062 ((9 : Int32).toNatClampNeg) ((p1 - p1 / 10 * 10).toInt64)) ((8 : Int32).toNatClampNeg) (((p1 / 10) - (p1 / 10) / 10 * 10).toInt64)) ((7 : Int32).toNatClampNeg) ((((p1 / 10) / 10) - ((p1 / 10) / 10) / 10 * 10).toInt64)) ((6 : Int32).toNatClampNeg) (((((p1 / 10) / 10) / 10) - (((p1 / 10) / 10) / 10) / 10 * 10).toInt64))))), (h5, .inr (8, [.ref h10, .int wp19063])), (h10, .inl (y 1, 3, .inr (.inl (vp_updL (fun _ => 0) ((1 : Int32).toNatClampNeg) 4)))), (h2, .inr (8, [.ref h12, .int 0]))]) (va_A [(h0, .inr (5, [.ref h2, .ref h3, .ref h4, .ref h5, .int wp19060])), (h4, .inr (8, [.ref h7, .int wp19061])), (h7, .inl (y 1, 18, .inr (.inl wf19062))), (h5, .inr (8, [.ref h10, .int wp19063])), (h10, .inl (y 1, 3, .inr (.inl (fun _ => 0)))), (h2, .inr (8, [.ref h12, .int 0]))] sz)) 0 0 (va_A [(h0, .inr (5, [.ref h2, .ref h3, .ref h4, .ref h5, .int wp19060])), (h4, .inr (8, [.ref h7, .int wp19061])), (h7, .inl (y 1, 18, .inr (.inl wf19062))), (h5, .inr (8, [.ref h10, .int wp19063])), (h10, .inl (y 1, 3, .inr (.inl (fun _ => 0)))), (h2, .inr (8, [.ref h12, .int 0]))] sz) := by
  refine g_of (by decide) (Nat.le_of_ble_eq_true rfl) ?_
  intro p e s m below meth c ls A hx hb hr hml hown hg hlocks hin hsz hK hP hD hS hA hAe hl
  rw [← hAe]
  replace hown : s.vm.findClass RX5 = some m.cls := hown
  replace hl : lv_has ls 7 [(0, .ref h0), (1, .int 1), (2, .int p1), (3, .int 4)] := hl
  refine lv_iload_n hx hb dX5_tellSecret_0 rfl (lv_at hl 2 rfl) ?_
  refine lv_istore (lv' := [(4, .int p1), (0, .ref h0), (1, .int 1), (2, .int p1), (3, .int 4)]) hx hb dX5_tellSecret_1 hl (by decide) rfl ?_
  clear hl
  clear ls
  intro ls hl
  refine lv_iload_n hx hb dX5_tellSecret_3 rfl (lv_at hl 4 rfl) ?_
  refine lv_iconst (v := 1) hx hb dX5_tellSecret_4 (by decide) ?_
  refine lv_isub hx hb dX5_tellSecret_5 ?_
  refine g_fi (v := 3) (by decide +kernel) ?_
  refine lv_istore (lv' := [(5, .int 3), (4, .int p1), (0, .ref h0), (1, .int 1), (2, .int p1), (3, .int 4)]) hx hb dX5_tellSecret_6 hl (by decide) rfl ?_
  clear hl
  clear ls
  intro ls hl
  refine lv_iload hx hb dX5_tellSecret_8 (lv_at hl 0 rfl) ?_
  refine lv_if_lt (tgt := 46) hx hb dX5_tellSecret_10 (by decide) (fun c9 => absurd c9 (by decide +kernel)) (fun _ => ?_)
  refine lv_aload_n hx hb dX5_tellSecret_13 rfl (lv_at hl 2 rfl) ?_
  refine gm_get (D := D) (ci := 5) (v := .ref h4) (C := RX5) (T := TX5) (N := 5) hx hb hg inlX5 hown hK.1 hP 0 rfl rfl 2 (by decide) tX5_2 (hg _ gw_140) rfl dX5_tellSecret_14 ?_
  refine lv_iload_n hx hb dX5_tellSecret_17 rfl (lv_at hl 3 rfl) ?_
  refine lv_bipush (v := 6) hx hb dX5_tellSecret_18 (by decide +kernel) ?_
  refine lv_imul hx hb dX5_tellSecret_20 ?_
  refine g_fi (v := 6) (by decide +kernel) ?_
  refine lv_iload hx hb dX5_tellSecret_21 (lv_at hl 0 rfl) ?_
  refine lv_iadd hx hb dX5_tellSecret_23 ?_
  refine g_fi (v := 9) (by decide +kernel) ?_
  refine lv_iload hx hb dX5_tellSecret_24 (lv_at hl 1 rfl) ?_
  refine lv_bipush (v := 10) hx hb dX5_tellSecret_26 (by decide +kernel) ?_
  refine lv_irem hx hb dX5_tellSecret_28 (by decide +kernel) ?_
  refine lv_i2l (v := ((p1 - p1 / 10 * 10).toInt64)) hx hb dX5_tellSecret_29 rfl ?_
  refine g_av (wr := [(h0, .inr (5, [.ref h2, .ref h3, .ref h4, .ref h5, .int wp19060])), (h5, .inr (8, [.ref h10, .int wp19063])), (h10, .inl (y 1, 3, .inr (.inl (fun _ => 0)))), (h2, .inr (8, [.ref h12, .int 0]))]) (va_runV (As := [.int 9, .long ((p1 - p1 / 10 * 10).toInt64)]) (rest := []) ⟨hx, hb, hml, hown, hg⟩ (k_X8_set_37 l D y aS s.heap.size h4 ((p1 - p1 / 10 * 10).toInt64) h7 wp19061 wf19062) (cwV 2 hg ggV_RX5_29_X8_set rfl rfl rfl (by decide +kernel) ⟨Nat.le_of_ble_eq_true rfl, Nat.le_of_ble_eq_true rfl⟩) (g_preV (q := (RX8, TX8, 2)) hK hP hD [1, 2] rfl (by decide) (ci := 8) (q0 := 1) rfl rfl) rfl rfl hl.1 rfl (lv_room (Nat.le_of_ble_eq_true rfl)) dX5_tellSecret_30 ⟨Nat.le_of_ble_eq_true rfl, Nat.le_of_ble_eq_true rfl⟩) hP hD hS hA [1, 2] [0, 3, 4, 5] rfl rfl (by decide) (by decide) ?_
  clear hP hD hS
  refine fun u H locs hq hP hD hS => ?_
  replace hP : va_P D vwCl [(h0, .inr (5, [.ref h2, .ref h3, .ref h4, .ref h5, .int wp19060])), (h5, .inr (8, [.ref h10, .int wp19063])), (h10, .inl (y 1, 3, .inr (.inl (fun _ => 0)))), (h2, .inr (8, [.ref h12, .int 0])), (h4, .inr (8, [.ref h7, .int wp19061])), (h7, .inl (y 1, 18, .inr (.inl (vp_updL wf19062 ((9 : Int32).toNatClampNeg) ((p1 - p1 / 10 * 10).toInt64)))))] H := hP
  replace hD : va_D A [(h0, .inr (5, [.ref h2, .ref h3, .ref h4, .ref h5, .int wp19060])), (h5, .inr (8, [.ref h10, .int wp19063])), (h10, .inl (y 1, 3, .inr (.inl (fun _ => 0)))), (h2, .inr (8, [.ref h12, .int 0])), (h4, .inr (8, [.ref h7, .int wp19061])), (h7, .inl (y 1, 18, .inr (.inl (vp_updL wf19062 ((9 : Int32).toNatClampNeg) ((p1 - p1 / 10 * 10).toInt64)))))] := hD
  refine lv_iload hx hb dX5_tellSecret_33 (lv_at hl 1 rfl) ?_
  refine lv_bipush (v := 10) hx hb dX5_tellSecret_35 (by decide +kernel) ?_
  refine lv_idiv hx hb dX5_tellSecret_37 (by decide +kernel) ?_
  refine lv_istore (lv' := [(4, .int (p1 / 10)), (5, .int 3), (0, .ref h0), (1, .int 1), (2, .int p1), (3, .int 4)]) hx hb dX5_tellSecret_38 hl (by decide) rfl ?_
  clear hl
  clear ls
  intro ls hl
  refine lv_iinc (v := 2) (lv' := [(5, .int 2), (4, .int (p1 / 10)), (0, .ref h0), (1, .int 1), (2, .int p1), (3, .int 4)]) hx hb dX5_tellSecret_40 hl (k := 1) rfl (by decide +kernel) (by decide) rfl ?_
  clear hl
  clear ls
  intro ls hl
  refine lv_goto (tgt := 8) hx hb dX5_tellSecret_43 (by decide) ?_
  refine lv_iload hx hb dX5_tellSecret_8 (lv_at hl 0 rfl) ?_
  refine lv_if_lt (tgt := 46) hx hb dX5_tellSecret_10 (by decide) (fun c9 => absurd c9 (by decide +kernel)) (fun _ => ?_)
  refine lv_aload_n hx hb dX5_tellSecret_13 rfl (lv_at hl 2 rfl) ?_
  refine gm_get (D := D) (ci := 5) (v := .ref h4) (C := RX5) (T := TX5) (N := 5) hx hb hg inlX5 hown hK.1 hP 0 rfl rfl 2 (by decide) tX5_2 (hg _ gw_140) rfl dX5_tellSecret_14 ?_
  refine lv_iload_n hx hb dX5_tellSecret_17 rfl (lv_at hl 3 rfl) ?_
  refine lv_bipush (v := 6) hx hb dX5_tellSecret_18 (by decide +kernel) ?_
  refine lv_imul hx hb dX5_tellSecret_20 ?_
  refine g_fi (v := 6) (by decide +kernel) ?_
  refine lv_iload hx hb dX5_tellSecret_21 (lv_at hl 0 rfl) ?_
  refine lv_iadd hx hb dX5_tellSecret_23 ?_
  refine g_fi (v := 8) (by decide +kernel) ?_
  refine lv_iload hx hb dX5_tellSecret_24 (lv_at hl 1 rfl) ?_
  refine lv_bipush (v := 10) hx hb dX5_tellSecret_26 (by decide +kernel) ?_
  refine lv_irem hx hb dX5_tellSecret_28 (by decide +kernel) ?_
  refine lv_i2l (v := (((p1 / 10) - (p1 / 10) / 10 * 10).toInt64)) hx hb dX5_tellSecret_29 rfl ?_
  refine g_av (wr := [(h0, .inr (5, [.ref h2, .ref h3, .ref h4, .ref h5, .int wp19060])), (h5, .inr (8, [.ref h10, .int wp19063])), (h10, .inl (y 1, 3, .inr (.inl (fun _ => 0)))), (h2, .inr (8, [.ref h12, .int 0]))]) (va_runV (As := [.int 8, .long (((p1 / 10) - (p1 / 10) / 10 * 10).toInt64)]) (rest := []) ⟨hx, hb, hml, hown, hg⟩ (k_X8_set_34 l D y aS H.size h4 (((p1 / 10) - (p1 / 10) / 10 * 10).toInt64) h7 wp19061 (vp_updL wf19062 ((9 : Int32).toNatClampNeg) ((p1 - p1 / 10 * 10).toInt64))) (cwV 2 hg ggV_RX5_29_X8_set rfl rfl rfl (by decide +kernel) ⟨Nat.le_of_ble_eq_true rfl, Nat.le_of_ble_eq_true rfl⟩) (g_preV (q := (RX8, TX8, 2)) hK hP hD [4, 5] rfl (by decide) (ci := 8) (q0 := 4) rfl rfl) rfl rfl hl.1 rfl (lv_room (Nat.le_of_ble_eq_true rfl)) dX5_tellSecret_30 ⟨Nat.le_of_ble_eq_true rfl, Nat.le_of_ble_eq_true rfl⟩) hP hD hS hA [4, 5] [0, 1, 2, 3] rfl rfl (by decide) (by decide) ?_
  clear hP hD hS H locs
  refine fun u H locs hq hP hD hS => ?_
  replace hP : va_P D vwCl [(h0, .inr (5, [.ref h2, .ref h3, .ref h4, .ref h5, .int wp19060])), (h5, .inr (8, [.ref h10, .int wp19063])), (h10, .inl (y 1, 3, .inr (.inl (fun _ => 0)))), (h2, .inr (8, [.ref h12, .int 0])), (h4, .inr (8, [.ref h7, .int wp19061])), (h7, .inl (y 1, 18, .inr (.inl (vp_updL (vp_updL wf19062 ((9 : Int32).toNatClampNeg) ((p1 - p1 / 10 * 10).toInt64)) ((8 : Int32).toNatClampNeg) (((p1 / 10) - (p1 / 10) / 10 * 10).toInt64)))))] H := hP
  replace hD : va_D A [(h0, .inr (5, [.ref h2, .ref h3, .ref h4, .ref h5, .int wp19060])), (h5, .inr (8, [.ref h10, .int wp19063])), (h10, .inl (y 1, 3, .inr (.inl (fun _ => 0)))), (h2, .inr (8, [.ref h12, .int 0])), (h4, .inr (8, [.ref h7, .int wp19061])), (h7, .inl (y 1, 18, .inr (.inl (vp_updL (vp_updL wf19062 ((9 : Int32).toNatClampNeg) ((p1 - p1 / 10 * 10).toInt64)) ((8 : Int32).toNatClampNeg) (((p1 / 10) - (p1 / 10) / 10 * 10).toInt64)))))] := hD
  refine lv_iload hx hb dX5_tellSecret_33 (lv_at hl 1 rfl) ?_
  refine lv_bipush (v := 10) hx hb dX5_tellSecret_35 (by decide +kernel) ?_
  refine lv_idiv hx hb dX5_tellSecret_37 (by decide +kernel) ?_
  refine lv_istore (lv' := [(4, .int ((p1 / 10) / 10)), (5, .int 2), (0, .ref h0), (1, .int 1), (2, .int p1), (3, .int 4)]) hx hb dX5_tellSecret_38 hl (by decide) rfl ?_
  clear hl
  clear ls
  intro ls hl
  refine lv_iinc (v := 1) (lv' := [(5, .int 1), (4, .int ((p1 / 10) / 10)), (0, .ref h0), (1, .int 1), (2, .int p1), (3, .int 4)]) hx hb dX5_tellSecret_40 hl (k := 1) rfl (by decide +kernel) (by decide) rfl ?_
  clear hl
  clear ls
  intro ls hl
  refine lv_goto (tgt := 8) hx hb dX5_tellSecret_43 (by decide) ?_
  refine lv_iload hx hb dX5_tellSecret_8 (lv_at hl 0 rfl) ?_
  refine lv_if_lt (tgt := 46) hx hb dX5_tellSecret_10 (by decide) (fun c9 => absurd c9 (by decide +kernel)) (fun _ => ?_)
  refine lv_aload_n hx hb dX5_tellSecret_13 rfl (lv_at hl 2 rfl) ?_
  refine gm_get (D := D) (ci := 5) (v := .ref h4) (C := RX5) (T := TX5) (N := 5) hx hb hg inlX5 hown hK.1 hP 0 rfl rfl 2 (by decide) tX5_2 (hg _ gw_140) rfl dX5_tellSecret_14 ?_
  refine lv_iload_n hx hb dX5_tellSecret_17 rfl (lv_at hl 3 rfl) ?_
  refine lv_bipush (v := 6) hx hb dX5_tellSecret_18 (by decide +kernel) ?_
  refine lv_imul hx hb dX5_tellSecret_20 ?_
  refine g_fi (v := 6) (by decide +kernel) ?_
  refine lv_iload hx hb dX5_tellSecret_21 (lv_at hl 0 rfl) ?_
  refine lv_iadd hx hb dX5_tellSecret_23 ?_
  refine g_fi (v := 7) (by decide +kernel) ?_
  refine lv_iload hx hb dX5_tellSecret_24 (lv_at hl 1 rfl) ?_
  refine lv_bipush (v := 10) hx hb dX5_tellSecret_26 (by decide +kernel) ?_
  refine lv_irem hx hb dX5_tellSecret_28 (by decide +kernel) ?_
  refine lv_i2l (v := ((((p1 / 10) / 10) - ((p1 / 10) / 10) / 10 * 10).toInt64)) hx hb dX5_tellSecret_29 rfl ?_
  refine g_av (wr := [(h0, .inr (5, [.ref h2, .ref h3, .ref h4, .ref h5, .int wp19060])), (h5, .inr (8, [.ref h10, .int wp19063])), (h10, .inl (y 1, 3, .inr (.inl (fun _ => 0)))), (h2, .inr (8, [.ref h12, .int 0]))]) (va_runV (As := [.int 7, .long ((((p1 / 10) / 10) - ((p1 / 10) / 10) / 10 * 10).toInt64)]) (rest := []) ⟨hx, hb, hml, hown, hg⟩ (k_X8_set_29 l D y aS H.size h4 ((((p1 / 10) / 10) - ((p1 / 10) / 10) / 10 * 10).toInt64) h7 wp19061 (vp_updL (vp_updL wf19062 ((9 : Int32).toNatClampNeg) ((p1 - p1 / 10 * 10).toInt64)) ((8 : Int32).toNatClampNeg) (((p1 / 10) - (p1 / 10) / 10 * 10).toInt64))) (cwV 2 hg ggV_RX5_29_X8_set rfl rfl rfl (by decide +kernel) ⟨Nat.le_of_ble_eq_true rfl, Nat.le_of_ble_eq_true rfl⟩) (g_preV (q := (RX8, TX8, 2)) hK hP hD [4, 5] rfl (by decide) (ci := 8) (q0 := 4) rfl rfl) rfl rfl hl.1 rfl (lv_room (Nat.le_of_ble_eq_true rfl)) dX5_tellSecret_30 ⟨Nat.le_of_ble_eq_true rfl, Nat.le_of_ble_eq_true rfl⟩) hP hD hS hA [4, 5] [0, 1, 2, 3] rfl rfl (by decide) (by decide) ?_
  clear hP hD hS H locs
  refine fun u H locs hq hP hD hS => ?_
  replace hP : va_P D vwCl [(h0, .inr (5, [.ref h2, .ref h3, .ref h4, .ref h5, .int wp19060])), (h5, .inr (8, [.ref h10, .int wp19063])), (h10, .inl (y 1, 3, .inr (.inl (fun _ => 0)))), (h2, .inr (8, [.ref h12, .int 0])), (h4, .inr (8, [.ref h7, .int wp19061])), (h7, .inl (y 1, 18, .inr (.inl (vp_updL (vp_updL (vp_updL wf19062 ((9 : Int32).toNatClampNeg) ((p1 - p1 / 10 * 10).toInt64)) ((8 : Int32).toNatClampNeg) (((p1 / 10) - (p1 / 10) / 10 * 10).toInt64)) ((7 : Int32).toNatClampNeg) ((((p1 / 10) / 10) - ((p1 / 10) / 10) / 10 * 10).toInt64)))))] H := hP
  replace hD : va_D A [(h0, .inr (5, [.ref h2, .ref h3, .ref h4, .ref h5, .int wp19060])), (h5, .inr (8, [.ref h10, .int wp19063])), (h10, .inl (y 1, 3, .inr (.inl (fun _ => 0)))), (h2, .inr (8, [.ref h12, .int 0])), (h4, .inr (8, [.ref h7, .int wp19061])), (h7, .inl (y 1, 18, .inr (.inl (vp_updL (vp_updL (vp_updL wf19062 ((9 : Int32).toNatClampNeg) ((p1 - p1 / 10 * 10).toInt64)) ((8 : Int32).toNatClampNeg) (((p1 / 10) - (p1 / 10) / 10 * 10).toInt64)) ((7 : Int32).toNatClampNeg) ((((p1 / 10) / 10) - ((p1 / 10) / 10) / 10 * 10).toInt64)))))] := hD
  refine lv_iload hx hb dX5_tellSecret_33 (lv_at hl 1 rfl) ?_
  refine lv_bipush (v := 10) hx hb dX5_tellSecret_35 (by decide +kernel) ?_
  refine lv_idiv hx hb dX5_tellSecret_37 (by decide +kernel) ?_
  refine lv_istore (lv' := [(4, .int (((p1 / 10) / 10) / 10)), (5, .int 1), (0, .ref h0), (1, .int 1), (2, .int p1), (3, .int 4)]) hx hb dX5_tellSecret_38 hl (by decide) rfl ?_
  clear hl
  clear ls
  intro ls hl
  refine lv_iinc (v := 0) (lv' := [(5, .int 0), (4, .int (((p1 / 10) / 10) / 10)), (0, .ref h0), (1, .int 1), (2, .int p1), (3, .int 4)]) hx hb dX5_tellSecret_40 hl (k := 1) rfl (by decide +kernel) (by decide) rfl ?_
  clear hl
  clear ls
  intro ls hl
  refine lv_goto (tgt := 8) hx hb dX5_tellSecret_43 (by decide) ?_
  refine lv_iload hx hb dX5_tellSecret_8 (lv_at hl 0 rfl) ?_
  refine lv_if_lt (tgt := 46) hx hb dX5_tellSecret_10 (by decide) (fun c9 => absurd c9 (by decide +kernel)) (fun _ => ?_)
  refine lv_aload_n hx hb dX5_tellSecret_13 rfl (lv_at hl 2 rfl) ?_
  refine gm_get (D := D) (ci := 5) (v := .ref h4) (C := RX5) (T := TX5) (N := 5) hx hb hg inlX5 hown hK.1 hP 0 rfl rfl 2 (by decide) tX5_2 (hg _ gw_140) rfl dX5_tellSecret_14 ?_
  refine lv_iload_n hx hb dX5_tellSecret_17 rfl (lv_at hl 3 rfl) ?_
  refine lv_bipush (v := 6) hx hb dX5_tellSecret_18 (by decide +kernel) ?_
  refine lv_imul hx hb dX5_tellSecret_20 ?_
  refine g_fi (v := 6) (by decide +kernel) ?_
  refine lv_iload hx hb dX5_tellSecret_21 (lv_at hl 0 rfl) ?_
  refine lv_iadd hx hb dX5_tellSecret_23 ?_
  refine g_fi (v := 6) (by decide +kernel) ?_
  refine lv_iload hx hb dX5_tellSecret_24 (lv_at hl 1 rfl) ?_
  refine lv_bipush (v := 10) hx hb dX5_tellSecret_26 (by decide +kernel) ?_
  refine lv_irem hx hb dX5_tellSecret_28 (by decide +kernel) ?_
  refine lv_i2l (v := (((((p1 / 10) / 10) / 10) - (((p1 / 10) / 10) / 10) / 10 * 10).toInt64)) hx hb dX5_tellSecret_29 rfl ?_
  refine g_av (wr := [(h0, .inr (5, [.ref h2, .ref h3, .ref h4, .ref h5, .int wp19060])), (h5, .inr (8, [.ref h10, .int wp19063])), (h10, .inl (y 1, 3, .inr (.inl (fun _ => 0)))), (h2, .inr (8, [.ref h12, .int 0]))]) (va_runV (As := [.int 6, .long (((((p1 / 10) / 10) / 10) - (((p1 / 10) / 10) / 10) / 10 * 10).toInt64)]) (rest := []) ⟨hx, hb, hml, hown, hg⟩ (k_X8_set_30 l D y aS H.size h4 (((((p1 / 10) / 10) / 10) - (((p1 / 10) / 10) / 10) / 10 * 10).toInt64) h7 wp19061 (vp_updL (vp_updL (vp_updL wf19062 ((9 : Int32).toNatClampNeg) ((p1 - p1 / 10 * 10).toInt64)) ((8 : Int32).toNatClampNeg) (((p1 / 10) - (p1 / 10) / 10 * 10).toInt64)) ((7 : Int32).toNatClampNeg) ((((p1 / 10) / 10) - ((p1 / 10) / 10) / 10 * 10).toInt64))) (cwV 2 hg ggV_RX5_29_X8_set rfl rfl rfl (by decide +kernel) ⟨Nat.le_of_ble_eq_true rfl, Nat.le_of_ble_eq_true rfl⟩) (g_preV (q := (RX8, TX8, 2)) hK hP hD [4, 5] rfl (by decide) (ci := 8) (q0 := 4) rfl rfl) rfl rfl hl.1 rfl (lv_room (Nat.le_of_ble_eq_true rfl)) dX5_tellSecret_30 ⟨Nat.le_of_ble_eq_true rfl, Nat.le_of_ble_eq_true rfl⟩) hP hD hS hA [4, 5] [0, 1, 2, 3] rfl rfl (by decide) (by decide) ?_
  clear hP hD hS H locs
  refine fun u H locs hq hP hD hS => ?_
  replace hP : va_P D vwCl [(h0, .inr (5, [.ref h2, .ref h3, .ref h4, .ref h5, .int wp19060])), (h5, .inr (8, [.ref h10, .int wp19063])), (h10, .inl (y 1, 3, .inr (.inl (fun _ => 0)))), (h2, .inr (8, [.ref h12, .int 0])), (h4, .inr (8, [.ref h7, .int wp19061])), (h7, .inl (y 1, 18, .inr (.inl (vp_updL (vp_updL (vp_updL (vp_updL wf19062 ((9 : Int32).toNatClampNeg) ((p1 - p1 / 10 * 10).toInt64)) ((8 : Int32).toNatClampNeg) (((p1 / 10) - (p1 / 10) / 10 * 10).toInt64)) ((7 : Int32).toNatClampNeg) ((((p1 / 10) / 10) - ((p1 / 10) / 10) / 10 * 10).toInt64)) ((6 : Int32).toNatClampNeg) (((((p1 / 10) / 10) / 10) - (((p1 / 10) / 10) / 10) / 10 * 10).toInt64)))))] H := hP
  replace hD : va_D A [(h0, .inr (5, [.ref h2, .ref h3, .ref h4, .ref h5, .int wp19060])), (h5, .inr (8, [.ref h10, .int wp19063])), (h10, .inl (y 1, 3, .inr (.inl (fun _ => 0)))), (h2, .inr (8, [.ref h12, .int 0])), (h4, .inr (8, [.ref h7, .int wp19061])), (h7, .inl (y 1, 18, .inr (.inl (vp_updL (vp_updL (vp_updL (vp_updL wf19062 ((9 : Int32).toNatClampNeg) ((p1 - p1 / 10 * 10).toInt64)) ((8 : Int32).toNatClampNeg) (((p1 / 10) - (p1 / 10) / 10 * 10).toInt64)) ((7 : Int32).toNatClampNeg) ((((p1 / 10) / 10) - ((p1 / 10) / 10) / 10 * 10).toInt64)) ((6 : Int32).toNatClampNeg) (((((p1 / 10) / 10) / 10) - (((p1 / 10) / 10) / 10) / 10 * 10).toInt64)))))] := hD
  refine lv_iload hx hb dX5_tellSecret_33 (lv_at hl 1 rfl) ?_
  refine lv_bipush (v := 10) hx hb dX5_tellSecret_35 (by decide +kernel) ?_
  refine lv_idiv hx hb dX5_tellSecret_37 (by decide +kernel) ?_
  refine lv_istore (lv' := [(4, .int ((((p1 / 10) / 10) / 10) / 10)), (5, .int 0), (0, .ref h0), (1, .int 1), (2, .int p1), (3, .int 4)]) hx hb dX5_tellSecret_38 hl (by decide) rfl ?_
  clear hl
  clear ls
  intro ls hl
  refine lv_iinc (v := (-1)) (lv' := [(5, .int (-1)), (4, .int ((((p1 / 10) / 10) / 10) / 10)), (0, .ref h0), (1, .int 1), (2, .int p1), (3, .int 4)]) hx hb dX5_tellSecret_40 hl (k := 1) rfl (by decide +kernel) (by decide) rfl ?_
  clear hl
  clear ls
  intro ls hl
  refine lv_goto (tgt := 8) hx hb dX5_tellSecret_43 (by decide) ?_
  refine lv_iload hx hb dX5_tellSecret_8 (lv_at hl 0 rfl) ?_
  refine lv_if_lt (tgt := 46) hx hb dX5_tellSecret_10 (by decide) (fun _ => ?_) (fun c9 => absurd c9 (by decide +kernel))
  refine lv_aload_n hx hb dX5_tellSecret_46 rfl (lv_at hl 2 rfl) ?_
  refine gm_get (D := D) (ci := 5) (v := .ref h5) (C := RX5) (T := TX5) (N := 5) hx hb hg inlX5 hown hK.1 hP 0 rfl rfl 3 (by decide) tX5_3 (hg _ gw_141) rfl dX5_tellSecret_47 ?_
  refine lv_iload_n hx hb dX5_tellSecret_50 rfl (lv_at hl 3 rfl) ?_
  refine lv_iload_n hx hb dX5_tellSecret_51 rfl (lv_at hl 5 rfl) ?_
  refine lv_i2l (v := 4) hx hb dX5_tellSecret_52 (by decide +kernel) ?_
  refine g_av (wr := [(h0, .inr (5, [.ref h2, .ref h3, .ref h4, .ref h5, .int wp19060])), (h2, .inr (8, [.ref h12, .int 0])), (h4, .inr (8, [.ref h7, .int wp19061])), (h7, .inl (y 1, 18, .inr (.inl (vp_updL (vp_updL (vp_updL (vp_updL wf19062 ((9 : Int32).toNatClampNeg) ((p1 - p1 / 10 * 10).toInt64)) ((8 : Int32).toNatClampNeg) (((p1 / 10) - (p1 / 10) / 10 * 10).toInt64)) ((7 : Int32).toNatClampNeg) ((((p1 / 10) / 10) - ((p1 / 10) / 10) / 10 * 10).toInt64)) ((6 : Int32).toNatClampNeg) (((((p1 / 10) / 10) / 10) - (((p1 / 10) / 10) / 10) / 10 * 10).toInt64)))))]) (va_runV (As := [.int 1, .long 4]) (rest := []) ⟨hx, hb, hml, hown, hg⟩ (k_X8_set_25 l D y aS H.size h5 4 h10 wp19063 (fun _ => 0)) (cwV 2 hg ggV_RX5_29_X8_set rfl rfl rfl (by decide +kernel) ⟨Nat.le_of_ble_eq_true rfl, Nat.le_of_ble_eq_true rfl⟩) (g_preV (q := (RX8, TX8, 2)) hK hP hD [1, 2] rfl (by decide) (ci := 8) (q0 := 1) rfl rfl) rfl rfl hl.1 rfl (lv_room (Nat.le_of_ble_eq_true rfl)) dX5_tellSecret_53 ⟨Nat.le_of_ble_eq_true rfl, Nat.le_of_ble_eq_true rfl⟩) hP hD hS hA [1, 2] [0, 3, 4, 5] rfl rfl (by decide) (by decide) ?_
  clear hP hD hS H locs
  refine fun u H locs hq hP hD hS => ?_
  replace hP : va_P D vwCl [(h0, .inr (5, [.ref h2, .ref h3, .ref h4, .ref h5, .int wp19060])), (h2, .inr (8, [.ref h12, .int 0])), (h4, .inr (8, [.ref h7, .int wp19061])), (h7, .inl (y 1, 18, .inr (.inl (vp_updL (vp_updL (vp_updL (vp_updL wf19062 ((9 : Int32).toNatClampNeg) ((p1 - p1 / 10 * 10).toInt64)) ((8 : Int32).toNatClampNeg) (((p1 / 10) - (p1 / 10) / 10 * 10).toInt64)) ((7 : Int32).toNatClampNeg) ((((p1 / 10) / 10) - ((p1 / 10) / 10) / 10 * 10).toInt64)) ((6 : Int32).toNatClampNeg) (((((p1 / 10) / 10) / 10) - (((p1 / 10) / 10) / 10) / 10 * 10).toInt64))))), (h5, .inr (8, [.ref h10, .int wp19063])), (h10, .inl (y 1, 3, .inr (.inl (vp_updL (fun _ => 0) ((1 : Int32).toNatClampNeg) 4))))] H := hP
  replace hD : va_D A [(h0, .inr (5, [.ref h2, .ref h3, .ref h4, .ref h5, .int wp19060])), (h2, .inr (8, [.ref h12, .int 0])), (h4, .inr (8, [.ref h7, .int wp19061])), (h7, .inl (y 1, 18, .inr (.inl (vp_updL (vp_updL (vp_updL (vp_updL wf19062 ((9 : Int32).toNatClampNeg) ((p1 - p1 / 10 * 10).toInt64)) ((8 : Int32).toNatClampNeg) (((p1 / 10) - (p1 / 10) / 10 * 10).toInt64)) ((7 : Int32).toNatClampNeg) ((((p1 / 10) / 10) - ((p1 / 10) / 10) / 10 * 10).toInt64)) ((6 : Int32).toNatClampNeg) (((((p1 / 10) / 10) / 10) - (((p1 / 10) / 10) / 10) / 10 * 10).toInt64))))), (h5, .inr (8, [.ref h10, .int wp19063])), (h10, .inl (y 1, 3, .inr (.inl (vp_updL (fun _ => 0) ((1 : Int32).toNatClampNeg) 4))))] := hD
  refine lv_aload_n hx hb dX5_tellSecret_56 rfl (lv_at hl 2 rfl) ?_
  refine g_av (wr := [(h4, .inr (8, [.ref h7, .int wp19061])), (h7, .inl (y 1, 18, .inr (.inl (vp_updL (vp_updL (vp_updL (vp_updL wf19062 ((9 : Int32).toNatClampNeg) ((p1 - p1 / 10 * 10).toInt64)) ((8 : Int32).toNatClampNeg) (((p1 / 10) - (p1 / 10) / 10 * 10).toInt64)) ((7 : Int32).toNatClampNeg) ((((p1 / 10) / 10) - ((p1 / 10) / 10) / 10 * 10).toInt64)) ((6 : Int32).toNatClampNeg) (((((p1 / 10) / 10) / 10) - (((p1 / 10) / 10) / 10) / 10 * 10).toInt64))))), (h5, .inr (8, [.ref h10, .int wp19063])), (h10, .inl (y 1, 3, .inr (.inl (vp_updL (fun _ => 0) ((1 : Int32).toNatClampNeg) 4))))]) (va_runV (As := []) (rest := []) ⟨hx, hb, hml, hown, hg⟩ (k_X5_findOut_0 l D y aS H.size h0 h2 h3 h4 h5 wp19060 h12) (cwV 0 hg ggV_RX5_33_X5_findOut rfl rfl rfl (by decide +kernel) ⟨Nat.le_of_ble_eq_true rfl, Nat.le_of_ble_eq_true rfl⟩) (g_preV (q := (RX5, TX5, 5)) hK hP hD [0, 1] rfl (by decide) (ci := 5) (q0 := 0) rfl rfl) rfl rfl hl.1 rfl (lv_room (Nat.le_of_ble_eq_true rfl)) dX5_tellSecret_57 ⟨Nat.le_of_ble_eq_true rfl, Nat.le_of_ble_eq_true rfl⟩) hP hD hS hA [0, 1] [2, 3, 4, 5] rfl rfl (by decide) (by decide) ?_
  clear hP hD hS H locs
  refine fun u H locs hq hP hD hS => ?_
  replace hP : va_P D vwCl [(h4, .inr (8, [.ref h7, .int wp19061])), (h7, .inl (y 1, 18, .inr (.inl (vp_updL (vp_updL (vp_updL (vp_updL wf19062 ((9 : Int32).toNatClampNeg) ((p1 - p1 / 10 * 10).toInt64)) ((8 : Int32).toNatClampNeg) (((p1 / 10) - (p1 / 10) / 10 * 10).toInt64)) ((7 : Int32).toNatClampNeg) ((((p1 / 10) / 10) - ((p1 / 10) / 10) / 10 * 10).toInt64)) ((6 : Int32).toNatClampNeg) (((((p1 / 10) / 10) / 10) - (((p1 / 10) / 10) / 10) / 10 * 10).toInt64))))), (h5, .inr (8, [.ref h10, .int wp19063])), (h10, .inl (y 1, 3, .inr (.inl (vp_updL (fun _ => 0) ((1 : Int32).toNatClampNeg) 4)))), (h0, .inr (5, [.ref h2, .ref h3, .ref h4, .ref h5, .int 0])), (h2, .inr (8, [.ref h12, .int 0]))] H := hP
  replace hD : va_D A [(h4, .inr (8, [.ref h7, .int wp19061])), (h7, .inl (y 1, 18, .inr (.inl (vp_updL (vp_updL (vp_updL (vp_updL wf19062 ((9 : Int32).toNatClampNeg) ((p1 - p1 / 10 * 10).toInt64)) ((8 : Int32).toNatClampNeg) (((p1 / 10) - (p1 / 10) / 10 * 10).toInt64)) ((7 : Int32).toNatClampNeg) ((((p1 / 10) / 10) - ((p1 / 10) / 10) / 10 * 10).toInt64)) ((6 : Int32).toNatClampNeg) (((((p1 / 10) / 10) / 10) - (((p1 / 10) / 10) / 10) / 10 * 10).toInt64))))), (h5, .inr (8, [.ref h10, .int wp19063])), (h10, .inl (y 1, 3, .inr (.inl (vp_updL (fun _ => 0) ((1 : Int32).toNatClampNeg) 4)))), (h0, .inr (5, [.ref h2, .ref h3, .ref h4, .ref h5, .int 0])), (h2, .inr (8, [.ref h12, .int 0]))] := hD
  refine lv_iconst (v := 0) hx hb dX5_tellSecret_60 (by decide) ?_
  refine lv_istore (lv' := [(5, .int 0), (4, .int ((((p1 / 10) / 10) / 10) / 10)), (0, .ref h0), (1, .int 1), (2, .int p1), (3, .int 4)]) hx hb dX5_tellSecret_61 hl (by decide) rfl ?_
  clear hl
  clear ls
  intro ls hl
  refine lv_iconst (v := 0) hx hb dX5_tellSecret_63 (by decide) ?_
  refine lv_istore (lv' := [(6, .int 0), (5, .int 0), (4, .int ((((p1 / 10) / 10) / 10) / 10)), (0, .ref h0), (1, .int 1), (2, .int p1), (3, .int 4)]) hx hb dX5_tellSecret_64 hl (by decide) rfl ?_
  clear hl
  clear ls
  intro ls hl
  refine lv_iload hx hb dX5_tellSecret_66 (lv_at hl 0 rfl) ?_
  refine lv_iconst (v := 3) hx hb dX5_tellSecret_68 (by decide) ?_
  refine lv_icmp_ge (tgt := 95) hx hb dX5_tellSecret_69 (by decide) (fun c9 => absurd c9 (by decide +kernel)) (fun _ => ?_)
  refine lv_aload_n hx hb dX5_tellSecret_72 rfl (lv_at hl 3 rfl) ?_
  refine gm_get (D := D) (ci := 5) (v := .ref h5) (C := RX5) (T := TX5) (N := 5) hx hb hg inlX5 hown hK.1 hP 4 rfl rfl 3 (by decide) tX5_3 (hg _ gw_141) rfl dX5_tellSecret_73 ?_
  refine lv_iload hx hb dX5_tellSecret_76 (lv_at hl 0 rfl) ?_
  refine g_al (wr := [(h4, .inr (8, [.ref h7, .int wp19061])), (h7, .inl (y 1, 18, .inr (.inl (vp_updL (vp_updL (vp_updL (vp_updL wf19062 ((9 : Int32).toNatClampNeg) ((p1 - p1 / 10 * 10).toInt64)) ((8 : Int32).toNatClampNeg) (((p1 / 10) - (p1 / 10) / 10 * 10).toInt64)) ((7 : Int32).toNatClampNeg) ((((p1 / 10) / 10) - ((p1 / 10) / 10) / 10 * 10).toInt64)) ((6 : Int32).toNatClampNeg) (((((p1 / 10) / 10) / 10) - (((p1 / 10) / 10) / 10) / 10 * 10).toInt64))))), (h0, .inr (5, [.ref h2, .ref h3, .ref h4, .ref h5, .int 0])), (h2, .inr (8, [.ref h12, .int 0]))]) (va_runV (As := [.int 0]) (rest := []) ⟨hx, hb, hml, hown, hg⟩ (k_X8_get_23 l D y aS H.size h5 h10 wp19063) (cwV 1 hg ggV_RX5_36_X8_get rfl rfl rfl (by decide +kernel) ⟨Nat.le_of_ble_eq_true rfl, Nat.le_of_ble_eq_true rfl⟩) (g_preV (q := (RX8, TX8, 2)) hK hP hD [2, 3] rfl (by decide) (ci := 8) (q0 := 2) rfl rfl) rfl rfl hl.1 rfl (lv_room (Nat.le_of_ble_eq_true rfl)) dX5_tellSecret_78 ⟨Nat.le_of_ble_eq_true rfl, Nat.le_of_ble_eq_true rfl⟩) hP hD hS hA [2, 3] [0, 1, 4, 5] rfl rfl (by decide) (by decide) ?_
  clear hP hD hS H locs
  refine fun r19070 u H locs hq hP hD hS => ?_
  subst hq
  replace hP : va_P D vwCl [(h4, .inr (8, [.ref h7, .int wp19061])), (h7, .inl (y 1, 18, .inr (.inl (vp_updL (vp_updL (vp_updL (vp_updL wf19062 ((9 : Int32).toNatClampNeg) ((p1 - p1 / 10 * 10).toInt64)) ((8 : Int32).toNatClampNeg) (((p1 / 10) - (p1 / 10) / 10 * 10).toInt64)) ((7 : Int32).toNatClampNeg) ((((p1 / 10) / 10) - ((p1 / 10) / 10) / 10 * 10).toInt64)) ((6 : Int32).toNatClampNeg) (((((p1 / 10) / 10) / 10) - (((p1 / 10) / 10) / 10) / 10 * 10).toInt64))))), (h0, .inr (5, [.ref h2, .ref h3, .ref h4, .ref h5, .int 0])), (h2, .inr (8, [.ref h12, .int 0])), (h5, .inr (8, [.ref h10, .int wp19063])), (h10, .inl (y 1, 3, .inr (.inl (vp_updL (fun _ => 0) ((1 : Int32).toNatClampNeg) 4))))] H := hP
  replace hD : va_D A [(h4, .inr (8, [.ref h7, .int wp19061])), (h7, .inl (y 1, 18, .inr (.inl (vp_updL (vp_updL (vp_updL (vp_updL wf19062 ((9 : Int32).toNatClampNeg) ((p1 - p1 / 10 * 10).toInt64)) ((8 : Int32).toNatClampNeg) (((p1 / 10) - (p1 / 10) / 10 * 10).toInt64)) ((7 : Int32).toNatClampNeg) ((((p1 / 10) / 10) - ((p1 / 10) / 10) / 10 * 10).toInt64)) ((6 : Int32).toNatClampNeg) (((((p1 / 10) / 10) / 10) - (((p1 / 10) / 10) / 10) / 10 * 10).toInt64))))), (h0, .inr (5, [.ref h2, .ref h3, .ref h4, .ref h5, .int 0])), (h2, .inr (8, [.ref h12, .int 0])), (h5, .inr (8, [.ref h10, .int wp19063])), (h10, .inl (y 1, 3, .inr (.inl (vp_updL (fun _ => 0) ((1 : Int32).toNatClampNeg) 4))))] := hD
  refine lv_lconst (v := 0) hx hb dX5_tellSecret_81 (by decide) ?_
  refine W.lcmp hx hb dX5_tellSecret_82 ?_
  refine g_fi (v := 0) (by decide +kernel) ?_
  refine lv_if_le (tgt := 89) hx hb dX5_tellSecret_83 (by decide) (fun _ => ?_) (fun c9 => absurd c9 (by decide +kernel))
  refine lv_iinc (v := 1) (lv' := [(6, .int 1), (5, .int 0), (4, .int ((((p1 / 10) / 10) / 10) / 10)), (0, .ref h0), (1, .int 1), (2, .int p1), (3, .int 4)]) hx hb dX5_tellSecret_89 hl (k := 0) rfl (by decide +kernel) (by decide) rfl ?_
  clear hl
  clear ls
  intro ls hl
  refine lv_goto (tgt := 66) hx hb dX5_tellSecret_92 (by decide) ?_
  refine lv_iload hx hb dX5_tellSecret_66 (lv_at hl 0 rfl) ?_
  refine lv_iconst (v := 3) hx hb dX5_tellSecret_68 (by decide) ?_
  refine lv_icmp_ge (tgt := 95) hx hb dX5_tellSecret_69 (by decide) (fun c9 => absurd c9 (by decide +kernel)) (fun _ => ?_)
  refine lv_aload_n hx hb dX5_tellSecret_72 rfl (lv_at hl 3 rfl) ?_
  refine gm_get (D := D) (ci := 5) (v := .ref h5) (C := RX5) (T := TX5) (N := 5) hx hb hg inlX5 hown hK.1 hP 2 rfl rfl 3 (by decide) tX5_3 (hg _ gw_141) rfl dX5_tellSecret_73 ?_
  refine lv_iload hx hb dX5_tellSecret_76 (lv_at hl 0 rfl) ?_
  refine g_al (wr := [(h4, .inr (8, [.ref h7, .int wp19061])), (h7, .inl (y 1, 18, .inr (.inl (vp_updL (vp_updL (vp_updL (vp_updL wf19062 ((9 : Int32).toNatClampNeg) ((p1 - p1 / 10 * 10).toInt64)) ((8 : Int32).toNatClampNeg) (((p1 / 10) - (p1 / 10) / 10 * 10).toInt64)) ((7 : Int32).toNatClampNeg) ((((p1 / 10) / 10) - ((p1 / 10) / 10) / 10 * 10).toInt64)) ((6 : Int32).toNatClampNeg) (((((p1 / 10) / 10) / 10) - (((p1 / 10) / 10) / 10) / 10 * 10).toInt64))))), (h0, .inr (5, [.ref h2, .ref h3, .ref h4, .ref h5, .int 0])), (h2, .inr (8, [.ref h12, .int 0]))]) (va_runV (As := [.int 1]) (rest := []) ⟨hx, hb, hml, hown, hg⟩ (k_X8_get_24 l D y aS H.size h5 h10 wp19063) (cwV 1 hg ggV_RX5_36_X8_get rfl rfl rfl (by decide +kernel) ⟨Nat.le_of_ble_eq_true rfl, Nat.le_of_ble_eq_true rfl⟩) (g_preV (q := (RX8, TX8, 2)) hK hP hD [4, 5] rfl (by decide) (ci := 8) (q0 := 4) rfl rfl) rfl rfl hl.1 rfl (lv_room (Nat.le_of_ble_eq_true rfl)) dX5_tellSecret_78 ⟨Nat.le_of_ble_eq_true rfl, Nat.le_of_ble_eq_true rfl⟩) hP hD hS hA [4, 5] [0, 1, 2, 3] rfl rfl (by decide) (by decide) ?_
  clear hP hD hS H locs
  refine fun r19071 u H locs hq hP hD hS => ?_
  subst hq
  replace hP : va_P D vwCl [(h4, .inr (8, [.ref h7, .int wp19061])), (h7, .inl (y 1, 18, .inr (.inl (vp_updL (vp_updL (vp_updL (vp_updL wf19062 ((9 : Int32).toNatClampNeg) ((p1 - p1 / 10 * 10).toInt64)) ((8 : Int32).toNatClampNeg) (((p1 / 10) - (p1 / 10) / 10 * 10).toInt64)) ((7 : Int32).toNatClampNeg) ((((p1 / 10) / 10) - ((p1 / 10) / 10) / 10 * 10).toInt64)) ((6 : Int32).toNatClampNeg) (((((p1 / 10) / 10) / 10) - (((p1 / 10) / 10) / 10) / 10 * 10).toInt64))))), (h0, .inr (5, [.ref h2, .ref h3, .ref h4, .ref h5, .int 0])), (h2, .inr (8, [.ref h12, .int 0])), (h5, .inr (8, [.ref h10, .int wp19063])), (h10, .inl (y 1, 3, .inr (.inl (vp_updL (fun _ => 0) ((1 : Int32).toNatClampNeg) 4))))] H := hP
  replace hD : va_D A [(h4, .inr (8, [.ref h7, .int wp19061])), (h7, .inl (y 1, 18, .inr (.inl (vp_updL (vp_updL (vp_updL (vp_updL wf19062 ((9 : Int32).toNatClampNeg) ((p1 - p1 / 10 * 10).toInt64)) ((8 : Int32).toNatClampNeg) (((p1 / 10) - (p1 / 10) / 10 * 10).toInt64)) ((7 : Int32).toNatClampNeg) ((((p1 / 10) / 10) - ((p1 / 10) / 10) / 10 * 10).toInt64)) ((6 : Int32).toNatClampNeg) (((((p1 / 10) / 10) / 10) - (((p1 / 10) / 10) / 10) / 10 * 10).toInt64))))), (h0, .inr (5, [.ref h2, .ref h3, .ref h4, .ref h5, .int 0])), (h2, .inr (8, [.ref h12, .int 0])), (h5, .inr (8, [.ref h10, .int wp19063])), (h10, .inl (y 1, 3, .inr (.inl (vp_updL (fun _ => 0) ((1 : Int32).toNatClampNeg) 4))))] := hD
  refine lv_lconst (v := 0) hx hb dX5_tellSecret_81 (by decide) ?_
  refine W.lcmp hx hb dX5_tellSecret_82 ?_
  refine g_fi (v := 1) (by decide +kernel) ?_
  refine lv_if_le (tgt := 89) hx hb dX5_tellSecret_83 (by decide) (fun c9 => absurd c9 (by decide +kernel)) (fun _ => ?_)
  refine lv_iinc (v := 1) (lv' := [(5, .int 1), (6, .int 1), (4, .int ((((p1 / 10) / 10) / 10) / 10)), (0, .ref h0), (1, .int 1), (2, .int p1), (3, .int 4)]) hx hb dX5_tellSecret_86 hl (k := 1) rfl (by decide +kernel) (by decide) rfl ?_
  clear hl
  clear ls
  intro ls hl
  refine lv_iinc (v := 2) (lv' := [(6, .int 2), (5, .int 1), (4, .int ((((p1 / 10) / 10) / 10) / 10)), (0, .ref h0), (1, .int 1), (2, .int p1), (3, .int 4)]) hx hb dX5_tellSecret_89 hl (k := 1) rfl (by decide +kernel) (by decide) rfl ?_
  clear hl
  clear ls
  intro ls hl
  refine lv_goto (tgt := 66) hx hb dX5_tellSecret_92 (by decide) ?_
  refine lv_iload hx hb dX5_tellSecret_66 (lv_at hl 0 rfl) ?_
  refine lv_iconst (v := 3) hx hb dX5_tellSecret_68 (by decide) ?_
  refine lv_icmp_ge (tgt := 95) hx hb dX5_tellSecret_69 (by decide) (fun c9 => absurd c9 (by decide +kernel)) (fun _ => ?_)
  refine lv_aload_n hx hb dX5_tellSecret_72 rfl (lv_at hl 3 rfl) ?_
  refine gm_get (D := D) (ci := 5) (v := .ref h5) (C := RX5) (T := TX5) (N := 5) hx hb hg inlX5 hown hK.1 hP 2 rfl rfl 3 (by decide) tX5_3 (hg _ gw_141) rfl dX5_tellSecret_73 ?_
  refine lv_iload hx hb dX5_tellSecret_76 (lv_at hl 0 rfl) ?_
  refine g_al (wr := [(h4, .inr (8, [.ref h7, .int wp19061])), (h7, .inl (y 1, 18, .inr (.inl (vp_updL (vp_updL (vp_updL (vp_updL wf19062 ((9 : Int32).toNatClampNeg) ((p1 - p1 / 10 * 10).toInt64)) ((8 : Int32).toNatClampNeg) (((p1 / 10) - (p1 / 10) / 10 * 10).toInt64)) ((7 : Int32).toNatClampNeg) ((((p1 / 10) / 10) - ((p1 / 10) / 10) / 10 * 10).toInt64)) ((6 : Int32).toNatClampNeg) (((((p1 / 10) / 10) / 10) - (((p1 / 10) / 10) / 10) / 10 * 10).toInt64))))), (h0, .inr (5, [.ref h2, .ref h3, .ref h4, .ref h5, .int 0])), (h2, .inr (8, [.ref h12, .int 0]))]) (va_runV (As := [.int 2]) (rest := []) ⟨hx, hb, hml, hown, hg⟩ (k_X8_get_25 l D y aS H.size h5 h10 wp19063) (cwV 1 hg ggV_RX5_36_X8_get rfl rfl rfl (by decide +kernel) ⟨Nat.le_of_ble_eq_true rfl, Nat.le_of_ble_eq_true rfl⟩) (g_preV (q := (RX8, TX8, 2)) hK hP hD [4, 5] rfl (by decide) (ci := 8) (q0 := 4) rfl rfl) rfl rfl hl.1 rfl (lv_room (Nat.le_of_ble_eq_true rfl)) dX5_tellSecret_78 ⟨Nat.le_of_ble_eq_true rfl, Nat.le_of_ble_eq_true rfl⟩) hP hD hS hA [4, 5] [0, 1, 2, 3] rfl rfl (by decide) (by decide) ?_
  clear hP hD hS H locs
  refine fun r19072 u H locs hq hP hD hS => ?_
  subst hq
  replace hP : va_P D vwCl [(h4, .inr (8, [.ref h7, .int wp19061])), (h7, .inl (y 1, 18, .inr (.inl (vp_updL (vp_updL (vp_updL (vp_updL wf19062 ((9 : Int32).toNatClampNeg) ((p1 - p1 / 10 * 10).toInt64)) ((8 : Int32).toNatClampNeg) (((p1 / 10) - (p1 / 10) / 10 * 10).toInt64)) ((7 : Int32).toNatClampNeg) ((((p1 / 10) / 10) - ((p1 / 10) / 10) / 10 * 10).toInt64)) ((6 : Int32).toNatClampNeg) (((((p1 / 10) / 10) / 10) - (((p1 / 10) / 10) / 10) / 10 * 10).toInt64))))), (h0, .inr (5, [.ref h2, .ref h3, .ref h4, .ref h5, .int 0])), (h2, .inr (8, [.ref h12, .int 0])), (h5, .inr (8, [.ref h10, .int wp19063])), (h10, .inl (y 1, 3, .inr (.inl (vp_updL (fun _ => 0) ((1 : Int32).toNatClampNeg) 4))))] H := hP
  replace hD : va_D A [(h4, .inr (8, [.ref h7, .int wp19061])), (h7, .inl (y 1, 18, .inr (.inl (vp_updL (vp_updL (vp_updL (vp_updL wf19062 ((9 : Int32).toNatClampNeg) ((p1 - p1 / 10 * 10).toInt64)) ((8 : Int32).toNatClampNeg) (((p1 / 10) - (p1 / 10) / 10 * 10).toInt64)) ((7 : Int32).toNatClampNeg) ((((p1 / 10) / 10) - ((p1 / 10) / 10) / 10 * 10).toInt64)) ((6 : Int32).toNatClampNeg) (((((p1 / 10) / 10) / 10) - (((p1 / 10) / 10) / 10) / 10 * 10).toInt64))))), (h0, .inr (5, [.ref h2, .ref h3, .ref h4, .ref h5, .int 0])), (h2, .inr (8, [.ref h12, .int 0])), (h5, .inr (8, [.ref h10, .int wp19063])), (h10, .inl (y 1, 3, .inr (.inl (vp_updL (fun _ => 0) ((1 : Int32).toNatClampNeg) 4))))] := hD
  refine lv_lconst (v := 0) hx hb dX5_tellSecret_81 (by decide) ?_
  refine W.lcmp hx hb dX5_tellSecret_82 ?_
  refine g_fi (v := 0) (by decide +kernel) ?_
  refine lv_if_le (tgt := 89) hx hb dX5_tellSecret_83 (by decide) (fun _ => ?_) (fun c9 => absurd c9 (by decide +kernel))
  refine lv_iinc (v := 3) (lv' := [(6, .int 3), (5, .int 1), (4, .int ((((p1 / 10) / 10) / 10) / 10)), (0, .ref h0), (1, .int 1), (2, .int p1), (3, .int 4)]) hx hb dX5_tellSecret_89 hl (k := 0) rfl (by decide +kernel) (by decide) rfl ?_
  clear hl
  clear ls
  intro ls hl
  refine lv_goto (tgt := 66) hx hb dX5_tellSecret_92 (by decide) ?_
  refine lv_iload hx hb dX5_tellSecret_66 (lv_at hl 0 rfl) ?_
  refine lv_iconst (v := 3) hx hb dX5_tellSecret_68 (by decide) ?_
  refine lv_icmp_ge (tgt := 95) hx hb dX5_tellSecret_69 (by decide) (fun _ => ?_) (fun c9 => absurd c9 (by decide +kernel))
  refine lv_iload hx hb dX5_tellSecret_95 (lv_at hl 1 rfl) ?_
  exact g_iret hx hb hr hlocks () (hP.sub [2, 0, 1, 4, 5, 3] rfl) (hD.sub [2, 0, 1, 4, 5, 3] (by decide +kernel) rfl) hS rfl rfl (Nat.le_of_ble_eq_true rfl) (Nat.le_of_ble_eq_true rfl) dX5_tellSecret_97
set_option maxRecDepth 100000 in
set_option maxHeartbeats 4000000 in
theorem k_X8_set_38 (l : Launch) (D : va_G) (y : Nat → ClassId) (aS : Nat → Nat) (sz : Nat) (h0 : Nat) (p1 : Int64) (h2 : Nat) (wp19075 : Int32) (wf19076 : Nat → Int64) : Met l yX8_set (Cond.code yX8_set cX8_set 4 none :: wsL_law) ({ frames := 0, cells := 0, slots := 0, locals := 0 } : Room) (va_Pc [.ref h0, .int 15, .long p1] (gI D y aS [(h0, .inr (8, [.ref h2, .int wp19075])), (h2, .inl (y 1, 18, .inr (.inl wf19076)))] sz)) (va_Qv (fun (u : Unit) => True) (fun u => gO D (va_A [(h0, .inr (8, [.ref h2, .int wp19075])), (h2, .inl (y 1, 18, .inr (.inl wf19076)))] sz) [(h0, .inr (8, [.ref h2, .int wp19075])), (h2, .inl (y 1, 18, .inr (.inl (vp_updL wf19076 ((15 : Int32).toNatClampNeg) p1))))]) (va_A [(h0, .inr (8, [.ref h2, .int wp19075])), (h2, .inl (y 1, 18, .inr (.inl wf19076)))] sz)) 0 0 (va_A [(h0, .inr (8, [.ref h2, .int wp19075])), (h2, .inl (y 1, 18, .inr (.inl wf19076)))] sz) := by
  refine g_of (by decide) (Nat.le_of_ble_eq_true rfl) ?_
  intro p e s m below meth c ls A hx hb hr hml hown hg hlocks hin hsz hK hP hD hS hA hAe hl
  rw [← hAe]
  replace hown : s.vm.findClass RX8 = some m.cls := hown
  replace hl : lv_has ls 4 [(0, .ref h0), (1, .int 15), (2, .long p1)] := hl
  refine lv_iload_n hx hb dX8_set_0 rfl (lv_at hl 1 rfl) ?_
  refine lv_if_lt (tgt := 20) hx hb dX8_set_1 (by decide) (fun c9 => absurd c9 (by decide +kernel)) (fun _ => ?_)
  refine lv_iload_n hx hb dX8_set_4 rfl (lv_at hl 1 rfl) ?_
  refine lv_aload_n hx hb dX8_set_5 rfl (lv_at hl 0 rfl) ?_
  refine gm_get (D := D) (ci := 8) (v := .ref h2) (C := RX8) (T := TX8) (N := 2) hx hb hg inlX8 hown hK.1 hP 0 rfl rfl 0 (by decide) tX8_0 (hg _ gw_98) rfl dX8_set_6 ?_
  refine va_alen hx hb hK.1 hP 1 1 rfl rfl (v := 18) rfl dX8_set_9 ?_
  refine lv_icmp_ge (tgt := 20) hx hb dX8_set_10 (by decide) (fun c9 => absurd c9 (by decide +kernel)) (fun _ => ?_)
  refine lv_aload_n hx hb dX8_set_13 rfl (lv_at hl 0 rfl) ?_
  refine gm_get (D := D) (ci := 8) (v := .ref h2) (C := RX8) (T := TX8) (N := 2) hx hb hg inlX8 hown hK.1 hP 0 rfl rfl 0 (by decide) tX8_0 (hg _ gw_98) rfl dX8_set_14 ?_
  refine lv_iload_n hx hb dX8_set_17 rfl (lv_at hl 1 rfl) ?_
  refine lv_lload_n hx hb dX8_set_18 rfl (lv_at hl 2 rfl) ?_
  refine va_last hx hb hK.1 hP hD hS 1 1 rfl rfl (by unfold vp_in; decide +kernel) dX8_set_19 ?_
  clear hP hD hS
  refine fun H locs (hP : va_P D vwCl [(h0, .inr (8, [.ref h2, .int wp19075])), (h2, .inl (y 1, 18, .inr (.inl (vp_updL wf19076 ((15 : Int32).toNatClampNeg) p1))))] H) (hD : va_D A [(h0, .inr (8, [.ref h2, .int wp19075])), (h2, .inl (y 1, 18, .inr (.inl (vp_updL wf19076 ((15 : Int32).toNatClampNeg) p1))))]) hS => ?_
  exact g_vret hx hb hr hlocks () hP hD hS trivial (Nat.le_of_ble_eq_true rfl) (Nat.le_of_ble_eq_true rfl) dX8_set_20
set_option maxRecDepth 100000 in
set_option maxHeartbeats 4000000 in
theorem k_X8_get_26 (l : Launch) (D : va_G) (y : Nat → ClassId) (aS : Nat → Nat) (sz : Nat) (h0 : Nat) (h1 : Nat) (wp19083 : Int32) : Met l yX8_get (Cond.code yX8_get cX8_get 2 (some .long) :: wsL_law) ({ frames := 0, cells := 0, slots := 0, locals := 0 } : Room) (va_Pc [.ref h0, .int 0] (gI D y aS [(h0, .inr (8, [.ref h1, .int wp19083])), (h1, .inl (y 1, 3, .inr (.inl (vp_updL (fun _ => 0) ((2 : Int32).toNatClampNeg) 4))))] sz)) (va_Ql (fun (r : Int64) (u : Unit) => 0 = r) (fun u => gO D (va_A [(h0, .inr (8, [.ref h1, .int wp19083])), (h1, .inl (y 1, 3, .inr (.inl (vp_updL (fun _ => 0) ((2 : Int32).toNatClampNeg) 4))))] sz) [(h0, .inr (8, [.ref h1, .int wp19083])), (h1, .inl (y 1, 3, .inr (.inl (vp_updL (fun _ => 0) ((2 : Int32).toNatClampNeg) 4))))]) (va_A [(h0, .inr (8, [.ref h1, .int wp19083])), (h1, .inl (y 1, 3, .inr (.inl (vp_updL (fun _ => 0) ((2 : Int32).toNatClampNeg) 4))))] sz)) 0 0 (va_A [(h0, .inr (8, [.ref h1, .int wp19083])), (h1, .inl (y 1, 3, .inr (.inl (vp_updL (fun _ => 0) ((2 : Int32).toNatClampNeg) 4))))] sz) := by
  refine g_of (by decide) (Nat.le_of_ble_eq_true rfl) ?_
  intro p e s m below meth c ls A hx hb hr hml hown hg hlocks hin hsz hK hP hD hS hA hAe hl
  rw [← hAe]
  replace hown : s.vm.findClass RX8 = some m.cls := hown
  replace hl : lv_has ls 2 [(0, .ref h0), (1, .int 0)] := hl
  refine lv_iload_n hx hb dX8_get_0 rfl (lv_at hl 1 rfl) ?_
  refine lv_if_lt (tgt := 22) hx hb dX8_get_1 (by decide) (fun c9 => absurd c9 (by decide +kernel)) (fun _ => ?_)
  refine lv_iload_n hx hb dX8_get_4 rfl (lv_at hl 1 rfl) ?_
  refine lv_aload_n hx hb dX8_get_5 rfl (lv_at hl 0 rfl) ?_
  refine gm_get (D := D) (ci := 8) (v := .ref h1) (C := RX8) (T := TX8) (N := 2) hx hb hg inlX8 hown hK.1 hP 0 rfl rfl 0 (by decide) tX8_0 (hg _ gw_98) rfl dX8_get_6 ?_
  refine va_alen hx hb hK.1 hP 1 1 rfl rfl (v := 3) rfl dX8_get_9 ?_
  refine lv_icmp_ge (tgt := 22) hx hb dX8_get_10 (by decide) (fun c9 => absurd c9 (by decide +kernel)) (fun _ => ?_)
  refine lv_aload_n hx hb dX8_get_13 rfl (lv_at hl 0 rfl) ?_
  refine gm_get (D := D) (ci := 8) (v := .ref h1) (C := RX8) (T := TX8) (N := 2) hx hb hg inlX8 hown hK.1 hP 0 rfl rfl 0 (by decide) tX8_0 (hg _ gw_98) rfl dX8_get_14 ?_
  refine lv_iload_n hx hb dX8_get_17 rfl (lv_at hl 1 rfl) ?_
  refine va_lald hx hb hK.1 hP 1 1 rfl rfl (by unfold vp_in; decide +kernel) dX8_get_18 ?_
  refine g_fj (v := 0) (by rfl) ?_
  refine lv_goto (tgt := 23) hx hb dX8_get_19 (by decide) ?_
  exact g_lret hx hb hr hlocks () hP hD hS rfl (Nat.le_of_ble_eq_true rfl) (Nat.le_of_ble_eq_true rfl) dX8_get_23
set_option maxRecDepth 100000 in
set_option maxHeartbeats 4000000 in
theorem k_X8_get_27 (l : Launch) (D : va_G) (y : Nat → ClassId) (aS : Nat → Nat) (sz : Nat) (h0 : Nat) (h1 : Nat) (wp19085 : Int32) : Met l yX8_get (Cond.code yX8_get cX8_get 2 (some .long) :: wsL_law) ({ frames := 0, cells := 0, slots := 0, locals := 0 } : Room) (va_Pc [.ref h0, .int 1] (gI D y aS [(h0, .inr (8, [.ref h1, .int wp19085])), (h1, .inl (y 1, 3, .inr (.inl (vp_updL (fun _ => 0) ((2 : Int32).toNatClampNeg) 4))))] sz)) (va_Ql (fun (r : Int64) (u : Unit) => 0 = r) (fun u => gO D (va_A [(h0, .inr (8, [.ref h1, .int wp19085])), (h1, .inl (y 1, 3, .inr (.inl (vp_updL (fun _ => 0) ((2 : Int32).toNatClampNeg) 4))))] sz) [(h0, .inr (8, [.ref h1, .int wp19085])), (h1, .inl (y 1, 3, .inr (.inl (vp_updL (fun _ => 0) ((2 : Int32).toNatClampNeg) 4))))]) (va_A [(h0, .inr (8, [.ref h1, .int wp19085])), (h1, .inl (y 1, 3, .inr (.inl (vp_updL (fun _ => 0) ((2 : Int32).toNatClampNeg) 4))))] sz)) 0 0 (va_A [(h0, .inr (8, [.ref h1, .int wp19085])), (h1, .inl (y 1, 3, .inr (.inl (vp_updL (fun _ => 0) ((2 : Int32).toNatClampNeg) 4))))] sz) := by
  refine g_of (by decide) (Nat.le_of_ble_eq_true rfl) ?_
  intro p e s m below meth c ls A hx hb hr hml hown hg hlocks hin hsz hK hP hD hS hA hAe hl
  rw [← hAe]
  replace hown : s.vm.findClass RX8 = some m.cls := hown
  replace hl : lv_has ls 2 [(0, .ref h0), (1, .int 1)] := hl
  refine lv_iload_n hx hb dX8_get_0 rfl (lv_at hl 1 rfl) ?_
  refine lv_if_lt (tgt := 22) hx hb dX8_get_1 (by decide) (fun c9 => absurd c9 (by decide +kernel)) (fun _ => ?_)
  refine lv_iload_n hx hb dX8_get_4 rfl (lv_at hl 1 rfl) ?_
  refine lv_aload_n hx hb dX8_get_5 rfl (lv_at hl 0 rfl) ?_
  refine gm_get (D := D) (ci := 8) (v := .ref h1) (C := RX8) (T := TX8) (N := 2) hx hb hg inlX8 hown hK.1 hP 0 rfl rfl 0 (by decide) tX8_0 (hg _ gw_98) rfl dX8_get_6 ?_
  refine va_alen hx hb hK.1 hP 1 1 rfl rfl (v := 3) rfl dX8_get_9 ?_
  refine lv_icmp_ge (tgt := 22) hx hb dX8_get_10 (by decide) (fun c9 => absurd c9 (by decide +kernel)) (fun _ => ?_)
  refine lv_aload_n hx hb dX8_get_13 rfl (lv_at hl 0 rfl) ?_
  refine gm_get (D := D) (ci := 8) (v := .ref h1) (C := RX8) (T := TX8) (N := 2) hx hb hg inlX8 hown hK.1 hP 0 rfl rfl 0 (by decide) tX8_0 (hg _ gw_98) rfl dX8_get_14 ?_
  refine lv_iload_n hx hb dX8_get_17 rfl (lv_at hl 1 rfl) ?_
  refine va_lald hx hb hK.1 hP 1 1 rfl rfl (by unfold vp_in; decide +kernel) dX8_get_18 ?_
  refine g_fj (v := 0) (by rfl) ?_
  refine lv_goto (tgt := 23) hx hb dX8_get_19 (by decide) ?_
  exact g_lret hx hb hr hlocks () hP hD hS rfl (Nat.le_of_ble_eq_true rfl) (Nat.le_of_ble_eq_true rfl) dX8_get_23
set_option maxRecDepth 100000 in
set_option maxHeartbeats 4000000 in
theorem k_X8_get_28 (l : Launch) (D : va_G) (y : Nat → ClassId) (aS : Nat → Nat) (sz : Nat) (h0 : Nat) (h1 : Nat) (wp19087 : Int32) : Met l yX8_get (Cond.code yX8_get cX8_get 2 (some .long) :: wsL_law) ({ frames := 0, cells := 0, slots := 0, locals := 0 } : Room) (va_Pc [.ref h0, .int 2] (gI D y aS [(h0, .inr (8, [.ref h1, .int wp19087])), (h1, .inl (y 1, 3, .inr (.inl (vp_updL (fun _ => 0) ((2 : Int32).toNatClampNeg) 4))))] sz)) (va_Ql (fun (r : Int64) (u : Unit) => 4 = r) (fun u => gO D (va_A [(h0, .inr (8, [.ref h1, .int wp19087])), (h1, .inl (y 1, 3, .inr (.inl (vp_updL (fun _ => 0) ((2 : Int32).toNatClampNeg) 4))))] sz) [(h0, .inr (8, [.ref h1, .int wp19087])), (h1, .inl (y 1, 3, .inr (.inl (vp_updL (fun _ => 0) ((2 : Int32).toNatClampNeg) 4))))]) (va_A [(h0, .inr (8, [.ref h1, .int wp19087])), (h1, .inl (y 1, 3, .inr (.inl (vp_updL (fun _ => 0) ((2 : Int32).toNatClampNeg) 4))))] sz)) 0 0 (va_A [(h0, .inr (8, [.ref h1, .int wp19087])), (h1, .inl (y 1, 3, .inr (.inl (vp_updL (fun _ => 0) ((2 : Int32).toNatClampNeg) 4))))] sz) := by
  refine g_of (by decide) (Nat.le_of_ble_eq_true rfl) ?_
  intro p e s m below meth c ls A hx hb hr hml hown hg hlocks hin hsz hK hP hD hS hA hAe hl
  rw [← hAe]
  replace hown : s.vm.findClass RX8 = some m.cls := hown
  replace hl : lv_has ls 2 [(0, .ref h0), (1, .int 2)] := hl
  refine lv_iload_n hx hb dX8_get_0 rfl (lv_at hl 1 rfl) ?_
  refine lv_if_lt (tgt := 22) hx hb dX8_get_1 (by decide) (fun c9 => absurd c9 (by decide +kernel)) (fun _ => ?_)
  refine lv_iload_n hx hb dX8_get_4 rfl (lv_at hl 1 rfl) ?_
  refine lv_aload_n hx hb dX8_get_5 rfl (lv_at hl 0 rfl) ?_
  refine gm_get (D := D) (ci := 8) (v := .ref h1) (C := RX8) (T := TX8) (N := 2) hx hb hg inlX8 hown hK.1 hP 0 rfl rfl 0 (by decide) tX8_0 (hg _ gw_98) rfl dX8_get_6 ?_
  refine va_alen hx hb hK.1 hP 1 1 rfl rfl (v := 3) rfl dX8_get_9 ?_
  refine lv_icmp_ge (tgt := 22) hx hb dX8_get_10 (by decide) (fun c9 => absurd c9 (by decide +kernel)) (fun _ => ?_)
  refine lv_aload_n hx hb dX8_get_13 rfl (lv_at hl 0 rfl) ?_
  refine gm_get (D := D) (ci := 8) (v := .ref h1) (C := RX8) (T := TX8) (N := 2) hx hb hg inlX8 hown hK.1 hP 0 rfl rfl 0 (by decide) tX8_0 (hg _ gw_98) rfl dX8_get_14 ?_
  refine lv_iload_n hx hb dX8_get_17 rfl (lv_at hl 1 rfl) ?_
  refine va_lald hx hb hK.1 hP 1 1 rfl rfl (by unfold vp_in; decide +kernel) dX8_get_18 ?_
  refine g_fj (v := 4) (by rfl) ?_
  refine lv_goto (tgt := 23) hx hb dX8_get_19 (by decide) ?_
  exact g_lret hx hb hr hlocks () hP hD hS rfl (Nat.le_of_ble_eq_true rfl) (Nat.le_of_ble_eq_true rfl) dX8_get_23
set_option maxRecDepth 100000 in
set_option maxHeartbeats 4000000 in
theorem k_X5_tellSecret_8 (l : Launch) (D : va_G) (y : Nat → ClassId) (aS : Nat → Nat) (sz : Nat) (h0 : Nat) (p1 : Int32) (h2 : Nat) (h3 : Nat) (h4 : Nat) (h5 : Nat) (wp19089 : Int32) (h7 : Nat) (wp19090 : Int32) (wf19091 : Nat → Int64) (h10 : Nat) (wp19092 : Int32) (h12 : Nat) : Met l yX5_tellSecret (Cond.code yX5_tellSecret cX5_tellSecret 7 (some .int) :: wsL_law) ({ frames := 1, cells := 0, slots := 0, locals := 23 } : Room) (va_Pc [.ref h0, .int 2, .int p1, .int 4] (gI D y aS [(h0, .inr (5, [.ref h2, .ref h3, .ref h4, .ref h5, .int wp19089])), (h4, .inr (8, [.ref h7, .int wp19090])), (h7, .inl (y 1, 18, .inr (.inl wf19091))), (h5, .inr (8, [.ref h10, .int wp19092])), (h10, .inl (y 1, 3, .inr (.inl (fun _ => 0)))), (h2, .inr (8, [.ref h12, .int 0]))] sz)) (va_Qi (fun (r : Int32) (u : Unit) => 1 = r) (fun u => gO D (va_A [(h0, .inr (5, [.ref h2, .ref h3, .ref h4, .ref h5, .int wp19089])), (h4, .inr (8, [.ref h7, .int wp19090])), (h7, .inl (y 1, 18, .inr (.inl wf19091))), (h5, .inr (8, [.ref h10, .int wp19092])), (h10, .inl (y 1, 3, .inr (.inl (fun _ => 0)))), (h2, .inr (8, [.ref h12, .int 0]))] sz) [(h0, .inr (5, [.ref h2, .ref h3, .ref h4, .ref h5, .int 0])), (h4, .inr (8, [.ref h7, .int wp19090])), (h7, .inl (y 1, 18, .inr (.inl (vp_updL (vp_updL (vp_updL (vp_updL wf19091 ((15 : Int32).toNatClampNeg) ((p1 - p1 / 10 * 10).toInt64)) ((14 : Int32).toNatClampNeg) (((p1 / 10) - (p1 / 10) / 10 * 10).toInt64)) ((13 : Int32).toNatClampNeg) ((((p1 / 10) / 10) - ((p1 / 10) / 10) / 10 * 10).toInt64)) ((12 : Int32).toNatClampNeg) (((((p1 / 10) / 10) / 10) - (((p1 / 10) / 10) / 10) / 10 * 10).toInt64))))), (h5, .inr (8, [.ref h10, .int wp19092])), (h10, .inl (y 1, 3, .inr (.inl (vp_updL (fun _ => 0) ((2 : Int32).toNatClampNeg) 4)))), (h2, .inr (8, [.ref h12, .int 0]))]) (va_A [(h0, .inr (5, [.ref h2, .ref h3, .ref h4, .ref h5, .int wp19089])), (h4, .inr (8, [.ref h7, .int wp19090])), (h7, .inl (y 1, 18, .inr (.inl wf19091))), (h5, .inr (8, [.ref h10, .int wp19092])), (h10, .inl (y 1, 3, .inr (.inl (fun _ => 0)))), (h2, .inr (8, [.ref h12, .int 0]))] sz)) 0 0 (va_A [(h0, .inr (5, [.ref h2, .ref h3, .ref h4, .ref h5, .int wp19089])), (h4, .inr (8, [.ref h7, .int wp19090])), (h7, .inl (y 1, 18, .inr (.inl wf19091))), (h5, .inr (8, [.ref h10, .int wp19092])), (h10, .inl (y 1, 3, .inr (.inl (fun _ => 0)))), (h2, .inr (8, [.ref h12, .int 0]))] sz) := by
  refine g_of (by decide) (Nat.le_of_ble_eq_true rfl) ?_
  intro p e s m below meth c ls A hx hb hr hml hown hg hlocks hin hsz hK hP hD hS hA hAe hl
  rw [← hAe]
  replace hown : s.vm.findClass RX5 = some m.cls := hown
  replace hl : lv_has ls 7 [(0, .ref h0), (1, .int 2), (2, .int p1), (3, .int 4)] := hl
  refine lv_iload_n hx hb dX5_tellSecret_0 rfl (lv_at hl 2 rfl) ?_
  refine lv_istore (lv' := [(4, .int p1), (0, .ref h0), (1, .int 2), (2, .int p1), (3, .int 4)]) hx hb dX5_tellSecret_1 hl (by decide) rfl ?_
  clear hl
  clear ls
  intro ls hl
  refine lv_iload_n hx hb dX5_tellSecret_3 rfl (lv_at hl 4 rfl) ?_
  refine lv_iconst (v := 1) hx hb dX5_tellSecret_4 (by decide) ?_
  refine lv_isub hx hb dX5_tellSecret_5 ?_
  refine g_fi (v := 3) (by decide +kernel) ?_
  refine lv_istore (lv' := [(5, .int 3), (4, .int p1), (0, .ref h0), (1, .int 2), (2, .int p1), (3, .int 4)]) hx hb dX5_tellSecret_6 hl (by decide) rfl ?_
  clear hl
  clear ls
  intro ls hl
  refine lv_iload hx hb dX5_tellSecret_8 (lv_at hl 0 rfl) ?_
  refine lv_if_lt (tgt := 46) hx hb dX5_tellSecret_10 (by decide) (fun c9 => absurd c9 (by decide +kernel)) (fun _ => ?_)
  refine lv_aload_n hx hb dX5_tellSecret_13 rfl (lv_at hl 2 rfl) ?_
  refine gm_get (D := D) (ci := 5) (v := .ref h4) (C := RX5) (T := TX5) (N := 5) hx hb hg inlX5 hown hK.1 hP 0 rfl rfl 2 (by decide) tX5_2 (hg _ gw_140) rfl dX5_tellSecret_14 ?_
  refine lv_iload_n hx hb dX5_tellSecret_17 rfl (lv_at hl 3 rfl) ?_
  refine lv_bipush (v := 6) hx hb dX5_tellSecret_18 (by decide +kernel) ?_
  refine lv_imul hx hb dX5_tellSecret_20 ?_
  refine g_fi (v := 12) (by decide +kernel) ?_
  refine lv_iload hx hb dX5_tellSecret_21 (lv_at hl 0 rfl) ?_
  refine lv_iadd hx hb dX5_tellSecret_23 ?_
  refine g_fi (v := 15) (by decide +kernel) ?_
  refine lv_iload hx hb dX5_tellSecret_24 (lv_at hl 1 rfl) ?_
  refine lv_bipush (v := 10) hx hb dX5_tellSecret_26 (by decide +kernel) ?_
  refine lv_irem hx hb dX5_tellSecret_28 (by decide +kernel) ?_
  refine lv_i2l (v := ((p1 - p1 / 10 * 10).toInt64)) hx hb dX5_tellSecret_29 rfl ?_
  refine g_av (wr := [(h0, .inr (5, [.ref h2, .ref h3, .ref h4, .ref h5, .int wp19089])), (h5, .inr (8, [.ref h10, .int wp19092])), (h10, .inl (y 1, 3, .inr (.inl (fun _ => 0)))), (h2, .inr (8, [.ref h12, .int 0]))]) (va_runV (As := [.int 15, .long ((p1 - p1 / 10 * 10).toInt64)]) (rest := []) ⟨hx, hb, hml, hown, hg⟩ (k_X8_set_38 l D y aS s.heap.size h4 ((p1 - p1 / 10 * 10).toInt64) h7 wp19090 wf19091) (cwV 2 hg ggV_RX5_29_X8_set rfl rfl rfl (by decide +kernel) ⟨Nat.le_of_ble_eq_true rfl, Nat.le_of_ble_eq_true rfl⟩) (g_preV (q := (RX8, TX8, 2)) hK hP hD [1, 2] rfl (by decide) (ci := 8) (q0 := 1) rfl rfl) rfl rfl hl.1 rfl (lv_room (Nat.le_of_ble_eq_true rfl)) dX5_tellSecret_30 ⟨Nat.le_of_ble_eq_true rfl, Nat.le_of_ble_eq_true rfl⟩) hP hD hS hA [1, 2] [0, 3, 4, 5] rfl rfl (by decide) (by decide) ?_
  clear hP hD hS
  refine fun u H locs hq hP hD hS => ?_
  replace hP : va_P D vwCl [(h0, .inr (5, [.ref h2, .ref h3, .ref h4, .ref h5, .int wp19089])), (h5, .inr (8, [.ref h10, .int wp19092])), (h10, .inl (y 1, 3, .inr (.inl (fun _ => 0)))), (h2, .inr (8, [.ref h12, .int 0])), (h4, .inr (8, [.ref h7, .int wp19090])), (h7, .inl (y 1, 18, .inr (.inl (vp_updL wf19091 ((15 : Int32).toNatClampNeg) ((p1 - p1 / 10 * 10).toInt64)))))] H := hP
  replace hD : va_D A [(h0, .inr (5, [.ref h2, .ref h3, .ref h4, .ref h5, .int wp19089])), (h5, .inr (8, [.ref h10, .int wp19092])), (h10, .inl (y 1, 3, .inr (.inl (fun _ => 0)))), (h2, .inr (8, [.ref h12, .int 0])), (h4, .inr (8, [.ref h7, .int wp19090])), (h7, .inl (y 1, 18, .inr (.inl (vp_updL wf19091 ((15 : Int32).toNatClampNeg) ((p1 - p1 / 10 * 10).toInt64)))))] := hD
  refine lv_iload hx hb dX5_tellSecret_33 (lv_at hl 1 rfl) ?_
  refine lv_bipush (v := 10) hx hb dX5_tellSecret_35 (by decide +kernel) ?_
  refine lv_idiv hx hb dX5_tellSecret_37 (by decide +kernel) ?_
  refine lv_istore (lv' := [(4, .int (p1 / 10)), (5, .int 3), (0, .ref h0), (1, .int 2), (2, .int p1), (3, .int 4)]) hx hb dX5_tellSecret_38 hl (by decide) rfl ?_
  clear hl
  clear ls
  intro ls hl
  refine lv_iinc (v := 2) (lv' := [(5, .int 2), (4, .int (p1 / 10)), (0, .ref h0), (1, .int 2), (2, .int p1), (3, .int 4)]) hx hb dX5_tellSecret_40 hl (k := 1) rfl (by decide +kernel) (by decide) rfl ?_
  clear hl
  clear ls
  intro ls hl
  refine lv_goto (tgt := 8) hx hb dX5_tellSecret_43 (by decide) ?_
  refine lv_iload hx hb dX5_tellSecret_8 (lv_at hl 0 rfl) ?_
  refine lv_if_lt (tgt := 46) hx hb dX5_tellSecret_10 (by decide) (fun c9 => absurd c9 (by decide +kernel)) (fun _ => ?_)
  refine lv_aload_n hx hb dX5_tellSecret_13 rfl (lv_at hl 2 rfl) ?_
  refine gm_get (D := D) (ci := 5) (v := .ref h4) (C := RX5) (T := TX5) (N := 5) hx hb hg inlX5 hown hK.1 hP 0 rfl rfl 2 (by decide) tX5_2 (hg _ gw_140) rfl dX5_tellSecret_14 ?_
  refine lv_iload_n hx hb dX5_tellSecret_17 rfl (lv_at hl 3 rfl) ?_
  refine lv_bipush (v := 6) hx hb dX5_tellSecret_18 (by decide +kernel) ?_
  refine lv_imul hx hb dX5_tellSecret_20 ?_
  refine g_fi (v := 12) (by decide +kernel) ?_
  refine lv_iload hx hb dX5_tellSecret_21 (lv_at hl 0 rfl) ?_
  refine lv_iadd hx hb dX5_tellSecret_23 ?_
  refine g_fi (v := 14) (by decide +kernel) ?_
  refine lv_iload hx hb dX5_tellSecret_24 (lv_at hl 1 rfl) ?_
  refine lv_bipush (v := 10) hx hb dX5_tellSecret_26 (by decide +kernel) ?_
  refine lv_irem hx hb dX5_tellSecret_28 (by decide +kernel) ?_
  refine lv_i2l (v := (((p1 / 10) - (p1 / 10) / 10 * 10).toInt64)) hx hb dX5_tellSecret_29 rfl ?_
  refine g_av (wr := [(h0, .inr (5, [.ref h2, .ref h3, .ref h4, .ref h5, .int wp19089])), (h5, .inr (8, [.ref h10, .int wp19092])), (h10, .inl (y 1, 3, .inr (.inl (fun _ => 0)))), (h2, .inr (8, [.ref h12, .int 0]))]) (va_runV (As := [.int 14, .long (((p1 / 10) - (p1 / 10) / 10 * 10).toInt64)]) (rest := []) ⟨hx, hb, hml, hown, hg⟩ (k_X8_set_35 l D y aS H.size h4 (((p1 / 10) - (p1 / 10) / 10 * 10).toInt64) h7 wp19090 (vp_updL wf19091 ((15 : Int32).toNatClampNeg) ((p1 - p1 / 10 * 10).toInt64))) (cwV 2 hg ggV_RX5_29_X8_set rfl rfl rfl (by decide +kernel) ⟨Nat.le_of_ble_eq_true rfl, Nat.le_of_ble_eq_true rfl⟩) (g_preV (q := (RX8, TX8, 2)) hK hP hD [4, 5] rfl (by decide) (ci := 8) (q0 := 4) rfl rfl) rfl rfl hl.1 rfl (lv_room (Nat.le_of_ble_eq_true rfl)) dX5_tellSecret_30 ⟨Nat.le_of_ble_eq_true rfl, Nat.le_of_ble_eq_true rfl⟩) hP hD hS hA [4, 5] [0, 1, 2, 3] rfl rfl (by decide) (by decide) ?_
  clear hP hD hS H locs
  refine fun u H locs hq hP hD hS => ?_
  replace hP : va_P D vwCl [(h0, .inr (5, [.ref h2, .ref h3, .ref h4, .ref h5, .int wp19089])), (h5, .inr (8, [.ref h10, .int wp19092])), (h10, .inl (y 1, 3, .inr (.inl (fun _ => 0)))), (h2, .inr (8, [.ref h12, .int 0])), (h4, .inr (8, [.ref h7, .int wp19090])), (h7, .inl (y 1, 18, .inr (.inl (vp_updL (vp_updL wf19091 ((15 : Int32).toNatClampNeg) ((p1 - p1 / 10 * 10).toInt64)) ((14 : Int32).toNatClampNeg) (((p1 / 10) - (p1 / 10) / 10 * 10).toInt64)))))] H := hP
  replace hD : va_D A [(h0, .inr (5, [.ref h2, .ref h3, .ref h4, .ref h5, .int wp19089])), (h5, .inr (8, [.ref h10, .int wp19092])), (h10, .inl (y 1, 3, .inr (.inl (fun _ => 0)))), (h2, .inr (8, [.ref h12, .int 0])), (h4, .inr (8, [.ref h7, .int wp19090])), (h7, .inl (y 1, 18, .inr (.inl (vp_updL (vp_updL wf19091 ((15 : Int32).toNatClampNeg) ((p1 - p1 / 10 * 10).toInt64)) ((14 : Int32).toNatClampNeg) (((p1 / 10) - (p1 / 10) / 10 * 10).toInt64)))))] := hD
  refine lv_iload hx hb dX5_tellSecret_33 (lv_at hl 1 rfl) ?_
  refine lv_bipush (v := 10) hx hb dX5_tellSecret_35 (by decide +kernel) ?_
  refine lv_idiv hx hb dX5_tellSecret_37 (by decide +kernel) ?_
  refine lv_istore (lv' := [(4, .int ((p1 / 10) / 10)), (5, .int 2), (0, .ref h0), (1, .int 2), (2, .int p1), (3, .int 4)]) hx hb dX5_tellSecret_38 hl (by decide) rfl ?_
  clear hl
  clear ls
  intro ls hl
  refine lv_iinc (v := 1) (lv' := [(5, .int 1), (4, .int ((p1 / 10) / 10)), (0, .ref h0), (1, .int 2), (2, .int p1), (3, .int 4)]) hx hb dX5_tellSecret_40 hl (k := 1) rfl (by decide +kernel) (by decide) rfl ?_
  clear hl
  clear ls
  intro ls hl
  refine lv_goto (tgt := 8) hx hb dX5_tellSecret_43 (by decide) ?_
  refine lv_iload hx hb dX5_tellSecret_8 (lv_at hl 0 rfl) ?_
  refine lv_if_lt (tgt := 46) hx hb dX5_tellSecret_10 (by decide) (fun c9 => absurd c9 (by decide +kernel)) (fun _ => ?_)
  refine lv_aload_n hx hb dX5_tellSecret_13 rfl (lv_at hl 2 rfl) ?_
  refine gm_get (D := D) (ci := 5) (v := .ref h4) (C := RX5) (T := TX5) (N := 5) hx hb hg inlX5 hown hK.1 hP 0 rfl rfl 2 (by decide) tX5_2 (hg _ gw_140) rfl dX5_tellSecret_14 ?_
  refine lv_iload_n hx hb dX5_tellSecret_17 rfl (lv_at hl 3 rfl) ?_
  refine lv_bipush (v := 6) hx hb dX5_tellSecret_18 (by decide +kernel) ?_
  refine lv_imul hx hb dX5_tellSecret_20 ?_
  refine g_fi (v := 12) (by decide +kernel) ?_
  refine lv_iload hx hb dX5_tellSecret_21 (lv_at hl 0 rfl) ?_
  refine lv_iadd hx hb dX5_tellSecret_23 ?_
  refine g_fi (v := 13) (by decide +kernel) ?_
  refine lv_iload hx hb dX5_tellSecret_24 (lv_at hl 1 rfl) ?_
  refine lv_bipush (v := 10) hx hb dX5_tellSecret_26 (by decide +kernel) ?_
  refine lv_irem hx hb dX5_tellSecret_28 (by decide +kernel) ?_
  refine lv_i2l (v := ((((p1 / 10) / 10) - ((p1 / 10) / 10) / 10 * 10).toInt64)) hx hb dX5_tellSecret_29 rfl ?_
  refine g_av (wr := [(h0, .inr (5, [.ref h2, .ref h3, .ref h4, .ref h5, .int wp19089])), (h5, .inr (8, [.ref h10, .int wp19092])), (h10, .inl (y 1, 3, .inr (.inl (fun _ => 0)))), (h2, .inr (8, [.ref h12, .int 0]))]) (va_runV (As := [.int 13, .long ((((p1 / 10) / 10) - ((p1 / 10) / 10) / 10 * 10).toInt64)]) (rest := []) ⟨hx, hb, hml, hown, hg⟩ (k_X8_set_31 l D y aS H.size h4 ((((p1 / 10) / 10) - ((p1 / 10) / 10) / 10 * 10).toInt64) h7 wp19090 (vp_updL (vp_updL wf19091 ((15 : Int32).toNatClampNeg) ((p1 - p1 / 10 * 10).toInt64)) ((14 : Int32).toNatClampNeg) (((p1 / 10) - (p1 / 10) / 10 * 10).toInt64))) (cwV 2 hg ggV_RX5_29_X8_set rfl rfl rfl (by decide +kernel) ⟨Nat.le_of_ble_eq_true rfl, Nat.le_of_ble_eq_true rfl⟩) (g_preV (q := (RX8, TX8, 2)) hK hP hD [4, 5] rfl (by decide) (ci := 8) (q0 := 4) rfl rfl) rfl rfl hl.1 rfl (lv_room (Nat.le_of_ble_eq_true rfl)) dX5_tellSecret_30 ⟨Nat.le_of_ble_eq_true rfl, Nat.le_of_ble_eq_true rfl⟩) hP hD hS hA [4, 5] [0, 1, 2, 3] rfl rfl (by decide) (by decide) ?_
  clear hP hD hS H locs
  refine fun u H locs hq hP hD hS => ?_
  replace hP : va_P D vwCl [(h0, .inr (5, [.ref h2, .ref h3, .ref h4, .ref h5, .int wp19089])), (h5, .inr (8, [.ref h10, .int wp19092])), (h10, .inl (y 1, 3, .inr (.inl (fun _ => 0)))), (h2, .inr (8, [.ref h12, .int 0])), (h4, .inr (8, [.ref h7, .int wp19090])), (h7, .inl (y 1, 18, .inr (.inl (vp_updL (vp_updL (vp_updL wf19091 ((15 : Int32).toNatClampNeg) ((p1 - p1 / 10 * 10).toInt64)) ((14 : Int32).toNatClampNeg) (((p1 / 10) - (p1 / 10) / 10 * 10).toInt64)) ((13 : Int32).toNatClampNeg) ((((p1 / 10) / 10) - ((p1 / 10) / 10) / 10 * 10).toInt64)))))] H := hP
  replace hD : va_D A [(h0, .inr (5, [.ref h2, .ref h3, .ref h4, .ref h5, .int wp19089])), (h5, .inr (8, [.ref h10, .int wp19092])), (h10, .inl (y 1, 3, .inr (.inl (fun _ => 0)))), (h2, .inr (8, [.ref h12, .int 0])), (h4, .inr (8, [.ref h7, .int wp19090])), (h7, .inl (y 1, 18, .inr (.inl (vp_updL (vp_updL (vp_updL wf19091 ((15 : Int32).toNatClampNeg) ((p1 - p1 / 10 * 10).toInt64)) ((14 : Int32).toNatClampNeg) (((p1 / 10) - (p1 / 10) / 10 * 10).toInt64)) ((13 : Int32).toNatClampNeg) ((((p1 / 10) / 10) - ((p1 / 10) / 10) / 10 * 10).toInt64)))))] := hD
  refine lv_iload hx hb dX5_tellSecret_33 (lv_at hl 1 rfl) ?_
  refine lv_bipush (v := 10) hx hb dX5_tellSecret_35 (by decide +kernel) ?_
  refine lv_idiv hx hb dX5_tellSecret_37 (by decide +kernel) ?_
  refine lv_istore (lv' := [(4, .int (((p1 / 10) / 10) / 10)), (5, .int 1), (0, .ref h0), (1, .int 2), (2, .int p1), (3, .int 4)]) hx hb dX5_tellSecret_38 hl (by decide) rfl ?_
  clear hl
  clear ls
  intro ls hl
  refine lv_iinc (v := 0) (lv' := [(5, .int 0), (4, .int (((p1 / 10) / 10) / 10)), (0, .ref h0), (1, .int 2), (2, .int p1), (3, .int 4)]) hx hb dX5_tellSecret_40 hl (k := 1) rfl (by decide +kernel) (by decide) rfl ?_
  clear hl
  clear ls
  intro ls hl
  refine lv_goto (tgt := 8) hx hb dX5_tellSecret_43 (by decide) ?_
  refine lv_iload hx hb dX5_tellSecret_8 (lv_at hl 0 rfl) ?_
  refine lv_if_lt (tgt := 46) hx hb dX5_tellSecret_10 (by decide) (fun c9 => absurd c9 (by decide +kernel)) (fun _ => ?_)
  refine lv_aload_n hx hb dX5_tellSecret_13 rfl (lv_at hl 2 rfl) ?_
  refine gm_get (D := D) (ci := 5) (v := .ref h4) (C := RX5) (T := TX5) (N := 5) hx hb hg inlX5 hown hK.1 hP 0 rfl rfl 2 (by decide) tX5_2 (hg _ gw_140) rfl dX5_tellSecret_14 ?_
  refine lv_iload_n hx hb dX5_tellSecret_17 rfl (lv_at hl 3 rfl) ?_
  refine lv_bipush (v := 6) hx hb dX5_tellSecret_18 (by decide +kernel) ?_
  refine lv_imul hx hb dX5_tellSecret_20 ?_
  refine g_fi (v := 12) (by decide +kernel) ?_
  refine lv_iload hx hb dX5_tellSecret_21 (lv_at hl 0 rfl) ?_
  refine lv_iadd hx hb dX5_tellSecret_23 ?_
  refine g_fi (v := 12) (by decide +kernel) ?_
  refine lv_iload hx hb dX5_tellSecret_24 (lv_at hl 1 rfl) ?_
  refine lv_bipush (v := 10) hx hb dX5_tellSecret_26 (by decide +kernel) ?_
  refine lv_irem hx hb dX5_tellSecret_28 (by decide +kernel) ?_
  refine lv_i2l (v := (((((p1 / 10) / 10) / 10) - (((p1 / 10) / 10) / 10) / 10 * 10).toInt64)) hx hb dX5_tellSecret_29 rfl ?_
  refine g_av (wr := [(h0, .inr (5, [.ref h2, .ref h3, .ref h4, .ref h5, .int wp19089])), (h5, .inr (8, [.ref h10, .int wp19092])), (h10, .inl (y 1, 3, .inr (.inl (fun _ => 0)))), (h2, .inr (8, [.ref h12, .int 0]))]) (va_runV (As := [.int 12, .long (((((p1 / 10) / 10) / 10) - (((p1 / 10) / 10) / 10) / 10 * 10).toInt64)]) (rest := []) ⟨hx, hb, hml, hown, hg⟩ (k_X8_set_32 l D y aS H.size h4 (((((p1 / 10) / 10) / 10) - (((p1 / 10) / 10) / 10) / 10 * 10).toInt64) h7 wp19090 (vp_updL (vp_updL (vp_updL wf19091 ((15 : Int32).toNatClampNeg) ((p1 - p1 / 10 * 10).toInt64)) ((14 : Int32).toNatClampNeg) (((p1 / 10) - (p1 / 10) / 10 * 10).toInt64)) ((13 : Int32).toNatClampNeg) ((((p1 / 10) / 10) - ((p1 / 10) / 10) / 10 * 10).toInt64))) (cwV 2 hg ggV_RX5_29_X8_set rfl rfl rfl (by decide +kernel) ⟨Nat.le_of_ble_eq_true rfl, Nat.le_of_ble_eq_true rfl⟩) (g_preV (q := (RX8, TX8, 2)) hK hP hD [4, 5] rfl (by decide) (ci := 8) (q0 := 4) rfl rfl) rfl rfl hl.1 rfl (lv_room (Nat.le_of_ble_eq_true rfl)) dX5_tellSecret_30 ⟨Nat.le_of_ble_eq_true rfl, Nat.le_of_ble_eq_true rfl⟩) hP hD hS hA [4, 5] [0, 1, 2, 3] rfl rfl (by decide) (by decide) ?_
  clear hP hD hS H locs
  refine fun u H locs hq hP hD hS => ?_
  replace hP : va_P D vwCl [(h0, .inr (5, [.ref h2, .ref h3, .ref h4, .ref h5, .int wp19089])), (h5, .inr (8, [.ref h10, .int wp19092])), (h10, .inl (y 1, 3, .inr (.inl (fun _ => 0)))), (h2, .inr (8, [.ref h12, .int 0])), (h4, .inr (8, [.ref h7, .int wp19090])), (h7, .inl (y 1, 18, .inr (.inl (vp_updL (vp_updL (vp_updL (vp_updL wf19091 ((15 : Int32).toNatClampNeg) ((p1 - p1 / 10 * 10).toInt64)) ((14 : Int32).toNatClampNeg) (((p1 / 10) - (p1 / 10) / 10 * 10).toInt64)) ((13 : Int32).toNatClampNeg) ((((p1 / 10) / 10) - ((p1 / 10) / 10) / 10 * 10).toInt64)) ((12 : Int32).toNatClampNeg) (((((p1 / 10) / 10) / 10) - (((p1 / 10) / 10) / 10) / 10 * 10).toInt64)))))] H := hP
  replace hD : va_D A [(h0, .inr (5, [.ref h2, .ref h3, .ref h4, .ref h5, .int wp19089])), (h5, .inr (8, [.ref h10, .int wp19092])), (h10, .inl (y 1, 3, .inr (.inl (fun _ => 0)))), (h2, .inr (8, [.ref h12, .int 0])), (h4, .inr (8, [.ref h7, .int wp19090])), (h7, .inl (y 1, 18, .inr (.inl (vp_updL (vp_updL (vp_updL (vp_updL wf19091 ((15 : Int32).toNatClampNeg) ((p1 - p1 / 10 * 10).toInt64)) ((14 : Int32).toNatClampNeg) (((p1 / 10) - (p1 / 10) / 10 * 10).toInt64)) ((13 : Int32).toNatClampNeg) ((((p1 / 10) / 10) - ((p1 / 10) / 10) / 10 * 10).toInt64)) ((12 : Int32).toNatClampNeg) (((((p1 / 10) / 10) / 10) - (((p1 / 10) / 10) / 10) / 10 * 10).toInt64)))))] := hD
  refine lv_iload hx hb dX5_tellSecret_33 (lv_at hl 1 rfl) ?_
  refine lv_bipush (v := 10) hx hb dX5_tellSecret_35 (by decide +kernel) ?_
  refine lv_idiv hx hb dX5_tellSecret_37 (by decide +kernel) ?_
  refine lv_istore (lv' := [(4, .int ((((p1 / 10) / 10) / 10) / 10)), (5, .int 0), (0, .ref h0), (1, .int 2), (2, .int p1), (3, .int 4)]) hx hb dX5_tellSecret_38 hl (by decide) rfl ?_
  clear hl
  clear ls
  intro ls hl
  refine lv_iinc (v := (-1)) (lv' := [(5, .int (-1)), (4, .int ((((p1 / 10) / 10) / 10) / 10)), (0, .ref h0), (1, .int 2), (2, .int p1), (3, .int 4)]) hx hb dX5_tellSecret_40 hl (k := 1) rfl (by decide +kernel) (by decide) rfl ?_
  clear hl
  clear ls
  intro ls hl
  refine lv_goto (tgt := 8) hx hb dX5_tellSecret_43 (by decide) ?_
  refine lv_iload hx hb dX5_tellSecret_8 (lv_at hl 0 rfl) ?_
  refine lv_if_lt (tgt := 46) hx hb dX5_tellSecret_10 (by decide) (fun _ => ?_) (fun c9 => absurd c9 (by decide +kernel))
  refine lv_aload_n hx hb dX5_tellSecret_46 rfl (lv_at hl 2 rfl) ?_
  refine gm_get (D := D) (ci := 5) (v := .ref h5) (C := RX5) (T := TX5) (N := 5) hx hb hg inlX5 hown hK.1 hP 0 rfl rfl 3 (by decide) tX5_3 (hg _ gw_141) rfl dX5_tellSecret_47 ?_
  refine lv_iload_n hx hb dX5_tellSecret_50 rfl (lv_at hl 3 rfl) ?_
  refine lv_iload_n hx hb dX5_tellSecret_51 rfl (lv_at hl 5 rfl) ?_
  refine lv_i2l (v := 4) hx hb dX5_tellSecret_52 (by decide +kernel) ?_
  refine g_av (wr := [(h0, .inr (5, [.ref h2, .ref h3, .ref h4, .ref h5, .int wp19089])), (h2, .inr (8, [.ref h12, .int 0])), (h4, .inr (8, [.ref h7, .int wp19090])), (h7, .inl (y 1, 18, .inr (.inl (vp_updL (vp_updL (vp_updL (vp_updL wf19091 ((15 : Int32).toNatClampNeg) ((p1 - p1 / 10 * 10).toInt64)) ((14 : Int32).toNatClampNeg) (((p1 / 10) - (p1 / 10) / 10 * 10).toInt64)) ((13 : Int32).toNatClampNeg) ((((p1 / 10) / 10) - ((p1 / 10) / 10) / 10 * 10).toInt64)) ((12 : Int32).toNatClampNeg) (((((p1 / 10) / 10) / 10) - (((p1 / 10) / 10) / 10) / 10 * 10).toInt64)))))]) (va_runV (As := [.int 2, .long 4]) (rest := []) ⟨hx, hb, hml, hown, hg⟩ (k_X8_set_26 l D y aS H.size h5 4 h10 wp19092 (fun _ => 0)) (cwV 2 hg ggV_RX5_29_X8_set rfl rfl rfl (by decide +kernel) ⟨Nat.le_of_ble_eq_true rfl, Nat.le_of_ble_eq_true rfl⟩) (g_preV (q := (RX8, TX8, 2)) hK hP hD [1, 2] rfl (by decide) (ci := 8) (q0 := 1) rfl rfl) rfl rfl hl.1 rfl (lv_room (Nat.le_of_ble_eq_true rfl)) dX5_tellSecret_53 ⟨Nat.le_of_ble_eq_true rfl, Nat.le_of_ble_eq_true rfl⟩) hP hD hS hA [1, 2] [0, 3, 4, 5] rfl rfl (by decide) (by decide) ?_
  clear hP hD hS H locs
  refine fun u H locs hq hP hD hS => ?_
  replace hP : va_P D vwCl [(h0, .inr (5, [.ref h2, .ref h3, .ref h4, .ref h5, .int wp19089])), (h2, .inr (8, [.ref h12, .int 0])), (h4, .inr (8, [.ref h7, .int wp19090])), (h7, .inl (y 1, 18, .inr (.inl (vp_updL (vp_updL (vp_updL (vp_updL wf19091 ((15 : Int32).toNatClampNeg) ((p1 - p1 / 10 * 10).toInt64)) ((14 : Int32).toNatClampNeg) (((p1 / 10) - (p1 / 10) / 10 * 10).toInt64)) ((13 : Int32).toNatClampNeg) ((((p1 / 10) / 10) - ((p1 / 10) / 10) / 10 * 10).toInt64)) ((12 : Int32).toNatClampNeg) (((((p1 / 10) / 10) / 10) - (((p1 / 10) / 10) / 10) / 10 * 10).toInt64))))), (h5, .inr (8, [.ref h10, .int wp19092])), (h10, .inl (y 1, 3, .inr (.inl (vp_updL (fun _ => 0) ((2 : Int32).toNatClampNeg) 4))))] H := hP
  replace hD : va_D A [(h0, .inr (5, [.ref h2, .ref h3, .ref h4, .ref h5, .int wp19089])), (h2, .inr (8, [.ref h12, .int 0])), (h4, .inr (8, [.ref h7, .int wp19090])), (h7, .inl (y 1, 18, .inr (.inl (vp_updL (vp_updL (vp_updL (vp_updL wf19091 ((15 : Int32).toNatClampNeg) ((p1 - p1 / 10 * 10).toInt64)) ((14 : Int32).toNatClampNeg) (((p1 / 10) - (p1 / 10) / 10 * 10).toInt64)) ((13 : Int32).toNatClampNeg) ((((p1 / 10) / 10) - ((p1 / 10) / 10) / 10 * 10).toInt64)) ((12 : Int32).toNatClampNeg) (((((p1 / 10) / 10) / 10) - (((p1 / 10) / 10) / 10) / 10 * 10).toInt64))))), (h5, .inr (8, [.ref h10, .int wp19092])), (h10, .inl (y 1, 3, .inr (.inl (vp_updL (fun _ => 0) ((2 : Int32).toNatClampNeg) 4))))] := hD
  refine lv_aload_n hx hb dX5_tellSecret_56 rfl (lv_at hl 2 rfl) ?_
  refine g_av (wr := [(h4, .inr (8, [.ref h7, .int wp19090])), (h7, .inl (y 1, 18, .inr (.inl (vp_updL (vp_updL (vp_updL (vp_updL wf19091 ((15 : Int32).toNatClampNeg) ((p1 - p1 / 10 * 10).toInt64)) ((14 : Int32).toNatClampNeg) (((p1 / 10) - (p1 / 10) / 10 * 10).toInt64)) ((13 : Int32).toNatClampNeg) ((((p1 / 10) / 10) - ((p1 / 10) / 10) / 10 * 10).toInt64)) ((12 : Int32).toNatClampNeg) (((((p1 / 10) / 10) / 10) - (((p1 / 10) / 10) / 10) / 10 * 10).toInt64))))), (h5, .inr (8, [.ref h10, .int wp19092])), (h10, .inl (y 1, 3, .inr (.inl (vp_updL (fun _ => 0) ((2 : Int32).toNatClampNeg) 4))))]) (va_runV (As := []) (rest := []) ⟨hx, hb, hml, hown, hg⟩ (k_X5_findOut_0 l D y aS H.size h0 h2 h3 h4 h5 wp19089 h12) (cwV 0 hg ggV_RX5_33_X5_findOut rfl rfl rfl (by decide +kernel) ⟨Nat.le_of_ble_eq_true rfl, Nat.le_of_ble_eq_true rfl⟩) (g_preV (q := (RX5, TX5, 5)) hK hP hD [0, 1] rfl (by decide) (ci := 5) (q0 := 0) rfl rfl) rfl rfl hl.1 rfl (lv_room (Nat.le_of_ble_eq_true rfl)) dX5_tellSecret_57 ⟨Nat.le_of_ble_eq_true rfl, Nat.le_of_ble_eq_true rfl⟩) hP hD hS hA [0, 1] [2, 3, 4, 5] rfl rfl (by decide) (by decide) ?_
  clear hP hD hS H locs
  refine fun u H locs hq hP hD hS => ?_
  replace hP : va_P D vwCl [(h4, .inr (8, [.ref h7, .int wp19090])), (h7, .inl (y 1, 18, .inr (.inl (vp_updL (vp_updL (vp_updL (vp_updL wf19091 ((15 : Int32).toNatClampNeg) ((p1 - p1 / 10 * 10).toInt64)) ((14 : Int32).toNatClampNeg) (((p1 / 10) - (p1 / 10) / 10 * 10).toInt64)) ((13 : Int32).toNatClampNeg) ((((p1 / 10) / 10) - ((p1 / 10) / 10) / 10 * 10).toInt64)) ((12 : Int32).toNatClampNeg) (((((p1 / 10) / 10) / 10) - (((p1 / 10) / 10) / 10) / 10 * 10).toInt64))))), (h5, .inr (8, [.ref h10, .int wp19092])), (h10, .inl (y 1, 3, .inr (.inl (vp_updL (fun _ => 0) ((2 : Int32).toNatClampNeg) 4)))), (h0, .inr (5, [.ref h2, .ref h3, .ref h4, .ref h5, .int 0])), (h2, .inr (8, [.ref h12, .int 0]))] H := hP
  replace hD : va_D A [(h4, .inr (8, [.ref h7, .int wp19090])), (h7, .inl (y 1, 18, .inr (.inl (vp_updL (vp_updL (vp_updL (vp_updL wf19091 ((15 : Int32).toNatClampNeg) ((p1 - p1 / 10 * 10).toInt64)) ((14 : Int32).toNatClampNeg) (((p1 / 10) - (p1 / 10) / 10 * 10).toInt64)) ((13 : Int32).toNatClampNeg) ((((p1 / 10) / 10) - ((p1 / 10) / 10) / 10 * 10).toInt64)) ((12 : Int32).toNatClampNeg) (((((p1 / 10) / 10) / 10) - (((p1 / 10) / 10) / 10) / 10 * 10).toInt64))))), (h5, .inr (8, [.ref h10, .int wp19092])), (h10, .inl (y 1, 3, .inr (.inl (vp_updL (fun _ => 0) ((2 : Int32).toNatClampNeg) 4)))), (h0, .inr (5, [.ref h2, .ref h3, .ref h4, .ref h5, .int 0])), (h2, .inr (8, [.ref h12, .int 0]))] := hD
  refine lv_iconst (v := 0) hx hb dX5_tellSecret_60 (by decide) ?_
  refine lv_istore (lv' := [(5, .int 0), (4, .int ((((p1 / 10) / 10) / 10) / 10)), (0, .ref h0), (1, .int 2), (2, .int p1), (3, .int 4)]) hx hb dX5_tellSecret_61 hl (by decide) rfl ?_
  clear hl
  clear ls
  intro ls hl
  refine lv_iconst (v := 0) hx hb dX5_tellSecret_63 (by decide) ?_
  refine lv_istore (lv' := [(6, .int 0), (5, .int 0), (4, .int ((((p1 / 10) / 10) / 10) / 10)), (0, .ref h0), (1, .int 2), (2, .int p1), (3, .int 4)]) hx hb dX5_tellSecret_64 hl (by decide) rfl ?_
  clear hl
  clear ls
  intro ls hl
  refine lv_iload hx hb dX5_tellSecret_66 (lv_at hl 0 rfl) ?_
  refine lv_iconst (v := 3) hx hb dX5_tellSecret_68 (by decide) ?_
  refine lv_icmp_ge (tgt := 95) hx hb dX5_tellSecret_69 (by decide) (fun c9 => absurd c9 (by decide +kernel)) (fun _ => ?_)
  refine lv_aload_n hx hb dX5_tellSecret_72 rfl (lv_at hl 3 rfl) ?_
  refine gm_get (D := D) (ci := 5) (v := .ref h5) (C := RX5) (T := TX5) (N := 5) hx hb hg inlX5 hown hK.1 hP 4 rfl rfl 3 (by decide) tX5_3 (hg _ gw_141) rfl dX5_tellSecret_73 ?_
  refine lv_iload hx hb dX5_tellSecret_76 (lv_at hl 0 rfl) ?_
  refine g_al (wr := [(h4, .inr (8, [.ref h7, .int wp19090])), (h7, .inl (y 1, 18, .inr (.inl (vp_updL (vp_updL (vp_updL (vp_updL wf19091 ((15 : Int32).toNatClampNeg) ((p1 - p1 / 10 * 10).toInt64)) ((14 : Int32).toNatClampNeg) (((p1 / 10) - (p1 / 10) / 10 * 10).toInt64)) ((13 : Int32).toNatClampNeg) ((((p1 / 10) / 10) - ((p1 / 10) / 10) / 10 * 10).toInt64)) ((12 : Int32).toNatClampNeg) (((((p1 / 10) / 10) / 10) - (((p1 / 10) / 10) / 10) / 10 * 10).toInt64))))), (h0, .inr (5, [.ref h2, .ref h3, .ref h4, .ref h5, .int 0])), (h2, .inr (8, [.ref h12, .int 0]))]) (va_runV (As := [.int 0]) (rest := []) ⟨hx, hb, hml, hown, hg⟩ (k_X8_get_26 l D y aS H.size h5 h10 wp19092) (cwV 1 hg ggV_RX5_36_X8_get rfl rfl rfl (by decide +kernel) ⟨Nat.le_of_ble_eq_true rfl, Nat.le_of_ble_eq_true rfl⟩) (g_preV (q := (RX8, TX8, 2)) hK hP hD [2, 3] rfl (by decide) (ci := 8) (q0 := 2) rfl rfl) rfl rfl hl.1 rfl (lv_room (Nat.le_of_ble_eq_true rfl)) dX5_tellSecret_78 ⟨Nat.le_of_ble_eq_true rfl, Nat.le_of_ble_eq_true rfl⟩) hP hD hS hA [2, 3] [0, 1, 4, 5] rfl rfl (by decide) (by decide) ?_
  clear hP hD hS H locs
  refine fun r19099 u H locs hq hP hD hS => ?_
  subst hq
  replace hP : va_P D vwCl [(h4, .inr (8, [.ref h7, .int wp19090])), (h7, .inl (y 1, 18, .inr (.inl (vp_updL (vp_updL (vp_updL (vp_updL wf19091 ((15 : Int32).toNatClampNeg) ((p1 - p1 / 10 * 10).toInt64)) ((14 : Int32).toNatClampNeg) (((p1 / 10) - (p1 / 10) / 10 * 10).toInt64)) ((13 : Int32).toNatClampNeg) ((((p1 / 10) / 10) - ((p1 / 10) / 10) / 10 * 10).toInt64)) ((12 : Int32).toNatClampNeg) (((((p1 / 10) / 10) / 10) - (((p1 / 10) / 10) / 10) / 10 * 10).toInt64))))), (h0, .inr (5, [.ref h2, .ref h3, .ref h4, .ref h5, .int 0])), (h2, .inr (8, [.ref h12, .int 0])), (h5, .inr (8, [.ref h10, .int wp19092])), (h10, .inl (y 1, 3, .inr (.inl (vp_updL (fun _ => 0) ((2 : Int32).toNatClampNeg) 4))))] H := hP
  replace hD : va_D A [(h4, .inr (8, [.ref h7, .int wp19090])), (h7, .inl (y 1, 18, .inr (.inl (vp_updL (vp_updL (vp_updL (vp_updL wf19091 ((15 : Int32).toNatClampNeg) ((p1 - p1 / 10 * 10).toInt64)) ((14 : Int32).toNatClampNeg) (((p1 / 10) - (p1 / 10) / 10 * 10).toInt64)) ((13 : Int32).toNatClampNeg) ((((p1 / 10) / 10) - ((p1 / 10) / 10) / 10 * 10).toInt64)) ((12 : Int32).toNatClampNeg) (((((p1 / 10) / 10) / 10) - (((p1 / 10) / 10) / 10) / 10 * 10).toInt64))))), (h0, .inr (5, [.ref h2, .ref h3, .ref h4, .ref h5, .int 0])), (h2, .inr (8, [.ref h12, .int 0])), (h5, .inr (8, [.ref h10, .int wp19092])), (h10, .inl (y 1, 3, .inr (.inl (vp_updL (fun _ => 0) ((2 : Int32).toNatClampNeg) 4))))] := hD
  refine lv_lconst (v := 0) hx hb dX5_tellSecret_81 (by decide) ?_
  refine W.lcmp hx hb dX5_tellSecret_82 ?_
  refine g_fi (v := 0) (by decide +kernel) ?_
  refine lv_if_le (tgt := 89) hx hb dX5_tellSecret_83 (by decide) (fun _ => ?_) (fun c9 => absurd c9 (by decide +kernel))
  refine lv_iinc (v := 1) (lv' := [(6, .int 1), (5, .int 0), (4, .int ((((p1 / 10) / 10) / 10) / 10)), (0, .ref h0), (1, .int 2), (2, .int p1), (3, .int 4)]) hx hb dX5_tellSecret_89 hl (k := 0) rfl (by decide +kernel) (by decide) rfl ?_
  clear hl
  clear ls
  intro ls hl
  refine lv_goto (tgt := 66) hx hb dX5_tellSecret_92 (by decide) ?_
  refine lv_iload hx hb dX5_tellSecret_66 (lv_at hl 0 rfl) ?_
  refine lv_iconst (v := 3) hx hb dX5_tellSecret_68 (by decide) ?_
  refine lv_icmp_ge (tgt := 95) hx hb dX5_tellSecret_69 (by decide) (fun c9 => absurd c9 (by decide +kernel)) (fun _ => ?_)
  refine lv_aload_n hx hb dX5_tellSecret_72 rfl (lv_at hl 3 rfl) ?_
  refine gm_get (D := D) (ci := 5) (v := .ref h5) (C := RX5) (T := TX5) (N := 5) hx hb hg inlX5 hown hK.1 hP 2 rfl rfl 3 (by decide) tX5_3 (hg _ gw_141) rfl dX5_tellSecret_73 ?_
  refine lv_iload hx hb dX5_tellSecret_76 (lv_at hl 0 rfl) ?_
  refine g_al (wr := [(h4, .inr (8, [.ref h7, .int wp19090])), (h7, .inl (y 1, 18, .inr (.inl (vp_updL (vp_updL (vp_updL (vp_updL wf19091 ((15 : Int32).toNatClampNeg) ((p1 - p1 / 10 * 10).toInt64)) ((14 : Int32).toNatClampNeg) (((p1 / 10) - (p1 / 10) / 10 * 10).toInt64)) ((13 : Int32).toNatClampNeg) ((((p1 / 10) / 10) - ((p1 / 10) / 10) / 10 * 10).toInt64)) ((12 : Int32).toNatClampNeg) (((((p1 / 10) / 10) / 10) - (((p1 / 10) / 10) / 10) / 10 * 10).toInt64))))), (h0, .inr (5, [.ref h2, .ref h3, .ref h4, .ref h5, .int 0])), (h2, .inr (8, [.ref h12, .int 0]))]) (va_runV (As := [.int 1]) (rest := []) ⟨hx, hb, hml, hown, hg⟩ (k_X8_get_27 l D y aS H.size h5 h10 wp19092) (cwV 1 hg ggV_RX5_36_X8_get rfl rfl rfl (by decide +kernel) ⟨Nat.le_of_ble_eq_true rfl, Nat.le_of_ble_eq_true rfl⟩) (g_preV (q := (RX8, TX8, 2)) hK hP hD [4, 5] rfl (by decide) (ci := 8) (q0 := 4) rfl rfl) rfl rfl hl.1 rfl (lv_room (Nat.le_of_ble_eq_true rfl)) dX5_tellSecret_78 ⟨Nat.le_of_ble_eq_true rfl, Nat.le_of_ble_eq_true rfl⟩) hP hD hS hA [4, 5] [0, 1, 2, 3] rfl rfl (by decide) (by decide) ?_
  clear hP hD hS H locs
  refine fun r19100 u H locs hq hP hD hS => ?_
  subst hq
  replace hP : va_P D vwCl [(h4, .inr (8, [.ref h7, .int wp19090])), (h7, .inl (y 1, 18, .inr (.inl (vp_updL (vp_updL (vp_updL (vp_updL wf19091 ((15 : Int32).toNatClampNeg) ((p1 - p1 / 10 * 10).toInt64)) ((14 : Int32).toNatClampNeg) (((p1 / 10) - (p1 / 10) / 10 * 10).toInt64)) ((13 : Int32).toNatClampNeg) ((((p1 / 10) / 10) - ((p1 / 10) / 10) / 10 * 10).toInt64)) ((12 : Int32).toNatClampNeg) (((((p1 / 10) / 10) / 10) - (((p1 / 10) / 10) / 10) / 10 * 10).toInt64))))), (h0, .inr (5, [.ref h2, .ref h3, .ref h4, .ref h5, .int 0])), (h2, .inr (8, [.ref h12, .int 0])), (h5, .inr (8, [.ref h10, .int wp19092])), (h10, .inl (y 1, 3, .inr (.inl (vp_updL (fun _ => 0) ((2 : Int32).toNatClampNeg) 4))))] H := hP
  replace hD : va_D A [(h4, .inr (8, [.ref h7, .int wp19090])), (h7, .inl (y 1, 18, .inr (.inl (vp_updL (vp_updL (vp_updL (vp_updL wf19091 ((15 : Int32).toNatClampNeg) ((p1 - p1 / 10 * 10).toInt64)) ((14 : Int32).toNatClampNeg) (((p1 / 10) - (p1 / 10) / 10 * 10).toInt64)) ((13 : Int32).toNatClampNeg) ((((p1 / 10) / 10) - ((p1 / 10) / 10) / 10 * 10).toInt64)) ((12 : Int32).toNatClampNeg) (((((p1 / 10) / 10) / 10) - (((p1 / 10) / 10) / 10) / 10 * 10).toInt64))))), (h0, .inr (5, [.ref h2, .ref h3, .ref h4, .ref h5, .int 0])), (h2, .inr (8, [.ref h12, .int 0])), (h5, .inr (8, [.ref h10, .int wp19092])), (h10, .inl (y 1, 3, .inr (.inl (vp_updL (fun _ => 0) ((2 : Int32).toNatClampNeg) 4))))] := hD
  refine lv_lconst (v := 0) hx hb dX5_tellSecret_81 (by decide) ?_
  refine W.lcmp hx hb dX5_tellSecret_82 ?_
  refine g_fi (v := 0) (by decide +kernel) ?_
  refine lv_if_le (tgt := 89) hx hb dX5_tellSecret_83 (by decide) (fun _ => ?_) (fun c9 => absurd c9 (by decide +kernel))
  refine lv_iinc (v := 2) (lv' := [(6, .int 2), (5, .int 0), (4, .int ((((p1 / 10) / 10) / 10) / 10)), (0, .ref h0), (1, .int 2), (2, .int p1), (3, .int 4)]) hx hb dX5_tellSecret_89 hl (k := 0) rfl (by decide +kernel) (by decide) rfl ?_
  clear hl
  clear ls
  intro ls hl
  refine lv_goto (tgt := 66) hx hb dX5_tellSecret_92 (by decide) ?_
  refine lv_iload hx hb dX5_tellSecret_66 (lv_at hl 0 rfl) ?_
  refine lv_iconst (v := 3) hx hb dX5_tellSecret_68 (by decide) ?_
  refine lv_icmp_ge (tgt := 95) hx hb dX5_tellSecret_69 (by decide) (fun c9 => absurd c9 (by decide +kernel)) (fun _ => ?_)
  refine lv_aload_n hx hb dX5_tellSecret_72 rfl (lv_at hl 3 rfl) ?_
  refine gm_get (D := D) (ci := 5) (v := .ref h5) (C := RX5) (T := TX5) (N := 5) hx hb hg inlX5 hown hK.1 hP 2 rfl rfl 3 (by decide) tX5_3 (hg _ gw_141) rfl dX5_tellSecret_73 ?_
  refine lv_iload hx hb dX5_tellSecret_76 (lv_at hl 0 rfl) ?_
  refine g_al (wr := [(h4, .inr (8, [.ref h7, .int wp19090])), (h7, .inl (y 1, 18, .inr (.inl (vp_updL (vp_updL (vp_updL (vp_updL wf19091 ((15 : Int32).toNatClampNeg) ((p1 - p1 / 10 * 10).toInt64)) ((14 : Int32).toNatClampNeg) (((p1 / 10) - (p1 / 10) / 10 * 10).toInt64)) ((13 : Int32).toNatClampNeg) ((((p1 / 10) / 10) - ((p1 / 10) / 10) / 10 * 10).toInt64)) ((12 : Int32).toNatClampNeg) (((((p1 / 10) / 10) / 10) - (((p1 / 10) / 10) / 10) / 10 * 10).toInt64))))), (h0, .inr (5, [.ref h2, .ref h3, .ref h4, .ref h5, .int 0])), (h2, .inr (8, [.ref h12, .int 0]))]) (va_runV (As := [.int 2]) (rest := []) ⟨hx, hb, hml, hown, hg⟩ (k_X8_get_28 l D y aS H.size h5 h10 wp19092) (cwV 1 hg ggV_RX5_36_X8_get rfl rfl rfl (by decide +kernel) ⟨Nat.le_of_ble_eq_true rfl, Nat.le_of_ble_eq_true rfl⟩) (g_preV (q := (RX8, TX8, 2)) hK hP hD [4, 5] rfl (by decide) (ci := 8) (q0 := 4) rfl rfl) rfl rfl hl.1 rfl (lv_room (Nat.le_of_ble_eq_true rfl)) dX5_tellSecret_78 ⟨Nat.le_of_ble_eq_true rfl, Nat.le_of_ble_eq_true rfl⟩) hP hD hS hA [4, 5] [0, 1, 2, 3] rfl rfl (by decide) (by decide) ?_
  clear hP hD hS H locs
  refine fun r19101 u H locs hq hP hD hS => ?_
  subst hq
  replace hP : va_P D vwCl [(h4, .inr (8, [.ref h7, .int wp19090])), (h7, .inl (y 1, 18, .inr (.inl (vp_updL (vp_updL (vp_updL (vp_updL wf19091 ((15 : Int32).toNatClampNeg) ((p1 - p1 / 10 * 10).toInt64)) ((14 : Int32).toNatClampNeg) (((p1 / 10) - (p1 / 10) / 10 * 10).toInt64)) ((13 : Int32).toNatClampNeg) ((((p1 / 10) / 10) - ((p1 / 10) / 10) / 10 * 10).toInt64)) ((12 : Int32).toNatClampNeg) (((((p1 / 10) / 10) / 10) - (((p1 / 10) / 10) / 10) / 10 * 10).toInt64))))), (h0, .inr (5, [.ref h2, .ref h3, .ref h4, .ref h5, .int 0])), (h2, .inr (8, [.ref h12, .int 0])), (h5, .inr (8, [.ref h10, .int wp19092])), (h10, .inl (y 1, 3, .inr (.inl (vp_updL (fun _ => 0) ((2 : Int32).toNatClampNeg) 4))))] H := hP
  replace hD : va_D A [(h4, .inr (8, [.ref h7, .int wp19090])), (h7, .inl (y 1, 18, .inr (.inl (vp_updL (vp_updL (vp_updL (vp_updL wf19091 ((15 : Int32).toNatClampNeg) ((p1 - p1 / 10 * 10).toInt64)) ((14 : Int32).toNatClampNeg) (((p1 / 10) - (p1 / 10) / 10 * 10).toInt64)) ((13 : Int32).toNatClampNeg) ((((p1 / 10) / 10) - ((p1 / 10) / 10) / 10 * 10).toInt64)) ((12 : Int32).toNatClampNeg) (((((p1 / 10) / 10) / 10) - (((p1 / 10) / 10) / 10) / 10 * 10).toInt64))))), (h0, .inr (5, [.ref h2, .ref h3, .ref h4, .ref h5, .int 0])), (h2, .inr (8, [.ref h12, .int 0])), (h5, .inr (8, [.ref h10, .int wp19092])), (h10, .inl (y 1, 3, .inr (.inl (vp_updL (fun _ => 0) ((2 : Int32).toNatClampNeg) 4))))] := hD
  refine lv_lconst (v := 0) hx hb dX5_tellSecret_81 (by decide) ?_
  refine W.lcmp hx hb dX5_tellSecret_82 ?_
  refine g_fi (v := 1) (by decide +kernel) ?_
  refine lv_if_le (tgt := 89) hx hb dX5_tellSecret_83 (by decide) (fun c9 => absurd c9 (by decide +kernel)) (fun _ => ?_)
  refine lv_iinc (v := 1) (lv' := [(5, .int 1), (6, .int 2), (4, .int ((((p1 / 10) / 10) / 10) / 10)), (0, .ref h0), (1, .int 2), (2, .int p1), (3, .int 4)]) hx hb dX5_tellSecret_86 hl (k := 1) rfl (by decide +kernel) (by decide) rfl ?_
  clear hl
  clear ls
  intro ls hl
  refine lv_iinc (v := 3) (lv' := [(6, .int 3), (5, .int 1), (4, .int ((((p1 / 10) / 10) / 10) / 10)), (0, .ref h0), (1, .int 2), (2, .int p1), (3, .int 4)]) hx hb dX5_tellSecret_89 hl (k := 1) rfl (by decide +kernel) (by decide) rfl ?_
  clear hl
  clear ls
  intro ls hl
  refine lv_goto (tgt := 66) hx hb dX5_tellSecret_92 (by decide) ?_
  refine lv_iload hx hb dX5_tellSecret_66 (lv_at hl 0 rfl) ?_
  refine lv_iconst (v := 3) hx hb dX5_tellSecret_68 (by decide) ?_
  refine lv_icmp_ge (tgt := 95) hx hb dX5_tellSecret_69 (by decide) (fun _ => ?_) (fun c9 => absurd c9 (by decide +kernel))
  refine lv_iload hx hb dX5_tellSecret_95 (lv_at hl 1 rfl) ?_
  exact g_iret hx hb hr hlocks () (hP.sub [2, 0, 1, 4, 5, 3] rfl) (hD.sub [2, 0, 1, 4, 5, 3] (by decide +kernel) rfl) hS rfl rfl (Nat.le_of_ble_eq_true rfl) (Nat.le_of_ble_eq_true rfl) dX5_tellSecret_97
set_option maxRecDepth 100000 in
set_option maxHeartbeats 4000000 in
theorem k_X8_set_39 (l : Launch) (D : va_G) (y : Nat → ClassId) (aS : Nat → Nat) (sz : Nat) (h0 : Nat) (p1 : Int64) (h2 : Nat) (wp19107 : Int32) (wf19108 : Nat → Int64) : Met l yX8_set (Cond.code yX8_set cX8_set 4 none :: wsL_law) ({ frames := 0, cells := 0, slots := 0, locals := 0 } : Room) (va_Pc [.ref h0, .int 4, .long p1] (gI D y aS [(h0, .inr (8, [.ref h2, .int wp19107])), (h2, .inl (y 1, 18, .inr (.inl wf19108)))] sz)) (va_Qv (fun (u : Unit) => True) (fun u => gO D (va_A [(h0, .inr (8, [.ref h2, .int wp19107])), (h2, .inl (y 1, 18, .inr (.inl wf19108)))] sz) [(h0, .inr (8, [.ref h2, .int wp19107])), (h2, .inl (y 1, 18, .inr (.inl (vp_updL wf19108 ((4 : Int32).toNatClampNeg) p1))))]) (va_A [(h0, .inr (8, [.ref h2, .int wp19107])), (h2, .inl (y 1, 18, .inr (.inl wf19108)))] sz)) 0 0 (va_A [(h0, .inr (8, [.ref h2, .int wp19107])), (h2, .inl (y 1, 18, .inr (.inl wf19108)))] sz) := by
  refine g_of (by decide) (Nat.le_of_ble_eq_true rfl) ?_
  intro p e s m below meth c ls A hx hb hr hml hown hg hlocks hin hsz hK hP hD hS hA hAe hl
  rw [← hAe]
  replace hown : s.vm.findClass RX8 = some m.cls := hown
  replace hl : lv_has ls 4 [(0, .ref h0), (1, .int 4), (2, .long p1)] := hl
  refine lv_iload_n hx hb dX8_set_0 rfl (lv_at hl 1 rfl) ?_
  refine lv_if_lt (tgt := 20) hx hb dX8_set_1 (by decide) (fun c9 => absurd c9 (by decide +kernel)) (fun _ => ?_)
  refine lv_iload_n hx hb dX8_set_4 rfl (lv_at hl 1 rfl) ?_
  refine lv_aload_n hx hb dX8_set_5 rfl (lv_at hl 0 rfl) ?_
  refine gm_get (D := D) (ci := 8) (v := .ref h2) (C := RX8) (T := TX8) (N := 2) hx hb hg inlX8 hown hK.1 hP 0 rfl rfl 0 (by decide) tX8_0 (hg _ gw_98) rfl dX8_set_6 ?_
  refine va_alen hx hb hK.1 hP 1 1 rfl rfl (v := 18) rfl dX8_set_9 ?_
  refine lv_icmp_ge (tgt := 20) hx hb dX8_set_10 (by decide) (fun c9 => absurd c9 (by decide +kernel)) (fun _ => ?_)
  refine lv_aload_n hx hb dX8_set_13 rfl (lv_at hl 0 rfl) ?_
  refine gm_get (D := D) (ci := 8) (v := .ref h2) (C := RX8) (T := TX8) (N := 2) hx hb hg inlX8 hown hK.1 hP 0 rfl rfl 0 (by decide) tX8_0 (hg _ gw_98) rfl dX8_set_14 ?_
  refine lv_iload_n hx hb dX8_set_17 rfl (lv_at hl 1 rfl) ?_
  refine lv_lload_n hx hb dX8_set_18 rfl (lv_at hl 2 rfl) ?_
  refine va_last hx hb hK.1 hP hD hS 1 1 rfl rfl (by unfold vp_in; decide +kernel) dX8_set_19 ?_
  clear hP hD hS
  refine fun H locs (hP : va_P D vwCl [(h0, .inr (8, [.ref h2, .int wp19107])), (h2, .inl (y 1, 18, .inr (.inl (vp_updL wf19108 ((4 : Int32).toNatClampNeg) p1))))] H) (hD : va_D A [(h0, .inr (8, [.ref h2, .int wp19107])), (h2, .inl (y 1, 18, .inr (.inl (vp_updL wf19108 ((4 : Int32).toNatClampNeg) p1))))]) hS => ?_
  exact g_vret hx hb hr hlocks () hP hD hS trivial (Nat.le_of_ble_eq_true rfl) (Nat.le_of_ble_eq_true rfl) dX8_set_20
set_option maxRecDepth 100000 in
set_option maxHeartbeats 4000000 in
theorem k_X8_get_29 (l : Launch) (D : va_G) (y : Nat → ClassId) (aS : Nat → Nat) (sz : Nat) (h0 : Nat) (h1 : Nat) (wp19116 : Int32) : Met l yX8_get (Cond.code yX8_get cX8_get 2 (some .long) :: wsL_law) ({ frames := 0, cells := 0, slots := 0, locals := 0 } : Room) (va_Pc [.ref h0, .int 0] (gI D y aS [(h0, .inr (8, [.ref h1, .int wp19116])), (h1, .inl (y 1, 3, .inr (.inl (vp_updL (fun _ => 0) ((0 : Int32).toNatClampNeg) 5))))] sz)) (va_Ql (fun (r : Int64) (u : Unit) => 5 = r) (fun u => gO D (va_A [(h0, .inr (8, [.ref h1, .int wp19116])), (h1, .inl (y 1, 3, .inr (.inl (vp_updL (fun _ => 0) ((0 : Int32).toNatClampNeg) 5))))] sz) [(h0, .inr (8, [.ref h1, .int wp19116])), (h1, .inl (y 1, 3, .inr (.inl (vp_updL (fun _ => 0) ((0 : Int32).toNatClampNeg) 5))))]) (va_A [(h0, .inr (8, [.ref h1, .int wp19116])), (h1, .inl (y 1, 3, .inr (.inl (vp_updL (fun _ => 0) ((0 : Int32).toNatClampNeg) 5))))] sz)) 0 0 (va_A [(h0, .inr (8, [.ref h1, .int wp19116])), (h1, .inl (y 1, 3, .inr (.inl (vp_updL (fun _ => 0) ((0 : Int32).toNatClampNeg) 5))))] sz) := by
  refine g_of (by decide) (Nat.le_of_ble_eq_true rfl) ?_
  intro p e s m below meth c ls A hx hb hr hml hown hg hlocks hin hsz hK hP hD hS hA hAe hl
  rw [← hAe]
  replace hown : s.vm.findClass RX8 = some m.cls := hown
  replace hl : lv_has ls 2 [(0, .ref h0), (1, .int 0)] := hl
  refine lv_iload_n hx hb dX8_get_0 rfl (lv_at hl 1 rfl) ?_
  refine lv_if_lt (tgt := 22) hx hb dX8_get_1 (by decide) (fun c9 => absurd c9 (by decide +kernel)) (fun _ => ?_)
  refine lv_iload_n hx hb dX8_get_4 rfl (lv_at hl 1 rfl) ?_
  refine lv_aload_n hx hb dX8_get_5 rfl (lv_at hl 0 rfl) ?_
  refine gm_get (D := D) (ci := 8) (v := .ref h1) (C := RX8) (T := TX8) (N := 2) hx hb hg inlX8 hown hK.1 hP 0 rfl rfl 0 (by decide) tX8_0 (hg _ gw_98) rfl dX8_get_6 ?_
  refine va_alen hx hb hK.1 hP 1 1 rfl rfl (v := 3) rfl dX8_get_9 ?_
  refine lv_icmp_ge (tgt := 22) hx hb dX8_get_10 (by decide) (fun c9 => absurd c9 (by decide +kernel)) (fun _ => ?_)
  refine lv_aload_n hx hb dX8_get_13 rfl (lv_at hl 0 rfl) ?_
  refine gm_get (D := D) (ci := 8) (v := .ref h1) (C := RX8) (T := TX8) (N := 2) hx hb hg inlX8 hown hK.1 hP 0 rfl rfl 0 (by decide) tX8_0 (hg _ gw_98) rfl dX8_get_14 ?_
  refine lv_iload_n hx hb dX8_get_17 rfl (lv_at hl 1 rfl) ?_
  refine va_lald hx hb hK.1 hP 1 1 rfl rfl (by unfold vp_in; decide +kernel) dX8_get_18 ?_
  refine g_fj (v := 5) (by rfl) ?_
  refine lv_goto (tgt := 23) hx hb dX8_get_19 (by decide) ?_
  exact g_lret hx hb hr hlocks () hP hD hS rfl (Nat.le_of_ble_eq_true rfl) (Nat.le_of_ble_eq_true rfl) dX8_get_23
set_option maxRecDepth 100000 in
set_option maxHeartbeats 4000000 in
theorem k_X8_get_30 (l : Launch) (D : va_G) (y : Nat → ClassId) (aS : Nat → Nat) (sz : Nat) (h0 : Nat) (h1 : Nat) (wp19118 : Int32) : Met l yX8_get (Cond.code yX8_get cX8_get 2 (some .long) :: wsL_law) ({ frames := 0, cells := 0, slots := 0, locals := 0 } : Room) (va_Pc [.ref h0, .int 1] (gI D y aS [(h0, .inr (8, [.ref h1, .int wp19118])), (h1, .inl (y 1, 3, .inr (.inl (vp_updL (fun _ => 0) ((0 : Int32).toNatClampNeg) 5))))] sz)) (va_Ql (fun (r : Int64) (u : Unit) => 0 = r) (fun u => gO D (va_A [(h0, .inr (8, [.ref h1, .int wp19118])), (h1, .inl (y 1, 3, .inr (.inl (vp_updL (fun _ => 0) ((0 : Int32).toNatClampNeg) 5))))] sz) [(h0, .inr (8, [.ref h1, .int wp19118])), (h1, .inl (y 1, 3, .inr (.inl (vp_updL (fun _ => 0) ((0 : Int32).toNatClampNeg) 5))))]) (va_A [(h0, .inr (8, [.ref h1, .int wp19118])), (h1, .inl (y 1, 3, .inr (.inl (vp_updL (fun _ => 0) ((0 : Int32).toNatClampNeg) 5))))] sz)) 0 0 (va_A [(h0, .inr (8, [.ref h1, .int wp19118])), (h1, .inl (y 1, 3, .inr (.inl (vp_updL (fun _ => 0) ((0 : Int32).toNatClampNeg) 5))))] sz) := by
  refine g_of (by decide) (Nat.le_of_ble_eq_true rfl) ?_
  intro p e s m below meth c ls A hx hb hr hml hown hg hlocks hin hsz hK hP hD hS hA hAe hl
  rw [← hAe]
  replace hown : s.vm.findClass RX8 = some m.cls := hown
  replace hl : lv_has ls 2 [(0, .ref h0), (1, .int 1)] := hl
  refine lv_iload_n hx hb dX8_get_0 rfl (lv_at hl 1 rfl) ?_
  refine lv_if_lt (tgt := 22) hx hb dX8_get_1 (by decide) (fun c9 => absurd c9 (by decide +kernel)) (fun _ => ?_)
  refine lv_iload_n hx hb dX8_get_4 rfl (lv_at hl 1 rfl) ?_
  refine lv_aload_n hx hb dX8_get_5 rfl (lv_at hl 0 rfl) ?_
  refine gm_get (D := D) (ci := 8) (v := .ref h1) (C := RX8) (T := TX8) (N := 2) hx hb hg inlX8 hown hK.1 hP 0 rfl rfl 0 (by decide) tX8_0 (hg _ gw_98) rfl dX8_get_6 ?_
  refine va_alen hx hb hK.1 hP 1 1 rfl rfl (v := 3) rfl dX8_get_9 ?_
  refine lv_icmp_ge (tgt := 22) hx hb dX8_get_10 (by decide) (fun c9 => absurd c9 (by decide +kernel)) (fun _ => ?_)
  refine lv_aload_n hx hb dX8_get_13 rfl (lv_at hl 0 rfl) ?_
  refine gm_get (D := D) (ci := 8) (v := .ref h1) (C := RX8) (T := TX8) (N := 2) hx hb hg inlX8 hown hK.1 hP 0 rfl rfl 0 (by decide) tX8_0 (hg _ gw_98) rfl dX8_get_14 ?_
  refine lv_iload_n hx hb dX8_get_17 rfl (lv_at hl 1 rfl) ?_
  refine va_lald hx hb hK.1 hP 1 1 rfl rfl (by unfold vp_in; decide +kernel) dX8_get_18 ?_
  refine g_fj (v := 0) (by rfl) ?_
  refine lv_goto (tgt := 23) hx hb dX8_get_19 (by decide) ?_
  exact g_lret hx hb hr hlocks () hP hD hS rfl (Nat.le_of_ble_eq_true rfl) (Nat.le_of_ble_eq_true rfl) dX8_get_23
set_option maxRecDepth 100000 in
set_option maxHeartbeats 4000000 in
theorem k_X8_get_31 (l : Launch) (D : va_G) (y : Nat → ClassId) (aS : Nat → Nat) (sz : Nat) (h0 : Nat) (h1 : Nat) (wp19120 : Int32) : Met l yX8_get (Cond.code yX8_get cX8_get 2 (some .long) :: wsL_law) ({ frames := 0, cells := 0, slots := 0, locals := 0 } : Room) (va_Pc [.ref h0, .int 2] (gI D y aS [(h0, .inr (8, [.ref h1, .int wp19120])), (h1, .inl (y 1, 3, .inr (.inl (vp_updL (fun _ => 0) ((0 : Int32).toNatClampNeg) 5))))] sz)) (va_Ql (fun (r : Int64) (u : Unit) => 0 = r) (fun u => gO D (va_A [(h0, .inr (8, [.ref h1, .int wp19120])), (h1, .inl (y 1, 3, .inr (.inl (vp_updL (fun _ => 0) ((0 : Int32).toNatClampNeg) 5))))] sz) [(h0, .inr (8, [.ref h1, .int wp19120])), (h1, .inl (y 1, 3, .inr (.inl (vp_updL (fun _ => 0) ((0 : Int32).toNatClampNeg) 5))))]) (va_A [(h0, .inr (8, [.ref h1, .int wp19120])), (h1, .inl (y 1, 3, .inr (.inl (vp_updL (fun _ => 0) ((0 : Int32).toNatClampNeg) 5))))] sz)) 0 0 (va_A [(h0, .inr (8, [.ref h1, .int wp19120])), (h1, .inl (y 1, 3, .inr (.inl (vp_updL (fun _ => 0) ((0 : Int32).toNatClampNeg) 5))))] sz) := by
  refine g_of (by decide) (Nat.le_of_ble_eq_true rfl) ?_
  intro p e s m below meth c ls A hx hb hr hml hown hg hlocks hin hsz hK hP hD hS hA hAe hl
  rw [← hAe]
  replace hown : s.vm.findClass RX8 = some m.cls := hown
  replace hl : lv_has ls 2 [(0, .ref h0), (1, .int 2)] := hl
  refine lv_iload_n hx hb dX8_get_0 rfl (lv_at hl 1 rfl) ?_
  refine lv_if_lt (tgt := 22) hx hb dX8_get_1 (by decide) (fun c9 => absurd c9 (by decide +kernel)) (fun _ => ?_)
  refine lv_iload_n hx hb dX8_get_4 rfl (lv_at hl 1 rfl) ?_
  refine lv_aload_n hx hb dX8_get_5 rfl (lv_at hl 0 rfl) ?_
  refine gm_get (D := D) (ci := 8) (v := .ref h1) (C := RX8) (T := TX8) (N := 2) hx hb hg inlX8 hown hK.1 hP 0 rfl rfl 0 (by decide) tX8_0 (hg _ gw_98) rfl dX8_get_6 ?_
  refine va_alen hx hb hK.1 hP 1 1 rfl rfl (v := 3) rfl dX8_get_9 ?_
  refine lv_icmp_ge (tgt := 22) hx hb dX8_get_10 (by decide) (fun c9 => absurd c9 (by decide +kernel)) (fun _ => ?_)
  refine lv_aload_n hx hb dX8_get_13 rfl (lv_at hl 0 rfl) ?_
  refine gm_get (D := D) (ci := 8) (v := .ref h1) (C := RX8) (T := TX8) (N := 2) hx hb hg inlX8 hown hK.1 hP 0 rfl rfl 0 (by decide) tX8_0 (hg _ gw_98) rfl dX8_get_14 ?_
  refine lv_iload_n hx hb dX8_get_17 rfl (lv_at hl 1 rfl) ?_
  refine va_lald hx hb hK.1 hP 1 1 rfl rfl (by unfold vp_in; decide +kernel) dX8_get_18 ?_
  refine g_fj (v := 0) (by rfl) ?_
  refine lv_goto (tgt := 23) hx hb dX8_get_19 (by decide) ?_
  exact g_lret hx hb hr hlocks () hP hD hS rfl (Nat.le_of_ble_eq_true rfl) (Nat.le_of_ble_eq_true rfl) dX8_get_23
set_option maxRecDepth 100000 in
set_option maxHeartbeats 4000000 in
theorem k_X5_tellSecret_9 (l : Launch) (D : va_G) (y : Nat → ClassId) (aS : Nat → Nat) (sz : Nat) (h0 : Nat) (p1 : Int32) (h2 : Nat) (h3 : Nat) (h4 : Nat) (h5 : Nat) (wp19122 : Int32) (h7 : Nat) (wp19123 : Int32) (wf19124 : Nat → Int64) (h10 : Nat) (wp19125 : Int32) (h12 : Nat) : Met l yX5_tellSecret (Cond.code yX5_tellSecret cX5_tellSecret 7 (some .int) :: wsL_law) ({ frames := 1, cells := 0, slots := 0, locals := 23 } : Room) (va_Pc [.ref h0, .int 0, .int p1, .int 5] (gI D y aS [(h0, .inr (5, [.ref h2, .ref h3, .ref h4, .ref h5, .int wp19122])), (h4, .inr (8, [.ref h7, .int wp19123])), (h7, .inl (y 1, 18, .inr (.inl wf19124))), (h5, .inr (8, [.ref h10, .int wp19125])), (h10, .inl (y 1, 3, .inr (.inl (fun _ => 0)))), (h2, .inr (8, [.ref h12, .int 0]))] sz)) (va_Qi (fun (r : Int32) (u : Unit) => 1 = r) (fun u => gO D (va_A [(h0, .inr (5, [.ref h2, .ref h3, .ref h4, .ref h5, .int wp19122])), (h4, .inr (8, [.ref h7, .int wp19123])), (h7, .inl (y 1, 18, .inr (.inl wf19124))), (h5, .inr (8, [.ref h10, .int wp19125])), (h10, .inl (y 1, 3, .inr (.inl (fun _ => 0)))), (h2, .inr (8, [.ref h12, .int 0]))] sz) [(h0, .inr (5, [.ref h2, .ref h3, .ref h4, .ref h5, .int 0])), (h4, .inr (8, [.ref h7, .int wp19123])), (h7, .inl (y 1, 18, .inr (.inl (vp_updL (vp_updL (vp_updL (vp_updL (vp_updL wf19124 ((4 : Int32).toNatClampNeg) ((p1 - p1 / 10 * 10).toInt64)) ((3 : Int32).toNatClampNeg) (((p1 / 10) - (p1 / 10) / 10 * 10).toInt64)) ((2 : Int32).toNatClampNeg) ((((p1 / 10) / 10) - ((p1 / 10) / 10) / 10 * 10).toInt64)) ((1 : Int32).toNatClampNeg) (((((p1 / 10) / 10) / 10) - (((p1 / 10) / 10) / 10) / 10 * 10).toInt64)) ((0 : Int32).toNatClampNeg) ((((((p1 / 10) / 10) / 10) / 10) - ((((p1 / 10) / 10) / 10) / 10) / 10 * 10).toInt64))))), (h5, .inr (8, [.ref h10, .int wp19125])), (h10, .inl (y 1, 3, .inr (.inl (vp_updL (fun _ => 0) ((0 : Int32).toNatClampNeg) 5)))), (h2, .inr (8, [.ref h12, .int 0]))]) (va_A [(h0, .inr (5, [.ref h2, .ref h3, .ref h4, .ref h5, .int wp19122])), (h4, .inr (8, [.ref h7, .int wp19123])), (h7, .inl (y 1, 18, .inr (.inl wf19124))), (h5, .inr (8, [.ref h10, .int wp19125])), (h10, .inl (y 1, 3, .inr (.inl (fun _ => 0)))), (h2, .inr (8, [.ref h12, .int 0]))] sz)) 0 0 (va_A [(h0, .inr (5, [.ref h2, .ref h3, .ref h4, .ref h5, .int wp19122])), (h4, .inr (8, [.ref h7, .int wp19123])), (h7, .inl (y 1, 18, .inr (.inl wf19124))), (h5, .inr (8, [.ref h10, .int wp19125])), (h10, .inl (y 1, 3, .inr (.inl (fun _ => 0)))), (h2, .inr (8, [.ref h12, .int 0]))] sz) := by
  refine g_of (by decide) (Nat.le_of_ble_eq_true rfl) ?_
  intro p e s m below meth c ls A hx hb hr hml hown hg hlocks hin hsz hK hP hD hS hA hAe hl
  rw [← hAe]
  replace hown : s.vm.findClass RX5 = some m.cls := hown
  replace hl : lv_has ls 7 [(0, .ref h0), (1, .int 0), (2, .int p1), (3, .int 5)] := hl
  refine lv_iload_n hx hb dX5_tellSecret_0 rfl (lv_at hl 2 rfl) ?_
  refine lv_istore (lv' := [(4, .int p1), (0, .ref h0), (1, .int 0), (2, .int p1), (3, .int 5)]) hx hb dX5_tellSecret_1 hl (by decide) rfl ?_
  clear hl
  clear ls
  intro ls hl
  refine lv_iload_n hx hb dX5_tellSecret_3 rfl (lv_at hl 4 rfl) ?_
  refine lv_iconst (v := 1) hx hb dX5_tellSecret_4 (by decide) ?_
  refine lv_isub hx hb dX5_tellSecret_5 ?_
  refine g_fi (v := 4) (by decide +kernel) ?_
  refine lv_istore (lv' := [(5, .int 4), (4, .int p1), (0, .ref h0), (1, .int 0), (2, .int p1), (3, .int 5)]) hx hb dX5_tellSecret_6 hl (by decide) rfl ?_
  clear hl
  clear ls
  intro ls hl
  refine lv_iload hx hb dX5_tellSecret_8 (lv_at hl 0 rfl) ?_
  refine lv_if_lt (tgt := 46) hx hb dX5_tellSecret_10 (by decide) (fun c9 => absurd c9 (by decide +kernel)) (fun _ => ?_)
  refine lv_aload_n hx hb dX5_tellSecret_13 rfl (lv_at hl 2 rfl) ?_
  refine gm_get (D := D) (ci := 5) (v := .ref h4) (C := RX5) (T := TX5) (N := 5) hx hb hg inlX5 hown hK.1 hP 0 rfl rfl 2 (by decide) tX5_2 (hg _ gw_140) rfl dX5_tellSecret_14 ?_
  refine lv_iload_n hx hb dX5_tellSecret_17 rfl (lv_at hl 3 rfl) ?_
  refine lv_bipush (v := 6) hx hb dX5_tellSecret_18 (by decide +kernel) ?_
  refine lv_imul hx hb dX5_tellSecret_20 ?_
  refine g_fi (v := 0) (by decide +kernel) ?_
  refine lv_iload hx hb dX5_tellSecret_21 (lv_at hl 0 rfl) ?_
  refine lv_iadd hx hb dX5_tellSecret_23 ?_
  refine g_fi (v := 4) (by decide +kernel) ?_
  refine lv_iload hx hb dX5_tellSecret_24 (lv_at hl 1 rfl) ?_
  refine lv_bipush (v := 10) hx hb dX5_tellSecret_26 (by decide +kernel) ?_
  refine lv_irem hx hb dX5_tellSecret_28 (by decide +kernel) ?_
  refine lv_i2l (v := ((p1 - p1 / 10 * 10).toInt64)) hx hb dX5_tellSecret_29 rfl ?_
  refine g_av (wr := [(h0, .inr (5, [.ref h2, .ref h3, .ref h4, .ref h5, .int wp19122])), (h5, .inr (8, [.ref h10, .int wp19125])), (h10, .inl (y 1, 3, .inr (.inl (fun _ => 0)))), (h2, .inr (8, [.ref h12, .int 0]))]) (va_runV (As := [.int 4, .long ((p1 - p1 / 10 * 10).toInt64)]) (rest := []) ⟨hx, hb, hml, hown, hg⟩ (k_X8_set_39 l D y aS s.heap.size h4 ((p1 - p1 / 10 * 10).toInt64) h7 wp19123 wf19124) (cwV 2 hg ggV_RX5_29_X8_set rfl rfl rfl (by decide +kernel) ⟨Nat.le_of_ble_eq_true rfl, Nat.le_of_ble_eq_true rfl⟩) (g_preV (q := (RX8, TX8, 2)) hK hP hD [1, 2] rfl (by decide) (ci := 8) (q0 := 1) rfl rfl) rfl rfl hl.1 rfl (lv_room (Nat.le_of_ble_eq_true rfl)) dX5_tellSecret_30 ⟨Nat.le_of_ble_eq_true rfl, Nat.le_of_ble_eq_true rfl⟩) hP hD hS hA [1, 2] [0, 3, 4, 5] rfl rfl (by decide) (by decide) ?_
  clear hP hD hS
  refine fun u H locs hq hP hD hS => ?_
  replace hP : va_P D vwCl [(h0, .inr (5, [.ref h2, .ref h3, .ref h4, .ref h5, .int wp19122])), (h5, .inr (8, [.ref h10, .int wp19125])), (h10, .inl (y 1, 3, .inr (.inl (fun _ => 0)))), (h2, .inr (8, [.ref h12, .int 0])), (h4, .inr (8, [.ref h7, .int wp19123])), (h7, .inl (y 1, 18, .inr (.inl (vp_updL wf19124 ((4 : Int32).toNatClampNeg) ((p1 - p1 / 10 * 10).toInt64)))))] H := hP
  replace hD : va_D A [(h0, .inr (5, [.ref h2, .ref h3, .ref h4, .ref h5, .int wp19122])), (h5, .inr (8, [.ref h10, .int wp19125])), (h10, .inl (y 1, 3, .inr (.inl (fun _ => 0)))), (h2, .inr (8, [.ref h12, .int 0])), (h4, .inr (8, [.ref h7, .int wp19123])), (h7, .inl (y 1, 18, .inr (.inl (vp_updL wf19124 ((4 : Int32).toNatClampNeg) ((p1 - p1 / 10 * 10).toInt64)))))] := hD
  refine lv_iload hx hb dX5_tellSecret_33 (lv_at hl 1 rfl) ?_
  refine lv_bipush (v := 10) hx hb dX5_tellSecret_35 (by decide +kernel) ?_
  refine lv_idiv hx hb dX5_tellSecret_37 (by decide +kernel) ?_
  refine lv_istore (lv' := [(4, .int (p1 / 10)), (5, .int 4), (0, .ref h0), (1, .int 0), (2, .int p1), (3, .int 5)]) hx hb dX5_tellSecret_38 hl (by decide) rfl ?_
  clear hl
  clear ls
  intro ls hl
  refine lv_iinc (v := 3) (lv' := [(5, .int 3), (4, .int (p1 / 10)), (0, .ref h0), (1, .int 0), (2, .int p1), (3, .int 5)]) hx hb dX5_tellSecret_40 hl (k := 1) rfl (by decide +kernel) (by decide) rfl ?_
  clear hl
  clear ls
  intro ls hl
  refine lv_goto (tgt := 8) hx hb dX5_tellSecret_43 (by decide) ?_
  refine lv_iload hx hb dX5_tellSecret_8 (lv_at hl 0 rfl) ?_
  refine lv_if_lt (tgt := 46) hx hb dX5_tellSecret_10 (by decide) (fun c9 => absurd c9 (by decide +kernel)) (fun _ => ?_)
  refine lv_aload_n hx hb dX5_tellSecret_13 rfl (lv_at hl 2 rfl) ?_
  refine gm_get (D := D) (ci := 5) (v := .ref h4) (C := RX5) (T := TX5) (N := 5) hx hb hg inlX5 hown hK.1 hP 0 rfl rfl 2 (by decide) tX5_2 (hg _ gw_140) rfl dX5_tellSecret_14 ?_
  refine lv_iload_n hx hb dX5_tellSecret_17 rfl (lv_at hl 3 rfl) ?_
  refine lv_bipush (v := 6) hx hb dX5_tellSecret_18 (by decide +kernel) ?_
  refine lv_imul hx hb dX5_tellSecret_20 ?_
  refine g_fi (v := 0) (by decide +kernel) ?_
  refine lv_iload hx hb dX5_tellSecret_21 (lv_at hl 0 rfl) ?_
  refine lv_iadd hx hb dX5_tellSecret_23 ?_
  refine g_fi (v := 3) (by decide +kernel) ?_
  refine lv_iload hx hb dX5_tellSecret_24 (lv_at hl 1 rfl) ?_
  refine lv_bipush (v := 10) hx hb dX5_tellSecret_26 (by decide +kernel) ?_
  refine lv_irem hx hb dX5_tellSecret_28 (by decide +kernel) ?_
  refine lv_i2l (v := (((p1 / 10) - (p1 / 10) / 10 * 10).toInt64)) hx hb dX5_tellSecret_29 rfl ?_
  refine g_av (wr := [(h0, .inr (5, [.ref h2, .ref h3, .ref h4, .ref h5, .int wp19122])), (h5, .inr (8, [.ref h10, .int wp19125])), (h10, .inl (y 1, 3, .inr (.inl (fun _ => 0)))), (h2, .inr (8, [.ref h12, .int 0]))]) (va_runV (As := [.int 3, .long (((p1 / 10) - (p1 / 10) / 10 * 10).toInt64)]) (rest := []) ⟨hx, hb, hml, hown, hg⟩ (k_X8_set_36 l D y aS H.size h4 (((p1 / 10) - (p1 / 10) / 10 * 10).toInt64) h7 wp19123 (vp_updL wf19124 ((4 : Int32).toNatClampNeg) ((p1 - p1 / 10 * 10).toInt64))) (cwV 2 hg ggV_RX5_29_X8_set rfl rfl rfl (by decide +kernel) ⟨Nat.le_of_ble_eq_true rfl, Nat.le_of_ble_eq_true rfl⟩) (g_preV (q := (RX8, TX8, 2)) hK hP hD [4, 5] rfl (by decide) (ci := 8) (q0 := 4) rfl rfl) rfl rfl hl.1 rfl (lv_room (Nat.le_of_ble_eq_true rfl)) dX5_tellSecret_30 ⟨Nat.le_of_ble_eq_true rfl, Nat.le_of_ble_eq_true rfl⟩) hP hD hS hA [4, 5] [0, 1, 2, 3] rfl rfl (by decide) (by decide) ?_
  clear hP hD hS H locs
  refine fun u H locs hq hP hD hS => ?_
  replace hP : va_P D vwCl [(h0, .inr (5, [.ref h2, .ref h3, .ref h4, .ref h5, .int wp19122])), (h5, .inr (8, [.ref h10, .int wp19125])), (h10, .inl (y 1, 3, .inr (.inl (fun _ => 0)))), (h2, .inr (8, [.ref h12, .int 0])), (h4, .inr (8, [.ref h7, .int wp19123])), (h7, .inl (y 1, 18, .inr (.inl (vp_updL (vp_updL wf19124 ((4 : Int32).toNatClampNeg) ((p1 - p1 / 10 * 10).toInt64)) ((3 : Int32).toNatClampNeg) (((p1 / 10) - (p1 / 10) / 10 * 10).toInt64)))))] H := hP
  replace hD : va_D A [(h0, .inr (5, [.ref h2, .ref h3, .ref h4, .ref h5, .int wp19122])), (h5, .inr (8, [.ref h10, .int wp19125])), (h10, .inl (y 1, 3, .inr (.inl (fun _ => 0)))), (h2, .inr (8, [.ref h12, .int 0])), (h4, .inr (8, [.ref h7, .int wp19123])), (h7, .inl (y 1, 18, .inr (.inl (vp_updL (vp_updL wf19124 ((4 : Int32).toNatClampNeg) ((p1 - p1 / 10 * 10).toInt64)) ((3 : Int32).toNatClampNeg) (((p1 / 10) - (p1 / 10) / 10 * 10).toInt64)))))] := hD
  refine lv_iload hx hb dX5_tellSecret_33 (lv_at hl 1 rfl) ?_
  refine lv_bipush (v := 10) hx hb dX5_tellSecret_35 (by decide +kernel) ?_
  refine lv_idiv hx hb dX5_tellSecret_37 (by decide +kernel) ?_
  refine lv_istore (lv' := [(4, .int ((p1 / 10) / 10)), (5, .int 3), (0, .ref h0), (1, .int 0), (2, .int p1), (3, .int 5)]) hx hb dX5_tellSecret_38 hl (by decide) rfl ?_
  clear hl
  clear ls
  intro ls hl
  refine lv_iinc (v := 2) (lv' := [(5, .int 2), (4, .int ((p1 / 10) / 10)), (0, .ref h0), (1, .int 0), (2, .int p1), (3, .int 5)]) hx hb dX5_tellSecret_40 hl (k := 1) rfl (by decide +kernel) (by decide) rfl ?_
  clear hl
  clear ls
  intro ls hl
  refine lv_goto (tgt := 8) hx hb dX5_tellSecret_43 (by decide) ?_
  refine lv_iload hx hb dX5_tellSecret_8 (lv_at hl 0 rfl) ?_
  refine lv_if_lt (tgt := 46) hx hb dX5_tellSecret_10 (by decide) (fun c9 => absurd c9 (by decide +kernel)) (fun _ => ?_)
  refine lv_aload_n hx hb dX5_tellSecret_13 rfl (lv_at hl 2 rfl) ?_
  refine gm_get (D := D) (ci := 5) (v := .ref h4) (C := RX5) (T := TX5) (N := 5) hx hb hg inlX5 hown hK.1 hP 0 rfl rfl 2 (by decide) tX5_2 (hg _ gw_140) rfl dX5_tellSecret_14 ?_
  refine lv_iload_n hx hb dX5_tellSecret_17 rfl (lv_at hl 3 rfl) ?_
  refine lv_bipush (v := 6) hx hb dX5_tellSecret_18 (by decide +kernel) ?_
  refine lv_imul hx hb dX5_tellSecret_20 ?_
  refine g_fi (v := 0) (by decide +kernel) ?_
  refine lv_iload hx hb dX5_tellSecret_21 (lv_at hl 0 rfl) ?_
  refine lv_iadd hx hb dX5_tellSecret_23 ?_
  refine g_fi (v := 2) (by decide +kernel) ?_
  refine lv_iload hx hb dX5_tellSecret_24 (lv_at hl 1 rfl) ?_
  refine lv_bipush (v := 10) hx hb dX5_tellSecret_26 (by decide +kernel) ?_
  refine lv_irem hx hb dX5_tellSecret_28 (by decide +kernel) ?_
  refine lv_i2l (v := ((((p1 / 10) / 10) - ((p1 / 10) / 10) / 10 * 10).toInt64)) hx hb dX5_tellSecret_29 rfl ?_
  refine g_av (wr := [(h0, .inr (5, [.ref h2, .ref h3, .ref h4, .ref h5, .int wp19122])), (h5, .inr (8, [.ref h10, .int wp19125])), (h10, .inl (y 1, 3, .inr (.inl (fun _ => 0)))), (h2, .inr (8, [.ref h12, .int 0]))]) (va_runV (As := [.int 2, .long ((((p1 / 10) / 10) - ((p1 / 10) / 10) / 10 * 10).toInt64)]) (rest := []) ⟨hx, hb, hml, hown, hg⟩ (k_X8_set_33 l D y aS H.size h4 ((((p1 / 10) / 10) - ((p1 / 10) / 10) / 10 * 10).toInt64) h7 wp19123 (vp_updL (vp_updL wf19124 ((4 : Int32).toNatClampNeg) ((p1 - p1 / 10 * 10).toInt64)) ((3 : Int32).toNatClampNeg) (((p1 / 10) - (p1 / 10) / 10 * 10).toInt64))) (cwV 2 hg ggV_RX5_29_X8_set rfl rfl rfl (by decide +kernel) ⟨Nat.le_of_ble_eq_true rfl, Nat.le_of_ble_eq_true rfl⟩) (g_preV (q := (RX8, TX8, 2)) hK hP hD [4, 5] rfl (by decide) (ci := 8) (q0 := 4) rfl rfl) rfl rfl hl.1 rfl (lv_room (Nat.le_of_ble_eq_true rfl)) dX5_tellSecret_30 ⟨Nat.le_of_ble_eq_true rfl, Nat.le_of_ble_eq_true rfl⟩) hP hD hS hA [4, 5] [0, 1, 2, 3] rfl rfl (by decide) (by decide) ?_
  clear hP hD hS H locs
  refine fun u H locs hq hP hD hS => ?_
  replace hP : va_P D vwCl [(h0, .inr (5, [.ref h2, .ref h3, .ref h4, .ref h5, .int wp19122])), (h5, .inr (8, [.ref h10, .int wp19125])), (h10, .inl (y 1, 3, .inr (.inl (fun _ => 0)))), (h2, .inr (8, [.ref h12, .int 0])), (h4, .inr (8, [.ref h7, .int wp19123])), (h7, .inl (y 1, 18, .inr (.inl (vp_updL (vp_updL (vp_updL wf19124 ((4 : Int32).toNatClampNeg) ((p1 - p1 / 10 * 10).toInt64)) ((3 : Int32).toNatClampNeg) (((p1 / 10) - (p1 / 10) / 10 * 10).toInt64)) ((2 : Int32).toNatClampNeg) ((((p1 / 10) / 10) - ((p1 / 10) / 10) / 10 * 10).toInt64)))))] H := hP
  replace hD : va_D A [(h0, .inr (5, [.ref h2, .ref h3, .ref h4, .ref h5, .int wp19122])), (h5, .inr (8, [.ref h10, .int wp19125])), (h10, .inl (y 1, 3, .inr (.inl (fun _ => 0)))), (h2, .inr (8, [.ref h12, .int 0])), (h4, .inr (8, [.ref h7, .int wp19123])), (h7, .inl (y 1, 18, .inr (.inl (vp_updL (vp_updL (vp_updL wf19124 ((4 : Int32).toNatClampNeg) ((p1 - p1 / 10 * 10).toInt64)) ((3 : Int32).toNatClampNeg) (((p1 / 10) - (p1 / 10) / 10 * 10).toInt64)) ((2 : Int32).toNatClampNeg) ((((p1 / 10) / 10) - ((p1 / 10) / 10) / 10 * 10).toInt64)))))] := hD
  refine lv_iload hx hb dX5_tellSecret_33 (lv_at hl 1 rfl) ?_
  refine lv_bipush (v := 10) hx hb dX5_tellSecret_35 (by decide +kernel) ?_
  refine lv_idiv hx hb dX5_tellSecret_37 (by decide +kernel) ?_
  refine lv_istore (lv' := [(4, .int (((p1 / 10) / 10) / 10)), (5, .int 2), (0, .ref h0), (1, .int 0), (2, .int p1), (3, .int 5)]) hx hb dX5_tellSecret_38 hl (by decide) rfl ?_
  clear hl
  clear ls
  intro ls hl
  refine lv_iinc (v := 1) (lv' := [(5, .int 1), (4, .int (((p1 / 10) / 10) / 10)), (0, .ref h0), (1, .int 0), (2, .int p1), (3, .int 5)]) hx hb dX5_tellSecret_40 hl (k := 1) rfl (by decide +kernel) (by decide) rfl ?_
  clear hl
  clear ls
  intro ls hl
  refine lv_goto (tgt := 8) hx hb dX5_tellSecret_43 (by decide) ?_
  refine lv_iload hx hb dX5_tellSecret_8 (lv_at hl 0 rfl) ?_
  refine lv_if_lt (tgt := 46) hx hb dX5_tellSecret_10 (by decide) (fun c9 => absurd c9 (by decide +kernel)) (fun _ => ?_)
  refine lv_aload_n hx hb dX5_tellSecret_13 rfl (lv_at hl 2 rfl) ?_
  refine gm_get (D := D) (ci := 5) (v := .ref h4) (C := RX5) (T := TX5) (N := 5) hx hb hg inlX5 hown hK.1 hP 0 rfl rfl 2 (by decide) tX5_2 (hg _ gw_140) rfl dX5_tellSecret_14 ?_
  refine lv_iload_n hx hb dX5_tellSecret_17 rfl (lv_at hl 3 rfl) ?_
  refine lv_bipush (v := 6) hx hb dX5_tellSecret_18 (by decide +kernel) ?_
  refine lv_imul hx hb dX5_tellSecret_20 ?_
  refine g_fi (v := 0) (by decide +kernel) ?_
  refine lv_iload hx hb dX5_tellSecret_21 (lv_at hl 0 rfl) ?_
  refine lv_iadd hx hb dX5_tellSecret_23 ?_
  refine g_fi (v := 1) (by decide +kernel) ?_
  refine lv_iload hx hb dX5_tellSecret_24 (lv_at hl 1 rfl) ?_
  refine lv_bipush (v := 10) hx hb dX5_tellSecret_26 (by decide +kernel) ?_
  refine lv_irem hx hb dX5_tellSecret_28 (by decide +kernel) ?_
  refine lv_i2l (v := (((((p1 / 10) / 10) / 10) - (((p1 / 10) / 10) / 10) / 10 * 10).toInt64)) hx hb dX5_tellSecret_29 rfl ?_
  refine g_av (wr := [(h0, .inr (5, [.ref h2, .ref h3, .ref h4, .ref h5, .int wp19122])), (h5, .inr (8, [.ref h10, .int wp19125])), (h10, .inl (y 1, 3, .inr (.inl (fun _ => 0)))), (h2, .inr (8, [.ref h12, .int 0]))]) (va_runV (As := [.int 1, .long (((((p1 / 10) / 10) / 10) - (((p1 / 10) / 10) / 10) / 10 * 10).toInt64)]) (rest := []) ⟨hx, hb, hml, hown, hg⟩ (k_X8_set_27 l D y aS H.size h4 (((((p1 / 10) / 10) / 10) - (((p1 / 10) / 10) / 10) / 10 * 10).toInt64) h7 wp19123 (vp_updL (vp_updL (vp_updL wf19124 ((4 : Int32).toNatClampNeg) ((p1 - p1 / 10 * 10).toInt64)) ((3 : Int32).toNatClampNeg) (((p1 / 10) - (p1 / 10) / 10 * 10).toInt64)) ((2 : Int32).toNatClampNeg) ((((p1 / 10) / 10) - ((p1 / 10) / 10) / 10 * 10).toInt64))) (cwV 2 hg ggV_RX5_29_X8_set rfl rfl rfl (by decide +kernel) ⟨Nat.le_of_ble_eq_true rfl, Nat.le_of_ble_eq_true rfl⟩) (g_preV (q := (RX8, TX8, 2)) hK hP hD [4, 5] rfl (by decide) (ci := 8) (q0 := 4) rfl rfl) rfl rfl hl.1 rfl (lv_room (Nat.le_of_ble_eq_true rfl)) dX5_tellSecret_30 ⟨Nat.le_of_ble_eq_true rfl, Nat.le_of_ble_eq_true rfl⟩) hP hD hS hA [4, 5] [0, 1, 2, 3] rfl rfl (by decide) (by decide) ?_
  clear hP hD hS H locs
  refine fun u H locs hq hP hD hS => ?_
  replace hP : va_P D vwCl [(h0, .inr (5, [.ref h2, .ref h3, .ref h4, .ref h5, .int wp19122])), (h5, .inr (8, [.ref h10, .int wp19125])), (h10, .inl (y 1, 3, .inr (.inl (fun _ => 0)))), (h2, .inr (8, [.ref h12, .int 0])), (h4, .inr (8, [.ref h7, .int wp19123])), (h7, .inl (y 1, 18, .inr (.inl (vp_updL (vp_updL (vp_updL (vp_updL wf19124 ((4 : Int32).toNatClampNeg) ((p1 - p1 / 10 * 10).toInt64)) ((3 : Int32).toNatClampNeg) (((p1 / 10) - (p1 / 10) / 10 * 10).toInt64)) ((2 : Int32).toNatClampNeg) ((((p1 / 10) / 10) - ((p1 / 10) / 10) / 10 * 10).toInt64)) ((1 : Int32).toNatClampNeg) (((((p1 / 10) / 10) / 10) - (((p1 / 10) / 10) / 10) / 10 * 10).toInt64)))))] H := hP
  replace hD : va_D A [(h0, .inr (5, [.ref h2, .ref h3, .ref h4, .ref h5, .int wp19122])), (h5, .inr (8, [.ref h10, .int wp19125])), (h10, .inl (y 1, 3, .inr (.inl (fun _ => 0)))), (h2, .inr (8, [.ref h12, .int 0])), (h4, .inr (8, [.ref h7, .int wp19123])), (h7, .inl (y 1, 18, .inr (.inl (vp_updL (vp_updL (vp_updL (vp_updL wf19124 ((4 : Int32).toNatClampNeg) ((p1 - p1 / 10 * 10).toInt64)) ((3 : Int32).toNatClampNeg) (((p1 / 10) - (p1 / 10) / 10 * 10).toInt64)) ((2 : Int32).toNatClampNeg) ((((p1 / 10) / 10) - ((p1 / 10) / 10) / 10 * 10).toInt64)) ((1 : Int32).toNatClampNeg) (((((p1 / 10) / 10) / 10) - (((p1 / 10) / 10) / 10) / 10 * 10).toInt64)))))] := hD
  refine lv_iload hx hb dX5_tellSecret_33 (lv_at hl 1 rfl) ?_
  refine lv_bipush (v := 10) hx hb dX5_tellSecret_35 (by decide +kernel) ?_
  refine lv_idiv hx hb dX5_tellSecret_37 (by decide +kernel) ?_
  refine lv_istore (lv' := [(4, .int ((((p1 / 10) / 10) / 10) / 10)), (5, .int 1), (0, .ref h0), (1, .int 0), (2, .int p1), (3, .int 5)]) hx hb dX5_tellSecret_38 hl (by decide) rfl ?_
  clear hl
  clear ls
  intro ls hl
  refine lv_iinc (v := 0) (lv' := [(5, .int 0), (4, .int ((((p1 / 10) / 10) / 10) / 10)), (0, .ref h0), (1, .int 0), (2, .int p1), (3, .int 5)]) hx hb dX5_tellSecret_40 hl (k := 1) rfl (by decide +kernel) (by decide) rfl ?_
  clear hl
  clear ls
  intro ls hl
  refine lv_goto (tgt := 8) hx hb dX5_tellSecret_43 (by decide) ?_
  refine lv_iload hx hb dX5_tellSecret_8 (lv_at hl 0 rfl) ?_
  refine lv_if_lt (tgt := 46) hx hb dX5_tellSecret_10 (by decide) (fun c9 => absurd c9 (by decide +kernel)) (fun _ => ?_)
  refine lv_aload_n hx hb dX5_tellSecret_13 rfl (lv_at hl 2 rfl) ?_
  refine gm_get (D := D) (ci := 5) (v := .ref h4) (C := RX5) (T := TX5) (N := 5) hx hb hg inlX5 hown hK.1 hP 0 rfl rfl 2 (by decide) tX5_2 (hg _ gw_140) rfl dX5_tellSecret_14 ?_
  refine lv_iload_n hx hb dX5_tellSecret_17 rfl (lv_at hl 3 rfl) ?_
  refine lv_bipush (v := 6) hx hb dX5_tellSecret_18 (by decide +kernel) ?_
  refine lv_imul hx hb dX5_tellSecret_20 ?_
  refine g_fi (v := 0) (by decide +kernel) ?_
  refine lv_iload hx hb dX5_tellSecret_21 (lv_at hl 0 rfl) ?_
  refine lv_iadd hx hb dX5_tellSecret_23 ?_
  refine g_fi (v := 0) (by decide +kernel) ?_
  refine lv_iload hx hb dX5_tellSecret_24 (lv_at hl 1 rfl) ?_
  refine lv_bipush (v := 10) hx hb dX5_tellSecret_26 (by decide +kernel) ?_
  refine lv_irem hx hb dX5_tellSecret_28 (by decide +kernel) ?_
  refine lv_i2l (v := ((((((p1 / 10) / 10) / 10) / 10) - ((((p1 / 10) / 10) / 10) / 10) / 10 * 10).toInt64)) hx hb dX5_tellSecret_29 rfl ?_
  refine g_av (wr := [(h0, .inr (5, [.ref h2, .ref h3, .ref h4, .ref h5, .int wp19122])), (h5, .inr (8, [.ref h10, .int wp19125])), (h10, .inl (y 1, 3, .inr (.inl (fun _ => 0)))), (h2, .inr (8, [.ref h12, .int 0]))]) (va_runV (As := [.int 0, .long ((((((p1 / 10) / 10) / 10) / 10) - ((((p1 / 10) / 10) / 10) / 10) / 10 * 10).toInt64)]) (rest := []) ⟨hx, hb, hml, hown, hg⟩ (k_X8_set_28 l D y aS H.size h4 ((((((p1 / 10) / 10) / 10) / 10) - ((((p1 / 10) / 10) / 10) / 10) / 10 * 10).toInt64) h7 wp19123 (vp_updL (vp_updL (vp_updL (vp_updL wf19124 ((4 : Int32).toNatClampNeg) ((p1 - p1 / 10 * 10).toInt64)) ((3 : Int32).toNatClampNeg) (((p1 / 10) - (p1 / 10) / 10 * 10).toInt64)) ((2 : Int32).toNatClampNeg) ((((p1 / 10) / 10) - ((p1 / 10) / 10) / 10 * 10).toInt64)) ((1 : Int32).toNatClampNeg) (((((p1 / 10) / 10) / 10) - (((p1 / 10) / 10) / 10) / 10 * 10).toInt64))) (cwV 2 hg ggV_RX5_29_X8_set rfl rfl rfl (by decide +kernel) ⟨Nat.le_of_ble_eq_true rfl, Nat.le_of_ble_eq_true rfl⟩) (g_preV (q := (RX8, TX8, 2)) hK hP hD [4, 5] rfl (by decide) (ci := 8) (q0 := 4) rfl rfl) rfl rfl hl.1 rfl (lv_room (Nat.le_of_ble_eq_true rfl)) dX5_tellSecret_30 ⟨Nat.le_of_ble_eq_true rfl, Nat.le_of_ble_eq_true rfl⟩) hP hD hS hA [4, 5] [0, 1, 2, 3] rfl rfl (by decide) (by decide) ?_
  clear hP hD hS H locs
  refine fun u H locs hq hP hD hS => ?_
  replace hP : va_P D vwCl [(h0, .inr (5, [.ref h2, .ref h3, .ref h4, .ref h5, .int wp19122])), (h5, .inr (8, [.ref h10, .int wp19125])), (h10, .inl (y 1, 3, .inr (.inl (fun _ => 0)))), (h2, .inr (8, [.ref h12, .int 0])), (h4, .inr (8, [.ref h7, .int wp19123])), (h7, .inl (y 1, 18, .inr (.inl (vp_updL (vp_updL (vp_updL (vp_updL (vp_updL wf19124 ((4 : Int32).toNatClampNeg) ((p1 - p1 / 10 * 10).toInt64)) ((3 : Int32).toNatClampNeg) (((p1 / 10) - (p1 / 10) / 10 * 10).toInt64)) ((2 : Int32).toNatClampNeg) ((((p1 / 10) / 10) - ((p1 / 10) / 10) / 10 * 10).toInt64)) ((1 : Int32).toNatClampNeg) (((((p1 / 10) / 10) / 10) - (((p1 / 10) / 10) / 10) / 10 * 10).toInt64)) ((0 : Int32).toNatClampNeg) ((((((p1 / 10) / 10) / 10) / 10) - ((((p1 / 10) / 10) / 10) / 10) / 10 * 10).toInt64)))))] H := hP
  replace hD : va_D A [(h0, .inr (5, [.ref h2, .ref h3, .ref h4, .ref h5, .int wp19122])), (h5, .inr (8, [.ref h10, .int wp19125])), (h10, .inl (y 1, 3, .inr (.inl (fun _ => 0)))), (h2, .inr (8, [.ref h12, .int 0])), (h4, .inr (8, [.ref h7, .int wp19123])), (h7, .inl (y 1, 18, .inr (.inl (vp_updL (vp_updL (vp_updL (vp_updL (vp_updL wf19124 ((4 : Int32).toNatClampNeg) ((p1 - p1 / 10 * 10).toInt64)) ((3 : Int32).toNatClampNeg) (((p1 / 10) - (p1 / 10) / 10 * 10).toInt64)) ((2 : Int32).toNatClampNeg) ((((p1 / 10) / 10) - ((p1 / 10) / 10) / 10 * 10).toInt64)) ((1 : Int32).toNatClampNeg) (((((p1 / 10) / 10) / 10) - (((p1 / 10) / 10) / 10) / 10 * 10).toInt64)) ((0 : Int32).toNatClampNeg) ((((((p1 / 10) / 10) / 10) / 10) - ((((p1 / 10) / 10) / 10) / 10) / 10 * 10).toInt64)))))] := hD
  refine lv_iload hx hb dX5_tellSecret_33 (lv_at hl 1 rfl) ?_
  refine lv_bipush (v := 10) hx hb dX5_tellSecret_35 (by decide +kernel) ?_
  refine lv_idiv hx hb dX5_tellSecret_37 (by decide +kernel) ?_
  refine lv_istore (lv' := [(4, .int (((((p1 / 10) / 10) / 10) / 10) / 10)), (5, .int 0), (0, .ref h0), (1, .int 0), (2, .int p1), (3, .int 5)]) hx hb dX5_tellSecret_38 hl (by decide) rfl ?_
  clear hl
  clear ls
  intro ls hl
  refine lv_iinc (v := (-1)) (lv' := [(5, .int (-1)), (4, .int (((((p1 / 10) / 10) / 10) / 10) / 10)), (0, .ref h0), (1, .int 0), (2, .int p1), (3, .int 5)]) hx hb dX5_tellSecret_40 hl (k := 1) rfl (by decide +kernel) (by decide) rfl ?_
  clear hl
  clear ls
  intro ls hl
  refine lv_goto (tgt := 8) hx hb dX5_tellSecret_43 (by decide) ?_
  refine lv_iload hx hb dX5_tellSecret_8 (lv_at hl 0 rfl) ?_
  refine lv_if_lt (tgt := 46) hx hb dX5_tellSecret_10 (by decide) (fun _ => ?_) (fun c9 => absurd c9 (by decide +kernel))
  refine lv_aload_n hx hb dX5_tellSecret_46 rfl (lv_at hl 2 rfl) ?_
  refine gm_get (D := D) (ci := 5) (v := .ref h5) (C := RX5) (T := TX5) (N := 5) hx hb hg inlX5 hown hK.1 hP 0 rfl rfl 3 (by decide) tX5_3 (hg _ gw_141) rfl dX5_tellSecret_47 ?_
  refine lv_iload_n hx hb dX5_tellSecret_50 rfl (lv_at hl 3 rfl) ?_
  refine lv_iload_n hx hb dX5_tellSecret_51 rfl (lv_at hl 5 rfl) ?_
  refine lv_i2l (v := 5) hx hb dX5_tellSecret_52 (by decide +kernel) ?_
  refine g_av (wr := [(h0, .inr (5, [.ref h2, .ref h3, .ref h4, .ref h5, .int wp19122])), (h2, .inr (8, [.ref h12, .int 0])), (h4, .inr (8, [.ref h7, .int wp19123])), (h7, .inl (y 1, 18, .inr (.inl (vp_updL (vp_updL (vp_updL (vp_updL (vp_updL wf19124 ((4 : Int32).toNatClampNeg) ((p1 - p1 / 10 * 10).toInt64)) ((3 : Int32).toNatClampNeg) (((p1 / 10) - (p1 / 10) / 10 * 10).toInt64)) ((2 : Int32).toNatClampNeg) ((((p1 / 10) / 10) - ((p1 / 10) / 10) / 10 * 10).toInt64)) ((1 : Int32).toNatClampNeg) (((((p1 / 10) / 10) / 10) - (((p1 / 10) / 10) / 10) / 10 * 10).toInt64)) ((0 : Int32).toNatClampNeg) ((((((p1 / 10) / 10) / 10) / 10) - ((((p1 / 10) / 10) / 10) / 10) / 10 * 10).toInt64)))))]) (va_runV (As := [.int 0, .long 5]) (rest := []) ⟨hx, hb, hml, hown, hg⟩ (k_X8_set_24 l D y aS H.size h5 5 h10 wp19125 (fun _ => 0)) (cwV 2 hg ggV_RX5_29_X8_set rfl rfl rfl (by decide +kernel) ⟨Nat.le_of_ble_eq_true rfl, Nat.le_of_ble_eq_true rfl⟩) (g_preV (q := (RX8, TX8, 2)) hK hP hD [1, 2] rfl (by decide) (ci := 8) (q0 := 1) rfl rfl) rfl rfl hl.1 rfl (lv_room (Nat.le_of_ble_eq_true rfl)) dX5_tellSecret_53 ⟨Nat.le_of_ble_eq_true rfl, Nat.le_of_ble_eq_true rfl⟩) hP hD hS hA [1, 2] [0, 3, 4, 5] rfl rfl (by decide) (by decide) ?_
  clear hP hD hS H locs
  refine fun u H locs hq hP hD hS => ?_
  replace hP : va_P D vwCl [(h0, .inr (5, [.ref h2, .ref h3, .ref h4, .ref h5, .int wp19122])), (h2, .inr (8, [.ref h12, .int 0])), (h4, .inr (8, [.ref h7, .int wp19123])), (h7, .inl (y 1, 18, .inr (.inl (vp_updL (vp_updL (vp_updL (vp_updL (vp_updL wf19124 ((4 : Int32).toNatClampNeg) ((p1 - p1 / 10 * 10).toInt64)) ((3 : Int32).toNatClampNeg) (((p1 / 10) - (p1 / 10) / 10 * 10).toInt64)) ((2 : Int32).toNatClampNeg) ((((p1 / 10) / 10) - ((p1 / 10) / 10) / 10 * 10).toInt64)) ((1 : Int32).toNatClampNeg) (((((p1 / 10) / 10) / 10) - (((p1 / 10) / 10) / 10) / 10 * 10).toInt64)) ((0 : Int32).toNatClampNeg) ((((((p1 / 10) / 10) / 10) / 10) - ((((p1 / 10) / 10) / 10) / 10) / 10 * 10).toInt64))))), (h5, .inr (8, [.ref h10, .int wp19125])), (h10, .inl (y 1, 3, .inr (.inl (vp_updL (fun _ => 0) ((0 : Int32).toNatClampNeg) 5))))] H := hP
  replace hD : va_D A [(h0, .inr (5, [.ref h2, .ref h3, .ref h4, .ref h5, .int wp19122])), (h2, .inr (8, [.ref h12, .int 0])), (h4, .inr (8, [.ref h7, .int wp19123])), (h7, .inl (y 1, 18, .inr (.inl (vp_updL (vp_updL (vp_updL (vp_updL (vp_updL wf19124 ((4 : Int32).toNatClampNeg) ((p1 - p1 / 10 * 10).toInt64)) ((3 : Int32).toNatClampNeg) (((p1 / 10) - (p1 / 10) / 10 * 10).toInt64)) ((2 : Int32).toNatClampNeg) ((((p1 / 10) / 10) - ((p1 / 10) / 10) / 10 * 10).toInt64)) ((1 : Int32).toNatClampNeg) (((((p1 / 10) / 10) / 10) - (((p1 / 10) / 10) / 10) / 10 * 10).toInt64)) ((0 : Int32).toNatClampNeg) ((((((p1 / 10) / 10) / 10) / 10) - ((((p1 / 10) / 10) / 10) / 10) / 10 * 10).toInt64))))), (h5, .inr (8, [.ref h10, .int wp19125])), (h10, .inl (y 1, 3, .inr (.inl (vp_updL (fun _ => 0) ((0 : Int32).toNatClampNeg) 5))))] := hD
  refine lv_aload_n hx hb dX5_tellSecret_56 rfl (lv_at hl 2 rfl) ?_
  refine g_av (wr := [(h4, .inr (8, [.ref h7, .int wp19123])), (h7, .inl (y 1, 18, .inr (.inl (vp_updL (vp_updL (vp_updL (vp_updL (vp_updL wf19124 ((4 : Int32).toNatClampNeg) ((p1 - p1 / 10 * 10).toInt64)) ((3 : Int32).toNatClampNeg) (((p1 / 10) - (p1 / 10) / 10 * 10).toInt64)) ((2 : Int32).toNatClampNeg) ((((p1 / 10) / 10) - ((p1 / 10) / 10) / 10 * 10).toInt64)) ((1 : Int32).toNatClampNeg) (((((p1 / 10) / 10) / 10) - (((p1 / 10) / 10) / 10) / 10 * 10).toInt64)) ((0 : Int32).toNatClampNeg) ((((((p1 / 10) / 10) / 10) / 10) - ((((p1 / 10) / 10) / 10) / 10) / 10 * 10).toInt64))))), (h5, .inr (8, [.ref h10, .int wp19125])), (h10, .inl (y 1, 3, .inr (.inl (vp_updL (fun _ => 0) ((0 : Int32).toNatClampNeg) 5))))]) (va_runV (As := []) (rest := []) ⟨hx, hb, hml, hown, hg⟩ (k_X5_findOut_0 l D y aS H.size h0 h2 h3 h4 h5 wp19122 h12) (cwV 0 hg ggV_RX5_33_X5_findOut rfl rfl rfl (by decide +kernel) ⟨Nat.le_of_ble_eq_true rfl, Nat.le_of_ble_eq_true rfl⟩) (g_preV (q := (RX5, TX5, 5)) hK hP hD [0, 1] rfl (by decide) (ci := 5) (q0 := 0) rfl rfl) rfl rfl hl.1 rfl (lv_room (Nat.le_of_ble_eq_true rfl)) dX5_tellSecret_57 ⟨Nat.le_of_ble_eq_true rfl, Nat.le_of_ble_eq_true rfl⟩) hP hD hS hA [0, 1] [2, 3, 4, 5] rfl rfl (by decide) (by decide) ?_
  clear hP hD hS H locs
  refine fun u H locs hq hP hD hS => ?_
  replace hP : va_P D vwCl [(h4, .inr (8, [.ref h7, .int wp19123])), (h7, .inl (y 1, 18, .inr (.inl (vp_updL (vp_updL (vp_updL (vp_updL (vp_updL wf19124 ((4 : Int32).toNatClampNeg) ((p1 - p1 / 10 * 10).toInt64)) ((3 : Int32).toNatClampNeg) (((p1 / 10) - (p1 / 10) / 10 * 10).toInt64)) ((2 : Int32).toNatClampNeg) ((((p1 / 10) / 10) - ((p1 / 10) / 10) / 10 * 10).toInt64)) ((1 : Int32).toNatClampNeg) (((((p1 / 10) / 10) / 10) - (((p1 / 10) / 10) / 10) / 10 * 10).toInt64)) ((0 : Int32).toNatClampNeg) ((((((p1 / 10) / 10) / 10) / 10) - ((((p1 / 10) / 10) / 10) / 10) / 10 * 10).toInt64))))), (h5, .inr (8, [.ref h10, .int wp19125])), (h10, .inl (y 1, 3, .inr (.inl (vp_updL (fun _ => 0) ((0 : Int32).toNatClampNeg) 5)))), (h0, .inr (5, [.ref h2, .ref h3, .ref h4, .ref h5, .int 0])), (h2, .inr (8, [.ref h12, .int 0]))] H := hP
  replace hD : va_D A [(h4, .inr (8, [.ref h7, .int wp19123])), (h7, .inl (y 1, 18, .inr (.inl (vp_updL (vp_updL (vp_updL (vp_updL (vp_updL wf19124 ((4 : Int32).toNatClampNeg) ((p1 - p1 / 10 * 10).toInt64)) ((3 : Int32).toNatClampNeg) (((p1 / 10) - (p1 / 10) / 10 * 10).toInt64)) ((2 : Int32).toNatClampNeg) ((((p1 / 10) / 10) - ((p1 / 10) / 10) / 10 * 10).toInt64)) ((1 : Int32).toNatClampNeg) (((((p1 / 10) / 10) / 10) - (((p1 / 10) / 10) / 10) / 10 * 10).toInt64)) ((0 : Int32).toNatClampNeg) ((((((p1 / 10) / 10) / 10) / 10) - ((((p1 / 10) / 10) / 10) / 10) / 10 * 10).toInt64))))), (h5, .inr (8, [.ref h10, .int wp19125])), (h10, .inl (y 1, 3, .inr (.inl (vp_updL (fun _ => 0) ((0 : Int32).toNatClampNeg) 5)))), (h0, .inr (5, [.ref h2, .ref h3, .ref h4, .ref h5, .int 0])), (h2, .inr (8, [.ref h12, .int 0]))] := hD
  refine lv_iconst (v := 0) hx hb dX5_tellSecret_60 (by decide) ?_
  refine lv_istore (lv' := [(5, .int 0), (4, .int (((((p1 / 10) / 10) / 10) / 10) / 10)), (0, .ref h0), (1, .int 0), (2, .int p1), (3, .int 5)]) hx hb dX5_tellSecret_61 hl (by decide) rfl ?_
  clear hl
  clear ls
  intro ls hl
  refine lv_iconst (v := 0) hx hb dX5_tellSecret_63 (by decide) ?_
  refine lv_istore (lv' := [(6, .int 0), (5, .int 0), (4, .int (((((p1 / 10) / 10) / 10) / 10) / 10)), (0, .ref h0), (1, .int 0), (2, .int p1), (3, .int 5)]) hx hb dX5_tellSecret_64 hl (by decide) rfl ?_
  clear hl
  clear ls
  intro ls hl
  refine lv_iload hx hb dX5_tellSecret_66 (lv_at hl 0 rfl) ?_
  refine lv_iconst (v := 3) hx hb dX5_tellSecret_68 (by decide) ?_
  refine lv_icmp_ge (tgt := 95) hx hb dX5_tellSecret_69 (by decide) (fun c9 => absurd c9 (by decide +kernel)) (fun _ => ?_)
  refine lv_aload_n hx hb dX5_tellSecret_72 rfl (lv_at hl 3 rfl) ?_
  refine gm_get (D := D) (ci := 5) (v := .ref h5) (C := RX5) (T := TX5) (N := 5) hx hb hg inlX5 hown hK.1 hP 4 rfl rfl 3 (by decide) tX5_3 (hg _ gw_141) rfl dX5_tellSecret_73 ?_
  refine lv_iload hx hb dX5_tellSecret_76 (lv_at hl 0 rfl) ?_
  refine g_al (wr := [(h4, .inr (8, [.ref h7, .int wp19123])), (h7, .inl (y 1, 18, .inr (.inl (vp_updL (vp_updL (vp_updL (vp_updL (vp_updL wf19124 ((4 : Int32).toNatClampNeg) ((p1 - p1 / 10 * 10).toInt64)) ((3 : Int32).toNatClampNeg) (((p1 / 10) - (p1 / 10) / 10 * 10).toInt64)) ((2 : Int32).toNatClampNeg) ((((p1 / 10) / 10) - ((p1 / 10) / 10) / 10 * 10).toInt64)) ((1 : Int32).toNatClampNeg) (((((p1 / 10) / 10) / 10) - (((p1 / 10) / 10) / 10) / 10 * 10).toInt64)) ((0 : Int32).toNatClampNeg) ((((((p1 / 10) / 10) / 10) / 10) - ((((p1 / 10) / 10) / 10) / 10) / 10 * 10).toInt64))))), (h0, .inr (5, [.ref h2, .ref h3, .ref h4, .ref h5, .int 0])), (h2, .inr (8, [.ref h12, .int 0]))]) (va_runV (As := [.int 0]) (rest := []) ⟨hx, hb, hml, hown, hg⟩ (k_X8_get_29 l D y aS H.size h5 h10 wp19125) (cwV 1 hg ggV_RX5_36_X8_get rfl rfl rfl (by decide +kernel) ⟨Nat.le_of_ble_eq_true rfl, Nat.le_of_ble_eq_true rfl⟩) (g_preV (q := (RX8, TX8, 2)) hK hP hD [2, 3] rfl (by decide) (ci := 8) (q0 := 2) rfl rfl) rfl rfl hl.1 rfl (lv_room (Nat.le_of_ble_eq_true rfl)) dX5_tellSecret_78 ⟨Nat.le_of_ble_eq_true rfl, Nat.le_of_ble_eq_true rfl⟩) hP hD hS hA [2, 3] [0, 1, 4, 5] rfl rfl (by decide) (by decide) ?_
  clear hP hD hS H locs
  refine fun r19133 u H locs hq hP hD hS => ?_
  subst hq
  replace hP : va_P D vwCl [(h4, .inr (8, [.ref h7, .int wp19123])), (h7, .inl (y 1, 18, .inr (.inl (vp_updL (vp_updL (vp_updL (vp_updL (vp_updL wf19124 ((4 : Int32).toNatClampNeg) ((p1 - p1 / 10 * 10).toInt64)) ((3 : Int32).toNatClampNeg) (((p1 / 10) - (p1 / 10) / 10 * 10).toInt64)) ((2 : Int32).toNatClampNeg) ((((p1 / 10) / 10) - ((p1 / 10) / 10) / 10 * 10).toInt64)) ((1 : Int32).toNatClampNeg) (((((p1 / 10) / 10) / 10) - (((p1 / 10) / 10) / 10) / 10 * 10).toInt64)) ((0 : Int32).toNatClampNeg) ((((((p1 / 10) / 10) / 10) / 10) - ((((p1 / 10) / 10) / 10) / 10) / 10 * 10).toInt64))))), (h0, .inr (5, [.ref h2, .ref h3, .ref h4, .ref h5, .int 0])), (h2, .inr (8, [.ref h12, .int 0])), (h5, .inr (8, [.ref h10, .int wp19125])), (h10, .inl (y 1, 3, .inr (.inl (vp_updL (fun _ => 0) ((0 : Int32).toNatClampNeg) 5))))] H := hP
  replace hD : va_D A [(h4, .inr (8, [.ref h7, .int wp19123])), (h7, .inl (y 1, 18, .inr (.inl (vp_updL (vp_updL (vp_updL (vp_updL (vp_updL wf19124 ((4 : Int32).toNatClampNeg) ((p1 - p1 / 10 * 10).toInt64)) ((3 : Int32).toNatClampNeg) (((p1 / 10) - (p1 / 10) / 10 * 10).toInt64)) ((2 : Int32).toNatClampNeg) ((((p1 / 10) / 10) - ((p1 / 10) / 10) / 10 * 10).toInt64)) ((1 : Int32).toNatClampNeg) (((((p1 / 10) / 10) / 10) - (((p1 / 10) / 10) / 10) / 10 * 10).toInt64)) ((0 : Int32).toNatClampNeg) ((((((p1 / 10) / 10) / 10) / 10) - ((((p1 / 10) / 10) / 10) / 10) / 10 * 10).toInt64))))), (h0, .inr (5, [.ref h2, .ref h3, .ref h4, .ref h5, .int 0])), (h2, .inr (8, [.ref h12, .int 0])), (h5, .inr (8, [.ref h10, .int wp19125])), (h10, .inl (y 1, 3, .inr (.inl (vp_updL (fun _ => 0) ((0 : Int32).toNatClampNeg) 5))))] := hD
  refine lv_lconst (v := 0) hx hb dX5_tellSecret_81 (by decide) ?_
  refine W.lcmp hx hb dX5_tellSecret_82 ?_
  refine g_fi (v := 1) (by decide +kernel) ?_
  refine lv_if_le (tgt := 89) hx hb dX5_tellSecret_83 (by decide) (fun c9 => absurd c9 (by decide +kernel)) (fun _ => ?_)
  refine lv_iinc (v := 1) (lv' := [(5, .int 1), (6, .int 0), (4, .int (((((p1 / 10) / 10) / 10) / 10) / 10)), (0, .ref h0), (1, .int 0), (2, .int p1), (3, .int 5)]) hx hb dX5_tellSecret_86 hl (k := 1) rfl (by decide +kernel) (by decide) rfl ?_
  clear hl
  clear ls
  intro ls hl
  refine lv_iinc (v := 1) (lv' := [(6, .int 1), (5, .int 1), (4, .int (((((p1 / 10) / 10) / 10) / 10) / 10)), (0, .ref h0), (1, .int 0), (2, .int p1), (3, .int 5)]) hx hb dX5_tellSecret_89 hl (k := 1) rfl (by decide +kernel) (by decide) rfl ?_
  clear hl
  clear ls
  intro ls hl
  refine lv_goto (tgt := 66) hx hb dX5_tellSecret_92 (by decide) ?_
  refine lv_iload hx hb dX5_tellSecret_66 (lv_at hl 0 rfl) ?_
  refine lv_iconst (v := 3) hx hb dX5_tellSecret_68 (by decide) ?_
  refine lv_icmp_ge (tgt := 95) hx hb dX5_tellSecret_69 (by decide) (fun c9 => absurd c9 (by decide +kernel)) (fun _ => ?_)
  refine lv_aload_n hx hb dX5_tellSecret_72 rfl (lv_at hl 3 rfl) ?_
  refine gm_get (D := D) (ci := 5) (v := .ref h5) (C := RX5) (T := TX5) (N := 5) hx hb hg inlX5 hown hK.1 hP 2 rfl rfl 3 (by decide) tX5_3 (hg _ gw_141) rfl dX5_tellSecret_73 ?_
  refine lv_iload hx hb dX5_tellSecret_76 (lv_at hl 0 rfl) ?_
  refine g_al (wr := [(h4, .inr (8, [.ref h7, .int wp19123])), (h7, .inl (y 1, 18, .inr (.inl (vp_updL (vp_updL (vp_updL (vp_updL (vp_updL wf19124 ((4 : Int32).toNatClampNeg) ((p1 - p1 / 10 * 10).toInt64)) ((3 : Int32).toNatClampNeg) (((p1 / 10) - (p1 / 10) / 10 * 10).toInt64)) ((2 : Int32).toNatClampNeg) ((((p1 / 10) / 10) - ((p1 / 10) / 10) / 10 * 10).toInt64)) ((1 : Int32).toNatClampNeg) (((((p1 / 10) / 10) / 10) - (((p1 / 10) / 10) / 10) / 10 * 10).toInt64)) ((0 : Int32).toNatClampNeg) ((((((p1 / 10) / 10) / 10) / 10) - ((((p1 / 10) / 10) / 10) / 10) / 10 * 10).toInt64))))), (h0, .inr (5, [.ref h2, .ref h3, .ref h4, .ref h5, .int 0])), (h2, .inr (8, [.ref h12, .int 0]))]) (va_runV (As := [.int 1]) (rest := []) ⟨hx, hb, hml, hown, hg⟩ (k_X8_get_30 l D y aS H.size h5 h10 wp19125) (cwV 1 hg ggV_RX5_36_X8_get rfl rfl rfl (by decide +kernel) ⟨Nat.le_of_ble_eq_true rfl, Nat.le_of_ble_eq_true rfl⟩) (g_preV (q := (RX8, TX8, 2)) hK hP hD [4, 5] rfl (by decide) (ci := 8) (q0 := 4) rfl rfl) rfl rfl hl.1 rfl (lv_room (Nat.le_of_ble_eq_true rfl)) dX5_tellSecret_78 ⟨Nat.le_of_ble_eq_true rfl, Nat.le_of_ble_eq_true rfl⟩) hP hD hS hA [4, 5] [0, 1, 2, 3] rfl rfl (by decide) (by decide) ?_
  clear hP hD hS H locs
  refine fun r19134 u H locs hq hP hD hS => ?_
  subst hq
  replace hP : va_P D vwCl [(h4, .inr (8, [.ref h7, .int wp19123])), (h7, .inl (y 1, 18, .inr (.inl (vp_updL (vp_updL (vp_updL (vp_updL (vp_updL wf19124 ((4 : Int32).toNatClampNeg) ((p1 - p1 / 10 * 10).toInt64)) ((3 : Int32).toNatClampNeg) (((p1 / 10) - (p1 / 10) / 10 * 10).toInt64)) ((2 : Int32).toNatClampNeg) ((((p1 / 10) / 10) - ((p1 / 10) / 10) / 10 * 10).toInt64)) ((1 : Int32).toNatClampNeg) (((((p1 / 10) / 10) / 10) - (((p1 / 10) / 10) / 10) / 10 * 10).toInt64)) ((0 : Int32).toNatClampNeg) ((((((p1 / 10) / 10) / 10) / 10) - ((((p1 / 10) / 10) / 10) / 10) / 10 * 10).toInt64))))), (h0, .inr (5, [.ref h2, .ref h3, .ref h4, .ref h5, .int 0])), (h2, .inr (8, [.ref h12, .int 0])), (h5, .inr (8, [.ref h10, .int wp19125])), (h10, .inl (y 1, 3, .inr (.inl (vp_updL (fun _ => 0) ((0 : Int32).toNatClampNeg) 5))))] H := hP
  replace hD : va_D A [(h4, .inr (8, [.ref h7, .int wp19123])), (h7, .inl (y 1, 18, .inr (.inl (vp_updL (vp_updL (vp_updL (vp_updL (vp_updL wf19124 ((4 : Int32).toNatClampNeg) ((p1 - p1 / 10 * 10).toInt64)) ((3 : Int32).toNatClampNeg) (((p1 / 10) - (p1 / 10) / 10 * 10).toInt64)) ((2 : Int32).toNatClampNeg) ((((p1 / 10) / 10) - ((p1 / 10) / 10) / 10 * 10).toInt64)) ((1 : Int32).toNatClampNeg) (((((p1 / 10) / 10) / 10) - (((p1 / 10) / 10) / 10) / 10 * 10).toInt64)) ((0 : Int32).toNatClampNeg) ((((((p1 / 10) / 10) / 10) / 10) - ((((p1 / 10) / 10) / 10) / 10) / 10 * 10).toInt64))))), (h0, .inr (5, [.ref h2, .ref h3, .ref h4, .ref h5, .int 0])), (h2, .inr (8, [.ref h12, .int 0])), (h5, .inr (8, [.ref h10, .int wp19125])), (h10, .inl (y 1, 3, .inr (.inl (vp_updL (fun _ => 0) ((0 : Int32).toNatClampNeg) 5))))] := hD
  refine lv_lconst (v := 0) hx hb dX5_tellSecret_81 (by decide) ?_
  refine W.lcmp hx hb dX5_tellSecret_82 ?_
  refine g_fi (v := 0) (by decide +kernel) ?_
  refine lv_if_le (tgt := 89) hx hb dX5_tellSecret_83 (by decide) (fun _ => ?_) (fun c9 => absurd c9 (by decide +kernel))
  refine lv_iinc (v := 2) (lv' := [(6, .int 2), (5, .int 1), (4, .int (((((p1 / 10) / 10) / 10) / 10) / 10)), (0, .ref h0), (1, .int 0), (2, .int p1), (3, .int 5)]) hx hb dX5_tellSecret_89 hl (k := 0) rfl (by decide +kernel) (by decide) rfl ?_
  clear hl
  clear ls
  intro ls hl
  refine lv_goto (tgt := 66) hx hb dX5_tellSecret_92 (by decide) ?_
  refine lv_iload hx hb dX5_tellSecret_66 (lv_at hl 0 rfl) ?_
  refine lv_iconst (v := 3) hx hb dX5_tellSecret_68 (by decide) ?_
  refine lv_icmp_ge (tgt := 95) hx hb dX5_tellSecret_69 (by decide) (fun c9 => absurd c9 (by decide +kernel)) (fun _ => ?_)
  refine lv_aload_n hx hb dX5_tellSecret_72 rfl (lv_at hl 3 rfl) ?_
  refine gm_get (D := D) (ci := 5) (v := .ref h5) (C := RX5) (T := TX5) (N := 5) hx hb hg inlX5 hown hK.1 hP 2 rfl rfl 3 (by decide) tX5_3 (hg _ gw_141) rfl dX5_tellSecret_73 ?_
  refine lv_iload hx hb dX5_tellSecret_76 (lv_at hl 0 rfl) ?_
  refine g_al (wr := [(h4, .inr (8, [.ref h7, .int wp19123])), (h7, .inl (y 1, 18, .inr (.inl (vp_updL (vp_updL (vp_updL (vp_updL (vp_updL wf19124 ((4 : Int32).toNatClampNeg) ((p1 - p1 / 10 * 10).toInt64)) ((3 : Int32).toNatClampNeg) (((p1 / 10) - (p1 / 10) / 10 * 10).toInt64)) ((2 : Int32).toNatClampNeg) ((((p1 / 10) / 10) - ((p1 / 10) / 10) / 10 * 10).toInt64)) ((1 : Int32).toNatClampNeg) (((((p1 / 10) / 10) / 10) - (((p1 / 10) / 10) / 10) / 10 * 10).toInt64)) ((0 : Int32).toNatClampNeg) ((((((p1 / 10) / 10) / 10) / 10) - ((((p1 / 10) / 10) / 10) / 10) / 10 * 10).toInt64))))), (h0, .inr (5, [.ref h2, .ref h3, .ref h4, .ref h5, .int 0])), (h2, .inr (8, [.ref h12, .int 0]))]) (va_runV (As := [.int 2]) (rest := []) ⟨hx, hb, hml, hown, hg⟩ (k_X8_get_31 l D y aS H.size h5 h10 wp19125) (cwV 1 hg ggV_RX5_36_X8_get rfl rfl rfl (by decide +kernel) ⟨Nat.le_of_ble_eq_true rfl, Nat.le_of_ble_eq_true rfl⟩) (g_preV (q := (RX8, TX8, 2)) hK hP hD [4, 5] rfl (by decide) (ci := 8) (q0 := 4) rfl rfl) rfl rfl hl.1 rfl (lv_room (Nat.le_of_ble_eq_true rfl)) dX5_tellSecret_78 ⟨Nat.le_of_ble_eq_true rfl, Nat.le_of_ble_eq_true rfl⟩) hP hD hS hA [4, 5] [0, 1, 2, 3] rfl rfl (by decide) (by decide) ?_
  clear hP hD hS H locs
  refine fun r19135 u H locs hq hP hD hS => ?_
  subst hq
  replace hP : va_P D vwCl [(h4, .inr (8, [.ref h7, .int wp19123])), (h7, .inl (y 1, 18, .inr (.inl (vp_updL (vp_updL (vp_updL (vp_updL (vp_updL wf19124 ((4 : Int32).toNatClampNeg) ((p1 - p1 / 10 * 10).toInt64)) ((3 : Int32).toNatClampNeg) (((p1 / 10) - (p1 / 10) / 10 * 10).toInt64)) ((2 : Int32).toNatClampNeg) ((((p1 / 10) / 10) - ((p1 / 10) / 10) / 10 * 10).toInt64)) ((1 : Int32).toNatClampNeg) (((((p1 / 10) / 10) / 10) - (((p1 / 10) / 10) / 10) / 10 * 10).toInt64)) ((0 : Int32).toNatClampNeg) ((((((p1 / 10) / 10) / 10) / 10) - ((((p1 / 10) / 10) / 10) / 10) / 10 * 10).toInt64))))), (h0, .inr (5, [.ref h2, .ref h3, .ref h4, .ref h5, .int 0])), (h2, .inr (8, [.ref h12, .int 0])), (h5, .inr (8, [.ref h10, .int wp19125])), (h10, .inl (y 1, 3, .inr (.inl (vp_updL (fun _ => 0) ((0 : Int32).toNatClampNeg) 5))))] H := hP
  replace hD : va_D A [(h4, .inr (8, [.ref h7, .int wp19123])), (h7, .inl (y 1, 18, .inr (.inl (vp_updL (vp_updL (vp_updL (vp_updL (vp_updL wf19124 ((4 : Int32).toNatClampNeg) ((p1 - p1 / 10 * 10).toInt64)) ((3 : Int32).toNatClampNeg) (((p1 / 10) - (p1 / 10) / 10 * 10).toInt64)) ((2 : Int32).toNatClampNeg) ((((p1 / 10) / 10) - ((p1 / 10) / 10) / 10 * 10).toInt64)) ((1 : Int32).toNatClampNeg) (((((p1 / 10) / 10) / 10) - (((p1 / 10) / 10) / 10) / 10 * 10).toInt64)) ((0 : Int32).toNatClampNeg) ((((((p1 / 10) / 10) / 10) / 10) - ((((p1 / 10) / 10) / 10) / 10) / 10 * 10).toInt64))))), (h0, .inr (5, [.ref h2, .ref h3, .ref h4, .ref h5, .int 0])), (h2, .inr (8, [.ref h12, .int 0])), (h5, .inr (8, [.ref h10, .int wp19125])), (h10, .inl (y 1, 3, .inr (.inl (vp_updL (fun _ => 0) ((0 : Int32).toNatClampNeg) 5))))] := hD
  refine lv_lconst (v := 0) hx hb dX5_tellSecret_81 (by decide) ?_
  refine W.lcmp hx hb dX5_tellSecret_82 ?_
  refine g_fi (v := 0) (by decide +kernel) ?_
  refine lv_if_le (tgt := 89) hx hb dX5_tellSecret_83 (by decide) (fun _ => ?_) (fun c9 => absurd c9 (by decide +kernel))
  refine lv_iinc (v := 3) (lv' := [(6, .int 3), (5, .int 1), (4, .int (((((p1 / 10) / 10) / 10) / 10) / 10)), (0, .ref h0), (1, .int 0), (2, .int p1), (3, .int 5)]) hx hb dX5_tellSecret_89 hl (k := 0) rfl (by decide +kernel) (by decide) rfl ?_
  clear hl
  clear ls
  intro ls hl
  refine lv_goto (tgt := 66) hx hb dX5_tellSecret_92 (by decide) ?_
  refine lv_iload hx hb dX5_tellSecret_66 (lv_at hl 0 rfl) ?_
  refine lv_iconst (v := 3) hx hb dX5_tellSecret_68 (by decide) ?_
  refine lv_icmp_ge (tgt := 95) hx hb dX5_tellSecret_69 (by decide) (fun _ => ?_) (fun c9 => absurd c9 (by decide +kernel))
  refine lv_iload hx hb dX5_tellSecret_95 (lv_at hl 1 rfl) ?_
  exact g_iret hx hb hr hlocks () (hP.sub [2, 0, 1, 4, 5, 3] rfl) (hD.sub [2, 0, 1, 4, 5, 3] (by decide +kernel) rfl) hS rfl rfl (Nat.le_of_ble_eq_true rfl) (Nat.le_of_ble_eq_true rfl) dX5_tellSecret_97
set_option maxRecDepth 100000 in
set_option maxHeartbeats 4000000 in
theorem k_X8_set_40 (l : Launch) (D : va_G) (y : Nat → ClassId) (aS : Nat → Nat) (sz : Nat) (h0 : Nat) (p1 : Int64) (h2 : Nat) (wp19138 : Int32) (wf19139 : Nat → Int64) : Met l yX8_set (Cond.code yX8_set cX8_set 4 none :: wsL_law) ({ frames := 0, cells := 0, slots := 0, locals := 0 } : Room) (va_Pc [.ref h0, .int 10, .long p1] (gI D y aS [(h0, .inr (8, [.ref h2, .int wp19138])), (h2, .inl (y 1, 18, .inr (.inl wf19139)))] sz)) (va_Qv (fun (u : Unit) => True) (fun u => gO D (va_A [(h0, .inr (8, [.ref h2, .int wp19138])), (h2, .inl (y 1, 18, .inr (.inl wf19139)))] sz) [(h0, .inr (8, [.ref h2, .int wp19138])), (h2, .inl (y 1, 18, .inr (.inl (vp_updL wf19139 ((10 : Int32).toNatClampNeg) p1))))]) (va_A [(h0, .inr (8, [.ref h2, .int wp19138])), (h2, .inl (y 1, 18, .inr (.inl wf19139)))] sz)) 0 0 (va_A [(h0, .inr (8, [.ref h2, .int wp19138])), (h2, .inl (y 1, 18, .inr (.inl wf19139)))] sz) := by
  refine g_of (by decide) (Nat.le_of_ble_eq_true rfl) ?_
  intro p e s m below meth c ls A hx hb hr hml hown hg hlocks hin hsz hK hP hD hS hA hAe hl
  rw [← hAe]
  replace hown : s.vm.findClass RX8 = some m.cls := hown
  replace hl : lv_has ls 4 [(0, .ref h0), (1, .int 10), (2, .long p1)] := hl
  refine lv_iload_n hx hb dX8_set_0 rfl (lv_at hl 1 rfl) ?_
  refine lv_if_lt (tgt := 20) hx hb dX8_set_1 (by decide) (fun c9 => absurd c9 (by decide +kernel)) (fun _ => ?_)
  refine lv_iload_n hx hb dX8_set_4 rfl (lv_at hl 1 rfl) ?_
  refine lv_aload_n hx hb dX8_set_5 rfl (lv_at hl 0 rfl) ?_
  refine gm_get (D := D) (ci := 8) (v := .ref h2) (C := RX8) (T := TX8) (N := 2) hx hb hg inlX8 hown hK.1 hP 0 rfl rfl 0 (by decide) tX8_0 (hg _ gw_98) rfl dX8_set_6 ?_
  refine va_alen hx hb hK.1 hP 1 1 rfl rfl (v := 18) rfl dX8_set_9 ?_
  refine lv_icmp_ge (tgt := 20) hx hb dX8_set_10 (by decide) (fun c9 => absurd c9 (by decide +kernel)) (fun _ => ?_)
  refine lv_aload_n hx hb dX8_set_13 rfl (lv_at hl 0 rfl) ?_
  refine gm_get (D := D) (ci := 8) (v := .ref h2) (C := RX8) (T := TX8) (N := 2) hx hb hg inlX8 hown hK.1 hP 0 rfl rfl 0 (by decide) tX8_0 (hg _ gw_98) rfl dX8_set_14 ?_
  refine lv_iload_n hx hb dX8_set_17 rfl (lv_at hl 1 rfl) ?_
  refine lv_lload_n hx hb dX8_set_18 rfl (lv_at hl 2 rfl) ?_
  refine va_last hx hb hK.1 hP hD hS 1 1 rfl rfl (by unfold vp_in; decide +kernel) dX8_set_19 ?_
  clear hP hD hS
  refine fun H locs (hP : va_P D vwCl [(h0, .inr (8, [.ref h2, .int wp19138])), (h2, .inl (y 1, 18, .inr (.inl (vp_updL wf19139 ((10 : Int32).toNatClampNeg) p1))))] H) (hD : va_D A [(h0, .inr (8, [.ref h2, .int wp19138])), (h2, .inl (y 1, 18, .inr (.inl (vp_updL wf19139 ((10 : Int32).toNatClampNeg) p1))))]) hS => ?_
  exact g_vret hx hb hr hlocks () hP hD hS trivial (Nat.le_of_ble_eq_true rfl) (Nat.le_of_ble_eq_true rfl) dX8_set_20
set_option maxRecDepth 100000 in
set_option maxHeartbeats 4000000 in
theorem k_X8_get_32 (l : Launch) (D : va_G) (y : Nat → ClassId) (aS : Nat → Nat) (sz : Nat) (h0 : Nat) (h1 : Nat) (wp19147 : Int32) : Met l yX8_get (Cond.code yX8_get cX8_get 2 (some .long) :: wsL_law) ({ frames := 0, cells := 0, slots := 0, locals := 0 } : Room) (va_Pc [.ref h0, .int 0] (gI D y aS [(h0, .inr (8, [.ref h1, .int wp19147])), (h1, .inl (y 1, 3, .inr (.inl (vp_updL (fun _ => 0) ((1 : Int32).toNatClampNeg) 5))))] sz)) (va_Ql (fun (r : Int64) (u : Unit) => 0 = r) (fun u => gO D (va_A [(h0, .inr (8, [.ref h1, .int wp19147])), (h1, .inl (y 1, 3, .inr (.inl (vp_updL (fun _ => 0) ((1 : Int32).toNatClampNeg) 5))))] sz) [(h0, .inr (8, [.ref h1, .int wp19147])), (h1, .inl (y 1, 3, .inr (.inl (vp_updL (fun _ => 0) ((1 : Int32).toNatClampNeg) 5))))]) (va_A [(h0, .inr (8, [.ref h1, .int wp19147])), (h1, .inl (y 1, 3, .inr (.inl (vp_updL (fun _ => 0) ((1 : Int32).toNatClampNeg) 5))))] sz)) 0 0 (va_A [(h0, .inr (8, [.ref h1, .int wp19147])), (h1, .inl (y 1, 3, .inr (.inl (vp_updL (fun _ => 0) ((1 : Int32).toNatClampNeg) 5))))] sz) := by
  refine g_of (by decide) (Nat.le_of_ble_eq_true rfl) ?_
  intro p e s m below meth c ls A hx hb hr hml hown hg hlocks hin hsz hK hP hD hS hA hAe hl
  rw [← hAe]
  replace hown : s.vm.findClass RX8 = some m.cls := hown
  replace hl : lv_has ls 2 [(0, .ref h0), (1, .int 0)] := hl
  refine lv_iload_n hx hb dX8_get_0 rfl (lv_at hl 1 rfl) ?_
  refine lv_if_lt (tgt := 22) hx hb dX8_get_1 (by decide) (fun c9 => absurd c9 (by decide +kernel)) (fun _ => ?_)
  refine lv_iload_n hx hb dX8_get_4 rfl (lv_at hl 1 rfl) ?_
  refine lv_aload_n hx hb dX8_get_5 rfl (lv_at hl 0 rfl) ?_
  refine gm_get (D := D) (ci := 8) (v := .ref h1) (C := RX8) (T := TX8) (N := 2) hx hb hg inlX8 hown hK.1 hP 0 rfl rfl 0 (by decide) tX8_0 (hg _ gw_98) rfl dX8_get_6 ?_
  refine va_alen hx hb hK.1 hP 1 1 rfl rfl (v := 3) rfl dX8_get_9 ?_
  refine lv_icmp_ge (tgt := 22) hx hb dX8_get_10 (by decide) (fun c9 => absurd c9 (by decide +kernel)) (fun _ => ?_)
  refine lv_aload_n hx hb dX8_get_13 rfl (lv_at hl 0 rfl) ?_
  refine gm_get (D := D) (ci := 8) (v := .ref h1) (C := RX8) (T := TX8) (N := 2) hx hb hg inlX8 hown hK.1 hP 0 rfl rfl 0 (by decide) tX8_0 (hg _ gw_98) rfl dX8_get_14 ?_
  refine lv_iload_n hx hb dX8_get_17 rfl (lv_at hl 1 rfl) ?_
  refine va_lald hx hb hK.1 hP 1 1 rfl rfl (by unfold vp_in; decide +kernel) dX8_get_18 ?_
  refine g_fj (v := 0) (by rfl) ?_
  refine lv_goto (tgt := 23) hx hb dX8_get_19 (by decide) ?_
  exact g_lret hx hb hr hlocks () hP hD hS rfl (Nat.le_of_ble_eq_true rfl) (Nat.le_of_ble_eq_true rfl) dX8_get_23
set_option maxRecDepth 100000 in
set_option maxHeartbeats 4000000 in
theorem k_X8_get_33 (l : Launch) (D : va_G) (y : Nat → ClassId) (aS : Nat → Nat) (sz : Nat) (h0 : Nat) (h1 : Nat) (wp19149 : Int32) : Met l yX8_get (Cond.code yX8_get cX8_get 2 (some .long) :: wsL_law) ({ frames := 0, cells := 0, slots := 0, locals := 0 } : Room) (va_Pc [.ref h0, .int 1] (gI D y aS [(h0, .inr (8, [.ref h1, .int wp19149])), (h1, .inl (y 1, 3, .inr (.inl (vp_updL (fun _ => 0) ((1 : Int32).toNatClampNeg) 5))))] sz)) (va_Ql (fun (r : Int64) (u : Unit) => 5 = r) (fun u => gO D (va_A [(h0, .inr (8, [.ref h1, .int wp19149])), (h1, .inl (y 1, 3, .inr (.inl (vp_updL (fun _ => 0) ((1 : Int32).toNatClampNeg) 5))))] sz) [(h0, .inr (8, [.ref h1, .int wp19149])), (h1, .inl (y 1, 3, .inr (.inl (vp_updL (fun _ => 0) ((1 : Int32).toNatClampNeg) 5))))]) (va_A [(h0, .inr (8, [.ref h1, .int wp19149])), (h1, .inl (y 1, 3, .inr (.inl (vp_updL (fun _ => 0) ((1 : Int32).toNatClampNeg) 5))))] sz)) 0 0 (va_A [(h0, .inr (8, [.ref h1, .int wp19149])), (h1, .inl (y 1, 3, .inr (.inl (vp_updL (fun _ => 0) ((1 : Int32).toNatClampNeg) 5))))] sz) := by
  refine g_of (by decide) (Nat.le_of_ble_eq_true rfl) ?_
  intro p e s m below meth c ls A hx hb hr hml hown hg hlocks hin hsz hK hP hD hS hA hAe hl
  rw [← hAe]
  replace hown : s.vm.findClass RX8 = some m.cls := hown
  replace hl : lv_has ls 2 [(0, .ref h0), (1, .int 1)] := hl
  refine lv_iload_n hx hb dX8_get_0 rfl (lv_at hl 1 rfl) ?_
  refine lv_if_lt (tgt := 22) hx hb dX8_get_1 (by decide) (fun c9 => absurd c9 (by decide +kernel)) (fun _ => ?_)
  refine lv_iload_n hx hb dX8_get_4 rfl (lv_at hl 1 rfl) ?_
  refine lv_aload_n hx hb dX8_get_5 rfl (lv_at hl 0 rfl) ?_
  refine gm_get (D := D) (ci := 8) (v := .ref h1) (C := RX8) (T := TX8) (N := 2) hx hb hg inlX8 hown hK.1 hP 0 rfl rfl 0 (by decide) tX8_0 (hg _ gw_98) rfl dX8_get_6 ?_
  refine va_alen hx hb hK.1 hP 1 1 rfl rfl (v := 3) rfl dX8_get_9 ?_
  refine lv_icmp_ge (tgt := 22) hx hb dX8_get_10 (by decide) (fun c9 => absurd c9 (by decide +kernel)) (fun _ => ?_)
  refine lv_aload_n hx hb dX8_get_13 rfl (lv_at hl 0 rfl) ?_
  refine gm_get (D := D) (ci := 8) (v := .ref h1) (C := RX8) (T := TX8) (N := 2) hx hb hg inlX8 hown hK.1 hP 0 rfl rfl 0 (by decide) tX8_0 (hg _ gw_98) rfl dX8_get_14 ?_
  refine lv_iload_n hx hb dX8_get_17 rfl (lv_at hl 1 rfl) ?_
  refine va_lald hx hb hK.1 hP 1 1 rfl rfl (by unfold vp_in; decide +kernel) dX8_get_18 ?_
  refine g_fj (v := 5) (by rfl) ?_
  refine lv_goto (tgt := 23) hx hb dX8_get_19 (by decide) ?_
  exact g_lret hx hb hr hlocks () hP hD hS rfl (Nat.le_of_ble_eq_true rfl) (Nat.le_of_ble_eq_true rfl) dX8_get_23
set_option maxRecDepth 100000 in
set_option maxHeartbeats 4000000 in
theorem k_X8_get_34 (l : Launch) (D : va_G) (y : Nat → ClassId) (aS : Nat → Nat) (sz : Nat) (h0 : Nat) (h1 : Nat) (wp19151 : Int32) : Met l yX8_get (Cond.code yX8_get cX8_get 2 (some .long) :: wsL_law) ({ frames := 0, cells := 0, slots := 0, locals := 0 } : Room) (va_Pc [.ref h0, .int 2] (gI D y aS [(h0, .inr (8, [.ref h1, .int wp19151])), (h1, .inl (y 1, 3, .inr (.inl (vp_updL (fun _ => 0) ((1 : Int32).toNatClampNeg) 5))))] sz)) (va_Ql (fun (r : Int64) (u : Unit) => 0 = r) (fun u => gO D (va_A [(h0, .inr (8, [.ref h1, .int wp19151])), (h1, .inl (y 1, 3, .inr (.inl (vp_updL (fun _ => 0) ((1 : Int32).toNatClampNeg) 5))))] sz) [(h0, .inr (8, [.ref h1, .int wp19151])), (h1, .inl (y 1, 3, .inr (.inl (vp_updL (fun _ => 0) ((1 : Int32).toNatClampNeg) 5))))]) (va_A [(h0, .inr (8, [.ref h1, .int wp19151])), (h1, .inl (y 1, 3, .inr (.inl (vp_updL (fun _ => 0) ((1 : Int32).toNatClampNeg) 5))))] sz)) 0 0 (va_A [(h0, .inr (8, [.ref h1, .int wp19151])), (h1, .inl (y 1, 3, .inr (.inl (vp_updL (fun _ => 0) ((1 : Int32).toNatClampNeg) 5))))] sz) := by
  refine g_of (by decide) (Nat.le_of_ble_eq_true rfl) ?_
  intro p e s m below meth c ls A hx hb hr hml hown hg hlocks hin hsz hK hP hD hS hA hAe hl
  rw [← hAe]
  replace hown : s.vm.findClass RX8 = some m.cls := hown
  replace hl : lv_has ls 2 [(0, .ref h0), (1, .int 2)] := hl
  refine lv_iload_n hx hb dX8_get_0 rfl (lv_at hl 1 rfl) ?_
  refine lv_if_lt (tgt := 22) hx hb dX8_get_1 (by decide) (fun c9 => absurd c9 (by decide +kernel)) (fun _ => ?_)
  refine lv_iload_n hx hb dX8_get_4 rfl (lv_at hl 1 rfl) ?_
  refine lv_aload_n hx hb dX8_get_5 rfl (lv_at hl 0 rfl) ?_
  refine gm_get (D := D) (ci := 8) (v := .ref h1) (C := RX8) (T := TX8) (N := 2) hx hb hg inlX8 hown hK.1 hP 0 rfl rfl 0 (by decide) tX8_0 (hg _ gw_98) rfl dX8_get_6 ?_
  refine va_alen hx hb hK.1 hP 1 1 rfl rfl (v := 3) rfl dX8_get_9 ?_
  refine lv_icmp_ge (tgt := 22) hx hb dX8_get_10 (by decide) (fun c9 => absurd c9 (by decide +kernel)) (fun _ => ?_)
  refine lv_aload_n hx hb dX8_get_13 rfl (lv_at hl 0 rfl) ?_
  refine gm_get (D := D) (ci := 8) (v := .ref h1) (C := RX8) (T := TX8) (N := 2) hx hb hg inlX8 hown hK.1 hP 0 rfl rfl 0 (by decide) tX8_0 (hg _ gw_98) rfl dX8_get_14 ?_
  refine lv_iload_n hx hb dX8_get_17 rfl (lv_at hl 1 rfl) ?_
  refine va_lald hx hb hK.1 hP 1 1 rfl rfl (by unfold vp_in; decide +kernel) dX8_get_18 ?_
  refine g_fj (v := 0) (by rfl) ?_
  refine lv_goto (tgt := 23) hx hb dX8_get_19 (by decide) ?_
  exact g_lret hx hb hr hlocks () hP hD hS rfl (Nat.le_of_ble_eq_true rfl) (Nat.le_of_ble_eq_true rfl) dX8_get_23
set_option maxRecDepth 100000 in
set_option maxHeartbeats 4000000 in
theorem k_X5_tellSecret_10 (l : Launch) (D : va_G) (y : Nat → ClassId) (aS : Nat → Nat) (sz : Nat) (h0 : Nat) (p1 : Int32) (h2 : Nat) (h3 : Nat) (h4 : Nat) (h5 : Nat) (wp19153 : Int32) (h7 : Nat) (wp19154 : Int32) (wf19155 : Nat → Int64) (h10 : Nat) (wp19156 : Int32) (h12 : Nat) : Met l yX5_tellSecret (Cond.code yX5_tellSecret cX5_tellSecret 7 (some .int) :: wsL_law) ({ frames := 1, cells := 0, slots := 0, locals := 23 } : Room) (va_Pc [.ref h0, .int 1, .int p1, .int 5] (gI D y aS [(h0, .inr (5, [.ref h2, .ref h3, .ref h4, .ref h5, .int wp19153])), (h4, .inr (8, [.ref h7, .int wp19154])), (h7, .inl (y 1, 18, .inr (.inl wf19155))), (h5, .inr (8, [.ref h10, .int wp19156])), (h10, .inl (y 1, 3, .inr (.inl (fun _ => 0)))), (h2, .inr (8, [.ref h12, .int 0]))] sz)) (va_Qi (fun (r : Int32) (u : Unit) => 1 = r) (fun u => gO D (va_A [(h0, .inr (5, [.ref h2, .ref h3, .ref h4, .ref h5, .int wp19153])), (h4, .inr (8, [.ref h7, .int wp19154])), (h7, .inl (y 1, 18, .inr (.inl wf19155))), (h5, .inr (8, [.ref h10, .int wp19156])), (h10, .inl (y 1, 3, .inr (.inl (fun _ => 0)))), (h2, .inr (8, [.ref h12, .int 0]))] sz) [(h0, .inr (5, [.ref h2, .ref h3, .ref h4, .ref h5, .int 0])), (h4, .inr (8, [.ref h7, .int wp19154])), (h7, .inl (y 1, 18, .inr (.inl (vp_updL (vp_updL (vp_updL (vp_updL (vp_updL wf19155 ((10 : Int32).toNatClampNeg) ((p1 - p1 / 10 * 10).toInt64)) ((9 : Int32).toNatClampNeg) (((p1 / 10) - (p1 / 10) / 10 * 10).toInt64)) ((8 : Int32).toNatClampNeg) ((((p1 / 10) / 10) - ((p1 / 10) / 10) / 10 * 10).toInt64)) ((7 : Int32).toNatClampNeg) (((((p1 / 10) / 10) / 10) - (((p1 / 10) / 10) / 10) / 10 * 10).toInt64)) ((6 : Int32).toNatClampNeg) ((((((p1 / 10) / 10) / 10) / 10) - ((((p1 / 10) / 10) / 10) / 10) / 10 * 10).toInt64))))), (h5, .inr (8, [.ref h10, .int wp19156])), (h10, .inl (y 1, 3, .inr (.inl (vp_updL (fun _ => 0) ((1 : Int32).toNatClampNeg) 5)))), (h2, .inr (8, [.ref h12, .int 0]))]) (va_A [(h0, .inr (5, [.ref h2, .ref h3, .ref h4, .ref h5, .int wp19153])), (h4, .inr (8, [.ref h7, .int wp19154])), (h7, .inl (y 1, 18, .inr (.inl wf19155))), (h5, .inr (8, [.ref h10, .int wp19156])), (h10, .inl (y 1, 3, .inr (.inl (fun _ => 0)))), (h2, .inr (8, [.ref h12, .int 0]))] sz)) 0 0 (va_A [(h0, .inr (5, [.ref h2, .ref h3, .ref h4, .ref h5, .int wp19153])), (h4, .inr (8, [.ref h7, .int wp19154])), (h7, .inl (y 1, 18, .inr (.inl wf19155))), (h5, .inr (8, [.ref h10, .int wp19156])), (h10, .inl (y 1, 3, .inr (.inl (fun _ => 0)))), (h2, .inr (8, [.ref h12, .int 0]))] sz) := by
  refine g_of (by decide) (Nat.le_of_ble_eq_true rfl) ?_
  intro p e s m below meth c ls A hx hb hr hml hown hg hlocks hin hsz hK hP hD hS hA hAe hl
  rw [← hAe]
  replace hown : s.vm.findClass RX5 = some m.cls := hown
  replace hl : lv_has ls 7 [(0, .ref h0), (1, .int 1), (2, .int p1), (3, .int 5)] := hl
  refine lv_iload_n hx hb dX5_tellSecret_0 rfl (lv_at hl 2 rfl) ?_
  refine lv_istore (lv' := [(4, .int p1), (0, .ref h0), (1, .int 1), (2, .int p1), (3, .int 5)]) hx hb dX5_tellSecret_1 hl (by decide) rfl ?_
  clear hl
  clear ls
  intro ls hl
  refine lv_iload_n hx hb dX5_tellSecret_3 rfl (lv_at hl 4 rfl) ?_
  refine lv_iconst (v := 1) hx hb dX5_tellSecret_4 (by decide) ?_
  refine lv_isub hx hb dX5_tellSecret_5 ?_
  refine g_fi (v := 4) (by decide +kernel) ?_
  refine lv_istore (lv' := [(5, .int 4), (4, .int p1), (0, .ref h0), (1, .int 1), (2, .int p1), (3, .int 5)]) hx hb dX5_tellSecret_6 hl (by decide) rfl ?_
  clear hl
  clear ls
  intro ls hl
  refine lv_iload hx hb dX5_tellSecret_8 (lv_at hl 0 rfl) ?_
  refine lv_if_lt (tgt := 46) hx hb dX5_tellSecret_10 (by decide) (fun c9 => absurd c9 (by decide +kernel)) (fun _ => ?_)
  refine lv_aload_n hx hb dX5_tellSecret_13 rfl (lv_at hl 2 rfl) ?_
  refine gm_get (D := D) (ci := 5) (v := .ref h4) (C := RX5) (T := TX5) (N := 5) hx hb hg inlX5 hown hK.1 hP 0 rfl rfl 2 (by decide) tX5_2 (hg _ gw_140) rfl dX5_tellSecret_14 ?_
  refine lv_iload_n hx hb dX5_tellSecret_17 rfl (lv_at hl 3 rfl) ?_
  refine lv_bipush (v := 6) hx hb dX5_tellSecret_18 (by decide +kernel) ?_
  refine lv_imul hx hb dX5_tellSecret_20 ?_
  refine g_fi (v := 6) (by decide +kernel) ?_
  refine lv_iload hx hb dX5_tellSecret_21 (lv_at hl 0 rfl) ?_
  refine lv_iadd hx hb dX5_tellSecret_23 ?_
  refine g_fi (v := 10) (by decide +kernel) ?_
  refine lv_iload hx hb dX5_tellSecret_24 (lv_at hl 1 rfl) ?_
  refine lv_bipush (v := 10) hx hb dX5_tellSecret_26 (by decide +kernel) ?_
  refine lv_irem hx hb dX5_tellSecret_28 (by decide +kernel) ?_
  refine lv_i2l (v := ((p1 - p1 / 10 * 10).toInt64)) hx hb dX5_tellSecret_29 rfl ?_
  refine g_av (wr := [(h0, .inr (5, [.ref h2, .ref h3, .ref h4, .ref h5, .int wp19153])), (h5, .inr (8, [.ref h10, .int wp19156])), (h10, .inl (y 1, 3, .inr (.inl (fun _ => 0)))), (h2, .inr (8, [.ref h12, .int 0]))]) (va_runV (As := [.int 10, .long ((p1 - p1 / 10 * 10).toInt64)]) (rest := []) ⟨hx, hb, hml, hown, hg⟩ (k_X8_set_40 l D y aS s.heap.size h4 ((p1 - p1 / 10 * 10).toInt64) h7 wp19154 wf19155) (cwV 2 hg ggV_RX5_29_X8_set rfl rfl rfl (by decide +kernel) ⟨Nat.le_of_ble_eq_true rfl, Nat.le_of_ble_eq_true rfl⟩) (g_preV (q := (RX8, TX8, 2)) hK hP hD [1, 2] rfl (by decide) (ci := 8) (q0 := 1) rfl rfl) rfl rfl hl.1 rfl (lv_room (Nat.le_of_ble_eq_true rfl)) dX5_tellSecret_30 ⟨Nat.le_of_ble_eq_true rfl, Nat.le_of_ble_eq_true rfl⟩) hP hD hS hA [1, 2] [0, 3, 4, 5] rfl rfl (by decide) (by decide) ?_
  clear hP hD hS
  refine fun u H locs hq hP hD hS => ?_
  replace hP : va_P D vwCl [(h0, .inr (5, [.ref h2, .ref h3, .ref h4, .ref h5, .int wp19153])), (h5, .inr (8, [.ref h10, .int wp19156])), (h10, .inl (y 1, 3, .inr (.inl (fun _ => 0)))), (h2, .inr (8, [.ref h12, .int 0])), (h4, .inr (8, [.ref h7, .int wp19154])), (h7, .inl (y 1, 18, .inr (.inl (vp_updL wf19155 ((10 : Int32).toNatClampNeg) ((p1 - p1 / 10 * 10).toInt64)))))] H := hP
  replace hD : va_D A [(h0, .inr (5, [.ref h2, .ref h3, .ref h4, .ref h5, .int wp19153])), (h5, .inr (8, [.ref h10, .int wp19156])), (h10, .inl (y 1, 3, .inr (.inl (fun _ => 0)))), (h2, .inr (8, [.ref h12, .int 0])), (h4, .inr (8, [.ref h7, .int wp19154])), (h7, .inl (y 1, 18, .inr (.inl (vp_updL wf19155 ((10 : Int32).toNatClampNeg) ((p1 - p1 / 10 * 10).toInt64)))))] := hD
  refine lv_iload hx hb dX5_tellSecret_33 (lv_at hl 1 rfl) ?_
  refine lv_bipush (v := 10) hx hb dX5_tellSecret_35 (by decide +kernel) ?_
  refine lv_idiv hx hb dX5_tellSecret_37 (by decide +kernel) ?_
  refine lv_istore (lv' := [(4, .int (p1 / 10)), (5, .int 4), (0, .ref h0), (1, .int 1), (2, .int p1), (3, .int 5)]) hx hb dX5_tellSecret_38 hl (by decide) rfl ?_
  clear hl
  clear ls
  intro ls hl
  refine lv_iinc (v := 3) (lv' := [(5, .int 3), (4, .int (p1 / 10)), (0, .ref h0), (1, .int 1), (2, .int p1), (3, .int 5)]) hx hb dX5_tellSecret_40 hl (k := 1) rfl (by decide +kernel) (by decide) rfl ?_
  clear hl
  clear ls
  intro ls hl
  refine lv_goto (tgt := 8) hx hb dX5_tellSecret_43 (by decide) ?_
  refine lv_iload hx hb dX5_tellSecret_8 (lv_at hl 0 rfl) ?_
  refine lv_if_lt (tgt := 46) hx hb dX5_tellSecret_10 (by decide) (fun c9 => absurd c9 (by decide +kernel)) (fun _ => ?_)
  refine lv_aload_n hx hb dX5_tellSecret_13 rfl (lv_at hl 2 rfl) ?_
  refine gm_get (D := D) (ci := 5) (v := .ref h4) (C := RX5) (T := TX5) (N := 5) hx hb hg inlX5 hown hK.1 hP 0 rfl rfl 2 (by decide) tX5_2 (hg _ gw_140) rfl dX5_tellSecret_14 ?_
  refine lv_iload_n hx hb dX5_tellSecret_17 rfl (lv_at hl 3 rfl) ?_
  refine lv_bipush (v := 6) hx hb dX5_tellSecret_18 (by decide +kernel) ?_
  refine lv_imul hx hb dX5_tellSecret_20 ?_
  refine g_fi (v := 6) (by decide +kernel) ?_
  refine lv_iload hx hb dX5_tellSecret_21 (lv_at hl 0 rfl) ?_
  refine lv_iadd hx hb dX5_tellSecret_23 ?_
  refine g_fi (v := 9) (by decide +kernel) ?_
  refine lv_iload hx hb dX5_tellSecret_24 (lv_at hl 1 rfl) ?_
  refine lv_bipush (v := 10) hx hb dX5_tellSecret_26 (by decide +kernel) ?_
  refine lv_irem hx hb dX5_tellSecret_28 (by decide +kernel) ?_
  refine lv_i2l (v := (((p1 / 10) - (p1 / 10) / 10 * 10).toInt64)) hx hb dX5_tellSecret_29 rfl ?_
  refine g_av (wr := [(h0, .inr (5, [.ref h2, .ref h3, .ref h4, .ref h5, .int wp19153])), (h5, .inr (8, [.ref h10, .int wp19156])), (h10, .inl (y 1, 3, .inr (.inl (fun _ => 0)))), (h2, .inr (8, [.ref h12, .int 0]))]) (va_runV (As := [.int 9, .long (((p1 / 10) - (p1 / 10) / 10 * 10).toInt64)]) (rest := []) ⟨hx, hb, hml, hown, hg⟩ (k_X8_set_37 l D y aS H.size h4 (((p1 / 10) - (p1 / 10) / 10 * 10).toInt64) h7 wp19154 (vp_updL wf19155 ((10 : Int32).toNatClampNeg) ((p1 - p1 / 10 * 10).toInt64))) (cwV 2 hg ggV_RX5_29_X8_set rfl rfl rfl (by decide +kernel) ⟨Nat.le_of_ble_eq_true rfl, Nat.le_of_ble_eq_true rfl⟩) (g_preV (q := (RX8, TX8, 2)) hK hP hD [4, 5] rfl (by decide) (ci := 8) (q0 := 4) rfl rfl) rfl rfl hl.1 rfl (lv_room (Nat.le_of_ble_eq_true rfl)) dX5_tellSecret_30 ⟨Nat.le_of_ble_eq_true rfl, Nat.le_of_ble_eq_true rfl⟩) hP hD hS hA [4, 5] [0, 1, 2, 3] rfl rfl (by decide) (by decide) ?_
  clear hP hD hS H locs
  refine fun u H locs hq hP hD hS => ?_
  replace hP : va_P D vwCl [(h0, .inr (5, [.ref h2, .ref h3, .ref h4, .ref h5, .int wp19153])), (h5, .inr (8, [.ref h10, .int wp19156])), (h10, .inl (y 1, 3, .inr (.inl (fun _ => 0)))), (h2, .inr (8, [.ref h12, .int 0])), (h4, .inr (8, [.ref h7, .int wp19154])), (h7, .inl (y 1, 18, .inr (.inl (vp_updL (vp_updL wf19155 ((10 : Int32).toNatClampNeg) ((p1 - p1 / 10 * 10).toInt64)) ((9 : Int32).toNatClampNeg) (((p1 / 10) - (p1 / 10) / 10 * 10).toInt64)))))] H := hP
  replace hD : va_D A [(h0, .inr (5, [.ref h2, .ref h3, .ref h4, .ref h5, .int wp19153])), (h5, .inr (8, [.ref h10, .int wp19156])), (h10, .inl (y 1, 3, .inr (.inl (fun _ => 0)))), (h2, .inr (8, [.ref h12, .int 0])), (h4, .inr (8, [.ref h7, .int wp19154])), (h7, .inl (y 1, 18, .inr (.inl (vp_updL (vp_updL wf19155 ((10 : Int32).toNatClampNeg) ((p1 - p1 / 10 * 10).toInt64)) ((9 : Int32).toNatClampNeg) (((p1 / 10) - (p1 / 10) / 10 * 10).toInt64)))))] := hD
  refine lv_iload hx hb dX5_tellSecret_33 (lv_at hl 1 rfl) ?_
  refine lv_bipush (v := 10) hx hb dX5_tellSecret_35 (by decide +kernel) ?_
  refine lv_idiv hx hb dX5_tellSecret_37 (by decide +kernel) ?_
  refine lv_istore (lv' := [(4, .int ((p1 / 10) / 10)), (5, .int 3), (0, .ref h0), (1, .int 1), (2, .int p1), (3, .int 5)]) hx hb dX5_tellSecret_38 hl (by decide) rfl ?_
  clear hl
  clear ls
  intro ls hl
  refine lv_iinc (v := 2) (lv' := [(5, .int 2), (4, .int ((p1 / 10) / 10)), (0, .ref h0), (1, .int 1), (2, .int p1), (3, .int 5)]) hx hb dX5_tellSecret_40 hl (k := 1) rfl (by decide +kernel) (by decide) rfl ?_
  clear hl
  clear ls
  intro ls hl
  refine lv_goto (tgt := 8) hx hb dX5_tellSecret_43 (by decide) ?_
  refine lv_iload hx hb dX5_tellSecret_8 (lv_at hl 0 rfl) ?_
  refine lv_if_lt (tgt := 46) hx hb dX5_tellSecret_10 (by decide) (fun c9 => absurd c9 (by decide +kernel)) (fun _ => ?_)
  refine lv_aload_n hx hb dX5_tellSecret_13 rfl (lv_at hl 2 rfl) ?_
  refine gm_get (D := D) (ci := 5) (v := .ref h4) (C := RX5) (T := TX5) (N := 5) hx hb hg inlX5 hown hK.1 hP 0 rfl rfl 2 (by decide) tX5_2 (hg _ gw_140) rfl dX5_tellSecret_14 ?_
  refine lv_iload_n hx hb dX5_tellSecret_17 rfl (lv_at hl 3 rfl) ?_
  refine lv_bipush (v := 6) hx hb dX5_tellSecret_18 (by decide +kernel) ?_
  refine lv_imul hx hb dX5_tellSecret_20 ?_
  refine g_fi (v := 6) (by decide +kernel) ?_
  refine lv_iload hx hb dX5_tellSecret_21 (lv_at hl 0 rfl) ?_
  refine lv_iadd hx hb dX5_tellSecret_23 ?_
  refine g_fi (v := 8) (by decide +kernel) ?_
  refine lv_iload hx hb dX5_tellSecret_24 (lv_at hl 1 rfl) ?_
  refine lv_bipush (v := 10) hx hb dX5_tellSecret_26 (by decide +kernel) ?_
  refine lv_irem hx hb dX5_tellSecret_28 (by decide +kernel) ?_
  refine lv_i2l (v := ((((p1 / 10) / 10) - ((p1 / 10) / 10) / 10 * 10).toInt64)) hx hb dX5_tellSecret_29 rfl ?_
  refine g_av (wr := [(h0, .inr (5, [.ref h2, .ref h3, .ref h4, .ref h5, .int wp19153])), (h5, .inr (8, [.ref h10, .int wp19156])), (h10, .inl (y 1, 3, .inr (.inl (fun _ => 0)))), (h2, .inr (8, [.ref h12, .int 0]))]) (va_runV (As := [.int 8, .long ((((p1 / 10) / 10) - ((p1 / 10) / 10) / 10 * 10).toInt64)]) (rest := []) ⟨hx, hb, hml, hown, hg⟩ (k_X8_set_34 l D y aS H.size h4 ((((p1 / 10) / 10) - ((p1 / 10) / 10) / 10 * 10).toInt64) h7 wp19154 (vp_updL (vp_updL wf19155 ((10 : Int32).toNatClampNeg) ((p1 - p1 / 10 * 10).toInt64)) ((9 : Int32).toNatClampNeg) (((p1 / 10) - (p1 / 10) / 10 * 10).toInt64))) (cwV 2 hg ggV_RX5_29_X8_set rfl rfl rfl (by decide +kernel) ⟨Nat.le_of_ble_eq_true rfl, Nat.le_of_ble_eq_true rfl⟩) (g_preV (q := (RX8, TX8, 2)) hK hP hD [4, 5] rfl (by decide) (ci := 8) (q0 := 4) rfl rfl) rfl rfl hl.1 rfl (lv_room (Nat.le_of_ble_eq_true rfl)) dX5_tellSecret_30 ⟨Nat.le_of_ble_eq_true rfl, Nat.le_of_ble_eq_true rfl⟩) hP hD hS hA [4, 5] [0, 1, 2, 3] rfl rfl (by decide) (by decide) ?_
  clear hP hD hS H locs
  refine fun u H locs hq hP hD hS => ?_
  replace hP : va_P D vwCl [(h0, .inr (5, [.ref h2, .ref h3, .ref h4, .ref h5, .int wp19153])), (h5, .inr (8, [.ref h10, .int wp19156])), (h10, .inl (y 1, 3, .inr (.inl (fun _ => 0)))), (h2, .inr (8, [.ref h12, .int 0])), (h4, .inr (8, [.ref h7, .int wp19154])), (h7, .inl (y 1, 18, .inr (.inl (vp_updL (vp_updL (vp_updL wf19155 ((10 : Int32).toNatClampNeg) ((p1 - p1 / 10 * 10).toInt64)) ((9 : Int32).toNatClampNeg) (((p1 / 10) - (p1 / 10) / 10 * 10).toInt64)) ((8 : Int32).toNatClampNeg) ((((p1 / 10) / 10) - ((p1 / 10) / 10) / 10 * 10).toInt64)))))] H := hP
  replace hD : va_D A [(h0, .inr (5, [.ref h2, .ref h3, .ref h4, .ref h5, .int wp19153])), (h5, .inr (8, [.ref h10, .int wp19156])), (h10, .inl (y 1, 3, .inr (.inl (fun _ => 0)))), (h2, .inr (8, [.ref h12, .int 0])), (h4, .inr (8, [.ref h7, .int wp19154])), (h7, .inl (y 1, 18, .inr (.inl (vp_updL (vp_updL (vp_updL wf19155 ((10 : Int32).toNatClampNeg) ((p1 - p1 / 10 * 10).toInt64)) ((9 : Int32).toNatClampNeg) (((p1 / 10) - (p1 / 10) / 10 * 10).toInt64)) ((8 : Int32).toNatClampNeg) ((((p1 / 10) / 10) - ((p1 / 10) / 10) / 10 * 10).toInt64)))))] := hD
  refine lv_iload hx hb dX5_tellSecret_33 (lv_at hl 1 rfl) ?_
  refine lv_bipush (v := 10) hx hb dX5_tellSecret_35 (by decide +kernel) ?_
  refine lv_idiv hx hb dX5_tellSecret_37 (by decide +kernel) ?_
  refine lv_istore (lv' := [(4, .int (((p1 / 10) / 10) / 10)), (5, .int 2), (0, .ref h0), (1, .int 1), (2, .int p1), (3, .int 5)]) hx hb dX5_tellSecret_38 hl (by decide) rfl ?_
  clear hl
  clear ls
  intro ls hl
  refine lv_iinc (v := 1) (lv' := [(5, .int 1), (4, .int (((p1 / 10) / 10) / 10)), (0, .ref h0), (1, .int 1), (2, .int p1), (3, .int 5)]) hx hb dX5_tellSecret_40 hl (k := 1) rfl (by decide +kernel) (by decide) rfl ?_
  clear hl
  clear ls
  intro ls hl
  refine lv_goto (tgt := 8) hx hb dX5_tellSecret_43 (by decide) ?_
  refine lv_iload hx hb dX5_tellSecret_8 (lv_at hl 0 rfl) ?_
  refine lv_if_lt (tgt := 46) hx hb dX5_tellSecret_10 (by decide) (fun c9 => absurd c9 (by decide +kernel)) (fun _ => ?_)
  refine lv_aload_n hx hb dX5_tellSecret_13 rfl (lv_at hl 2 rfl) ?_
  refine gm_get (D := D) (ci := 5) (v := .ref h4) (C := RX5) (T := TX5) (N := 5) hx hb hg inlX5 hown hK.1 hP 0 rfl rfl 2 (by decide) tX5_2 (hg _ gw_140) rfl dX5_tellSecret_14 ?_
  refine lv_iload_n hx hb dX5_tellSecret_17 rfl (lv_at hl 3 rfl) ?_
  refine lv_bipush (v := 6) hx hb dX5_tellSecret_18 (by decide +kernel) ?_
  refine lv_imul hx hb dX5_tellSecret_20 ?_
  refine g_fi (v := 6) (by decide +kernel) ?_
  refine lv_iload hx hb dX5_tellSecret_21 (lv_at hl 0 rfl) ?_
  refine lv_iadd hx hb dX5_tellSecret_23 ?_
  refine g_fi (v := 7) (by decide +kernel) ?_
  refine lv_iload hx hb dX5_tellSecret_24 (lv_at hl 1 rfl) ?_
  refine lv_bipush (v := 10) hx hb dX5_tellSecret_26 (by decide +kernel) ?_
  refine lv_irem hx hb dX5_tellSecret_28 (by decide +kernel) ?_
  refine lv_i2l (v := (((((p1 / 10) / 10) / 10) - (((p1 / 10) / 10) / 10) / 10 * 10).toInt64)) hx hb dX5_tellSecret_29 rfl ?_
  refine g_av (wr := [(h0, .inr (5, [.ref h2, .ref h3, .ref h4, .ref h5, .int wp19153])), (h5, .inr (8, [.ref h10, .int wp19156])), (h10, .inl (y 1, 3, .inr (.inl (fun _ => 0)))), (h2, .inr (8, [.ref h12, .int 0]))]) (va_runV (As := [.int 7, .long (((((p1 / 10) / 10) / 10) - (((p1 / 10) / 10) / 10) / 10 * 10).toInt64)]) (rest := []) ⟨hx, hb, hml, hown, hg⟩ (k_X8_set_29 l D y aS H.size h4 (((((p1 / 10) / 10) / 10) - (((p1 / 10) / 10) / 10) / 10 * 10).toInt64) h7 wp19154 (vp_updL (vp_updL (vp_updL wf19155 ((10 : Int32).toNatClampNeg) ((p1 - p1 / 10 * 10).toInt64)) ((9 : Int32).toNatClampNeg) (((p1 / 10) - (p1 / 10) / 10 * 10).toInt64)) ((8 : Int32).toNatClampNeg) ((((p1 / 10) / 10) - ((p1 / 10) / 10) / 10 * 10).toInt64))) (cwV 2 hg ggV_RX5_29_X8_set rfl rfl rfl (by decide +kernel) ⟨Nat.le_of_ble_eq_true rfl, Nat.le_of_ble_eq_true rfl⟩) (g_preV (q := (RX8, TX8, 2)) hK hP hD [4, 5] rfl (by decide) (ci := 8) (q0 := 4) rfl rfl) rfl rfl hl.1 rfl (lv_room (Nat.le_of_ble_eq_true rfl)) dX5_tellSecret_30 ⟨Nat.le_of_ble_eq_true rfl, Nat.le_of_ble_eq_true rfl⟩) hP hD hS hA [4, 5] [0, 1, 2, 3] rfl rfl (by decide) (by decide) ?_
  clear hP hD hS H locs
  refine fun u H locs hq hP hD hS => ?_
  replace hP : va_P D vwCl [(h0, .inr (5, [.ref h2, .ref h3, .ref h4, .ref h5, .int wp19153])), (h5, .inr (8, [.ref h10, .int wp19156])), (h10, .inl (y 1, 3, .inr (.inl (fun _ => 0)))), (h2, .inr (8, [.ref h12, .int 0])), (h4, .inr (8, [.ref h7, .int wp19154])), (h7, .inl (y 1, 18, .inr (.inl (vp_updL (vp_updL (vp_updL (vp_updL wf19155 ((10 : Int32).toNatClampNeg) ((p1 - p1 / 10 * 10).toInt64)) ((9 : Int32).toNatClampNeg) (((p1 / 10) - (p1 / 10) / 10 * 10).toInt64)) ((8 : Int32).toNatClampNeg) ((((p1 / 10) / 10) - ((p1 / 10) / 10) / 10 * 10).toInt64)) ((7 : Int32).toNatClampNeg) (((((p1 / 10) / 10) / 10) - (((p1 / 10) / 10) / 10) / 10 * 10).toInt64)))))] H := hP
  replace hD : va_D A [(h0, .inr (5, [.ref h2, .ref h3, .ref h4, .ref h5, .int wp19153])), (h5, .inr (8, [.ref h10, .int wp19156])), (h10, .inl (y 1, 3, .inr (.inl (fun _ => 0)))), (h2, .inr (8, [.ref h12, .int 0])), (h4, .inr (8, [.ref h7, .int wp19154])), (h7, .inl (y 1, 18, .inr (.inl (vp_updL (vp_updL (vp_updL (vp_updL wf19155 ((10 : Int32).toNatClampNeg) ((p1 - p1 / 10 * 10).toInt64)) ((9 : Int32).toNatClampNeg) (((p1 / 10) - (p1 / 10) / 10 * 10).toInt64)) ((8 : Int32).toNatClampNeg) ((((p1 / 10) / 10) - ((p1 / 10) / 10) / 10 * 10).toInt64)) ((7 : Int32).toNatClampNeg) (((((p1 / 10) / 10) / 10) - (((p1 / 10) / 10) / 10) / 10 * 10).toInt64)))))] := hD
  refine lv_iload hx hb dX5_tellSecret_33 (lv_at hl 1 rfl) ?_
  refine lv_bipush (v := 10) hx hb dX5_tellSecret_35 (by decide +kernel) ?_
  refine lv_idiv hx hb dX5_tellSecret_37 (by decide +kernel) ?_
  refine lv_istore (lv' := [(4, .int ((((p1 / 10) / 10) / 10) / 10)), (5, .int 1), (0, .ref h0), (1, .int 1), (2, .int p1), (3, .int 5)]) hx hb dX5_tellSecret_38 hl (by decide) rfl ?_
  clear hl
  clear ls
  intro ls hl
  refine lv_iinc (v := 0) (lv' := [(5, .int 0), (4, .int ((((p1 / 10) / 10) / 10) / 10)), (0, .ref h0), (1, .int 1), (2, .int p1), (3, .int 5)]) hx hb dX5_tellSecret_40 hl (k := 1) rfl (by decide +kernel) (by decide) rfl ?_
  clear hl
  clear ls
  intro ls hl
  refine lv_goto (tgt := 8) hx hb dX5_tellSecret_43 (by decide) ?_
  refine lv_iload hx hb dX5_tellSecret_8 (lv_at hl 0 rfl) ?_
  refine lv_if_lt (tgt := 46) hx hb dX5_tellSecret_10 (by decide) (fun c9 => absurd c9 (by decide +kernel)) (fun _ => ?_)
  refine lv_aload_n hx hb dX5_tellSecret_13 rfl (lv_at hl 2 rfl) ?_
  refine gm_get (D := D) (ci := 5) (v := .ref h4) (C := RX5) (T := TX5) (N := 5) hx hb hg inlX5 hown hK.1 hP 0 rfl rfl 2 (by decide) tX5_2 (hg _ gw_140) rfl dX5_tellSecret_14 ?_
  refine lv_iload_n hx hb dX5_tellSecret_17 rfl (lv_at hl 3 rfl) ?_
  refine lv_bipush (v := 6) hx hb dX5_tellSecret_18 (by decide +kernel) ?_
  refine lv_imul hx hb dX5_tellSecret_20 ?_
  refine g_fi (v := 6) (by decide +kernel) ?_
  refine lv_iload hx hb dX5_tellSecret_21 (lv_at hl 0 rfl) ?_
  refine lv_iadd hx hb dX5_tellSecret_23 ?_
  refine g_fi (v := 6) (by decide +kernel) ?_
  refine lv_iload hx hb dX5_tellSecret_24 (lv_at hl 1 rfl) ?_
  refine lv_bipush (v := 10) hx hb dX5_tellSecret_26 (by decide +kernel) ?_
  refine lv_irem hx hb dX5_tellSecret_28 (by decide +kernel) ?_
  refine lv_i2l (v := ((((((p1 / 10) / 10) / 10) / 10) - ((((p1 / 10) / 10) / 10) / 10) / 10 * 10).toInt64)) hx hb dX5_tellSecret_29 rfl ?_
  refine g_av (wr := [(h0, .inr (5, [.ref h2, .ref h3, .ref h4, .ref h5, .int wp19153])), (h5, .inr (8, [.ref h10, .int wp19156])), (h10, .inl (y 1, 3, .inr (.inl (fun _ => 0)))), (h2, .inr (8, [.ref h12, .int 0]))]) (va_runV (As := [.int 6, .long ((((((p1 / 10) / 10) / 10) / 10) - ((((p1 / 10) / 10) / 10) / 10) / 10 * 10).toInt64)]) (rest := []) ⟨hx, hb, hml, hown, hg⟩ (k_X8_set_30 l D y aS H.size h4 ((((((p1 / 10) / 10) / 10) / 10) - ((((p1 / 10) / 10) / 10) / 10) / 10 * 10).toInt64) h7 wp19154 (vp_updL (vp_updL (vp_updL (vp_updL wf19155 ((10 : Int32).toNatClampNeg) ((p1 - p1 / 10 * 10).toInt64)) ((9 : Int32).toNatClampNeg) (((p1 / 10) - (p1 / 10) / 10 * 10).toInt64)) ((8 : Int32).toNatClampNeg) ((((p1 / 10) / 10) - ((p1 / 10) / 10) / 10 * 10).toInt64)) ((7 : Int32).toNatClampNeg) (((((p1 / 10) / 10) / 10) - (((p1 / 10) / 10) / 10) / 10 * 10).toInt64))) (cwV 2 hg ggV_RX5_29_X8_set rfl rfl rfl (by decide +kernel) ⟨Nat.le_of_ble_eq_true rfl, Nat.le_of_ble_eq_true rfl⟩) (g_preV (q := (RX8, TX8, 2)) hK hP hD [4, 5] rfl (by decide) (ci := 8) (q0 := 4) rfl rfl) rfl rfl hl.1 rfl (lv_room (Nat.le_of_ble_eq_true rfl)) dX5_tellSecret_30 ⟨Nat.le_of_ble_eq_true rfl, Nat.le_of_ble_eq_true rfl⟩) hP hD hS hA [4, 5] [0, 1, 2, 3] rfl rfl (by decide) (by decide) ?_
  clear hP hD hS H locs
  refine fun u H locs hq hP hD hS => ?_
  replace hP : va_P D vwCl [(h0, .inr (5, [.ref h2, .ref h3, .ref h4, .ref h5, .int wp19153])), (h5, .inr (8, [.ref h10, .int wp19156])), (h10, .inl (y 1, 3, .inr (.inl (fun _ => 0)))), (h2, .inr (8, [.ref h12, .int 0])), (h4, .inr (8, [.ref h7, .int wp19154])), (h7, .inl (y 1, 18, .inr (.inl (vp_updL (vp_updL (vp_updL (vp_updL (vp_updL wf19155 ((10 : Int32).toNatClampNeg) ((p1 - p1 / 10 * 10).toInt64)) ((9 : Int32).toNatClampNeg) (((p1 / 10) - (p1 / 10) / 10 * 10).toInt64)) ((8 : Int32).toNatClampNeg) ((((p1 / 10) / 10) - ((p1 / 10) / 10) / 10 * 10).toInt64)) ((7 : Int32).toNatClampNeg) (((((p1 / 10) / 10) / 10) - (((p1 / 10) / 10) / 10) / 10 * 10).toInt64)) ((6 : Int32).toNatClampNeg) ((((((p1 / 10) / 10) / 10) / 10) - ((((p1 / 10) / 10) / 10) / 10) / 10 * 10).toInt64)))))] H := hP
  replace hD : va_D A [(h0, .inr (5, [.ref h2, .ref h3, .ref h4, .ref h5, .int wp19153])), (h5, .inr (8, [.ref h10, .int wp19156])), (h10, .inl (y 1, 3, .inr (.inl (fun _ => 0)))), (h2, .inr (8, [.ref h12, .int 0])), (h4, .inr (8, [.ref h7, .int wp19154])), (h7, .inl (y 1, 18, .inr (.inl (vp_updL (vp_updL (vp_updL (vp_updL (vp_updL wf19155 ((10 : Int32).toNatClampNeg) ((p1 - p1 / 10 * 10).toInt64)) ((9 : Int32).toNatClampNeg) (((p1 / 10) - (p1 / 10) / 10 * 10).toInt64)) ((8 : Int32).toNatClampNeg) ((((p1 / 10) / 10) - ((p1 / 10) / 10) / 10 * 10).toInt64)) ((7 : Int32).toNatClampNeg) (((((p1 / 10) / 10) / 10) - (((p1 / 10) / 10) / 10) / 10 * 10).toInt64)) ((6 : Int32).toNatClampNeg) ((((((p1 / 10) / 10) / 10) / 10) - ((((p1 / 10) / 10) / 10) / 10) / 10 * 10).toInt64)))))] := hD
  refine lv_iload hx hb dX5_tellSecret_33 (lv_at hl 1 rfl) ?_
  refine lv_bipush (v := 10) hx hb dX5_tellSecret_35 (by decide +kernel) ?_
  refine lv_idiv hx hb dX5_tellSecret_37 (by decide +kernel) ?_
  refine lv_istore (lv' := [(4, .int (((((p1 / 10) / 10) / 10) / 10) / 10)), (5, .int 0), (0, .ref h0), (1, .int 1), (2, .int p1), (3, .int 5)]) hx hb dX5_tellSecret_38 hl (by decide) rfl ?_
  clear hl
  clear ls
  intro ls hl
  refine lv_iinc (v := (-1)) (lv' := [(5, .int (-1)), (4, .int (((((p1 / 10) / 10) / 10) / 10) / 10)), (0, .ref h0), (1, .int 1), (2, .int p1), (3, .int 5)]) hx hb dX5_tellSecret_40 hl (k := 1) rfl (by decide +kernel) (by decide) rfl ?_
  clear hl
  clear ls
  intro ls hl
  refine lv_goto (tgt := 8) hx hb dX5_tellSecret_43 (by decide) ?_
  refine lv_iload hx hb dX5_tellSecret_8 (lv_at hl 0 rfl) ?_
  refine lv_if_lt (tgt := 46) hx hb dX5_tellSecret_10 (by decide) (fun _ => ?_) (fun c9 => absurd c9 (by decide +kernel))
  refine lv_aload_n hx hb dX5_tellSecret_46 rfl (lv_at hl 2 rfl) ?_
  refine gm_get (D := D) (ci := 5) (v := .ref h5) (C := RX5) (T := TX5) (N := 5) hx hb hg inlX5 hown hK.1 hP 0 rfl rfl 3 (by decide) tX5_3 (hg _ gw_141) rfl dX5_tellSecret_47 ?_
  refine lv_iload_n hx hb dX5_tellSecret_50 rfl (lv_at hl 3 rfl) ?_
  refine lv_iload_n hx hb dX5_tellSecret_51 rfl (lv_at hl 5 rfl) ?_
  refine lv_i2l (v := 5) hx hb dX5_tellSecret_52 (by decide +kernel) ?_
  refine g_av (wr := [(h0, .inr (5, [.ref h2, .ref h3, .ref h4, .ref h5, .int wp19153])), (h2, .inr (8, [.ref h12, .int 0])), (h4, .inr (8, [.ref h7, .int wp19154])), (h7, .inl (y 1, 18, .inr (.inl (vp_updL (vp_updL (vp_updL (vp_updL (vp_updL wf19155 ((10 : Int32).toNatClampNeg) ((p1 - p1 / 10 * 10).toInt64)) ((9 : Int32).toNatClampNeg) (((p1 / 10) - (p1 / 10) / 10 * 10).toInt64)) ((8 : Int32).toNatClampNeg) ((((p1 / 10) / 10) - ((p1 / 10) / 10) / 10 * 10).toInt64)) ((7 : Int32).toNatClampNeg) (((((p1 / 10) / 10) / 10) - (((p1 / 10) / 10) / 10) / 10 * 10).toInt64)) ((6 : Int32).toNatClampNeg) ((((((p1 / 10) / 10) / 10) / 10) - ((((p1 / 10) / 10) / 10) / 10) / 10 * 10).toInt64)))))]) (va_runV (As := [.int 1, .long 5]) (rest := []) ⟨hx, hb, hml, hown, hg⟩ (k_X8_set_25 l D y aS H.size h5 5 h10 wp19156 (fun _ => 0)) (cwV 2 hg ggV_RX5_29_X8_set rfl rfl rfl (by decide +kernel) ⟨Nat.le_of_ble_eq_true rfl, Nat.le_of_ble_eq_true rfl⟩) (g_preV (q := (RX8, TX8, 2)) hK hP hD [1, 2] rfl (by decide) (ci := 8) (q0 := 1) rfl rfl) rfl rfl hl.1 rfl (lv_room (Nat.le_of_ble_eq_true rfl)) dX5_tellSecret_53 ⟨Nat.le_of_ble_eq_true rfl, Nat.le_of_ble_eq_true rfl⟩) hP hD hS hA [1, 2] [0, 3, 4, 5] rfl rfl (by decide) (by decide) ?_
  clear hP hD hS H locs
  refine fun u H locs hq hP hD hS => ?_
  replace hP : va_P D vwCl [(h0, .inr (5, [.ref h2, .ref h3, .ref h4, .ref h5, .int wp19153])), (h2, .inr (8, [.ref h12, .int 0])), (h4, .inr (8, [.ref h7, .int wp19154])), (h7, .inl (y 1, 18, .inr (.inl (vp_updL (vp_updL (vp_updL (vp_updL (vp_updL wf19155 ((10 : Int32).toNatClampNeg) ((p1 - p1 / 10 * 10).toInt64)) ((9 : Int32).toNatClampNeg) (((p1 / 10) - (p1 / 10) / 10 * 10).toInt64)) ((8 : Int32).toNatClampNeg) ((((p1 / 10) / 10) - ((p1 / 10) / 10) / 10 * 10).toInt64)) ((7 : Int32).toNatClampNeg) (((((p1 / 10) / 10) / 10) - (((p1 / 10) / 10) / 10) / 10 * 10).toInt64)) ((6 : Int32).toNatClampNeg) ((((((p1 / 10) / 10) / 10) / 10) - ((((p1 / 10) / 10) / 10) / 10) / 10 * 10).toInt64))))), (h5, .inr (8, [.ref h10, .int wp19156])), (h10, .inl (y 1, 3, .inr (.inl (vp_updL (fun _ => 0) ((1 : Int32).toNatClampNeg) 5))))] H := hP
  replace hD : va_D A [(h0, .inr (5, [.ref h2, .ref h3, .ref h4, .ref h5, .int wp19153])), (h2, .inr (8, [.ref h12, .int 0])), (h4, .inr (8, [.ref h7, .int wp19154])), (h7, .inl (y 1, 18, .inr (.inl (vp_updL (vp_updL (vp_updL (vp_updL (vp_updL wf19155 ((10 : Int32).toNatClampNeg) ((p1 - p1 / 10 * 10).toInt64)) ((9 : Int32).toNatClampNeg) (((p1 / 10) - (p1 / 10) / 10 * 10).toInt64)) ((8 : Int32).toNatClampNeg) ((((p1 / 10) / 10) - ((p1 / 10) / 10) / 10 * 10).toInt64)) ((7 : Int32).toNatClampNeg) (((((p1 / 10) / 10) / 10) - (((p1 / 10) / 10) / 10) / 10 * 10).toInt64)) ((6 : Int32).toNatClampNeg) ((((((p1 / 10) / 10) / 10) / 10) - ((((p1 / 10) / 10) / 10) / 10) / 10 * 10).toInt64))))), (h5, .inr (8, [.ref h10, .int wp19156])), (h10, .inl (y 1, 3, .inr (.inl (vp_updL (fun _ => 0) ((1 : Int32).toNatClampNeg) 5))))] := hD
  refine lv_aload_n hx hb dX5_tellSecret_56 rfl (lv_at hl 2 rfl) ?_
  refine g_av (wr := [(h4, .inr (8, [.ref h7, .int wp19154])), (h7, .inl (y 1, 18, .inr (.inl (vp_updL (vp_updL (vp_updL (vp_updL (vp_updL wf19155 ((10 : Int32).toNatClampNeg) ((p1 - p1 / 10 * 10).toInt64)) ((9 : Int32).toNatClampNeg) (((p1 / 10) - (p1 / 10) / 10 * 10).toInt64)) ((8 : Int32).toNatClampNeg) ((((p1 / 10) / 10) - ((p1 / 10) / 10) / 10 * 10).toInt64)) ((7 : Int32).toNatClampNeg) (((((p1 / 10) / 10) / 10) - (((p1 / 10) / 10) / 10) / 10 * 10).toInt64)) ((6 : Int32).toNatClampNeg) ((((((p1 / 10) / 10) / 10) / 10) - ((((p1 / 10) / 10) / 10) / 10) / 10 * 10).toInt64))))), (h5, .inr (8, [.ref h10, .int wp19156])), (h10, .inl (y 1, 3, .inr (.inl (vp_updL (fun _ => 0) ((1 : Int32).toNatClampNeg) 5))))]) (va_runV (As := []) (rest := []) ⟨hx, hb, hml, hown, hg⟩ (k_X5_findOut_0 l D y aS H.size h0 h2 h3 h4 h5 wp19153 h12) (cwV 0 hg ggV_RX5_33_X5_findOut rfl rfl rfl (by decide +kernel) ⟨Nat.le_of_ble_eq_true rfl, Nat.le_of_ble_eq_true rfl⟩) (g_preV (q := (RX5, TX5, 5)) hK hP hD [0, 1] rfl (by decide) (ci := 5) (q0 := 0) rfl rfl) rfl rfl hl.1 rfl (lv_room (Nat.le_of_ble_eq_true rfl)) dX5_tellSecret_57 ⟨Nat.le_of_ble_eq_true rfl, Nat.le_of_ble_eq_true rfl⟩) hP hD hS hA [0, 1] [2, 3, 4, 5] rfl rfl (by decide) (by decide) ?_
  clear hP hD hS H locs
  refine fun u H locs hq hP hD hS => ?_
  replace hP : va_P D vwCl [(h4, .inr (8, [.ref h7, .int wp19154])), (h7, .inl (y 1, 18, .inr (.inl (vp_updL (vp_updL (vp_updL (vp_updL (vp_updL wf19155 ((10 : Int32).toNatClampNeg) ((p1 - p1 / 10 * 10).toInt64)) ((9 : Int32).toNatClampNeg) (((p1 / 10) - (p1 / 10) / 10 * 10).toInt64)) ((8 : Int32).toNatClampNeg) ((((p1 / 10) / 10) - ((p1 / 10) / 10) / 10 * 10).toInt64)) ((7 : Int32).toNatClampNeg) (((((p1 / 10) / 10) / 10) - (((p1 / 10) / 10) / 10) / 10 * 10).toInt64)) ((6 : Int32).toNatClampNeg) ((((((p1 / 10) / 10) / 10) / 10) - ((((p1 / 10) / 10) / 10) / 10) / 10 * 10).toInt64))))), (h5, .inr (8, [.ref h10, .int wp19156])), (h10, .inl (y 1, 3, .inr (.inl (vp_updL (fun _ => 0) ((1 : Int32).toNatClampNeg) 5)))), (h0, .inr (5, [.ref h2, .ref h3, .ref h4, .ref h5, .int 0])), (h2, .inr (8, [.ref h12, .int 0]))] H := hP
  replace hD : va_D A [(h4, .inr (8, [.ref h7, .int wp19154])), (h7, .inl (y 1, 18, .inr (.inl (vp_updL (vp_updL (vp_updL (vp_updL (vp_updL wf19155 ((10 : Int32).toNatClampNeg) ((p1 - p1 / 10 * 10).toInt64)) ((9 : Int32).toNatClampNeg) (((p1 / 10) - (p1 / 10) / 10 * 10).toInt64)) ((8 : Int32).toNatClampNeg) ((((p1 / 10) / 10) - ((p1 / 10) / 10) / 10 * 10).toInt64)) ((7 : Int32).toNatClampNeg) (((((p1 / 10) / 10) / 10) - (((p1 / 10) / 10) / 10) / 10 * 10).toInt64)) ((6 : Int32).toNatClampNeg) ((((((p1 / 10) / 10) / 10) / 10) - ((((p1 / 10) / 10) / 10) / 10) / 10 * 10).toInt64))))), (h5, .inr (8, [.ref h10, .int wp19156])), (h10, .inl (y 1, 3, .inr (.inl (vp_updL (fun _ => 0) ((1 : Int32).toNatClampNeg) 5)))), (h0, .inr (5, [.ref h2, .ref h3, .ref h4, .ref h5, .int 0])), (h2, .inr (8, [.ref h12, .int 0]))] := hD
  refine lv_iconst (v := 0) hx hb dX5_tellSecret_60 (by decide) ?_
  refine lv_istore (lv' := [(5, .int 0), (4, .int (((((p1 / 10) / 10) / 10) / 10) / 10)), (0, .ref h0), (1, .int 1), (2, .int p1), (3, .int 5)]) hx hb dX5_tellSecret_61 hl (by decide) rfl ?_
  clear hl
  clear ls
  intro ls hl
  refine lv_iconst (v := 0) hx hb dX5_tellSecret_63 (by decide) ?_
  refine lv_istore (lv' := [(6, .int 0), (5, .int 0), (4, .int (((((p1 / 10) / 10) / 10) / 10) / 10)), (0, .ref h0), (1, .int 1), (2, .int p1), (3, .int 5)]) hx hb dX5_tellSecret_64 hl (by decide) rfl ?_
  clear hl
  clear ls
  intro ls hl
  refine lv_iload hx hb dX5_tellSecret_66 (lv_at hl 0 rfl) ?_
  refine lv_iconst (v := 3) hx hb dX5_tellSecret_68 (by decide) ?_
  refine lv_icmp_ge (tgt := 95) hx hb dX5_tellSecret_69 (by decide) (fun c9 => absurd c9 (by decide +kernel)) (fun _ => ?_)
  refine lv_aload_n hx hb dX5_tellSecret_72 rfl (lv_at hl 3 rfl) ?_
  refine gm_get (D := D) (ci := 5) (v := .ref h5) (C := RX5) (T := TX5) (N := 5) hx hb hg inlX5 hown hK.1 hP 4 rfl rfl 3 (by decide) tX5_3 (hg _ gw_141) rfl dX5_tellSecret_73 ?_
  refine lv_iload hx hb dX5_tellSecret_76 (lv_at hl 0 rfl) ?_
  refine g_al (wr := [(h4, .inr (8, [.ref h7, .int wp19154])), (h7, .inl (y 1, 18, .inr (.inl (vp_updL (vp_updL (vp_updL (vp_updL (vp_updL wf19155 ((10 : Int32).toNatClampNeg) ((p1 - p1 / 10 * 10).toInt64)) ((9 : Int32).toNatClampNeg) (((p1 / 10) - (p1 / 10) / 10 * 10).toInt64)) ((8 : Int32).toNatClampNeg) ((((p1 / 10) / 10) - ((p1 / 10) / 10) / 10 * 10).toInt64)) ((7 : Int32).toNatClampNeg) (((((p1 / 10) / 10) / 10) - (((p1 / 10) / 10) / 10) / 10 * 10).toInt64)) ((6 : Int32).toNatClampNeg) ((((((p1 / 10) / 10) / 10) / 10) - ((((p1 / 10) / 10) / 10) / 10) / 10 * 10).toInt64))))), (h0, .inr (5, [.ref h2, .ref h3, .ref h4, .ref h5, .int 0])), (h2, .inr (8, [.ref h12, .int 0]))]) (va_runV (As := [.int 0]) (rest := []) ⟨hx, hb, hml, hown, hg⟩ (k_X8_get_32 l D y aS H.size h5 h10 wp19156) (cwV 1 hg ggV_RX5_36_X8_get rfl rfl rfl (by decide +kernel) ⟨Nat.le_of_ble_eq_true rfl, Nat.le_of_ble_eq_true rfl⟩) (g_preV (q := (RX8, TX8, 2)) hK hP hD [2, 3] rfl (by decide) (ci := 8) (q0 := 2) rfl rfl) rfl rfl hl.1 rfl (lv_room (Nat.le_of_ble_eq_true rfl)) dX5_tellSecret_78 ⟨Nat.le_of_ble_eq_true rfl, Nat.le_of_ble_eq_true rfl⟩) hP hD hS hA [2, 3] [0, 1, 4, 5] rfl rfl (by decide) (by decide) ?_
  clear hP hD hS H locs
  refine fun r19164 u H locs hq hP hD hS => ?_
  subst hq
  replace hP : va_P D vwCl [(h4, .inr (8, [.ref h7, .int wp19154])), (h7, .inl (y 1, 18, .inr (.inl (vp_updL (vp_updL (vp_updL (vp_updL (vp_updL wf19155 ((10 : Int32).toNatClampNeg) ((p1 - p1 / 10 * 10).toInt64)) ((9 : Int32).toNatClampNeg) (((p1 / 10) - (p1 / 10) / 10 * 10).toInt64)) ((8 : Int32).toNatClampNeg) ((((p1 / 10) / 10) - ((p1 / 10) / 10) / 10 * 10).toInt64)) ((7 : Int32).toNatClampNeg) (((((p1 / 10) / 10) / 10) - (((p1 / 10) / 10) / 10) / 10 * 10).toInt64)) ((6 : Int32).toNatClampNeg) ((((((p1 / 10) / 10) / 10) / 10) - ((((p1 / 10) / 10) / 10) / 10) / 10 * 10).toInt64))))), (h0, .inr (5, [.ref h2, .ref h3, .ref h4, .ref h5, .int 0])), (h2, .inr (8, [.ref h12, .int 0])), (h5, .inr (8, [.ref h10, .int wp19156])), (h10, .inl (y 1, 3, .inr (.inl (vp_updL (fun _ => 0) ((1 : Int32).toNatClampNeg) 5))))] H := hP
  replace hD : va_D A [(h4, .inr (8, [.ref h7, .int wp19154])), (h7, .inl (y 1, 18, .inr (.inl (vp_updL (vp_updL (vp_updL (vp_updL (vp_updL wf19155 ((10 : Int32).toNatClampNeg) ((p1 - p1 / 10 * 10).toInt64)) ((9 : Int32).toNatClampNeg) (((p1 / 10) - (p1 / 10) / 10 * 10).toInt64)) ((8 : Int32).toNatClampNeg) ((((p1 / 10) / 10) - ((p1 / 10) / 10) / 10 * 10).toInt64)) ((7 : Int32).toNatClampNeg) (((((p1 / 10) / 10) / 10) - (((p1 / 10) / 10) / 10) / 10 * 10).toInt64)) ((6 : Int32).toNatClampNeg) ((((((p1 / 10) / 10) / 10) / 10) - ((((p1 / 10) / 10) / 10) / 10) / 10 * 10).toInt64))))), (h0, .inr (5, [.ref h2, .ref h3, .ref h4, .ref h5, .int 0])), (h2, .inr (8, [.ref h12, .int 0])), (h5, .inr (8, [.ref h10, .int wp19156])), (h10, .inl (y 1, 3, .inr (.inl (vp_updL (fun _ => 0) ((1 : Int32).toNatClampNeg) 5))))] := hD
  refine lv_lconst (v := 0) hx hb dX5_tellSecret_81 (by decide) ?_
  refine W.lcmp hx hb dX5_tellSecret_82 ?_
  refine g_fi (v := 0) (by decide +kernel) ?_
  refine lv_if_le (tgt := 89) hx hb dX5_tellSecret_83 (by decide) (fun _ => ?_) (fun c9 => absurd c9 (by decide +kernel))
  refine lv_iinc (v := 1) (lv' := [(6, .int 1), (5, .int 0), (4, .int (((((p1 / 10) / 10) / 10) / 10) / 10)), (0, .ref h0), (1, .int 1), (2, .int p1), (3, .int 5)]) hx hb dX5_tellSecret_89 hl (k := 0) rfl (by decide +kernel) (by decide) rfl ?_
  clear hl
  clear ls
  intro ls hl
  refine lv_goto (tgt := 66) hx hb dX5_tellSecret_92 (by decide) ?_
  refine lv_iload hx hb dX5_tellSecret_66 (lv_at hl 0 rfl) ?_
  refine lv_iconst (v := 3) hx hb dX5_tellSecret_68 (by decide) ?_
  refine lv_icmp_ge (tgt := 95) hx hb dX5_tellSecret_69 (by decide) (fun c9 => absurd c9 (by decide +kernel)) (fun _ => ?_)
  refine lv_aload_n hx hb dX5_tellSecret_72 rfl (lv_at hl 3 rfl) ?_
  refine gm_get (D := D) (ci := 5) (v := .ref h5) (C := RX5) (T := TX5) (N := 5) hx hb hg inlX5 hown hK.1 hP 2 rfl rfl 3 (by decide) tX5_3 (hg _ gw_141) rfl dX5_tellSecret_73 ?_
  refine lv_iload hx hb dX5_tellSecret_76 (lv_at hl 0 rfl) ?_
  refine g_al (wr := [(h4, .inr (8, [.ref h7, .int wp19154])), (h7, .inl (y 1, 18, .inr (.inl (vp_updL (vp_updL (vp_updL (vp_updL (vp_updL wf19155 ((10 : Int32).toNatClampNeg) ((p1 - p1 / 10 * 10).toInt64)) ((9 : Int32).toNatClampNeg) (((p1 / 10) - (p1 / 10) / 10 * 10).toInt64)) ((8 : Int32).toNatClampNeg) ((((p1 / 10) / 10) - ((p1 / 10) / 10) / 10 * 10).toInt64)) ((7 : Int32).toNatClampNeg) (((((p1 / 10) / 10) / 10) - (((p1 / 10) / 10) / 10) / 10 * 10).toInt64)) ((6 : Int32).toNatClampNeg) ((((((p1 / 10) / 10) / 10) / 10) - ((((p1 / 10) / 10) / 10) / 10) / 10 * 10).toInt64))))), (h0, .inr (5, [.ref h2, .ref h3, .ref h4, .ref h5, .int 0])), (h2, .inr (8, [.ref h12, .int 0]))]) (va_runV (As := [.int 1]) (rest := []) ⟨hx, hb, hml, hown, hg⟩ (k_X8_get_33 l D y aS H.size h5 h10 wp19156) (cwV 1 hg ggV_RX5_36_X8_get rfl rfl rfl (by decide +kernel) ⟨Nat.le_of_ble_eq_true rfl, Nat.le_of_ble_eq_true rfl⟩) (g_preV (q := (RX8, TX8, 2)) hK hP hD [4, 5] rfl (by decide) (ci := 8) (q0 := 4) rfl rfl) rfl rfl hl.1 rfl (lv_room (Nat.le_of_ble_eq_true rfl)) dX5_tellSecret_78 ⟨Nat.le_of_ble_eq_true rfl, Nat.le_of_ble_eq_true rfl⟩) hP hD hS hA [4, 5] [0, 1, 2, 3] rfl rfl (by decide) (by decide) ?_
  clear hP hD hS H locs
  refine fun r19165 u H locs hq hP hD hS => ?_
  subst hq
  replace hP : va_P D vwCl [(h4, .inr (8, [.ref h7, .int wp19154])), (h7, .inl (y 1, 18, .inr (.inl (vp_updL (vp_updL (vp_updL (vp_updL (vp_updL wf19155 ((10 : Int32).toNatClampNeg) ((p1 - p1 / 10 * 10).toInt64)) ((9 : Int32).toNatClampNeg) (((p1 / 10) - (p1 / 10) / 10 * 10).toInt64)) ((8 : Int32).toNatClampNeg) ((((p1 / 10) / 10) - ((p1 / 10) / 10) / 10 * 10).toInt64)) ((7 : Int32).toNatClampNeg) (((((p1 / 10) / 10) / 10) - (((p1 / 10) / 10) / 10) / 10 * 10).toInt64)) ((6 : Int32).toNatClampNeg) ((((((p1 / 10) / 10) / 10) / 10) - ((((p1 / 10) / 10) / 10) / 10) / 10 * 10).toInt64))))), (h0, .inr (5, [.ref h2, .ref h3, .ref h4, .ref h5, .int 0])), (h2, .inr (8, [.ref h12, .int 0])), (h5, .inr (8, [.ref h10, .int wp19156])), (h10, .inl (y 1, 3, .inr (.inl (vp_updL (fun _ => 0) ((1 : Int32).toNatClampNeg) 5))))] H := hP
  replace hD : va_D A [(h4, .inr (8, [.ref h7, .int wp19154])), (h7, .inl (y 1, 18, .inr (.inl (vp_updL (vp_updL (vp_updL (vp_updL (vp_updL wf19155 ((10 : Int32).toNatClampNeg) ((p1 - p1 / 10 * 10).toInt64)) ((9 : Int32).toNatClampNeg) (((p1 / 10) - (p1 / 10) / 10 * 10).toInt64)) ((8 : Int32).toNatClampNeg) ((((p1 / 10) / 10) - ((p1 / 10) / 10) / 10 * 10).toInt64)) ((7 : Int32).toNatClampNeg) (((((p1 / 10) / 10) / 10) - (((p1 / 10) / 10) / 10) / 10 * 10).toInt64)) ((6 : Int32).toNatClampNeg) ((((((p1 / 10) / 10) / 10) / 10) - ((((p1 / 10) / 10) / 10) / 10) / 10 * 10).toInt64))))), (h0, .inr (5, [.ref h2, .ref h3, .ref h4, .ref h5, .int 0])), (h2, .inr (8, [.ref h12, .int 0])), (h5, .inr (8, [.ref h10, .int wp19156])), (h10, .inl (y 1, 3, .inr (.inl (vp_updL (fun _ => 0) ((1 : Int32).toNatClampNeg) 5))))] := hD
  refine lv_lconst (v := 0) hx hb dX5_tellSecret_81 (by decide) ?_
  refine W.lcmp hx hb dX5_tellSecret_82 ?_
  refine g_fi (v := 1) (by decide +kernel) ?_
  refine lv_if_le (tgt := 89) hx hb dX5_tellSecret_83 (by decide) (fun c9 => absurd c9 (by decide +kernel)) (fun _ => ?_)
  refine lv_iinc (v := 1) (lv' := [(5, .int 1), (6, .int 1), (4, .int (((((p1 / 10) / 10) / 10) / 10) / 10)), (0, .ref h0), (1, .int 1), (2, .int p1), (3, .int 5)]) hx hb dX5_tellSecret_86 hl (k := 1) rfl (by decide +kernel) (by decide) rfl ?_
  clear hl
  clear ls
  intro ls hl
  refine lv_iinc (v := 2) (lv' := [(6, .int 2), (5, .int 1), (4, .int (((((p1 / 10) / 10) / 10) / 10) / 10)), (0, .ref h0), (1, .int 1), (2, .int p1), (3, .int 5)]) hx hb dX5_tellSecret_89 hl (k := 1) rfl (by decide +kernel) (by decide) rfl ?_
  clear hl
  clear ls
  intro ls hl
  refine lv_goto (tgt := 66) hx hb dX5_tellSecret_92 (by decide) ?_
  refine lv_iload hx hb dX5_tellSecret_66 (lv_at hl 0 rfl) ?_
  refine lv_iconst (v := 3) hx hb dX5_tellSecret_68 (by decide) ?_
  refine lv_icmp_ge (tgt := 95) hx hb dX5_tellSecret_69 (by decide) (fun c9 => absurd c9 (by decide +kernel)) (fun _ => ?_)
  refine lv_aload_n hx hb dX5_tellSecret_72 rfl (lv_at hl 3 rfl) ?_
  refine gm_get (D := D) (ci := 5) (v := .ref h5) (C := RX5) (T := TX5) (N := 5) hx hb hg inlX5 hown hK.1 hP 2 rfl rfl 3 (by decide) tX5_3 (hg _ gw_141) rfl dX5_tellSecret_73 ?_
  refine lv_iload hx hb dX5_tellSecret_76 (lv_at hl 0 rfl) ?_
  refine g_al (wr := [(h4, .inr (8, [.ref h7, .int wp19154])), (h7, .inl (y 1, 18, .inr (.inl (vp_updL (vp_updL (vp_updL (vp_updL (vp_updL wf19155 ((10 : Int32).toNatClampNeg) ((p1 - p1 / 10 * 10).toInt64)) ((9 : Int32).toNatClampNeg) (((p1 / 10) - (p1 / 10) / 10 * 10).toInt64)) ((8 : Int32).toNatClampNeg) ((((p1 / 10) / 10) - ((p1 / 10) / 10) / 10 * 10).toInt64)) ((7 : Int32).toNatClampNeg) (((((p1 / 10) / 10) / 10) - (((p1 / 10) / 10) / 10) / 10 * 10).toInt64)) ((6 : Int32).toNatClampNeg) ((((((p1 / 10) / 10) / 10) / 10) - ((((p1 / 10) / 10) / 10) / 10) / 10 * 10).toInt64))))), (h0, .inr (5, [.ref h2, .ref h3, .ref h4, .ref h5, .int 0])), (h2, .inr (8, [.ref h12, .int 0]))]) (va_runV (As := [.int 2]) (rest := []) ⟨hx, hb, hml, hown, hg⟩ (k_X8_get_34 l D y aS H.size h5 h10 wp19156) (cwV 1 hg ggV_RX5_36_X8_get rfl rfl rfl (by decide +kernel) ⟨Nat.le_of_ble_eq_true rfl, Nat.le_of_ble_eq_true rfl⟩) (g_preV (q := (RX8, TX8, 2)) hK hP hD [4, 5] rfl (by decide) (ci := 8) (q0 := 4) rfl rfl) rfl rfl hl.1 rfl (lv_room (Nat.le_of_ble_eq_true rfl)) dX5_tellSecret_78 ⟨Nat.le_of_ble_eq_true rfl, Nat.le_of_ble_eq_true rfl⟩) hP hD hS hA [4, 5] [0, 1, 2, 3] rfl rfl (by decide) (by decide) ?_
  clear hP hD hS H locs
  refine fun r19166 u H locs hq hP hD hS => ?_
  subst hq
  replace hP : va_P D vwCl [(h4, .inr (8, [.ref h7, .int wp19154])), (h7, .inl (y 1, 18, .inr (.inl (vp_updL (vp_updL (vp_updL (vp_updL (vp_updL wf19155 ((10 : Int32).toNatClampNeg) ((p1 - p1 / 10 * 10).toInt64)) ((9 : Int32).toNatClampNeg) (((p1 / 10) - (p1 / 10) / 10 * 10).toInt64)) ((8 : Int32).toNatClampNeg) ((((p1 / 10) / 10) - ((p1 / 10) / 10) / 10 * 10).toInt64)) ((7 : Int32).toNatClampNeg) (((((p1 / 10) / 10) / 10) - (((p1 / 10) / 10) / 10) / 10 * 10).toInt64)) ((6 : Int32).toNatClampNeg) ((((((p1 / 10) / 10) / 10) / 10) - ((((p1 / 10) / 10) / 10) / 10) / 10 * 10).toInt64))))), (h0, .inr (5, [.ref h2, .ref h3, .ref h4, .ref h5, .int 0])), (h2, .inr (8, [.ref h12, .int 0])), (h5, .inr (8, [.ref h10, .int wp19156])), (h10, .inl (y 1, 3, .inr (.inl (vp_updL (fun _ => 0) ((1 : Int32).toNatClampNeg) 5))))] H := hP
  replace hD : va_D A [(h4, .inr (8, [.ref h7, .int wp19154])), (h7, .inl (y 1, 18, .inr (.inl (vp_updL (vp_updL (vp_updL (vp_updL (vp_updL wf19155 ((10 : Int32).toNatClampNeg) ((p1 - p1 / 10 * 10).toInt64)) ((9 : Int32).toNatClampNeg) (((p1 / 10) - (p1 / 10) / 10 * 10).toInt64)) ((8 : Int32).toNatClampNeg) ((((p1 / 10) / 10) - ((p1 / 10) / 10) / 10 * 10).toInt64)) ((7 : Int32).toNatClampNeg) (((((p1 / 10) / 10) / 10) - (((p1 / 10) / 10) / 10) / 10 * 10).toInt64)) ((6 : Int32).toNatClampNeg) ((((((p1 / 10) / 10) / 10) / 10) - ((((p1 / 10) / 10) / 10) / 10) / 10 * 10).toInt64))))), (h0, .inr (5, [.ref h2, .ref h3, .ref h4, .ref h5, .int 0])), (h2, .inr (8, [.ref h12, .int 0])), (h5, .inr (8, [.ref h10, .int wp19156])), (h10, .inl (y 1, 3, .inr (.inl (vp_updL (fun _ => 0) ((1 : Int32).toNatClampNeg) 5))))] := hD
  refine lv_lconst (v := 0) hx hb dX5_tellSecret_81 (by decide) ?_
  refine W.lcmp hx hb dX5_tellSecret_82 ?_
  refine g_fi (v := 0) (by decide +kernel) ?_
  refine lv_if_le (tgt := 89) hx hb dX5_tellSecret_83 (by decide) (fun _ => ?_) (fun c9 => absurd c9 (by decide +kernel))
  refine lv_iinc (v := 3) (lv' := [(6, .int 3), (5, .int 1), (4, .int (((((p1 / 10) / 10) / 10) / 10) / 10)), (0, .ref h0), (1, .int 1), (2, .int p1), (3, .int 5)]) hx hb dX5_tellSecret_89 hl (k := 0) rfl (by decide +kernel) (by decide) rfl ?_
  clear hl
  clear ls
  intro ls hl
  refine lv_goto (tgt := 66) hx hb dX5_tellSecret_92 (by decide) ?_
  refine lv_iload hx hb dX5_tellSecret_66 (lv_at hl 0 rfl) ?_
  refine lv_iconst (v := 3) hx hb dX5_tellSecret_68 (by decide) ?_
  refine lv_icmp_ge (tgt := 95) hx hb dX5_tellSecret_69 (by decide) (fun _ => ?_) (fun c9 => absurd c9 (by decide +kernel))
  refine lv_iload hx hb dX5_tellSecret_95 (lv_at hl 1 rfl) ?_
  exact g_iret hx hb hr hlocks () (hP.sub [2, 0, 1, 4, 5, 3] rfl) (hD.sub [2, 0, 1, 4, 5, 3] (by decide +kernel) rfl) hS rfl rfl (Nat.le_of_ble_eq_true rfl) (Nat.le_of_ble_eq_true rfl) dX5_tellSecret_97
set_option maxRecDepth 100000 in
set_option maxHeartbeats 4000000 in
theorem k_X8_set_41 (l : Launch) (D : va_G) (y : Nat → ClassId) (aS : Nat → Nat) (sz : Nat) (h0 : Nat) (p1 : Int64) (h2 : Nat) (wp19169 : Int32) (wf19170 : Nat → Int64) : Met l yX8_set (Cond.code yX8_set cX8_set 4 none :: wsL_law) ({ frames := 0, cells := 0, slots := 0, locals := 0 } : Room) (va_Pc [.ref h0, .int 16, .long p1] (gI D y aS [(h0, .inr (8, [.ref h2, .int wp19169])), (h2, .inl (y 1, 18, .inr (.inl wf19170)))] sz)) (va_Qv (fun (u : Unit) => True) (fun u => gO D (va_A [(h0, .inr (8, [.ref h2, .int wp19169])), (h2, .inl (y 1, 18, .inr (.inl wf19170)))] sz) [(h0, .inr (8, [.ref h2, .int wp19169])), (h2, .inl (y 1, 18, .inr (.inl (vp_updL wf19170 ((16 : Int32).toNatClampNeg) p1))))]) (va_A [(h0, .inr (8, [.ref h2, .int wp19169])), (h2, .inl (y 1, 18, .inr (.inl wf19170)))] sz)) 0 0 (va_A [(h0, .inr (8, [.ref h2, .int wp19169])), (h2, .inl (y 1, 18, .inr (.inl wf19170)))] sz) := by
  refine g_of (by decide) (Nat.le_of_ble_eq_true rfl) ?_
  intro p e s m below meth c ls A hx hb hr hml hown hg hlocks hin hsz hK hP hD hS hA hAe hl
  rw [← hAe]
  replace hown : s.vm.findClass RX8 = some m.cls := hown
  replace hl : lv_has ls 4 [(0, .ref h0), (1, .int 16), (2, .long p1)] := hl
  refine lv_iload_n hx hb dX8_set_0 rfl (lv_at hl 1 rfl) ?_
  refine lv_if_lt (tgt := 20) hx hb dX8_set_1 (by decide) (fun c9 => absurd c9 (by decide +kernel)) (fun _ => ?_)
  refine lv_iload_n hx hb dX8_set_4 rfl (lv_at hl 1 rfl) ?_
  refine lv_aload_n hx hb dX8_set_5 rfl (lv_at hl 0 rfl) ?_
  refine gm_get (D := D) (ci := 8) (v := .ref h2) (C := RX8) (T := TX8) (N := 2) hx hb hg inlX8 hown hK.1 hP 0 rfl rfl 0 (by decide) tX8_0 (hg _ gw_98) rfl dX8_set_6 ?_
  refine va_alen hx hb hK.1 hP 1 1 rfl rfl (v := 18) rfl dX8_set_9 ?_
  refine lv_icmp_ge (tgt := 20) hx hb dX8_set_10 (by decide) (fun c9 => absurd c9 (by decide +kernel)) (fun _ => ?_)
  refine lv_aload_n hx hb dX8_set_13 rfl (lv_at hl 0 rfl) ?_
  refine gm_get (D := D) (ci := 8) (v := .ref h2) (C := RX8) (T := TX8) (N := 2) hx hb hg inlX8 hown hK.1 hP 0 rfl rfl 0 (by decide) tX8_0 (hg _ gw_98) rfl dX8_set_14 ?_
  refine lv_iload_n hx hb dX8_set_17 rfl (lv_at hl 1 rfl) ?_
  refine lv_lload_n hx hb dX8_set_18 rfl (lv_at hl 2 rfl) ?_
  refine va_last hx hb hK.1 hP hD hS 1 1 rfl rfl (by unfold vp_in; decide +kernel) dX8_set_19 ?_
  clear hP hD hS
  refine fun H locs (hP : va_P D vwCl [(h0, .inr (8, [.ref h2, .int wp19169])), (h2, .inl (y 1, 18, .inr (.inl (vp_updL wf19170 ((16 : Int32).toNatClampNeg) p1))))] H) (hD : va_D A [(h0, .inr (8, [.ref h2, .int wp19169])), (h2, .inl (y 1, 18, .inr (.inl (vp_updL wf19170 ((16 : Int32).toNatClampNeg) p1))))]) hS => ?_
  exact g_vret hx hb hr hlocks () hP hD hS trivial (Nat.le_of_ble_eq_true rfl) (Nat.le_of_ble_eq_true rfl) dX8_set_20
set_option maxRecDepth 100000 in
set_option maxHeartbeats 4000000 in
theorem k_X8_get_35 (l : Launch) (D : va_G) (y : Nat → ClassId) (aS : Nat → Nat) (sz : Nat) (h0 : Nat) (h1 : Nat) (wp19178 : Int32) : Met l yX8_get (Cond.code yX8_get cX8_get 2 (some .long) :: wsL_law) ({ frames := 0, cells := 0, slots := 0, locals := 0 } : Room) (va_Pc [.ref h0, .int 0] (gI D y aS [(h0, .inr (8, [.ref h1, .int wp19178])), (h1, .inl (y 1, 3, .inr (.inl (vp_updL (fun _ => 0) ((2 : Int32).toNatClampNeg) 5))))] sz)) (va_Ql (fun (r : Int64) (u : Unit) => 0 = r) (fun u => gO D (va_A [(h0, .inr (8, [.ref h1, .int wp19178])), (h1, .inl (y 1, 3, .inr (.inl (vp_updL (fun _ => 0) ((2 : Int32).toNatClampNeg) 5))))] sz) [(h0, .inr (8, [.ref h1, .int wp19178])), (h1, .inl (y 1, 3, .inr (.inl (vp_updL (fun _ => 0) ((2 : Int32).toNatClampNeg) 5))))]) (va_A [(h0, .inr (8, [.ref h1, .int wp19178])), (h1, .inl (y 1, 3, .inr (.inl (vp_updL (fun _ => 0) ((2 : Int32).toNatClampNeg) 5))))] sz)) 0 0 (va_A [(h0, .inr (8, [.ref h1, .int wp19178])), (h1, .inl (y 1, 3, .inr (.inl (vp_updL (fun _ => 0) ((2 : Int32).toNatClampNeg) 5))))] sz) := by
  refine g_of (by decide) (Nat.le_of_ble_eq_true rfl) ?_
  intro p e s m below meth c ls A hx hb hr hml hown hg hlocks hin hsz hK hP hD hS hA hAe hl
  rw [← hAe]
  replace hown : s.vm.findClass RX8 = some m.cls := hown
  replace hl : lv_has ls 2 [(0, .ref h0), (1, .int 0)] := hl
  refine lv_iload_n hx hb dX8_get_0 rfl (lv_at hl 1 rfl) ?_
  refine lv_if_lt (tgt := 22) hx hb dX8_get_1 (by decide) (fun c9 => absurd c9 (by decide +kernel)) (fun _ => ?_)
  refine lv_iload_n hx hb dX8_get_4 rfl (lv_at hl 1 rfl) ?_
  refine lv_aload_n hx hb dX8_get_5 rfl (lv_at hl 0 rfl) ?_
  refine gm_get (D := D) (ci := 8) (v := .ref h1) (C := RX8) (T := TX8) (N := 2) hx hb hg inlX8 hown hK.1 hP 0 rfl rfl 0 (by decide) tX8_0 (hg _ gw_98) rfl dX8_get_6 ?_
  refine va_alen hx hb hK.1 hP 1 1 rfl rfl (v := 3) rfl dX8_get_9 ?_
  refine lv_icmp_ge (tgt := 22) hx hb dX8_get_10 (by decide) (fun c9 => absurd c9 (by decide +kernel)) (fun _ => ?_)
  refine lv_aload_n hx hb dX8_get_13 rfl (lv_at hl 0 rfl) ?_
  refine gm_get (D := D) (ci := 8) (v := .ref h1) (C := RX8) (T := TX8) (N := 2) hx hb hg inlX8 hown hK.1 hP 0 rfl rfl 0 (by decide) tX8_0 (hg _ gw_98) rfl dX8_get_14 ?_
  refine lv_iload_n hx hb dX8_get_17 rfl (lv_at hl 1 rfl) ?_
  refine va_lald hx hb hK.1 hP 1 1 rfl rfl (by unfold vp_in; decide +kernel) dX8_get_18 ?_
  refine g_fj (v := 0) (by rfl) ?_
  refine lv_goto (tgt := 23) hx hb dX8_get_19 (by decide) ?_
  exact g_lret hx hb hr hlocks () hP hD hS rfl (Nat.le_of_ble_eq_true rfl) (Nat.le_of_ble_eq_true rfl) dX8_get_23
set_option maxRecDepth 100000 in
set_option maxHeartbeats 4000000 in
theorem k_X8_get_36 (l : Launch) (D : va_G) (y : Nat → ClassId) (aS : Nat → Nat) (sz : Nat) (h0 : Nat) (h1 : Nat) (wp19180 : Int32) : Met l yX8_get (Cond.code yX8_get cX8_get 2 (some .long) :: wsL_law) ({ frames := 0, cells := 0, slots := 0, locals := 0 } : Room) (va_Pc [.ref h0, .int 1] (gI D y aS [(h0, .inr (8, [.ref h1, .int wp19180])), (h1, .inl (y 1, 3, .inr (.inl (vp_updL (fun _ => 0) ((2 : Int32).toNatClampNeg) 5))))] sz)) (va_Ql (fun (r : Int64) (u : Unit) => 0 = r) (fun u => gO D (va_A [(h0, .inr (8, [.ref h1, .int wp19180])), (h1, .inl (y 1, 3, .inr (.inl (vp_updL (fun _ => 0) ((2 : Int32).toNatClampNeg) 5))))] sz) [(h0, .inr (8, [.ref h1, .int wp19180])), (h1, .inl (y 1, 3, .inr (.inl (vp_updL (fun _ => 0) ((2 : Int32).toNatClampNeg) 5))))]) (va_A [(h0, .inr (8, [.ref h1, .int wp19180])), (h1, .inl (y 1, 3, .inr (.inl (vp_updL (fun _ => 0) ((2 : Int32).toNatClampNeg) 5))))] sz)) 0 0 (va_A [(h0, .inr (8, [.ref h1, .int wp19180])), (h1, .inl (y 1, 3, .inr (.inl (vp_updL (fun _ => 0) ((2 : Int32).toNatClampNeg) 5))))] sz) := by
  refine g_of (by decide) (Nat.le_of_ble_eq_true rfl) ?_
  intro p e s m below meth c ls A hx hb hr hml hown hg hlocks hin hsz hK hP hD hS hA hAe hl
  rw [← hAe]
  replace hown : s.vm.findClass RX8 = some m.cls := hown
  replace hl : lv_has ls 2 [(0, .ref h0), (1, .int 1)] := hl
  refine lv_iload_n hx hb dX8_get_0 rfl (lv_at hl 1 rfl) ?_
  refine lv_if_lt (tgt := 22) hx hb dX8_get_1 (by decide) (fun c9 => absurd c9 (by decide +kernel)) (fun _ => ?_)
  refine lv_iload_n hx hb dX8_get_4 rfl (lv_at hl 1 rfl) ?_
  refine lv_aload_n hx hb dX8_get_5 rfl (lv_at hl 0 rfl) ?_
  refine gm_get (D := D) (ci := 8) (v := .ref h1) (C := RX8) (T := TX8) (N := 2) hx hb hg inlX8 hown hK.1 hP 0 rfl rfl 0 (by decide) tX8_0 (hg _ gw_98) rfl dX8_get_6 ?_
  refine va_alen hx hb hK.1 hP 1 1 rfl rfl (v := 3) rfl dX8_get_9 ?_
  refine lv_icmp_ge (tgt := 22) hx hb dX8_get_10 (by decide) (fun c9 => absurd c9 (by decide +kernel)) (fun _ => ?_)
  refine lv_aload_n hx hb dX8_get_13 rfl (lv_at hl 0 rfl) ?_
  refine gm_get (D := D) (ci := 8) (v := .ref h1) (C := RX8) (T := TX8) (N := 2) hx hb hg inlX8 hown hK.1 hP 0 rfl rfl 0 (by decide) tX8_0 (hg _ gw_98) rfl dX8_get_14 ?_
  refine lv_iload_n hx hb dX8_get_17 rfl (lv_at hl 1 rfl) ?_
  refine va_lald hx hb hK.1 hP 1 1 rfl rfl (by unfold vp_in; decide +kernel) dX8_get_18 ?_
  refine g_fj (v := 0) (by rfl) ?_
  refine lv_goto (tgt := 23) hx hb dX8_get_19 (by decide) ?_
  exact g_lret hx hb hr hlocks () hP hD hS rfl (Nat.le_of_ble_eq_true rfl) (Nat.le_of_ble_eq_true rfl) dX8_get_23
set_option maxRecDepth 100000 in
set_option maxHeartbeats 4000000 in
theorem k_X8_get_37 (l : Launch) (D : va_G) (y : Nat → ClassId) (aS : Nat → Nat) (sz : Nat) (h0 : Nat) (h1 : Nat) (wp19182 : Int32) : Met l yX8_get (Cond.code yX8_get cX8_get 2 (some .long) :: wsL_law) ({ frames := 0, cells := 0, slots := 0, locals := 0 } : Room) (va_Pc [.ref h0, .int 2] (gI D y aS [(h0, .inr (8, [.ref h1, .int wp19182])), (h1, .inl (y 1, 3, .inr (.inl (vp_updL (fun _ => 0) ((2 : Int32).toNatClampNeg) 5))))] sz)) (va_Ql (fun (r : Int64) (u : Unit) => 5 = r) (fun u => gO D (va_A [(h0, .inr (8, [.ref h1, .int wp19182])), (h1, .inl (y 1, 3, .inr (.inl (vp_updL (fun _ => 0) ((2 : Int32).toNatClampNeg) 5))))] sz) [(h0, .inr (8, [.ref h1, .int wp19182])), (h1, .inl (y 1, 3, .inr (.inl (vp_updL (fun _ => 0) ((2 : Int32).toNatClampNeg) 5))))]) (va_A [(h0, .inr (8, [.ref h1, .int wp19182])), (h1, .inl (y 1, 3, .inr (.inl (vp_updL (fun _ => 0) ((2 : Int32).toNatClampNeg) 5))))] sz)) 0 0 (va_A [(h0, .inr (8, [.ref h1, .int wp19182])), (h1, .inl (y 1, 3, .inr (.inl (vp_updL (fun _ => 0) ((2 : Int32).toNatClampNeg) 5))))] sz) := by
  refine g_of (by decide) (Nat.le_of_ble_eq_true rfl) ?_
  intro p e s m below meth c ls A hx hb hr hml hown hg hlocks hin hsz hK hP hD hS hA hAe hl
  rw [← hAe]
  replace hown : s.vm.findClass RX8 = some m.cls := hown
  replace hl : lv_has ls 2 [(0, .ref h0), (1, .int 2)] := hl
  refine lv_iload_n hx hb dX8_get_0 rfl (lv_at hl 1 rfl) ?_
  refine lv_if_lt (tgt := 22) hx hb dX8_get_1 (by decide) (fun c9 => absurd c9 (by decide +kernel)) (fun _ => ?_)
  refine lv_iload_n hx hb dX8_get_4 rfl (lv_at hl 1 rfl) ?_
  refine lv_aload_n hx hb dX8_get_5 rfl (lv_at hl 0 rfl) ?_
  refine gm_get (D := D) (ci := 8) (v := .ref h1) (C := RX8) (T := TX8) (N := 2) hx hb hg inlX8 hown hK.1 hP 0 rfl rfl 0 (by decide) tX8_0 (hg _ gw_98) rfl dX8_get_6 ?_
  refine va_alen hx hb hK.1 hP 1 1 rfl rfl (v := 3) rfl dX8_get_9 ?_
  refine lv_icmp_ge (tgt := 22) hx hb dX8_get_10 (by decide) (fun c9 => absurd c9 (by decide +kernel)) (fun _ => ?_)
  refine lv_aload_n hx hb dX8_get_13 rfl (lv_at hl 0 rfl) ?_
  refine gm_get (D := D) (ci := 8) (v := .ref h1) (C := RX8) (T := TX8) (N := 2) hx hb hg inlX8 hown hK.1 hP 0 rfl rfl 0 (by decide) tX8_0 (hg _ gw_98) rfl dX8_get_14 ?_
  refine lv_iload_n hx hb dX8_get_17 rfl (lv_at hl 1 rfl) ?_
  refine va_lald hx hb hK.1 hP 1 1 rfl rfl (by unfold vp_in; decide +kernel) dX8_get_18 ?_
  refine g_fj (v := 5) (by rfl) ?_
  refine lv_goto (tgt := 23) hx hb dX8_get_19 (by decide) ?_
  exact g_lret hx hb hr hlocks () hP hD hS rfl (Nat.le_of_ble_eq_true rfl) (Nat.le_of_ble_eq_true rfl) dX8_get_23
set_option maxRecDepth 100000 in
set_option maxHeartbeats 4000000 in
theorem k_X5_tellSecret_11 (l : Launch) (D : va_G) (y : Nat → ClassId) (aS : Nat → Nat) (sz : Nat) (h0 : Nat) (p1 : Int32) (h2 : Nat) (h3 : Nat) (h4 : Nat) (h5 : Nat) (wp19184 : Int32) (h7 : Nat) (wp19185 : Int32) (wf19186 : Nat → Int64) (h10 : Nat) (wp19187 : Int32) (h12 : Nat) : Met l yX5_tellSecret (Cond.code yX5_tellSecret cX5_tellSecret 7 (some .int) :: wsL_law) ({ frames := 1, cells := 0, slots := 0, locals := 23 } : Room) (va_Pc [.ref h0, .int 2, .int p1, .int 5] (gI D y aS [(h0, .inr (5, [.ref h2, .ref h3, .ref h4, .ref h5, .int wp19184])), (h4, .inr (8, [.ref h7, .int wp19185])), (h7, .inl (y 1, 18, .inr (.inl wf19186))), (h5, .inr (8, [.ref h10, .int wp19187])), (h10, .inl (y 1, 3, .inr (.inl (fun _ => 0)))), (h2, .inr (8, [.ref h12, .int 0]))] sz)) (va_Qi (fun (r : Int32) (u : Unit) => 1 = r) (fun u => gO D (va_A [(h0, .inr (5, [.ref h2, .ref h3, .ref h4, .ref h5, .int wp19184])), (h4, .inr (8, [.ref h7, .int wp19185])), (h7, .inl (y 1, 18, .inr (.inl wf19186))), (h5, .inr (8, [.ref h10, .int wp19187])), (h10, .inl (y 1, 3, .inr (.inl (fun _ => 0)))), (h2, .inr (8, [.ref h12, .int 0]))] sz) [(h0, .inr (5, [.ref h2, .ref h3, .ref h4, .ref h5, .int 0])), (h4, .inr (8, [.ref h7, .int wp19185])), (h7, .inl (y 1, 18, .inr (.inl (vp_updL (vp_updL (vp_updL (vp_updL (vp_updL wf19186 ((16 : Int32).toNatClampNeg) ((p1 - p1 / 10 * 10).toInt64)) ((15 : Int32).toNatClampNeg) (((p1 / 10) - (p1 / 10) / 10 * 10).toInt64)) ((14 : Int32).toNatClampNeg) ((((p1 / 10) / 10) - ((p1 / 10) / 10) / 10 * 10).toInt64)) ((13 : Int32).toNatClampNeg) (((((p1 / 10) / 10) / 10) - (((p1 / 10) / 10) / 10) / 10 * 10).toInt64)) ((12 : Int32).toNatClampNeg) ((((((p1 / 10) / 10) / 10) / 10) - ((((p1 / 10) / 10) / 10) / 10) / 10 * 10).toInt64))))), (h5, .inr (8, [.ref h10, .int wp19187])), (h10, .inl (y 1, 3, .inr (.inl (vp_updL (fun _ => 0) ((2 : Int32).toNatClampNeg) 5)))), (h2, .inr (8, [.ref h12, .int 0]))]) (va_A [(h0, .inr (5, [.ref h2, .ref h3, .ref h4, .ref h5, .int wp19184])), (h4, .inr (8, [.ref h7, .int wp19185])), (h7, .inl (y 1, 18, .inr (.inl wf19186))), (h5, .inr (8, [.ref h10, .int wp19187])), (h10, .inl (y 1, 3, .inr (.inl (fun _ => 0)))), (h2, .inr (8, [.ref h12, .int 0]))] sz)) 0 0 (va_A [(h0, .inr (5, [.ref h2, .ref h3, .ref h4, .ref h5, .int wp19184])), (h4, .inr (8, [.ref h7, .int wp19185])), (h7, .inl (y 1, 18, .inr (.inl wf19186))), (h5, .inr (8, [.ref h10, .int wp19187])), (h10, .inl (y 1, 3, .inr (.inl (fun _ => 0)))), (h2, .inr (8, [.ref h12, .int 0]))] sz) := by
  refine g_of (by decide) (Nat.le_of_ble_eq_true rfl) ?_
  intro p e s m below meth c ls A hx hb hr hml hown hg hlocks hin hsz hK hP hD hS hA hAe hl
  rw [← hAe]
  replace hown : s.vm.findClass RX5 = some m.cls := hown
  replace hl : lv_has ls 7 [(0, .ref h0), (1, .int 2), (2, .int p1), (3, .int 5)] := hl
  refine lv_iload_n hx hb dX5_tellSecret_0 rfl (lv_at hl 2 rfl) ?_
  refine lv_istore (lv' := [(4, .int p1), (0, .ref h0), (1, .int 2), (2, .int p1), (3, .int 5)]) hx hb dX5_tellSecret_1 hl (by decide) rfl ?_
  clear hl
  clear ls
  intro ls hl
  refine lv_iload_n hx hb dX5_tellSecret_3 rfl (lv_at hl 4 rfl) ?_
  refine lv_iconst (v := 1) hx hb dX5_tellSecret_4 (by decide) ?_
  refine lv_isub hx hb dX5_tellSecret_5 ?_
  refine g_fi (v := 4) (by decide +kernel) ?_
  refine lv_istore (lv' := [(5, .int 4), (4, .int p1), (0, .ref h0), (1, .int 2), (2, .int p1), (3, .int 5)]) hx hb dX5_tellSecret_6 hl (by decide) rfl ?_
  clear hl
  clear ls
  intro ls hl
  refine lv_iload hx hb dX5_tellSecret_8 (lv_at hl 0 rfl) ?_
  refine lv_if_lt (tgt := 46) hx hb dX5_tellSecret_10 (by decide) (fun c9 => absurd c9 (by decide +kernel)) (fun _ => ?_)
  refine lv_aload_n hx hb dX5_tellSecret_13 rfl (lv_at hl 2 rfl) ?_
  refine gm_get (D := D) (ci := 5) (v := .ref h4) (C := RX5) (T := TX5) (N := 5) hx hb hg inlX5 hown hK.1 hP 0 rfl rfl 2 (by decide) tX5_2 (hg _ gw_140) rfl dX5_tellSecret_14 ?_
  refine lv_iload_n hx hb dX5_tellSecret_17 rfl (lv_at hl 3 rfl) ?_
  refine lv_bipush (v := 6) hx hb dX5_tellSecret_18 (by decide +kernel) ?_
  refine lv_imul hx hb dX5_tellSecret_20 ?_
  refine g_fi (v := 12) (by decide +kernel) ?_
  refine lv_iload hx hb dX5_tellSecret_21 (lv_at hl 0 rfl) ?_
  refine lv_iadd hx hb dX5_tellSecret_23 ?_
  refine g_fi (v := 16) (by decide +kernel) ?_
  refine lv_iload hx hb dX5_tellSecret_24 (lv_at hl 1 rfl) ?_
  refine lv_bipush (v := 10) hx hb dX5_tellSecret_26 (by decide +kernel) ?_
  refine lv_irem hx hb dX5_tellSecret_28 (by decide +kernel) ?_
  refine lv_i2l (v := ((p1 - p1 / 10 * 10).toInt64)) hx hb dX5_tellSecret_29 rfl ?_
  refine g_av (wr := [(h0, .inr (5, [.ref h2, .ref h3, .ref h4, .ref h5, .int wp19184])), (h5, .inr (8, [.ref h10, .int wp19187])), (h10, .inl (y 1, 3, .inr (.inl (fun _ => 0)))), (h2, .inr (8, [.ref h12, .int 0]))]) (va_runV (As := [.int 16, .long ((p1 - p1 / 10 * 10).toInt64)]) (rest := []) ⟨hx, hb, hml, hown, hg⟩ (k_X8_set_41 l D y aS s.heap.size h4 ((p1 - p1 / 10 * 10).toInt64) h7 wp19185 wf19186) (cwV 2 hg ggV_RX5_29_X8_set rfl rfl rfl (by decide +kernel) ⟨Nat.le_of_ble_eq_true rfl, Nat.le_of_ble_eq_true rfl⟩) (g_preV (q := (RX8, TX8, 2)) hK hP hD [1, 2] rfl (by decide) (ci := 8) (q0 := 1) rfl rfl) rfl rfl hl.1 rfl (lv_room (Nat.le_of_ble_eq_true rfl)) dX5_tellSecret_30 ⟨Nat.le_of_ble_eq_true rfl, Nat.le_of_ble_eq_true rfl⟩) hP hD hS hA [1, 2] [0, 3, 4, 5] rfl rfl (by decide) (by decide) ?_
  clear hP hD hS
  refine fun u H locs hq hP hD hS => ?_
  replace hP : va_P D vwCl [(h0, .inr (5, [.ref h2, .ref h3, .ref h4, .ref h5, .int wp19184])), (h5, .inr (8, [.ref h10, .int wp19187])), (h10, .inl (y 1, 3, .inr (.inl (fun _ => 0)))), (h2, .inr (8, [.ref h12, .int 0])), (h4, .inr (8, [.ref h7, .int wp19185])), (h7, .inl (y 1, 18, .inr (.inl (vp_updL wf19186 ((16 : Int32).toNatClampNeg) ((p1 - p1 / 10 * 10).toInt64)))))] H := hP
  replace hD : va_D A [(h0, .inr (5, [.ref h2, .ref h3, .ref h4, .ref h5, .int wp19184])), (h5, .inr (8, [.ref h10, .int wp19187])), (h10, .inl (y 1, 3, .inr (.inl (fun _ => 0)))), (h2, .inr (8, [.ref h12, .int 0])), (h4, .inr (8, [.ref h7, .int wp19185])), (h7, .inl (y 1, 18, .inr (.inl (vp_updL wf19186 ((16 : Int32).toNatClampNeg) ((p1 - p1 / 10 * 10).toInt64)))))] := hD
  refine lv_iload hx hb dX5_tellSecret_33 (lv_at hl 1 rfl) ?_
  refine lv_bipush (v := 10) hx hb dX5_tellSecret_35 (by decide +kernel) ?_
  refine lv_idiv hx hb dX5_tellSecret_37 (by decide +kernel) ?_
  refine lv_istore (lv' := [(4, .int (p1 / 10)), (5, .int 4), (0, .ref h0), (1, .int 2), (2, .int p1), (3, .int 5)]) hx hb dX5_tellSecret_38 hl (by decide) rfl ?_
  clear hl
  clear ls
  intro ls hl
  refine lv_iinc (v := 3) (lv' := [(5, .int 3), (4, .int (p1 / 10)), (0, .ref h0), (1, .int 2), (2, .int p1), (3, .int 5)]) hx hb dX5_tellSecret_40 hl (k := 1) rfl (by decide +kernel) (by decide) rfl ?_
  clear hl
  clear ls
  intro ls hl
  refine lv_goto (tgt := 8) hx hb dX5_tellSecret_43 (by decide) ?_
  refine lv_iload hx hb dX5_tellSecret_8 (lv_at hl 0 rfl) ?_
  refine lv_if_lt (tgt := 46) hx hb dX5_tellSecret_10 (by decide) (fun c9 => absurd c9 (by decide +kernel)) (fun _ => ?_)
  refine lv_aload_n hx hb dX5_tellSecret_13 rfl (lv_at hl 2 rfl) ?_
  refine gm_get (D := D) (ci := 5) (v := .ref h4) (C := RX5) (T := TX5) (N := 5) hx hb hg inlX5 hown hK.1 hP 0 rfl rfl 2 (by decide) tX5_2 (hg _ gw_140) rfl dX5_tellSecret_14 ?_
  refine lv_iload_n hx hb dX5_tellSecret_17 rfl (lv_at hl 3 rfl) ?_
  refine lv_bipush (v := 6) hx hb dX5_tellSecret_18 (by decide +kernel) ?_
  refine lv_imul hx hb dX5_tellSecret_20 ?_
  refine g_fi (v := 12) (by decide +kernel) ?_
  refine lv_iload hx hb dX5_tellSecret_21 (lv_at hl 0 rfl) ?_
  refine lv_iadd hx hb dX5_tellSecret_23 ?_
  refine g_fi (v := 15) (by decide +kernel) ?_
  refine lv_iload hx hb dX5_tellSecret_24 (lv_at hl 1 rfl) ?_
  refine lv_bipush (v := 10) hx hb dX5_tellSecret_26 (by decide +kernel) ?_
  refine lv_irem hx hb dX5_tellSecret_28 (by decide +kernel) ?_
  refine lv_i2l (v := (((p1 / 10) - (p1 / 10) / 10 * 10).toInt64)) hx hb dX5_tellSecret_29 rfl ?_
  refine g_av (wr := [(h0, .inr (5, [.ref h2, .ref h3, .ref h4, .ref h5, .int wp19184])), (h5, .inr (8, [.ref h10, .int wp19187])), (h10, .inl (y 1, 3, .inr (.inl (fun _ => 0)))), (h2, .inr (8, [.ref h12, .int 0]))]) (va_runV (As := [.int 15, .long (((p1 / 10) - (p1 / 10) / 10 * 10).toInt64)]) (rest := []) ⟨hx, hb, hml, hown, hg⟩ (k_X8_set_38 l D y aS H.size h4 (((p1 / 10) - (p1 / 10) / 10 * 10).toInt64) h7 wp19185 (vp_updL wf19186 ((16 : Int32).toNatClampNeg) ((p1 - p1 / 10 * 10).toInt64))) (cwV 2 hg ggV_RX5_29_X8_set rfl rfl rfl (by decide +kernel) ⟨Nat.le_of_ble_eq_true rfl, Nat.le_of_ble_eq_true rfl⟩) (g_preV (q := (RX8, TX8, 2)) hK hP hD [4, 5] rfl (by decide) (ci := 8) (q0 := 4) rfl rfl) rfl rfl hl.1 rfl (lv_room (Nat.le_of_ble_eq_true rfl)) dX5_tellSecret_30 ⟨Nat.le_of_ble_eq_true rfl, Nat.le_of_ble_eq_true rfl⟩) hP hD hS hA [4, 5] [0, 1, 2, 3] rfl rfl (by decide) (by decide) ?_
  clear hP hD hS H locs
  refine fun u H locs hq hP hD hS => ?_
  replace hP : va_P D vwCl [(h0, .inr (5, [.ref h2, .ref h3, .ref h4, .ref h5, .int wp19184])), (h5, .inr (8, [.ref h10, .int wp19187])), (h10, .inl (y 1, 3, .inr (.inl (fun _ => 0)))), (h2, .inr (8, [.ref h12, .int 0])), (h4, .inr (8, [.ref h7, .int wp19185])), (h7, .inl (y 1, 18, .inr (.inl (vp_updL (vp_updL wf19186 ((16 : Int32).toNatClampNeg) ((p1 - p1 / 10 * 10).toInt64)) ((15 : Int32).toNatClampNeg) (((p1 / 10) - (p1 / 10) / 10 * 10).toInt64)))))] H := hP
  replace hD : va_D A [(h0, .inr (5, [.ref h2, .ref h3, .ref h4, .ref h5, .int wp19184])), (h5, .inr (8, [.ref h10, .int wp19187])), (h10, .inl (y 1, 3, .inr (.inl (fun _ => 0)))), (h2, .inr (8, [.ref h12, .int 0])), (h4, .inr (8, [.ref h7, .int wp19185])), (h7, .inl (y 1, 18, .inr (.inl (vp_updL (vp_updL wf19186 ((16 : Int32).toNatClampNeg) ((p1 - p1 / 10 * 10).toInt64)) ((15 : Int32).toNatClampNeg) (((p1 / 10) - (p1 / 10) / 10 * 10).toInt64)))))] := hD
  refine lv_iload hx hb dX5_tellSecret_33 (lv_at hl 1 rfl) ?_
  refine lv_bipush (v := 10) hx hb dX5_tellSecret_35 (by decide +kernel) ?_
  refine lv_idiv hx hb dX5_tellSecret_37 (by decide +kernel) ?_
  refine lv_istore (lv' := [(4, .int ((p1 / 10) / 10)), (5, .int 3), (0, .ref h0), (1, .int 2), (2, .int p1), (3, .int 5)]) hx hb dX5_tellSecret_38 hl (by decide) rfl ?_
  clear hl
  clear ls
  intro ls hl
  refine lv_iinc (v := 2) (lv' := [(5, .int 2), (4, .int ((p1 / 10) / 10)), (0, .ref h0), (1, .int 2), (2, .int p1), (3, .int 5)]) hx hb dX5_tellSecret_40 hl (k := 1) rfl (by decide +kernel) (by decide) rfl ?_
  clear hl
  clear ls
  intro ls hl
  refine lv_goto (tgt := 8) hx hb dX5_tellSecret_43 (by decide) ?_
  refine lv_iload hx hb dX5_tellSecret_8 (lv_at hl 0 rfl) ?_
  refine lv_if_lt (tgt := 46) hx hb dX5_tellSecret_10 (by decide) (fun c9 => absurd c9 (by decide +kernel)) (fun _ => ?_)
  refine lv_aload_n hx hb dX5_tellSecret_13 rfl (lv_at hl 2 rfl) ?_
  refine gm_get (D := D) (ci := 5) (v := .ref h4) (C := RX5) (T := TX5) (N := 5) hx hb hg inlX5 hown hK.1 hP 0 rfl rfl 2 (by decide) tX5_2 (hg _ gw_140) rfl dX5_tellSecret_14 ?_
  refine lv_iload_n hx hb dX5_tellSecret_17 rfl (lv_at hl 3 rfl) ?_
  refine lv_bipush (v := 6) hx hb dX5_tellSecret_18 (by decide +kernel) ?_
  refine lv_imul hx hb dX5_tellSecret_20 ?_
  refine g_fi (v := 12) (by decide +kernel) ?_
  refine lv_iload hx hb dX5_tellSecret_21 (lv_at hl 0 rfl) ?_
  refine lv_iadd hx hb dX5_tellSecret_23 ?_
  refine g_fi (v := 14) (by decide +kernel) ?_
  refine lv_iload hx hb dX5_tellSecret_24 (lv_at hl 1 rfl) ?_
  refine lv_bipush (v := 10) hx hb dX5_tellSecret_26 (by decide +kernel) ?_
  refine lv_irem hx hb dX5_tellSecret_28 (by decide +kernel) ?_
  refine lv_i2l (v := ((((p1 / 10) / 10) - ((p1 / 10) / 10) / 10 * 10).toInt64)) hx hb dX5_tellSecret_29 rfl ?_
  refine g_av (wr := [(h0, .inr (5, [.ref h2, .ref h3, .ref h4, .ref h5, .int wp19184])), (h5, .inr (8, [.ref h10, .int wp19187])), (h10, .inl (y 1, 3, .inr (.inl (fun _ => 0)))), (h2, .inr (8, [.ref h12, .int 0]))]) (va_runV (As := [.int 14, .long ((((p1 / 10) / 10) - ((p1 / 10) / 10) / 10 * 10).toInt64)]) (rest := []) ⟨hx, hb, hml, hown, hg⟩ (k_X8_set_35 l D y aS H.size h4 ((((p1 / 10) / 10) - ((p1 / 10) / 10) / 10 * 10).toInt64) h7 wp19185 (vp_updL (vp_updL wf19186 ((16 : Int32).toNatClampNeg) ((p1 - p1 / 10 * 10).toInt64)) ((15 : Int32).toNatClampNeg) (((p1 / 10) - (p1 / 10) / 10 * 10).toInt64))) (cwV 2 hg ggV_RX5_29_X8_set rfl rfl rfl (by decide +kernel) ⟨Nat.le_of_ble_eq_true rfl, Nat.le_of_ble_eq_true rfl⟩) (g_preV (q := (RX8, TX8, 2)) hK hP hD [4, 5] rfl (by decide) (ci := 8) (q0 := 4) rfl rfl) rfl rfl hl.1 rfl (lv_room (Nat.le_of_ble_eq_true rfl)) dX5_tellSecret_30 ⟨Nat.le_of_ble_eq_true rfl, Nat.le_of_ble_eq_true rfl⟩) hP hD hS hA [4, 5] [0, 1, 2, 3] rfl rfl (by decide) (by decide) ?_
  clear hP hD hS H locs
  refine fun u H locs hq hP hD hS => ?_
  replace hP : va_P D vwCl [(h0, .inr (5, [.ref h2, .ref h3, .ref h4, .ref h5, .int wp19184])), (h5, .inr (8, [.ref h10, .int wp19187])), (h10, .inl (y 1, 3, .inr (.inl (fun _ => 0)))), (h2, .inr (8, [.ref h12, .int 0])), (h4, .inr (8, [.ref h7, .int wp19185])), (h7, .inl (y 1, 18, .inr (.inl (vp_updL (vp_updL (vp_updL wf19186 ((16 : Int32).toNatClampNeg) ((p1 - p1 / 10 * 10).toInt64)) ((15 : Int32).toNatClampNeg) (((p1 / 10) - (p1 / 10) / 10 * 10).toInt64)) ((14 : Int32).toNatClampNeg) ((((p1 / 10) / 10) - ((p1 / 10) / 10) / 10 * 10).toInt64)))))] H := hP
  replace hD : va_D A [(h0, .inr (5, [.ref h2, .ref h3, .ref h4, .ref h5, .int wp19184])), (h5, .inr (8, [.ref h10, .int wp19187])), (h10, .inl (y 1, 3, .inr (.inl (fun _ => 0)))), (h2, .inr (8, [.ref h12, .int 0])), (h4, .inr (8, [.ref h7, .int wp19185])), (h7, .inl (y 1, 18, .inr (.inl (vp_updL (vp_updL (vp_updL wf19186 ((16 : Int32).toNatClampNeg) ((p1 - p1 / 10 * 10).toInt64)) ((15 : Int32).toNatClampNeg) (((p1 / 10) - (p1 / 10) / 10 * 10).toInt64)) ((14 : Int32).toNatClampNeg) ((((p1 / 10) / 10) - ((p1 / 10) / 10) / 10 * 10).toInt64)))))] := hD
  refine lv_iload hx hb dX5_tellSecret_33 (lv_at hl 1 rfl) ?_
  refine lv_bipush (v := 10) hx hb dX5_tellSecret_35 (by decide +kernel) ?_
  refine lv_idiv hx hb dX5_tellSecret_37 (by decide +kernel) ?_
  refine lv_istore (lv' := [(4, .int (((p1 / 10) / 10) / 10)), (5, .int 2), (0, .ref h0), (1, .int 2), (2, .int p1), (3, .int 5)]) hx hb dX5_tellSecret_38 hl (by decide) rfl ?_
  clear hl
  clear ls
  intro ls hl
  refine lv_iinc (v := 1) (lv' := [(5, .int 1), (4, .int (((p1 / 10) / 10) / 10)), (0, .ref h0), (1, .int 2), (2, .int p1), (3, .int 5)]) hx hb dX5_tellSecret_40 hl (k := 1) rfl (by decide +kernel) (by decide) rfl ?_
  clear hl
  clear ls
  intro ls hl
  refine lv_goto (tgt := 8) hx hb dX5_tellSecret_43 (by decide) ?_
  refine lv_iload hx hb dX5_tellSecret_8 (lv_at hl 0 rfl) ?_
  refine lv_if_lt (tgt := 46) hx hb dX5_tellSecret_10 (by decide) (fun c9 => absurd c9 (by decide +kernel)) (fun _ => ?_)
  refine lv_aload_n hx hb dX5_tellSecret_13 rfl (lv_at hl 2 rfl) ?_
  refine gm_get (D := D) (ci := 5) (v := .ref h4) (C := RX5) (T := TX5) (N := 5) hx hb hg inlX5 hown hK.1 hP 0 rfl rfl 2 (by decide) tX5_2 (hg _ gw_140) rfl dX5_tellSecret_14 ?_
  refine lv_iload_n hx hb dX5_tellSecret_17 rfl (lv_at hl 3 rfl) ?_
  refine lv_bipush (v := 6) hx hb dX5_tellSecret_18 (by decide +kernel) ?_
  refine lv_imul hx hb dX5_tellSecret_20 ?_
  refine g_fi (v := 12) (by decide +kernel) ?_
  refine lv_iload hx hb dX5_tellSecret_21 (lv_at hl 0 rfl) ?_
  refine lv_iadd hx hb dX5_tellSecret_23 ?_
  refine g_fi (v := 13) (by decide +kernel) ?_
  refine lv_iload hx hb dX5_tellSecret_24 (lv_at hl 1 rfl) ?_
  refine lv_bipush (v := 10) hx hb dX5_tellSecret_26 (by decide +kernel) ?_
  refine lv_irem hx hb dX5_tellSecret_28 (by decide +kernel) ?_
  refine lv_i2l (v := (((((p1 / 10) / 10) / 10) - (((p1 / 10) / 10) / 10) / 10 * 10).toInt64)) hx hb dX5_tellSecret_29 rfl ?_
  refine g_av (wr := [(h0, .inr (5, [.ref h2, .ref h3, .ref h4, .ref h5, .int wp19184])), (h5, .inr (8, [.ref h10, .int wp19187])), (h10, .inl (y 1, 3, .inr (.inl (fun _ => 0)))), (h2, .inr (8, [.ref h12, .int 0]))]) (va_runV (As := [.int 13, .long (((((p1 / 10) / 10) / 10) - (((p1 / 10) / 10) / 10) / 10 * 10).toInt64)]) (rest := []) ⟨hx, hb, hml, hown, hg⟩ (k_X8_set_31 l D y aS H.size h4 (((((p1 / 10) / 10) / 10) - (((p1 / 10) / 10) / 10) / 10 * 10).toInt64) h7 wp19185 (vp_updL (vp_updL (vp_updL wf19186 ((16 : Int32).toNatClampNeg) ((p1 - p1 / 10 * 10).toInt64)) ((15 : Int32).toNatClampNeg) (((p1 / 10) - (p1 / 10) / 10 * 10).toInt64)) ((14 : Int32).toNatClampNeg) ((((p1 / 10) / 10) - ((p1 / 10) / 10) / 10 * 10).toInt64))) (cwV 2 hg ggV_RX5_29_X8_set rfl rfl rfl (by decide +kernel) ⟨Nat.le_of_ble_eq_true rfl, Nat.le_of_ble_eq_true rfl⟩) (g_preV (q := (RX8, TX8, 2)) hK hP hD [4, 5] rfl (by decide) (ci := 8) (q0 := 4) rfl rfl) rfl rfl hl.1 rfl (lv_room (Nat.le_of_ble_eq_true rfl)) dX5_tellSecret_30 ⟨Nat.le_of_ble_eq_true rfl, Nat.le_of_ble_eq_true rfl⟩) hP hD hS hA [4, 5] [0, 1, 2, 3] rfl rfl (by decide) (by decide) ?_
  clear hP hD hS H locs
  refine fun u H locs hq hP hD hS => ?_
  replace hP : va_P D vwCl [(h0, .inr (5, [.ref h2, .ref h3, .ref h4, .ref h5, .int wp19184])), (h5, .inr (8, [.ref h10, .int wp19187])), (h10, .inl (y 1, 3, .inr (.inl (fun _ => 0)))), (h2, .inr (8, [.ref h12, .int 0])), (h4, .inr (8, [.ref h7, .int wp19185])), (h7, .inl (y 1, 18, .inr (.inl (vp_updL (vp_updL (vp_updL (vp_updL wf19186 ((16 : Int32).toNatClampNeg) ((p1 - p1 / 10 * 10).toInt64)) ((15 : Int32).toNatClampNeg) (((p1 / 10) - (p1 / 10) / 10 * 10).toInt64)) ((14 : Int32).toNatClampNeg) ((((p1 / 10) / 10) - ((p1 / 10) / 10) / 10 * 10).toInt64)) ((13 : Int32).toNatClampNeg) (((((p1 / 10) / 10) / 10) - (((p1 / 10) / 10) / 10) / 10 * 10).toInt64)))))] H := hP
  replace hD : va_D A [(h0, .inr (5, [.ref h2, .ref h3, .ref h4, .ref h5, .int wp19184])), (h5, .inr (8, [.ref h10, .int wp19187])), (h10, .inl (y 1, 3, .inr (.inl (fun _ => 0)))), (h2, .inr (8, [.ref h12, .int 0])), (h4, .inr (8, [.ref h7, .int wp19185])), (h7, .inl (y 1, 18, .inr (.inl (vp_updL (vp_updL (vp_updL (vp_updL wf19186 ((16 : Int32).toNatClampNeg) ((p1 - p1 / 10 * 10).toInt64)) ((15 : Int32).toNatClampNeg) (((p1 / 10) - (p1 / 10) / 10 * 10).toInt64)) ((14 : Int32).toNatClampNeg) ((((p1 / 10) / 10) - ((p1 / 10) / 10) / 10 * 10).toInt64)) ((13 : Int32).toNatClampNeg) (((((p1 / 10) / 10) / 10) - (((p1 / 10) / 10) / 10) / 10 * 10).toInt64)))))] := hD
  refine lv_iload hx hb dX5_tellSecret_33 (lv_at hl 1 rfl) ?_
  refine lv_bipush (v := 10) hx hb dX5_tellSecret_35 (by decide +kernel) ?_
  refine lv_idiv hx hb dX5_tellSecret_37 (by decide +kernel) ?_
  refine lv_istore (lv' := [(4, .int ((((p1 / 10) / 10) / 10) / 10)), (5, .int 1), (0, .ref h0), (1, .int 2), (2, .int p1), (3, .int 5)]) hx hb dX5_tellSecret_38 hl (by decide) rfl ?_
  clear hl
  clear ls
  intro ls hl
  refine lv_iinc (v := 0) (lv' := [(5, .int 0), (4, .int ((((p1 / 10) / 10) / 10) / 10)), (0, .ref h0), (1, .int 2), (2, .int p1), (3, .int 5)]) hx hb dX5_tellSecret_40 hl (k := 1) rfl (by decide +kernel) (by decide) rfl ?_
  clear hl
  clear ls
  intro ls hl
  refine lv_goto (tgt := 8) hx hb dX5_tellSecret_43 (by decide) ?_
  refine lv_iload hx hb dX5_tellSecret_8 (lv_at hl 0 rfl) ?_
  refine lv_if_lt (tgt := 46) hx hb dX5_tellSecret_10 (by decide) (fun c9 => absurd c9 (by decide +kernel)) (fun _ => ?_)
  refine lv_aload_n hx hb dX5_tellSecret_13 rfl (lv_at hl 2 rfl) ?_
  refine gm_get (D := D) (ci := 5) (v := .ref h4) (C := RX5) (T := TX5) (N := 5) hx hb hg inlX5 hown hK.1 hP 0 rfl rfl 2 (by decide) tX5_2 (hg _ gw_140) rfl dX5_tellSecret_14 ?_
  refine lv_iload_n hx hb dX5_tellSecret_17 rfl (lv_at hl 3 rfl) ?_
  refine lv_bipush (v := 6) hx hb dX5_tellSecret_18 (by decide +kernel) ?_
  refine lv_imul hx hb dX5_tellSecret_20 ?_
  refine g_fi (v := 12) (by decide +kernel) ?_
  refine lv_iload hx hb dX5_tellSecret_21 (lv_at hl 0 rfl) ?_
  refine lv_iadd hx hb dX5_tellSecret_23 ?_
  refine g_fi (v := 12) (by decide +kernel) ?_
  refine lv_iload hx hb dX5_tellSecret_24 (lv_at hl 1 rfl) ?_
  refine lv_bipush (v := 10) hx hb dX5_tellSecret_26 (by decide +kernel) ?_
  refine lv_irem hx hb dX5_tellSecret_28 (by decide +kernel) ?_
  refine lv_i2l (v := ((((((p1 / 10) / 10) / 10) / 10) - ((((p1 / 10) / 10) / 10) / 10) / 10 * 10).toInt64)) hx hb dX5_tellSecret_29 rfl ?_
  refine g_av (wr := [(h0, .inr (5, [.ref h2, .ref h3, .ref h4, .ref h5, .int wp19184])), (h5, .inr (8, [.ref h10, .int wp19187])), (h10, .inl (y 1, 3, .inr (.inl (fun _ => 0)))), (h2, .inr (8, [.ref h12, .int 0]))]) (va_runV (As := [.int 12, .long ((((((p1 / 10) / 10) / 10) / 10) - ((((p1 / 10) / 10) / 10) / 10) / 10 * 10).toInt64)]) (rest := []) ⟨hx, hb, hml, hown, hg⟩ (k_X8_set_32 l D y aS H.size h4 ((((((p1 / 10) / 10) / 10) / 10) - ((((p1 / 10) / 10) / 10) / 10) / 10 * 10).toInt64) h7 wp19185 (vp_updL (vp_updL (vp_updL (vp_updL wf19186 ((16 : Int32).toNatClampNeg) ((p1 - p1 / 10 * 10).toInt64)) ((15 : Int32).toNatClampNeg) (((p1 / 10) - (p1 / 10) / 10 * 10).toInt64)) ((14 : Int32).toNatClampNeg) ((((p1 / 10) / 10) - ((p1 / 10) / 10) / 10 * 10).toInt64)) ((13 : Int32).toNatClampNeg) (((((p1 / 10) / 10) / 10) - (((p1 / 10) / 10) / 10) / 10 * 10).toInt64))) (cwV 2 hg ggV_RX5_29_X8_set rfl rfl rfl (by decide +kernel) ⟨Nat.le_of_ble_eq_true rfl, Nat.le_of_ble_eq_true rfl⟩) (g_preV (q := (RX8, TX8, 2)) hK hP hD [4, 5] rfl (by decide) (ci := 8) (q0 := 4) rfl rfl) rfl rfl hl.1 rfl (lv_room (Nat.le_of_ble_eq_true rfl)) dX5_tellSecret_30 ⟨Nat.le_of_ble_eq_true rfl, Nat.le_of_ble_eq_true rfl⟩) hP hD hS hA [4, 5] [0, 1, 2, 3] rfl rfl (by decide) (by decide) ?_
  clear hP hD hS H locs
  refine fun u H locs hq hP hD hS => ?_
  replace hP : va_P D vwCl [(h0, .inr (5, [.ref h2, .ref h3, .ref h4, .ref h5, .int wp19184])), (h5, .inr (8, [.ref h10, .int wp19187])), (h10, .inl (y 1, 3, .inr (.inl (fun _ => 0)))), (h2, .inr (8, [.ref h12, .int 0])), (h4, .inr (8, [.ref h7, .int wp19185])), (h7, .inl (y 1, 18, .inr (.inl (vp_updL (vp_updL (vp_updL (vp_updL (vp_updL wf19186 ((16 : Int32).toNatClampNeg) ((p1 - p1 / 10 * 10).toInt64)) ((15 : Int32).toNatClampNeg) (((p1 / 10) - (p1 / 10) / 10 * 10).toInt64)) ((14 : Int32).toNatClampNeg) ((((p1 / 10) / 10) - ((p1 / 10) / 10) / 10 * 10).toInt64)) ((13 : Int32).toNatClampNeg) (((((p1 / 10) / 10) / 10) - (((p1 / 10) / 10) / 10) / 10 * 10).toInt64)) ((12 : Int32).toNatClampNeg) ((((((p1 / 10) / 10) / 10) / 10) - ((((p1 / 10) / 10) / 10) / 10) / 10 * 10).toInt64)))))] H := hP
  replace hD : va_D A [(h0, .inr (5, [.ref h2, .ref h3, .ref h4, .ref h5, .int wp19184])), (h5, .inr (8, [.ref h10, .int wp19187])), (h10, .inl (y 1, 3, .inr (.inl (fun _ => 0)))), (h2, .inr (8, [.ref h12, .int 0])), (h4, .inr (8, [.ref h7, .int wp19185])), (h7, .inl (y 1, 18, .inr (.inl (vp_updL (vp_updL (vp_updL (vp_updL (vp_updL wf19186 ((16 : Int32).toNatClampNeg) ((p1 - p1 / 10 * 10).toInt64)) ((15 : Int32).toNatClampNeg) (((p1 / 10) - (p1 / 10) / 10 * 10).toInt64)) ((14 : Int32).toNatClampNeg) ((((p1 / 10) / 10) - ((p1 / 10) / 10) / 10 * 10).toInt64)) ((13 : Int32).toNatClampNeg) (((((p1 / 10) / 10) / 10) - (((p1 / 10) / 10) / 10) / 10 * 10).toInt64)) ((12 : Int32).toNatClampNeg) ((((((p1 / 10) / 10) / 10) / 10) - ((((p1 / 10) / 10) / 10) / 10) / 10 * 10).toInt64)))))] := hD
  refine lv_iload hx hb dX5_tellSecret_33 (lv_at hl 1 rfl) ?_
  refine lv_bipush (v := 10) hx hb dX5_tellSecret_35 (by decide +kernel) ?_
  refine lv_idiv hx hb dX5_tellSecret_37 (by decide +kernel) ?_
  refine lv_istore (lv' := [(4, .int (((((p1 / 10) / 10) / 10) / 10) / 10)), (5, .int 0), (0, .ref h0), (1, .int 2), (2, .int p1), (3, .int 5)]) hx hb dX5_tellSecret_38 hl (by decide) rfl ?_
  clear hl
  clear ls
  intro ls hl
  refine lv_iinc (v := (-1)) (lv' := [(5, .int (-1)), (4, .int (((((p1 / 10) / 10) / 10) / 10) / 10)), (0, .ref h0), (1, .int 2), (2, .int p1), (3, .int 5)]) hx hb dX5_tellSecret_40 hl (k := 1) rfl (by decide +kernel) (by decide) rfl ?_
  clear hl
  clear ls
  intro ls hl
  refine lv_goto (tgt := 8) hx hb dX5_tellSecret_43 (by decide) ?_
  refine lv_iload hx hb dX5_tellSecret_8 (lv_at hl 0 rfl) ?_
  refine lv_if_lt (tgt := 46) hx hb dX5_tellSecret_10 (by decide) (fun _ => ?_) (fun c9 => absurd c9 (by decide +kernel))
  refine lv_aload_n hx hb dX5_tellSecret_46 rfl (lv_at hl 2 rfl) ?_
  refine gm_get (D := D) (ci := 5) (v := .ref h5) (C := RX5) (T := TX5) (N := 5) hx hb hg inlX5 hown hK.1 hP 0 rfl rfl 3 (by decide) tX5_3 (hg _ gw_141) rfl dX5_tellSecret_47 ?_
  refine lv_iload_n hx hb dX5_tellSecret_50 rfl (lv_at hl 3 rfl) ?_
  refine lv_iload_n hx hb dX5_tellSecret_51 rfl (lv_at hl 5 rfl) ?_
  refine lv_i2l (v := 5) hx hb dX5_tellSecret_52 (by decide +kernel) ?_
  refine g_av (wr := [(h0, .inr (5, [.ref h2, .ref h3, .ref h4, .ref h5, .int wp19184])), (h2, .inr (8, [.ref h12, .int 0])), (h4, .inr (8, [.ref h7, .int wp19185])), (h7, .inl (y 1, 18, .inr (.inl (vp_updL (vp_updL (vp_updL (vp_updL (vp_updL wf19186 ((16 : Int32).toNatClampNeg) ((p1 - p1 / 10 * 10).toInt64)) ((15 : Int32).toNatClampNeg) (((p1 / 10) - (p1 / 10) / 10 * 10).toInt64)) ((14 : Int32).toNatClampNeg) ((((p1 / 10) / 10) - ((p1 / 10) / 10) / 10 * 10).toInt64)) ((13 : Int32).toNatClampNeg) (((((p1 / 10) / 10) / 10) - (((p1 / 10) / 10) / 10) / 10 * 10).toInt64)) ((12 : Int32).toNatClampNeg) ((((((p1 / 10) / 10) / 10) / 10) - ((((p1 / 10) / 10) / 10) / 10) / 10 * 10).toInt64)))))]) (va_runV (As := [.int 2, .long 5]) (rest := []) ⟨hx, hb, hml, hown, hg⟩ (k_X8_set_26 l D y aS H.size h5 5 h10 wp19187 (fun _ => 0)) (cwV 2 hg ggV_RX5_29_X8_set rfl rfl rfl (by decide +kernel) ⟨Nat.le_of_ble_eq_true rfl, Nat.le_of_ble_eq_true rfl⟩) (g_preV (q := (RX8, TX8, 2)) hK hP hD [1, 2] rfl (by decide) (ci := 8) (q0 := 1) rfl rfl) rfl rfl hl.1 rfl (lv_room (Nat.le_of_ble_eq_true rfl)) dX5_tellSecret_53 ⟨Nat.le_of_ble_eq_true rfl, Nat.le_of_ble_eq_true rfl⟩) hP hD hS hA [1, 2] [0, 3, 4, 5] rfl rfl (by decide) (by decide) ?_
  clear hP hD hS H locs
  refine fun u H locs hq hP hD hS => ?_
  replace hP : va_P D vwCl [(h0, .inr (5, [.ref h2, .ref h3, .ref h4, .ref h5, .int wp19184])), (h2, .inr (8, [.ref h12, .int 0])), (h4, .inr (8, [.ref h7, .int wp19185])), (h7, .inl (y 1, 18, .inr (.inl (vp_updL (vp_updL (vp_updL (vp_updL (vp_updL wf19186 ((16 : Int32).toNatClampNeg) ((p1 - p1 / 10 * 10).toInt64)) ((15 : Int32).toNatClampNeg) (((p1 / 10) - (p1 / 10) / 10 * 10).toInt64)) ((14 : Int32).toNatClampNeg) ((((p1 / 10) / 10) - ((p1 / 10) / 10) / 10 * 10).toInt64)) ((13 : Int32).toNatClampNeg) (((((p1 / 10) / 10) / 10) - (((p1 / 10) / 10) / 10) / 10 * 10).toInt64)) ((12 : Int32).toNatClampNeg) ((((((p1 / 10) / 10) / 10) / 10) - ((((p1 / 10) / 10) / 10) / 10) / 10 * 10).toInt64))))), (h5, .inr (8, [.ref h10, .int wp19187])), (h10, .inl (y 1, 3, .inr (.inl (vp_updL (fun _ => 0) ((2 : Int32).toNatClampNeg) 5))))] H := hP
  replace hD : va_D A [(h0, .inr (5, [.ref h2, .ref h3, .ref h4, .ref h5, .int wp19184])), (h2, .inr (8, [.ref h12, .int 0])), (h4, .inr (8, [.ref h7, .int wp19185])), (h7, .inl (y 1, 18, .inr (.inl (vp_updL (vp_updL (vp_updL (vp_updL (vp_updL wf19186 ((16 : Int32).toNatClampNeg) ((p1 - p1 / 10 * 10).toInt64)) ((15 : Int32).toNatClampNeg) (((p1 / 10) - (p1 / 10) / 10 * 10).toInt64)) ((14 : Int32).toNatClampNeg) ((((p1 / 10) / 10) - ((p1 / 10) / 10) / 10 * 10).toInt64)) ((13 : Int32).toNatClampNeg) (((((p1 / 10) / 10) / 10) - (((p1 / 10) / 10) / 10) / 10 * 10).toInt64)) ((12 : Int32).toNatClampNeg) ((((((p1 / 10) / 10) / 10) / 10) - ((((p1 / 10) / 10) / 10) / 10) / 10 * 10).toInt64))))), (h5, .inr (8, [.ref h10, .int wp19187])), (h10, .inl (y 1, 3, .inr (.inl (vp_updL (fun _ => 0) ((2 : Int32).toNatClampNeg) 5))))] := hD
  refine lv_aload_n hx hb dX5_tellSecret_56 rfl (lv_at hl 2 rfl) ?_
  refine g_av (wr := [(h4, .inr (8, [.ref h7, .int wp19185])), (h7, .inl (y 1, 18, .inr (.inl (vp_updL (vp_updL (vp_updL (vp_updL (vp_updL wf19186 ((16 : Int32).toNatClampNeg) ((p1 - p1 / 10 * 10).toInt64)) ((15 : Int32).toNatClampNeg) (((p1 / 10) - (p1 / 10) / 10 * 10).toInt64)) ((14 : Int32).toNatClampNeg) ((((p1 / 10) / 10) - ((p1 / 10) / 10) / 10 * 10).toInt64)) ((13 : Int32).toNatClampNeg) (((((p1 / 10) / 10) / 10) - (((p1 / 10) / 10) / 10) / 10 * 10).toInt64)) ((12 : Int32).toNatClampNeg) ((((((p1 / 10) / 10) / 10) / 10) - ((((p1 / 10) / 10) / 10) / 10) / 10 * 10).toInt64))))), (h5, .inr (8, [.ref h10, .int wp19187])), (h10, .inl (y 1, 3, .inr (.inl (vp_updL (fun _ => 0) ((2 : Int32).toNatClampNeg) 5))))]) (va_runV (As := []) (rest := []) ⟨hx, hb, hml, hown, hg⟩ (k_X5_findOut_0 l D y aS H.size h0 h2 h3 h4 h5 wp19184 h12) (cwV 0 hg ggV_RX5_33_X5_findOut rfl rfl rfl (by decide +kernel) ⟨Nat.le_of_ble_eq_true rfl, Nat.le_of_ble_eq_true rfl⟩) (g_preV (q := (RX5, TX5, 5)) hK hP hD [0, 1] rfl (by decide) (ci := 5) (q0 := 0) rfl rfl) rfl rfl hl.1 rfl (lv_room (Nat.le_of_ble_eq_true rfl)) dX5_tellSecret_57 ⟨Nat.le_of_ble_eq_true rfl, Nat.le_of_ble_eq_true rfl⟩) hP hD hS hA [0, 1] [2, 3, 4, 5] rfl rfl (by decide) (by decide) ?_
  clear hP hD hS H locs
  refine fun u H locs hq hP hD hS => ?_
  replace hP : va_P D vwCl [(h4, .inr (8, [.ref h7, .int wp19185])), (h7, .inl (y 1, 18, .inr (.inl (vp_updL (vp_updL (vp_updL (vp_updL (vp_updL wf19186 ((16 : Int32).toNatClampNeg) ((p1 - p1 / 10 * 10).toInt64)) ((15 : Int32).toNatClampNeg) (((p1 / 10) - (p1 / 10) / 10 * 10).toInt64)) ((14 : Int32).toNatClampNeg) ((((p1 / 10) / 10) - ((p1 / 10) / 10) / 10 * 10).toInt64)) ((13 : Int32).toNatClampNeg) (((((p1 / 10) / 10) / 10) - (((p1 / 10) / 10) / 10) / 10 * 10).toInt64)) ((12 : Int32).toNatClampNeg) ((((((p1 / 10) / 10) / 10) / 10) - ((((p1 / 10) / 10) / 10) / 10) / 10 * 10).toInt64))))), (h5, .inr (8, [.ref h10, .int wp19187])), (h10, .inl (y 1, 3, .inr (.inl (vp_updL (fun _ => 0) ((2 : Int32).toNatClampNeg) 5)))), (h0, .inr (5, [.ref h2, .ref h3, .ref h4, .ref h5, .int 0])), (h2, .inr (8, [.ref h12, .int 0]))] H := hP
  replace hD : va_D A [(h4, .inr (8, [.ref h7, .int wp19185])), (h7, .inl (y 1, 18, .inr (.inl (vp_updL (vp_updL (vp_updL (vp_updL (vp_updL wf19186 ((16 : Int32).toNatClampNeg) ((p1 - p1 / 10 * 10).toInt64)) ((15 : Int32).toNatClampNeg) (((p1 / 10) - (p1 / 10) / 10 * 10).toInt64)) ((14 : Int32).toNatClampNeg) ((((p1 / 10) / 10) - ((p1 / 10) / 10) / 10 * 10).toInt64)) ((13 : Int32).toNatClampNeg) (((((p1 / 10) / 10) / 10) - (((p1 / 10) / 10) / 10) / 10 * 10).toInt64)) ((12 : Int32).toNatClampNeg) ((((((p1 / 10) / 10) / 10) / 10) - ((((p1 / 10) / 10) / 10) / 10) / 10 * 10).toInt64))))), (h5, .inr (8, [.ref h10, .int wp19187])), (h10, .inl (y 1, 3, .inr (.inl (vp_updL (fun _ => 0) ((2 : Int32).toNatClampNeg) 5)))), (h0, .inr (5, [.ref h2, .ref h3, .ref h4, .ref h5, .int 0])), (h2, .inr (8, [.ref h12, .int 0]))] := hD
  refine lv_iconst (v := 0) hx hb dX5_tellSecret_60 (by decide) ?_
  refine lv_istore (lv' := [(5, .int 0), (4, .int (((((p1 / 10) / 10) / 10) / 10) / 10)), (0, .ref h0), (1, .int 2), (2, .int p1), (3, .int 5)]) hx hb dX5_tellSecret_61 hl (by decide) rfl ?_
  clear hl
  clear ls
  intro ls hl
  refine lv_iconst (v := 0) hx hb dX5_tellSecret_63 (by decide) ?_
  refine lv_istore (lv' := [(6, .int 0), (5, .int 0), (4, .int (((((p1 / 10) / 10) / 10) / 10) / 10)), (0, .ref h0), (1, .int 2), (2, .int p1), (3, .int 5)]) hx hb dX5_tellSecret_64 hl (by decide) rfl ?_
  clear hl
  clear ls
  intro ls hl
  refine lv_iload hx hb dX5_tellSecret_66 (lv_at hl 0 rfl) ?_
  refine lv_iconst (v := 3) hx hb dX5_tellSecret_68 (by decide) ?_
  refine lv_icmp_ge (tgt := 95) hx hb dX5_tellSecret_69 (by decide) (fun c9 => absurd c9 (by decide +kernel)) (fun _ => ?_)
  refine lv_aload_n hx hb dX5_tellSecret_72 rfl (lv_at hl 3 rfl) ?_
  refine gm_get (D := D) (ci := 5) (v := .ref h5) (C := RX5) (T := TX5) (N := 5) hx hb hg inlX5 hown hK.1 hP 4 rfl rfl 3 (by decide) tX5_3 (hg _ gw_141) rfl dX5_tellSecret_73 ?_
  refine lv_iload hx hb dX5_tellSecret_76 (lv_at hl 0 rfl) ?_
  refine g_al (wr := [(h4, .inr (8, [.ref h7, .int wp19185])), (h7, .inl (y 1, 18, .inr (.inl (vp_updL (vp_updL (vp_updL (vp_updL (vp_updL wf19186 ((16 : Int32).toNatClampNeg) ((p1 - p1 / 10 * 10).toInt64)) ((15 : Int32).toNatClampNeg) (((p1 / 10) - (p1 / 10) / 10 * 10).toInt64)) ((14 : Int32).toNatClampNeg) ((((p1 / 10) / 10) - ((p1 / 10) / 10) / 10 * 10).toInt64)) ((13 : Int32).toNatClampNeg) (((((p1 / 10) / 10) / 10) - (((p1 / 10) / 10) / 10) / 10 * 10).toInt64)) ((12 : Int32).toNatClampNeg) ((((((p1 / 10) / 10) / 10) / 10) - ((((p1 / 10) / 10) / 10) / 10) / 10 * 10).toInt64))))), (h0, .inr (5, [.ref h2, .ref h3, .ref h4, .ref h5, .int 0])), (h2, .inr (8, [.ref h12, .int 0]))]) (va_runV (As := [.int 0]) (rest := []) ⟨hx, hb, hml, hown, hg⟩ (k_X8_get_35 l D y aS H.size h5 h10 wp19187) (cwV 1 hg ggV_RX5_36_X8_get rfl rfl rfl (by decide +kernel) ⟨Nat.le_of_ble_eq_true rfl, Nat.le_of_ble_eq_true rfl⟩) (g_preV (q := (RX8, TX8, 2)) hK hP hD [2, 3] rfl (by decide) (ci := 8) (q0 := 2) rfl rfl) rfl rfl hl.1 rfl (lv_room (Nat.le_of_ble_eq_true rfl)) dX5_tellSecret_78 ⟨Nat.le_of_ble_eq_true rfl, Nat.le_of_ble_eq_true rfl⟩) hP hD hS hA [2, 3] [0, 1, 4, 5] rfl rfl (by decide) (by decide) ?_
  clear hP hD hS H locs
  refine fun r19195 u H locs hq hP hD hS => ?_
  subst hq
  replace hP : va_P D vwCl [(h4, .inr (8, [.ref h7, .int wp19185])), (h7, .inl (y 1, 18, .inr (.inl (vp_updL (vp_updL (vp_updL (vp_updL (vp_updL wf19186 ((16 : Int32).toNatClampNeg) ((p1 - p1 / 10 * 10).toInt64)) ((15 : Int32).toNatClampNeg) (((p1 / 10) - (p1 / 10) / 10 * 10).toInt64)) ((14 : Int32).toNatClampNeg) ((((p1 / 10) / 10) - ((p1 / 10) / 10) / 10 * 10).toInt64)) ((13 : Int32).toNatClampNeg) (((((p1 / 10) / 10) / 10) - (((p1 / 10) / 10) / 10) / 10 * 10).toInt64)) ((12 : Int32).toNatClampNeg) ((((((p1 / 10) / 10) / 10) / 10) - ((((p1 / 10) / 10) / 10) / 10) / 10 * 10).toInt64))))), (h0, .inr (5, [.ref h2, .ref h3, .ref h4, .ref h5, .int 0])), (h2, .inr (8, [.ref h12, .int 0])), (h5, .inr (8, [.ref h10, .int wp19187])), (h10, .inl (y 1, 3, .inr (.inl (vp_updL (fun _ => 0) ((2 : Int32).toNatClampNeg) 5))))] H := hP
  replace hD : va_D A [(h4, .inr (8, [.ref h7, .int wp19185])), (h7, .inl (y 1, 18, .inr (.inl (vp_updL (vp_updL (vp_updL (vp_updL (vp_updL wf19186 ((16 : Int32).toNatClampNeg) ((p1 - p1 / 10 * 10).toInt64)) ((15 : Int32).toNatClampNeg) (((p1 / 10) - (p1 / 10) / 10 * 10).toInt64)) ((14 : Int32).toNatClampNeg) ((((p1 / 10) / 10) - ((p1 / 10) / 10) / 10 * 10).toInt64)) ((13 : Int32).toNatClampNeg) (((((p1 / 10) / 10) / 10) - (((p1 / 10) / 10) / 10) / 10 * 10).toInt64)) ((12 : Int32).toNatClampNeg) ((((((p1 / 10) / 10) / 10) / 10) - ((((p1 / 10) / 10) / 10) / 10) / 10 * 10).toInt64))))), (h0, .inr (5, [.ref h2, .ref h3, .ref h4, .ref h5, .int 0])), (h2, .inr (8, [.ref h12, .int 0])), (h5, .inr (8, [.ref h10, .int wp19187])), (h10, .inl (y 1, 3, .inr (.inl (vp_updL (fun _ => 0) ((2 : Int32).toNatClampNeg) 5))))] := hD
  refine lv_lconst (v := 0) hx hb dX5_tellSecret_81 (by decide) ?_
  refine W.lcmp hx hb dX5_tellSecret_82 ?_
  refine g_fi (v := 0) (by decide +kernel) ?_
  refine lv_if_le (tgt := 89) hx hb dX5_tellSecret_83 (by decide) (fun _ => ?_) (fun c9 => absurd c9 (by decide +kernel))
  refine lv_iinc (v := 1) (lv' := [(6, .int 1), (5, .int 0), (4, .int (((((p1 / 10) / 10) / 10) / 10) / 10)), (0, .ref h0), (1, .int 2), (2, .int p1), (3, .int 5)]) hx hb dX5_tellSecret_89 hl (k := 0) rfl (by decide +kernel) (by decide) rfl ?_
  clear hl
  clear ls
  intro ls hl
  refine lv_goto (tgt := 66) hx hb dX5_tellSecret_92 (by decide) ?_
  refine lv_iload hx hb dX5_tellSecret_66 (lv_at hl 0 rfl) ?_
  refine lv_iconst (v := 3) hx hb dX5_tellSecret_68 (by decide) ?_
  refine lv_icmp_ge (tgt := 95) hx hb dX5_tellSecret_69 (by decide) (fun c9 => absurd c9 (by decide +kernel)) (fun _ => ?_)
  refine lv_aload_n hx hb dX5_tellSecret_72 rfl (lv_at hl 3 rfl) ?_
  refine gm_get (D := D) (ci := 5) (v := .ref h5) (C := RX5) (T := TX5) (N := 5) hx hb hg inlX5 hown hK.1 hP 2 rfl rfl 3 (by decide) tX5_3 (hg _ gw_141) rfl dX5_tellSecret_73 ?_
  refine lv_iload hx hb dX5_tellSecret_76 (lv_at hl 0 rfl) ?_
  refine g_al (wr := [(h4, .inr (8, [.ref h7, .int wp19185])), (h7, .inl (y 1, 18, .inr (.inl (vp_updL (vp_updL (vp_updL (vp_updL (vp_updL wf19186 ((16 : Int32).toNatClampNeg) ((p1 - p1 / 10 * 10).toInt64)) ((15 : Int32).toNatClampNeg) (((p1 / 10) - (p1 / 10) / 10 * 10).toInt64)) ((14 : Int32).toNatClampNeg) ((((p1 / 10) / 10) - ((p1 / 10) / 10) / 10 * 10).toInt64)) ((13 : Int32).toNatClampNeg) (((((p1 / 10) / 10) / 10) - (((p1 / 10) / 10) / 10) / 10 * 10).toInt64)) ((12 : Int32).toNatClampNeg) ((((((p1 / 10) / 10) / 10) / 10) - ((((p1 / 10) / 10) / 10) / 10) / 10 * 10).toInt64))))), (h0, .inr (5, [.ref h2, .ref h3, .ref h4, .ref h5, .int 0])), (h2, .inr (8, [.ref h12, .int 0]))]) (va_runV (As := [.int 1]) (rest := []) ⟨hx, hb, hml, hown, hg⟩ (k_X8_get_36 l D y aS H.size h5 h10 wp19187) (cwV 1 hg ggV_RX5_36_X8_get rfl rfl rfl (by decide +kernel) ⟨Nat.le_of_ble_eq_true rfl, Nat.le_of_ble_eq_true rfl⟩) (g_preV (q := (RX8, TX8, 2)) hK hP hD [4, 5] rfl (by decide) (ci := 8) (q0 := 4) rfl rfl) rfl rfl hl.1 rfl (lv_room (Nat.le_of_ble_eq_true rfl)) dX5_tellSecret_78 ⟨Nat.le_of_ble_eq_true rfl, Nat.le_of_ble_eq_true rfl⟩) hP hD hS hA [4, 5] [0, 1, 2, 3] rfl rfl (by decide) (by decide) ?_
  clear hP hD hS H locs
  refine fun r19196 u H locs hq hP hD hS => ?_
  subst hq
  replace hP : va_P D vwCl [(h4, .inr (8, [.ref h7, .int wp19185])), (h7, .inl (y 1, 18, .inr (.inl (vp_updL (vp_updL (vp_updL (vp_updL (vp_updL wf19186 ((16 : Int32).toNatClampNeg) ((p1 - p1 / 10 * 10).toInt64)) ((15 : Int32).toNatClampNeg) (((p1 / 10) - (p1 / 10) / 10 * 10).toInt64)) ((14 : Int32).toNatClampNeg) ((((p1 / 10) / 10) - ((p1 / 10) / 10) / 10 * 10).toInt64)) ((13 : Int32).toNatClampNeg) (((((p1 / 10) / 10) / 10) - (((p1 / 10) / 10) / 10) / 10 * 10).toInt64)) ((12 : Int32).toNatClampNeg) ((((((p1 / 10) / 10) / 10) / 10) - ((((p1 / 10) / 10) / 10) / 10) / 10 * 10).toInt64))))), (h0, .inr (5, [.ref h2, .ref h3, .ref h4, .ref h5, .int 0])), (h2, .inr (8, [.ref h12, .int 0])), (h5, .inr (8, [.ref h10, .int wp19187])), (h10, .inl (y 1, 3, .inr (.inl (vp_updL (fun _ => 0) ((2 : Int32).toNatClampNeg) 5))))] H := hP
  replace hD : va_D A [(h4, .inr (8, [.ref h7, .int wp19185])), (h7, .inl (y 1, 18, .inr (.inl (vp_updL (vp_updL (vp_updL (vp_updL (vp_updL wf19186 ((16 : Int32).toNatClampNeg) ((p1 - p1 / 10 * 10).toInt64)) ((15 : Int32).toNatClampNeg) (((p1 / 10) - (p1 / 10) / 10 * 10).toInt64)) ((14 : Int32).toNatClampNeg) ((((p1 / 10) / 10) - ((p1 / 10) / 10) / 10 * 10).toInt64)) ((13 : Int32).toNatClampNeg) (((((p1 / 10) / 10) / 10) - (((p1 / 10) / 10) / 10) / 10 * 10).toInt64)) ((12 : Int32).toNatClampNeg) ((((((p1 / 10) / 10) / 10) / 10) - ((((p1 / 10) / 10) / 10) / 10) / 10 * 10).toInt64))))), (h0, .inr (5, [.ref h2, .ref h3, .ref h4, .ref h5, .int 0])), (h2, .inr (8, [.ref h12, .int 0])), (h5, .inr (8, [.ref h10, .int wp19187])), (h10, .inl (y 1, 3, .inr (.inl (vp_updL (fun _ => 0) ((2 : Int32).toNatClampNeg) 5))))] := hD
  refine lv_lconst (v := 0) hx hb dX5_tellSecret_81 (by decide) ?_
  refine W.lcmp hx hb dX5_tellSecret_82 ?_
  refine g_fi (v := 0) (by decide +kernel) ?_
  refine lv_if_le (tgt := 89) hx hb dX5_tellSecret_83 (by decide) (fun _ => ?_) (fun c9 => absurd c9 (by decide +kernel))
  refine lv_iinc (v := 2) (lv' := [(6, .int 2), (5, .int 0), (4, .int (((((p1 / 10) / 10) / 10) / 10) / 10)), (0, .ref h0), (1, .int 2), (2, .int p1), (3, .int 5)]) hx hb dX5_tellSecret_89 hl (k := 0) rfl (by decide +kernel) (by decide) rfl ?_
  clear hl
  clear ls
  intro ls hl
  refine lv_goto (tgt := 66) hx hb dX5_tellSecret_92 (by decide) ?_
  refine lv_iload hx hb dX5_tellSecret_66 (lv_at hl 0 rfl) ?_
  refine lv_iconst (v := 3) hx hb dX5_tellSecret_68 (by decide) ?_
  refine lv_icmp_ge (tgt := 95) hx hb dX5_tellSecret_69 (by decide) (fun c9 => absurd c9 (by decide +kernel)) (fun _ => ?_)
  refine lv_aload_n hx hb dX5_tellSecret_72 rfl (lv_at hl 3 rfl) ?_
  refine gm_get (D := D) (ci := 5) (v := .ref h5) (C := RX5) (T := TX5) (N := 5) hx hb hg inlX5 hown hK.1 hP 2 rfl rfl 3 (by decide) tX5_3 (hg _ gw_141) rfl dX5_tellSecret_73 ?_
  refine lv_iload hx hb dX5_tellSecret_76 (lv_at hl 0 rfl) ?_
  refine g_al (wr := [(h4, .inr (8, [.ref h7, .int wp19185])), (h7, .inl (y 1, 18, .inr (.inl (vp_updL (vp_updL (vp_updL (vp_updL (vp_updL wf19186 ((16 : Int32).toNatClampNeg) ((p1 - p1 / 10 * 10).toInt64)) ((15 : Int32).toNatClampNeg) (((p1 / 10) - (p1 / 10) / 10 * 10).toInt64)) ((14 : Int32).toNatClampNeg) ((((p1 / 10) / 10) - ((p1 / 10) / 10) / 10 * 10).toInt64)) ((13 : Int32).toNatClampNeg) (((((p1 / 10) / 10) / 10) - (((p1 / 10) / 10) / 10) / 10 * 10).toInt64)) ((12 : Int32).toNatClampNeg) ((((((p1 / 10) / 10) / 10) / 10) - ((((p1 / 10) / 10) / 10) / 10) / 10 * 10).toInt64))))), (h0, .inr (5, [.ref h2, .ref h3, .ref h4, .ref h5, .int 0])), (h2, .inr (8, [.ref h12, .int 0]))]) (va_runV (As := [.int 2]) (rest := []) ⟨hx, hb, hml, hown, hg⟩ (k_X8_get_37 l D y aS H.size h5 h10 wp19187) (cwV 1 hg ggV_RX5_36_X8_get rfl rfl rfl (by decide +kernel) ⟨Nat.le_of_ble_eq_true rfl, Nat.le_of_ble_eq_true rfl⟩) (g_preV (q := (RX8, TX8, 2)) hK hP hD [4, 5] rfl (by decide) (ci := 8) (q0 := 4) rfl rfl) rfl rfl hl.1 rfl (lv_room (Nat.le_of_ble_eq_true rfl)) dX5_tellSecret_78 ⟨Nat.le_of_ble_eq_true rfl, Nat.le_of_ble_eq_true rfl⟩) hP hD hS hA [4, 5] [0, 1, 2, 3] rfl rfl (by decide) (by decide) ?_
  clear hP hD hS H locs
  refine fun r19197 u H locs hq hP hD hS => ?_
  subst hq
  replace hP : va_P D vwCl [(h4, .inr (8, [.ref h7, .int wp19185])), (h7, .inl (y 1, 18, .inr (.inl (vp_updL (vp_updL (vp_updL (vp_updL (vp_updL wf19186 ((16 : Int32).toNatClampNeg) ((p1 - p1 / 10 * 10).toInt64)) ((15 : Int32).toNatClampNeg) (((p1 / 10) - (p1 / 10) / 10 * 10).toInt64)) ((14 : Int32).toNatClampNeg) ((((p1 / 10) / 10) - ((p1 / 10) / 10) / 10 * 10).toInt64)) ((13 : Int32).toNatClampNeg) (((((p1 / 10) / 10) / 10) - (((p1 / 10) / 10) / 10) / 10 * 10).toInt64)) ((12 : Int32).toNatClampNeg) ((((((p1 / 10) / 10) / 10) / 10) - ((((p1 / 10) / 10) / 10) / 10) / 10 * 10).toInt64))))), (h0, .inr (5, [.ref h2, .ref h3, .ref h4, .ref h5, .int 0])), (h2, .inr (8, [.ref h12, .int 0])), (h5, .inr (8, [.ref h10, .int wp19187])), (h10, .inl (y 1, 3, .inr (.inl (vp_updL (fun _ => 0) ((2 : Int32).toNatClampNeg) 5))))] H := hP
  replace hD : va_D A [(h4, .inr (8, [.ref h7, .int wp19185])), (h7, .inl (y 1, 18, .inr (.inl (vp_updL (vp_updL (vp_updL (vp_updL (vp_updL wf19186 ((16 : Int32).toNatClampNeg) ((p1 - p1 / 10 * 10).toInt64)) ((15 : Int32).toNatClampNeg) (((p1 / 10) - (p1 / 10) / 10 * 10).toInt64)) ((14 : Int32).toNatClampNeg) ((((p1 / 10) / 10) - ((p1 / 10) / 10) / 10 * 10).toInt64)) ((13 : Int32).toNatClampNeg) (((((p1 / 10) / 10) / 10) - (((p1 / 10) / 10) / 10) / 10 * 10).toInt64)) ((12 : Int32).toNatClampNeg) ((((((p1 / 10) / 10) / 10) / 10) - ((((p1 / 10) / 10) / 10) / 10) / 10 * 10).toInt64))))), (h0, .inr (5, [.ref h2, .ref h3, .ref h4, .ref h5, .int 0])), (h2, .inr (8, [.ref h12, .int 0])), (h5, .inr (8, [.ref h10, .int wp19187])), (h10, .inl (y 1, 3, .inr (.inl (vp_updL (fun _ => 0) ((2 : Int32).toNatClampNeg) 5))))] := hD
  refine lv_lconst (v := 0) hx hb dX5_tellSecret_81 (by decide) ?_
  refine W.lcmp hx hb dX5_tellSecret_82 ?_
  refine g_fi (v := 1) (by decide +kernel) ?_
  refine lv_if_le (tgt := 89) hx hb dX5_tellSecret_83 (by decide) (fun c9 => absurd c9 (by decide +kernel)) (fun _ => ?_)
  refine lv_iinc (v := 1) (lv' := [(5, .int 1), (6, .int 2), (4, .int (((((p1 / 10) / 10) / 10) / 10) / 10)), (0, .ref h0), (1, .int 2), (2, .int p1), (3, .int 5)]) hx hb dX5_tellSecret_86 hl (k := 1) rfl (by decide +kernel) (by decide) rfl ?_
  clear hl
  clear ls
  intro ls hl
  refine lv_iinc (v := 3) (lv' := [(6, .int 3), (5, .int 1), (4, .int (((((p1 / 10) / 10) / 10) / 10) / 10)), (0, .ref h0), (1, .int 2), (2, .int p1), (3, .int 5)]) hx hb dX5_tellSecret_89 hl (k := 1) rfl (by decide +kernel) (by decide) rfl ?_
  clear hl
  clear ls
  intro ls hl
  refine lv_goto (tgt := 66) hx hb dX5_tellSecret_92 (by decide) ?_
  refine lv_iload hx hb dX5_tellSecret_66 (lv_at hl 0 rfl) ?_
  refine lv_iconst (v := 3) hx hb dX5_tellSecret_68 (by decide) ?_
  refine lv_icmp_ge (tgt := 95) hx hb dX5_tellSecret_69 (by decide) (fun _ => ?_) (fun c9 => absurd c9 (by decide +kernel))
  refine lv_iload hx hb dX5_tellSecret_95 (lv_at hl 1 rfl) ?_
  exact g_iret hx hb hr hlocks () (hP.sub [2, 0, 1, 4, 5, 3] rfl) (hD.sub [2, 0, 1, 4, 5, 3] (by decide +kernel) rfl) hS rfl rfl (Nat.le_of_ble_eq_true rfl) (Nat.le_of_ble_eq_true rfl) dX5_tellSecret_97
set_option maxRecDepth 100000 in
set_option maxHeartbeats 4000000 in
theorem k_X8_set_42 (l : Launch) (D : va_G) (y : Nat → ClassId) (aS : Nat → Nat) (sz : Nat) (h0 : Nat) (p1 : Int64) (h2 : Nat) (wp19203 : Int32) (wf19204 : Nat → Int64) : Met l yX8_set (Cond.code yX8_set cX8_set 4 none :: wsL_law) ({ frames := 0, cells := 0, slots := 0, locals := 0 } : Room) (va_Pc [.ref h0, .int 5, .long p1] (gI D y aS [(h0, .inr (8, [.ref h2, .int wp19203])), (h2, .inl (y 1, 18, .inr (.inl wf19204)))] sz)) (va_Qv (fun (u : Unit) => True) (fun u => gO D (va_A [(h0, .inr (8, [.ref h2, .int wp19203])), (h2, .inl (y 1, 18, .inr (.inl wf19204)))] sz) [(h0, .inr (8, [.ref h2, .int wp19203])), (h2, .inl (y 1, 18, .inr (.inl (vp_updL wf19204 ((5 : Int32).toNatClampNeg) p1))))]) (va_A [(h0, .inr (8, [.ref h2, .int wp19203])), (h2, .inl (y 1, 18, .inr (.inl wf19204)))] sz)) 0 0 (va_A [(h0, .inr (8, [.ref h2, .int wp19203])), (h2, .inl (y 1, 18, .inr (.inl wf19204)))] sz) := by
  refine g_of (by decide) (Nat.le_of_ble_eq_true rfl) ?_
  intro p e s m below meth c ls A hx hb hr hml hown hg hlocks hin hsz hK hP hD hS hA hAe hl
  rw [← hAe]
  replace hown : s.vm.findClass RX8 = some m.cls := hown
  replace hl : lv_has ls 4 [(0, .ref h0), (1, .int 5), (2, .long p1)] := hl
  refine lv_iload_n hx hb dX8_set_0 rfl (lv_at hl 1 rfl) ?_
  refine lv_if_lt (tgt := 20) hx hb dX8_set_1 (by decide) (fun c9 => absurd c9 (by decide +kernel)) (fun _ => ?_)
  refine lv_iload_n hx hb dX8_set_4 rfl (lv_at hl 1 rfl) ?_
  refine lv_aload_n hx hb dX8_set_5 rfl (lv_at hl 0 rfl) ?_
  refine gm_get (D := D) (ci := 8) (v := .ref h2) (C := RX8) (T := TX8) (N := 2) hx hb hg inlX8 hown hK.1 hP 0 rfl rfl 0 (by decide) tX8_0 (hg _ gw_98) rfl dX8_set_6 ?_
  refine va_alen hx hb hK.1 hP 1 1 rfl rfl (v := 18) rfl dX8_set_9 ?_
  refine lv_icmp_ge (tgt := 20) hx hb dX8_set_10 (by decide) (fun c9 => absurd c9 (by decide +kernel)) (fun _ => ?_)
  refine lv_aload_n hx hb dX8_set_13 rfl (lv_at hl 0 rfl) ?_
  refine gm_get (D := D) (ci := 8) (v := .ref h2) (C := RX8) (T := TX8) (N := 2) hx hb hg inlX8 hown hK.1 hP 0 rfl rfl 0 (by decide) tX8_0 (hg _ gw_98) rfl dX8_set_14 ?_
  refine lv_iload_n hx hb dX8_set_17 rfl (lv_at hl 1 rfl) ?_
  refine lv_lload_n hx hb dX8_set_18 rfl (lv_at hl 2 rfl) ?_
  refine va_last hx hb hK.1 hP hD hS 1 1 rfl rfl (by unfold vp_in; decide +kernel) dX8_set_19 ?_
  clear hP hD hS
  refine fun H locs (hP : va_P D vwCl [(h0, .inr (8, [.ref h2, .int wp19203])), (h2, .inl (y 1, 18, .inr (.inl (vp_updL wf19204 ((5 : Int32).toNatClampNeg) p1))))] H) (hD : va_D A [(h0, .inr (8, [.ref h2, .int wp19203])), (h2, .inl (y 1, 18, .inr (.inl (vp_updL wf19204 ((5 : Int32).toNatClampNeg) p1))))]) hS => ?_
  exact g_vret hx hb hr hlocks () hP hD hS trivial (Nat.le_of_ble_eq_true rfl) (Nat.le_of_ble_eq_true rfl) dX8_set_20
set_option maxRecDepth 100000 in
set_option maxHeartbeats 4000000 in
theorem k_X8_get_38 (l : Launch) (D : va_G) (y : Nat → ClassId) (aS : Nat → Nat) (sz : Nat) (h0 : Nat) (h1 : Nat) (wp19213 : Int32) : Met l yX8_get (Cond.code yX8_get cX8_get 2 (some .long) :: wsL_law) ({ frames := 0, cells := 0, slots := 0, locals := 0 } : Room) (va_Pc [.ref h0, .int 0] (gI D y aS [(h0, .inr (8, [.ref h1, .int wp19213])), (h1, .inl (y 1, 3, .inr (.inl (vp_updL (fun _ => 0) ((0 : Int32).toNatClampNeg) 6))))] sz)) (va_Ql (fun (r : Int64) (u : Unit) => 6 = r) (fun u => gO D (va_A [(h0, .inr (8, [.ref h1, .int wp19213])), (h1, .inl (y 1, 3, .inr (.inl (vp_updL (fun _ => 0) ((0 : Int32).toNatClampNeg) 6))))] sz) [(h0, .inr (8, [.ref h1, .int wp19213])), (h1, .inl (y 1, 3, .inr (.inl (vp_updL (fun _ => 0) ((0 : Int32).toNatClampNeg) 6))))]) (va_A [(h0, .inr (8, [.ref h1, .int wp19213])), (h1, .inl (y 1, 3, .inr (.inl (vp_updL (fun _ => 0) ((0 : Int32).toNatClampNeg) 6))))] sz)) 0 0 (va_A [(h0, .inr (8, [.ref h1, .int wp19213])), (h1, .inl (y 1, 3, .inr (.inl (vp_updL (fun _ => 0) ((0 : Int32).toNatClampNeg) 6))))] sz) := by
  refine g_of (by decide) (Nat.le_of_ble_eq_true rfl) ?_
  intro p e s m below meth c ls A hx hb hr hml hown hg hlocks hin hsz hK hP hD hS hA hAe hl
  rw [← hAe]
  replace hown : s.vm.findClass RX8 = some m.cls := hown
  replace hl : lv_has ls 2 [(0, .ref h0), (1, .int 0)] := hl
  refine lv_iload_n hx hb dX8_get_0 rfl (lv_at hl 1 rfl) ?_
  refine lv_if_lt (tgt := 22) hx hb dX8_get_1 (by decide) (fun c9 => absurd c9 (by decide +kernel)) (fun _ => ?_)
  refine lv_iload_n hx hb dX8_get_4 rfl (lv_at hl 1 rfl) ?_
  refine lv_aload_n hx hb dX8_get_5 rfl (lv_at hl 0 rfl) ?_
  refine gm_get (D := D) (ci := 8) (v := .ref h1) (C := RX8) (T := TX8) (N := 2) hx hb hg inlX8 hown hK.1 hP 0 rfl rfl 0 (by decide) tX8_0 (hg _ gw_98) rfl dX8_get_6 ?_
  refine va_alen hx hb hK.1 hP 1 1 rfl rfl (v := 3) rfl dX8_get_9 ?_
  refine lv_icmp_ge (tgt := 22) hx hb dX8_get_10 (by decide) (fun c9 => absurd c9 (by decide +kernel)) (fun _ => ?_)
  refine lv_aload_n hx hb dX8_get_13 rfl (lv_at hl 0 rfl) ?_
  refine gm_get (D := D) (ci := 8) (v := .ref h1) (C := RX8) (T := TX8) (N := 2) hx hb hg inlX8 hown hK.1 hP 0 rfl rfl 0 (by decide) tX8_0 (hg _ gw_98) rfl dX8_get_14 ?_
  refine lv_iload_n hx hb dX8_get_17 rfl (lv_at hl 1 rfl) ?_
  refine va_lald hx hb hK.1 hP 1 1 rfl rfl (by unfold vp_in; decide +kernel) dX8_get_18 ?_
  refine g_fj (v := 6) (by rfl) ?_
  refine lv_goto (tgt := 23) hx hb dX8_get_19 (by decide) ?_
  exact g_lret hx hb hr hlocks () hP hD hS rfl (Nat.le_of_ble_eq_true rfl) (Nat.le_of_ble_eq_true rfl) dX8_get_23
set_option maxRecDepth 100000 in
set_option maxHeartbeats 4000000 in
theorem k_X8_get_39 (l : Launch) (D : va_G) (y : Nat → ClassId) (aS : Nat → Nat) (sz : Nat) (h0 : Nat) (h1 : Nat) (wp19215 : Int32) : Met l yX8_get (Cond.code yX8_get cX8_get 2 (some .long) :: wsL_law) ({ frames := 0, cells := 0, slots := 0, locals := 0 } : Room) (va_Pc [.ref h0, .int 1] (gI D y aS [(h0, .inr (8, [.ref h1, .int wp19215])), (h1, .inl (y 1, 3, .inr (.inl (vp_updL (fun _ => 0) ((0 : Int32).toNatClampNeg) 6))))] sz)) (va_Ql (fun (r : Int64) (u : Unit) => 0 = r) (fun u => gO D (va_A [(h0, .inr (8, [.ref h1, .int wp19215])), (h1, .inl (y 1, 3, .inr (.inl (vp_updL (fun _ => 0) ((0 : Int32).toNatClampNeg) 6))))] sz) [(h0, .inr (8, [.ref h1, .int wp19215])), (h1, .inl (y 1, 3, .inr (.inl (vp_updL (fun _ => 0) ((0 : Int32).toNatClampNeg) 6))))]) (va_A [(h0, .inr (8, [.ref h1, .int wp19215])), (h1, .inl (y 1, 3, .inr (.inl (vp_updL (fun _ => 0) ((0 : Int32).toNatClampNeg) 6))))] sz)) 0 0 (va_A [(h0, .inr (8, [.ref h1, .int wp19215])), (h1, .inl (y 1, 3, .inr (.inl (vp_updL (fun _ => 0) ((0 : Int32).toNatClampNeg) 6))))] sz) := by
  refine g_of (by decide) (Nat.le_of_ble_eq_true rfl) ?_
  intro p e s m below meth c ls A hx hb hr hml hown hg hlocks hin hsz hK hP hD hS hA hAe hl
  rw [← hAe]
  replace hown : s.vm.findClass RX8 = some m.cls := hown
  replace hl : lv_has ls 2 [(0, .ref h0), (1, .int 1)] := hl
  refine lv_iload_n hx hb dX8_get_0 rfl (lv_at hl 1 rfl) ?_
  refine lv_if_lt (tgt := 22) hx hb dX8_get_1 (by decide) (fun c9 => absurd c9 (by decide +kernel)) (fun _ => ?_)
  refine lv_iload_n hx hb dX8_get_4 rfl (lv_at hl 1 rfl) ?_
  refine lv_aload_n hx hb dX8_get_5 rfl (lv_at hl 0 rfl) ?_
  refine gm_get (D := D) (ci := 8) (v := .ref h1) (C := RX8) (T := TX8) (N := 2) hx hb hg inlX8 hown hK.1 hP 0 rfl rfl 0 (by decide) tX8_0 (hg _ gw_98) rfl dX8_get_6 ?_
  refine va_alen hx hb hK.1 hP 1 1 rfl rfl (v := 3) rfl dX8_get_9 ?_
  refine lv_icmp_ge (tgt := 22) hx hb dX8_get_10 (by decide) (fun c9 => absurd c9 (by decide +kernel)) (fun _ => ?_)
  refine lv_aload_n hx hb dX8_get_13 rfl (lv_at hl 0 rfl) ?_
  refine gm_get (D := D) (ci := 8) (v := .ref h1) (C := RX8) (T := TX8) (N := 2) hx hb hg inlX8 hown hK.1 hP 0 rfl rfl 0 (by decide) tX8_0 (hg _ gw_98) rfl dX8_get_14 ?_
  refine lv_iload_n hx hb dX8_get_17 rfl (lv_at hl 1 rfl) ?_
  refine va_lald hx hb hK.1 hP 1 1 rfl rfl (by unfold vp_in; decide +kernel) dX8_get_18 ?_
  refine g_fj (v := 0) (by rfl) ?_
  refine lv_goto (tgt := 23) hx hb dX8_get_19 (by decide) ?_
  exact g_lret hx hb hr hlocks () hP hD hS rfl (Nat.le_of_ble_eq_true rfl) (Nat.le_of_ble_eq_true rfl) dX8_get_23
set_option maxRecDepth 100000 in
set_option maxHeartbeats 4000000 in
theorem k_X8_get_40 (l : Launch) (D : va_G) (y : Nat → ClassId) (aS : Nat → Nat) (sz : Nat) (h0 : Nat) (h1 : Nat) (wp19217 : Int32) : Met l yX8_get (Cond.code yX8_get cX8_get 2 (some .long) :: wsL_law) ({ frames := 0, cells := 0, slots := 0, locals := 0 } : Room) (va_Pc [.ref h0, .int 2] (gI D y aS [(h0, .inr (8, [.ref h1, .int wp19217])), (h1, .inl (y 1, 3, .inr (.inl (vp_updL (fun _ => 0) ((0 : Int32).toNatClampNeg) 6))))] sz)) (va_Ql (fun (r : Int64) (u : Unit) => 0 = r) (fun u => gO D (va_A [(h0, .inr (8, [.ref h1, .int wp19217])), (h1, .inl (y 1, 3, .inr (.inl (vp_updL (fun _ => 0) ((0 : Int32).toNatClampNeg) 6))))] sz) [(h0, .inr (8, [.ref h1, .int wp19217])), (h1, .inl (y 1, 3, .inr (.inl (vp_updL (fun _ => 0) ((0 : Int32).toNatClampNeg) 6))))]) (va_A [(h0, .inr (8, [.ref h1, .int wp19217])), (h1, .inl (y 1, 3, .inr (.inl (vp_updL (fun _ => 0) ((0 : Int32).toNatClampNeg) 6))))] sz)) 0 0 (va_A [(h0, .inr (8, [.ref h1, .int wp19217])), (h1, .inl (y 1, 3, .inr (.inl (vp_updL (fun _ => 0) ((0 : Int32).toNatClampNeg) 6))))] sz) := by
  refine g_of (by decide) (Nat.le_of_ble_eq_true rfl) ?_
  intro p e s m below meth c ls A hx hb hr hml hown hg hlocks hin hsz hK hP hD hS hA hAe hl
  rw [← hAe]
  replace hown : s.vm.findClass RX8 = some m.cls := hown
  replace hl : lv_has ls 2 [(0, .ref h0), (1, .int 2)] := hl
  refine lv_iload_n hx hb dX8_get_0 rfl (lv_at hl 1 rfl) ?_
  refine lv_if_lt (tgt := 22) hx hb dX8_get_1 (by decide) (fun c9 => absurd c9 (by decide +kernel)) (fun _ => ?_)
  refine lv_iload_n hx hb dX8_get_4 rfl (lv_at hl 1 rfl) ?_
  refine lv_aload_n hx hb dX8_get_5 rfl (lv_at hl 0 rfl) ?_
  refine gm_get (D := D) (ci := 8) (v := .ref h1) (C := RX8) (T := TX8) (N := 2) hx hb hg inlX8 hown hK.1 hP 0 rfl rfl 0 (by decide) tX8_0 (hg _ gw_98) rfl dX8_get_6 ?_
  refine va_alen hx hb hK.1 hP 1 1 rfl rfl (v := 3) rfl dX8_get_9 ?_
  refine lv_icmp_ge (tgt := 22) hx hb dX8_get_10 (by decide) (fun c9 => absurd c9 (by decide +kernel)) (fun _ => ?_)
  refine lv_aload_n hx hb dX8_get_13 rfl (lv_at hl 0 rfl) ?_
  refine gm_get (D := D) (ci := 8) (v := .ref h1) (C := RX8) (T := TX8) (N := 2) hx hb hg inlX8 hown hK.1 hP 0 rfl rfl 0 (by decide) tX8_0 (hg _ gw_98) rfl dX8_get_14 ?_
  refine lv_iload_n hx hb dX8_get_17 rfl (lv_at hl 1 rfl) ?_
  refine va_lald hx hb hK.1 hP 1 1 rfl rfl (by unfold vp_in; decide +kernel) dX8_get_18 ?_
  refine g_fj (v := 0) (by rfl) ?_
  refine lv_goto (tgt := 23) hx hb dX8_get_19 (by decide) ?_
  exact g_lret hx hb hr hlocks () hP hD hS rfl (Nat.le_of_ble_eq_true rfl) (Nat.le_of_ble_eq_true rfl) dX8_get_23
set_option maxRecDepth 100000 in
set_option maxHeartbeats 4000000 in
theorem k_X5_tellSecret_12 (l : Launch) (D : va_G) (y : Nat → ClassId) (aS : Nat → Nat) (sz : Nat) (h0 : Nat) (p1 : Int32) (h2 : Nat) (h3 : Nat) (h4 : Nat) (h5 : Nat) (wp19219 : Int32) (h7 : Nat) (wp19220 : Int32) (wf19221 : Nat → Int64) (h10 : Nat) (wp19222 : Int32) (h12 : Nat) : Met l yX5_tellSecret (Cond.code yX5_tellSecret cX5_tellSecret 7 (some .int) :: wsL_law) ({ frames := 1, cells := 0, slots := 0, locals := 23 } : Room) (va_Pc [.ref h0, .int 0, .int p1, .int 6] (gI D y aS [(h0, .inr (5, [.ref h2, .ref h3, .ref h4, .ref h5, .int wp19219])), (h4, .inr (8, [.ref h7, .int wp19220])), (h7, .inl (y 1, 18, .inr (.inl wf19221))), (h5, .inr (8, [.ref h10, .int wp19222])), (h10, .inl (y 1, 3, .inr (.inl (fun _ => 0)))), (h2, .inr (8, [.ref h12, .int 0]))] sz)) (va_Qi (fun (r : Int32) (u : Unit) => 1 = r) (fun u => gO D (va_A [(h0, .inr (5, [.ref h2, .ref h3, .ref h4, .ref h5, .int wp19219])), (h4, .inr (8, [.ref h7, .int wp19220])), (h7, .inl (y 1, 18, .inr (.inl wf19221))), (h5, .inr (8, [.ref h10, .int wp19222])), (h10, .inl (y 1, 3, .inr (.inl (fun _ => 0)))), (h2, .inr (8, [.ref h12, .int 0]))] sz) [(h0, .inr (5, [.ref h2, .ref h3, .ref h4, .ref h5, .int 0])), (h4, .inr (8, [.ref h7, .int wp19220])), (h7, .inl (y 1, 18, .inr (.inl (vp_updL (vp_updL (vp_updL (vp_updL (vp_updL (vp_updL wf19221 ((5 : Int32).toNatClampNeg) ((p1 - p1 / 10 * 10).toInt64)) ((4 : Int32).toNatClampNeg) (((p1 / 10) - (p1 / 10) / 10 * 10).toInt64)) ((3 : Int32).toNatClampNeg) ((((p1 / 10) / 10) - ((p1 / 10) / 10) / 10 * 10).toInt64)) ((2 : Int32).toNatClampNeg) (((((p1 / 10) / 10) / 10) - (((p1 / 10) / 10) / 10) / 10 * 10).toInt64)) ((1 : Int32).toNatClampNeg) ((((((p1 / 10) / 10) / 10) / 10) - ((((p1 / 10) / 10) / 10) / 10) / 10 * 10).toInt64)) ((0 : Int32).toNatClampNeg) (((((((p1 / 10) / 10) / 10) / 10) / 10) - (((((p1 / 10) / 10) / 10) / 10) / 10) / 10 * 10).toInt64))))), (h5, .inr (8, [.ref h10, .int wp19222])), (h10, .inl (y 1, 3, .inr (.inl (vp_updL (fun _ => 0) ((0 : Int32).toNatClampNeg) 6)))), (h2, .inr (8, [.ref h12, .int 0]))]) (va_A [(h0, .inr (5, [.ref h2, .ref h3, .ref h4, .ref h5, .int wp19219])), (h4, .inr (8, [.ref h7, .int wp19220])), (h7, .inl (y 1, 18, .inr (.inl wf19221))), (h5, .inr (8, [.ref h10, .int wp19222])), (h10, .inl (y 1, 3, .inr (.inl (fun _ => 0)))), (h2, .inr (8, [.ref h12, .int 0]))] sz)) 0 0 (va_A [(h0, .inr (5, [.ref h2, .ref h3, .ref h4, .ref h5, .int wp19219])), (h4, .inr (8, [.ref h7, .int wp19220])), (h7, .inl (y 1, 18, .inr (.inl wf19221))), (h5, .inr (8, [.ref h10, .int wp19222])), (h10, .inl (y 1, 3, .inr (.inl (fun _ => 0)))), (h2, .inr (8, [.ref h12, .int 0]))] sz) := by
  refine g_of (by decide) (Nat.le_of_ble_eq_true rfl) ?_
  intro p e s m below meth c ls A hx hb hr hml hown hg hlocks hin hsz hK hP hD hS hA hAe hl
  rw [← hAe]
  replace hown : s.vm.findClass RX5 = some m.cls := hown
  replace hl : lv_has ls 7 [(0, .ref h0), (1, .int 0), (2, .int p1), (3, .int 6)] := hl
  refine lv_iload_n hx hb dX5_tellSecret_0 rfl (lv_at hl 2 rfl) ?_
  refine lv_istore (lv' := [(4, .int p1), (0, .ref h0), (1, .int 0), (2, .int p1), (3, .int 6)]) hx hb dX5_tellSecret_1 hl (by decide) rfl ?_
  clear hl
  clear ls
  intro ls hl
  refine lv_iload_n hx hb dX5_tellSecret_3 rfl (lv_at hl 4 rfl) ?_
  refine lv_iconst (v := 1) hx hb dX5_tellSecret_4 (by decide) ?_
  refine lv_isub hx hb dX5_tellSecret_5 ?_
  refine g_fi (v := 5) (by decide +kernel) ?_
  refine lv_istore (lv' := [(5, .int 5), (4, .int p1), (0, .ref h0), (1, .int 0), (2, .int p1), (3, .int 6)]) hx hb dX5_tellSecret_6 hl (by decide) rfl ?_
  clear hl
  clear ls
  intro ls hl
  refine lv_iload hx hb dX5_tellSecret_8 (lv_at hl 0 rfl) ?_
  refine lv_if_lt (tgt := 46) hx hb dX5_tellSecret_10 (by decide) (fun c9 => absurd c9 (by decide +kernel)) (fun _ => ?_)
  refine lv_aload_n hx hb dX5_tellSecret_13 rfl (lv_at hl 2 rfl) ?_
  refine gm_get (D := D) (ci := 5) (v := .ref h4) (C := RX5) (T := TX5) (N := 5) hx hb hg inlX5 hown hK.1 hP 0 rfl rfl 2 (by decide) tX5_2 (hg _ gw_140) rfl dX5_tellSecret_14 ?_
  refine lv_iload_n hx hb dX5_tellSecret_17 rfl (lv_at hl 3 rfl) ?_
  refine lv_bipush (v := 6) hx hb dX5_tellSecret_18 (by decide +kernel) ?_
  refine lv_imul hx hb dX5_tellSecret_20 ?_
  refine g_fi (v := 0) (by decide +kernel) ?_
  refine lv_iload hx hb dX5_tellSecret_21 (lv_at hl 0 rfl) ?_
  refine lv_iadd hx hb dX5_tellSecret_23 ?_
  refine g_fi (v := 5) (by decide +kernel) ?_
  refine lv_iload hx hb dX5_tellSecret_24 (lv_at hl 1 rfl) ?_
  refine lv_bipush (v := 10) hx hb dX5_tellSecret_26 (by decide +kernel) ?_
  refine lv_irem hx hb dX5_tellSecret_28 (by decide +kernel) ?_
  refine lv_i2l (v := ((p1 - p1 / 10 * 10).toInt64)) hx hb dX5_tellSecret_29 rfl ?_
  refine g_av (wr := [(h0, .inr (5, [.ref h2, .ref h3, .ref h4, .ref h5, .int wp19219])), (h5, .inr (8, [.ref h10, .int wp19222])), (h10, .inl (y 1, 3, .inr (.inl (fun _ => 0)))), (h2, .inr (8, [.ref h12, .int 0]))]) (va_runV (As := [.int 5, .long ((p1 - p1 / 10 * 10).toInt64)]) (rest := []) ⟨hx, hb, hml, hown, hg⟩ (k_X8_set_42 l D y aS s.heap.size h4 ((p1 - p1 / 10 * 10).toInt64) h7 wp19220 wf19221) (cwV 2 hg ggV_RX5_29_X8_set rfl rfl rfl (by decide +kernel) ⟨Nat.le_of_ble_eq_true rfl, Nat.le_of_ble_eq_true rfl⟩) (g_preV (q := (RX8, TX8, 2)) hK hP hD [1, 2] rfl (by decide) (ci := 8) (q0 := 1) rfl rfl) rfl rfl hl.1 rfl (lv_room (Nat.le_of_ble_eq_true rfl)) dX5_tellSecret_30 ⟨Nat.le_of_ble_eq_true rfl, Nat.le_of_ble_eq_true rfl⟩) hP hD hS hA [1, 2] [0, 3, 4, 5] rfl rfl (by decide) (by decide) ?_
  clear hP hD hS
  refine fun u H locs hq hP hD hS => ?_
  replace hP : va_P D vwCl [(h0, .inr (5, [.ref h2, .ref h3, .ref h4, .ref h5, .int wp19219])), (h5, .inr (8, [.ref h10, .int wp19222])), (h10, .inl (y 1, 3, .inr (.inl (fun _ => 0)))), (h2, .inr (8, [.ref h12, .int 0])), (h4, .inr (8, [.ref h7, .int wp19220])), (h7, .inl (y 1, 18, .inr (.inl (vp_updL wf19221 ((5 : Int32).toNatClampNeg) ((p1 - p1 / 10 * 10).toInt64)))))] H := hP
  replace hD : va_D A [(h0, .inr (5, [.ref h2, .ref h3, .ref h4, .ref h5, .int wp19219])), (h5, .inr (8, [.ref h10, .int wp19222])), (h10, .inl (y 1, 3, .inr (.inl (fun _ => 0)))), (h2, .inr (8, [.ref h12, .int 0])), (h4, .inr (8, [.ref h7, .int wp19220])), (h7, .inl (y 1, 18, .inr (.inl (vp_updL wf19221 ((5 : Int32).toNatClampNeg) ((p1 - p1 / 10 * 10).toInt64)))))] := hD
  refine lv_iload hx hb dX5_tellSecret_33 (lv_at hl 1 rfl) ?_
  refine lv_bipush (v := 10) hx hb dX5_tellSecret_35 (by decide +kernel) ?_
  refine lv_idiv hx hb dX5_tellSecret_37 (by decide +kernel) ?_
  refine lv_istore (lv' := [(4, .int (p1 / 10)), (5, .int 5), (0, .ref h0), (1, .int 0), (2, .int p1), (3, .int 6)]) hx hb dX5_tellSecret_38 hl (by decide) rfl ?_
  clear hl
  clear ls
  intro ls hl
  refine lv_iinc (v := 4) (lv' := [(5, .int 4), (4, .int (p1 / 10)), (0, .ref h0), (1, .int 0), (2, .int p1), (3, .int 6)]) hx hb dX5_tellSecret_40 hl (k := 1) rfl (by decide +kernel) (by decide) rfl ?_
  clear hl
  clear ls
  intro ls hl
  refine lv_goto (tgt := 8) hx hb dX5_tellSecret_43 (by decide) ?_
  refine lv_iload hx hb dX5_tellSecret_8 (lv_at hl 0 rfl) ?_
  refine lv_if_lt (tgt := 46) hx hb dX5_tellSecret_10 (by decide) (fun c9 => absurd c9 (by decide +kernel)) (fun _ => ?_)
  refine lv_aload_n hx hb dX5_tellSecret_13 rfl (lv_at hl 2 rfl) ?_
  refine gm_get (D := D) (ci := 5) (v := .ref h4) (C := RX5) (T := TX5) (N := 5) hx hb hg inlX5 hown hK.1 hP 0 rfl rfl 2 (by decide) tX5_2 (hg _ gw_140) rfl dX5_tellSecret_14 ?_
  refine lv_iload_n hx hb dX5_tellSecret_17 rfl (lv_at hl 3 rfl) ?_
  refine lv_bipush (v := 6) hx hb dX5_tellSecret_18 (by decide +kernel) ?_
  refine lv_imul hx hb dX5_tellSecret_20 ?_
  refine g_fi (v := 0) (by decide +kernel) ?_
  refine lv_iload hx hb dX5_tellSecret_21 (lv_at hl 0 rfl) ?_
  refine lv_iadd hx hb dX5_tellSecret_23 ?_
  refine g_fi (v := 4) (by decide +kernel) ?_
  refine lv_iload hx hb dX5_tellSecret_24 (lv_at hl 1 rfl) ?_
  refine lv_bipush (v := 10) hx hb dX5_tellSecret_26 (by decide +kernel) ?_
  refine lv_irem hx hb dX5_tellSecret_28 (by decide +kernel) ?_
  refine lv_i2l (v := (((p1 / 10) - (p1 / 10) / 10 * 10).toInt64)) hx hb dX5_tellSecret_29 rfl ?_
  refine g_av (wr := [(h0, .inr (5, [.ref h2, .ref h3, .ref h4, .ref h5, .int wp19219])), (h5, .inr (8, [.ref h10, .int wp19222])), (h10, .inl (y 1, 3, .inr (.inl (fun _ => 0)))), (h2, .inr (8, [.ref h12, .int 0]))]) (va_runV (As := [.int 4, .long (((p1 / 10) - (p1 / 10) / 10 * 10).toInt64)]) (rest := []) ⟨hx, hb, hml, hown, hg⟩ (k_X8_set_39 l D y aS H.size h4 (((p1 / 10) - (p1 / 10) / 10 * 10).toInt64) h7 wp19220 (vp_updL wf19221 ((5 : Int32).toNatClampNeg) ((p1 - p1 / 10 * 10).toInt64))) (cwV 2 hg ggV_RX5_29_X8_set rfl rfl rfl (by decide +kernel) ⟨Nat.le_of_ble_eq_true rfl, Nat.le_of_ble_eq_true rfl⟩) (g_preV (q := (RX8, TX8, 2)) hK hP hD [4, 5] rfl (by decide) (ci := 8) (q0 := 4) rfl rfl) rfl rfl hl.1 rfl (lv_room (Nat.le_of_ble_eq_true rfl)) dX5_tellSecret_30 ⟨Nat.le_of_ble_eq_true rfl, Nat.le_of_ble_eq_true rfl⟩) hP hD hS hA [4, 5] [0, 1, 2, 3] rfl rfl (by decide) (by decide) ?_
  clear hP hD hS H locs
  refine fun u H locs hq hP hD hS => ?_
  replace hP : va_P D vwCl [(h0, .inr (5, [.ref h2, .ref h3, .ref h4, .ref h5, .int wp19219])), (h5, .inr (8, [.ref h10, .int wp19222])), (h10, .inl (y 1, 3, .inr (.inl (fun _ => 0)))), (h2, .inr (8, [.ref h12, .int 0])), (h4, .inr (8, [.ref h7, .int wp19220])), (h7, .inl (y 1, 18, .inr (.inl (vp_updL (vp_updL wf19221 ((5 : Int32).toNatClampNeg) ((p1 - p1 / 10 * 10).toInt64)) ((4 : Int32).toNatClampNeg) (((p1 / 10) - (p1 / 10) / 10 * 10).toInt64)))))] H := hP
  replace hD : va_D A [(h0, .inr (5, [.ref h2, .ref h3, .ref h4, .ref h5, .int wp19219])), (h5, .inr (8, [.ref h10, .int wp19222])), (h10, .inl (y 1, 3, .inr (.inl (fun _ => 0)))), (h2, .inr (8, [.ref h12, .int 0])), (h4, .inr (8, [.ref h7, .int wp19220])), (h7, .inl (y 1, 18, .inr (.inl (vp_updL (vp_updL wf19221 ((5 : Int32).toNatClampNeg) ((p1 - p1 / 10 * 10).toInt64)) ((4 : Int32).toNatClampNeg) (((p1 / 10) - (p1 / 10) / 10 * 10).toInt64)))))] := hD
  refine lv_iload hx hb dX5_tellSecret_33 (lv_at hl 1 rfl) ?_
  refine lv_bipush (v := 10) hx hb dX5_tellSecret_35 (by decide +kernel) ?_
  refine lv_idiv hx hb dX5_tellSecret_37 (by decide +kernel) ?_
  refine lv_istore (lv' := [(4, .int ((p1 / 10) / 10)), (5, .int 4), (0, .ref h0), (1, .int 0), (2, .int p1), (3, .int 6)]) hx hb dX5_tellSecret_38 hl (by decide) rfl ?_
  clear hl
  clear ls
  intro ls hl
  refine lv_iinc (v := 3) (lv' := [(5, .int 3), (4, .int ((p1 / 10) / 10)), (0, .ref h0), (1, .int 0), (2, .int p1), (3, .int 6)]) hx hb dX5_tellSecret_40 hl (k := 1) rfl (by decide +kernel) (by decide) rfl ?_
  clear hl
  clear ls
  intro ls hl
  refine lv_goto (tgt := 8) hx hb dX5_tellSecret_43 (by decide) ?_
  refine lv_iload hx hb dX5_tellSecret_8 (lv_at hl 0 rfl) ?_
  refine lv_if_lt (tgt := 46) hx hb dX5_tellSecret_10 (by decide) (fun c9 => absurd c9 (by decide +kernel)) (fun _ => ?_)
  refine lv_aload_n hx hb dX5_tellSecret_13 rfl (lv_at hl 2 rfl) ?_
  refine gm_get (D := D) (ci := 5) (v := .ref h4) (C := RX5) (T := TX5) (N := 5) hx hb hg inlX5 hown hK.1 hP 0 rfl rfl 2 (by decide) tX5_2 (hg _ gw_140) rfl dX5_tellSecret_14 ?_
  refine lv_iload_n hx hb dX5_tellSecret_17 rfl (lv_at hl 3 rfl) ?_
  refine lv_bipush (v := 6) hx hb dX5_tellSecret_18 (by decide +kernel) ?_
  refine lv_imul hx hb dX5_tellSecret_20 ?_
  refine g_fi (v := 0) (by decide +kernel) ?_
  refine lv_iload hx hb dX5_tellSecret_21 (lv_at hl 0 rfl) ?_
  refine lv_iadd hx hb dX5_tellSecret_23 ?_
  refine g_fi (v := 3) (by decide +kernel) ?_
  refine lv_iload hx hb dX5_tellSecret_24 (lv_at hl 1 rfl) ?_
  refine lv_bipush (v := 10) hx hb dX5_tellSecret_26 (by decide +kernel) ?_
  refine lv_irem hx hb dX5_tellSecret_28 (by decide +kernel) ?_
  refine lv_i2l (v := ((((p1 / 10) / 10) - ((p1 / 10) / 10) / 10 * 10).toInt64)) hx hb dX5_tellSecret_29 rfl ?_
  refine g_av (wr := [(h0, .inr (5, [.ref h2, .ref h3, .ref h4, .ref h5, .int wp19219])), (h5, .inr (8, [.ref h10, .int wp19222])), (h10, .inl (y 1, 3, .inr (.inl (fun _ => 0)))), (h2, .inr (8, [.ref h12, .int 0]))]) (va_runV (As := [.int 3, .long ((((p1 / 10) / 10) - ((p1 / 10) / 10) / 10 * 10).toInt64)]) (rest := []) ⟨hx, hb, hml, hown, hg⟩ (k_X8_set_36 l D y aS H.size h4 ((((p1 / 10) / 10) - ((p1 / 10) / 10) / 10 * 10).toInt64) h7 wp19220 (vp_updL (vp_updL wf19221 ((5 : Int32).toNatClampNeg) ((p1 - p1 / 10 * 10).toInt64)) ((4 : Int32).toNatClampNeg) (((p1 / 10) - (p1 / 10) / 10 * 10).toInt64))) (cwV 2 hg ggV_RX5_29_X8_set rfl rfl rfl (by decide +kernel) ⟨Nat.le_of_ble_eq_true rfl, Nat.le_of_ble_eq_true rfl⟩) (g_preV (q := (RX8, TX8, 2)) hK hP hD [4, 5] rfl (by decide) (ci := 8) (q0 := 4) rfl rfl) rfl rfl hl.1 rfl (lv_room (Nat.le_of_ble_eq_true rfl)) dX5_tellSecret_30 ⟨Nat.le_of_ble_eq_true rfl, Nat.le_of_ble_eq_true rfl⟩) hP hD hS hA [4, 5] [0, 1, 2, 3] rfl rfl (by decide) (by decide) ?_
  clear hP hD hS H locs
  refine fun u H locs hq hP hD hS => ?_
  replace hP : va_P D vwCl [(h0, .inr (5, [.ref h2, .ref h3, .ref h4, .ref h5, .int wp19219])), (h5, .inr (8, [.ref h10, .int wp19222])), (h10, .inl (y 1, 3, .inr (.inl (fun _ => 0)))), (h2, .inr (8, [.ref h12, .int 0])), (h4, .inr (8, [.ref h7, .int wp19220])), (h7, .inl (y 1, 18, .inr (.inl (vp_updL (vp_updL (vp_updL wf19221 ((5 : Int32).toNatClampNeg) ((p1 - p1 / 10 * 10).toInt64)) ((4 : Int32).toNatClampNeg) (((p1 / 10) - (p1 / 10) / 10 * 10).toInt64)) ((3 : Int32).toNatClampNeg) ((((p1 / 10) / 10) - ((p1 / 10) / 10) / 10 * 10).toInt64)))))] H := hP
  replace hD : va_D A [(h0, .inr (5, [.ref h2, .ref h3, .ref h4, .ref h5, .int wp19219])), (h5, .inr (8, [.ref h10, .int wp19222])), (h10, .inl (y 1, 3, .inr (.inl (fun _ => 0)))), (h2, .inr (8, [.ref h12, .int 0])), (h4, .inr (8, [.ref h7, .int wp19220])), (h7, .inl (y 1, 18, .inr (.inl (vp_updL (vp_updL (vp_updL wf19221 ((5 : Int32).toNatClampNeg) ((p1 - p1 / 10 * 10).toInt64)) ((4 : Int32).toNatClampNeg) (((p1 / 10) - (p1 / 10) / 10 * 10).toInt64)) ((3 : Int32).toNatClampNeg) ((((p1 / 10) / 10) - ((p1 / 10) / 10) / 10 * 10).toInt64)))))] := hD
  refine lv_iload hx hb dX5_tellSecret_33 (lv_at hl 1 rfl) ?_
  refine lv_bipush (v := 10) hx hb dX5_tellSecret_35 (by decide +kernel) ?_
  refine lv_idiv hx hb dX5_tellSecret_37 (by decide +kernel) ?_
  refine lv_istore (lv' := [(4, .int (((p1 / 10) / 10) / 10)), (5, .int 3), (0, .ref h0), (1, .int 0), (2, .int p1), (3, .int 6)]) hx hb dX5_tellSecret_38 hl (by decide) rfl ?_
  clear hl
  clear ls
  intro ls hl
  refine lv_iinc (v := 2) (lv' := [(5, .int 2), (4, .int (((p1 / 10) / 10) / 10)), (0, .ref h0), (1, .int 0), (2, .int p1), (3, .int 6)]) hx hb dX5_tellSecret_40 hl (k := 1) rfl (by decide +kernel) (by decide) rfl ?_
  clear hl
  clear ls
  intro ls hl
  refine lv_goto (tgt := 8) hx hb dX5_tellSecret_43 (by decide) ?_
  refine lv_iload hx hb dX5_tellSecret_8 (lv_at hl 0 rfl) ?_
  refine lv_if_lt (tgt := 46) hx hb dX5_tellSecret_10 (by decide) (fun c9 => absurd c9 (by decide +kernel)) (fun _ => ?_)
  refine lv_aload_n hx hb dX5_tellSecret_13 rfl (lv_at hl 2 rfl) ?_
  refine gm_get (D := D) (ci := 5) (v := .ref h4) (C := RX5) (T := TX5) (N := 5) hx hb hg inlX5 hown hK.1 hP 0 rfl rfl 2 (by decide) tX5_2 (hg _ gw_140) rfl dX5_tellSecret_14 ?_
  refine lv_iload_n hx hb dX5_tellSecret_17 rfl (lv_at hl 3 rfl) ?_
  refine lv_bipush (v := 6) hx hb dX5_tellSecret_18 (by decide +kernel) ?_
  refine lv_imul hx hb dX5_tellSecret_20 ?_
  refine g_fi (v := 0) (by decide +kernel) ?_
  refine lv_iload hx hb dX5_tellSecret_21 (lv_at hl 0 rfl) ?_
  refine lv_iadd hx hb dX5_tellSecret_23 ?_
  refine g_fi (v := 2) (by decide +kernel) ?_
  refine lv_iload hx hb dX5_tellSecret_24 (lv_at hl 1 rfl) ?_
  refine lv_bipush (v := 10) hx hb dX5_tellSecret_26 (by decide +kernel) ?_
  refine lv_irem hx hb dX5_tellSecret_28 (by decide +kernel) ?_
  refine lv_i2l (v := (((((p1 / 10) / 10) / 10) - (((p1 / 10) / 10) / 10) / 10 * 10).toInt64)) hx hb dX5_tellSecret_29 rfl ?_
  refine g_av (wr := [(h0, .inr (5, [.ref h2, .ref h3, .ref h4, .ref h5, .int wp19219])), (h5, .inr (8, [.ref h10, .int wp19222])), (h10, .inl (y 1, 3, .inr (.inl (fun _ => 0)))), (h2, .inr (8, [.ref h12, .int 0]))]) (va_runV (As := [.int 2, .long (((((p1 / 10) / 10) / 10) - (((p1 / 10) / 10) / 10) / 10 * 10).toInt64)]) (rest := []) ⟨hx, hb, hml, hown, hg⟩ (k_X8_set_33 l D y aS H.size h4 (((((p1 / 10) / 10) / 10) - (((p1 / 10) / 10) / 10) / 10 * 10).toInt64) h7 wp19220 (vp_updL (vp_updL (vp_updL wf19221 ((5 : Int32).toNatClampNeg) ((p1 - p1 / 10 * 10).toInt64)) ((4 : Int32).toNatClampNeg) (((p1 / 10) - (p1 / 10) / 10 * 10).toInt64)) ((3 : Int32).toNatClampNeg) ((((p1 / 10) / 10) - ((p1 / 10) / 10) / 10 * 10).toInt64))) (cwV 2 hg ggV_RX5_29_X8_set rfl rfl rfl (by decide +kernel) ⟨Nat.le_of_ble_eq_true rfl, Nat.le_of_ble_eq_true rfl⟩) (g_preV (q := (RX8, TX8, 2)) hK hP hD [4, 5] rfl (by decide) (ci := 8) (q0 := 4) rfl rfl) rfl rfl hl.1 rfl (lv_room (Nat.le_of_ble_eq_true rfl)) dX5_tellSecret_30 ⟨Nat.le_of_ble_eq_true rfl, Nat.le_of_ble_eq_true rfl⟩) hP hD hS hA [4, 5] [0, 1, 2, 3] rfl rfl (by decide) (by decide) ?_
  clear hP hD hS H locs
  refine fun u H locs hq hP hD hS => ?_
  replace hP : va_P D vwCl [(h0, .inr (5, [.ref h2, .ref h3, .ref h4, .ref h5, .int wp19219])), (h5, .inr (8, [.ref h10, .int wp19222])), (h10, .inl (y 1, 3, .inr (.inl (fun _ => 0)))), (h2, .inr (8, [.ref h12, .int 0])), (h4, .inr (8, [.ref h7, .int wp19220])), (h7, .inl (y 1, 18, .inr (.inl (vp_updL (vp_updL (vp_updL (vp_updL wf19221 ((5 : Int32).toNatClampNeg) ((p1 - p1 / 10 * 10).toInt64)) ((4 : Int32).toNatClampNeg) (((p1 / 10) - (p1 / 10) / 10 * 10).toInt64)) ((3 : Int32).toNatClampNeg) ((((p1 / 10) / 10) - ((p1 / 10) / 10) / 10 * 10).toInt64)) ((2 : Int32).toNatClampNeg) (((((p1 / 10) / 10) / 10) - (((p1 / 10) / 10) / 10) / 10 * 10).toInt64)))))] H := hP
  replace hD : va_D A [(h0, .inr (5, [.ref h2, .ref h3, .ref h4, .ref h5, .int wp19219])), (h5, .inr (8, [.ref h10, .int wp19222])), (h10, .inl (y 1, 3, .inr (.inl (fun _ => 0)))), (h2, .inr (8, [.ref h12, .int 0])), (h4, .inr (8, [.ref h7, .int wp19220])), (h7, .inl (y 1, 18, .inr (.inl (vp_updL (vp_updL (vp_updL (vp_updL wf19221 ((5 : Int32).toNatClampNeg) ((p1 - p1 / 10 * 10).toInt64)) ((4 : Int32).toNatClampNeg) (((p1 / 10) - (p1 / 10) / 10 * 10).toInt64)) ((3 : Int32).toNatClampNeg) ((((p1 / 10) / 10) - ((p1 / 10) / 10) / 10 * 10).toInt64)) ((2 : Int32).toNatClampNeg) (((((p1 / 10) / 10) / 10) - (((p1 / 10) / 10) / 10) / 10 * 10).toInt64)))))] := hD
  refine lv_iload hx hb dX5_tellSecret_33 (lv_at hl 1 rfl) ?_
  refine lv_bipush (v := 10) hx hb dX5_tellSecret_35 (by decide +kernel) ?_
  refine lv_idiv hx hb dX5_tellSecret_37 (by decide +kernel) ?_
  refine lv_istore (lv' := [(4, .int ((((p1 / 10) / 10) / 10) / 10)), (5, .int 2), (0, .ref h0), (1, .int 0), (2, .int p1), (3, .int 6)]) hx hb dX5_tellSecret_38 hl (by decide) rfl ?_
  clear hl
  clear ls
  intro ls hl
  refine lv_iinc (v := 1) (lv' := [(5, .int 1), (4, .int ((((p1 / 10) / 10) / 10) / 10)), (0, .ref h0), (1, .int 0), (2, .int p1), (3, .int 6)]) hx hb dX5_tellSecret_40 hl (k := 1) rfl (by decide +kernel) (by decide) rfl ?_
  clear hl
  clear ls
  intro ls hl
  refine lv_goto (tgt := 8) hx hb dX5_tellSecret_43 (by decide) ?_
  refine lv_iload hx hb dX5_tellSecret_8 (lv_at hl 0 rfl) ?_
  refine lv_if_lt (tgt := 46) hx hb dX5_tellSecret_10 (by decide) (fun c9 => absurd c9 (by decide +kernel)) (fun _ => ?_)
  refine lv_aload_n hx hb dX5_tellSecret_13 rfl (lv_at hl 2 rfl) ?_
  refine gm_get (D := D) (ci := 5) (v := .ref h4) (C := RX5) (T := TX5) (N := 5) hx hb hg inlX5 hown hK.1 hP 0 rfl rfl 2 (by decide) tX5_2 (hg _ gw_140) rfl dX5_tellSecret_14 ?_
  refine lv_iload_n hx hb dX5_tellSecret_17 rfl (lv_at hl 3 rfl) ?_
  refine lv_bipush (v := 6) hx hb dX5_tellSecret_18 (by decide +kernel) ?_
  refine lv_imul hx hb dX5_tellSecret_20 ?_
  refine g_fi (v := 0) (by decide +kernel) ?_
  refine lv_iload hx hb dX5_tellSecret_21 (lv_at hl 0 rfl) ?_
  refine lv_iadd hx hb dX5_tellSecret_23 ?_
  refine g_fi (v := 1) (by decide +kernel) ?_
  refine lv_iload hx hb dX5_tellSecret_24 (lv_at hl 1 rfl) ?_
  refine lv_bipush (v := 10) hx hb dX5_tellSecret_26 (by decide +kernel) ?_
  refine lv_irem hx hb dX5_tellSecret_28 (by decide +kernel) ?_
  refine lv_i2l (v := ((((((p1 / 10) / 10) / 10) / 10) - ((((p1 / 10) / 10) / 10) / 10) / 10 * 10).toInt64)) hx hb dX5_tellSecret_29 rfl ?_
  refine g_av (wr := [(h0, .inr (5, [.ref h2, .ref h3, .ref h4, .ref h5, .int wp19219])), (h5, .inr (8, [.ref h10, .int wp19222])), (h10, .inl (y 1, 3, .inr (.inl (fun _ => 0)))), (h2, .inr (8, [.ref h12, .int 0]))]) (va_runV (As := [.int 1, .long ((((((p1 / 10) / 10) / 10) / 10) - ((((p1 / 10) / 10) / 10) / 10) / 10 * 10).toInt64)]) (rest := []) ⟨hx, hb, hml, hown, hg⟩ (k_X8_set_27 l D y aS H.size h4 ((((((p1 / 10) / 10) / 10) / 10) - ((((p1 / 10) / 10) / 10) / 10) / 10 * 10).toInt64) h7 wp19220 (vp_updL (vp_updL (vp_updL (vp_updL wf19221 ((5 : Int32).toNatClampNeg) ((p1 - p1 / 10 * 10).toInt64)) ((4 : Int32).toNatClampNeg) (((p1 / 10) - (p1 / 10) / 10 * 10).toInt64)) ((3 : Int32).toNatClampNeg) ((((p1 / 10) / 10) - ((p1 / 10) / 10) / 10 * 10).toInt64)) ((2 : Int32).toNatClampNeg) (((((p1 / 10) / 10) / 10) - (((p1 / 10) / 10) / 10) / 10 * 10).toInt64))) (cwV 2 hg ggV_RX5_29_X8_set rfl rfl rfl (by decide +kernel) ⟨Nat.le_of_ble_eq_true rfl, Nat.le_of_ble_eq_true rfl⟩) (g_preV (q := (RX8, TX8, 2)) hK hP hD [4, 5] rfl (by decide) (ci := 8) (q0 := 4) rfl rfl) rfl rfl hl.1 rfl (lv_room (Nat.le_of_ble_eq_true rfl)) dX5_tellSecret_30 ⟨Nat.le_of_ble_eq_true rfl, Nat.le_of_ble_eq_true rfl⟩) hP hD hS hA [4, 5] [0, 1, 2, 3] rfl rfl (by decide) (by decide) ?_
  clear hP hD hS H locs
  refine fun u H locs hq hP hD hS => ?_
  replace hP : va_P D vwCl [(h0, .inr (5, [.ref h2, .ref h3, .ref h4, .ref h5, .int wp19219])), (h5, .inr (8, [.ref h10, .int wp19222])), (h10, .inl (y 1, 3, .inr (.inl (fun _ => 0)))), (h2, .inr (8, [.ref h12, .int 0])), (h4, .inr (8, [.ref h7, .int wp19220])), (h7, .inl (y 1, 18, .inr (.inl (vp_updL (vp_updL (vp_updL (vp_updL (vp_updL wf19221 ((5 : Int32).toNatClampNeg) ((p1 - p1 / 10 * 10).toInt64)) ((4 : Int32).toNatClampNeg) (((p1 / 10) - (p1 / 10) / 10 * 10).toInt64)) ((3 : Int32).toNatClampNeg) ((((p1 / 10) / 10) - ((p1 / 10) / 10) / 10 * 10).toInt64)) ((2 : Int32).toNatClampNeg) (((((p1 / 10) / 10) / 10) - (((p1 / 10) / 10) / 10) / 10 * 10).toInt64)) ((1 : Int32).toNatClampNeg) ((((((p1 / 10) / 10) / 10) / 10) - ((((p1 / 10) / 10) / 10) / 10) / 10 * 10).toInt64)))))] H := hP
  replace hD : va_D A [(h0, .inr (5, [.ref h2, .ref h3, .ref h4, .ref h5, .int wp19219])), (h5, .inr (8, [.ref h10, .int wp19222])), (h10, .inl (y 1, 3, .inr (.inl (fun _ => 0)))), (h2, .inr (8, [.ref h12, .int 0])), (h4, .inr (8, [.ref h7, .int wp19220])), (h7, .inl (y 1, 18, .inr (.inl (vp_updL (vp_updL (vp_updL (vp_updL (vp_updL wf19221 ((5 : Int32).toNatClampNeg) ((p1 - p1 / 10 * 10).toInt64)) ((4 : Int32).toNatClampNeg) (((p1 / 10) - (p1 / 10) / 10 * 10).toInt64)) ((3 : Int32).toNatClampNeg) ((((p1 / 10) / 10) - ((p1 / 10) / 10) / 10 * 10).toInt64)) ((2 : Int32).toNatClampNeg) (((((p1 / 10) / 10) / 10) - (((p1 / 10) / 10) / 10) / 10 * 10).toInt64)) ((1 : Int32).toNatClampNeg) ((((((p1 / 10) / 10) / 10) / 10) - ((((p1 / 10) / 10) / 10) / 10) / 10 * 10).toInt64)))))] := hD
  refine lv_iload hx hb dX5_tellSecret_33 (lv_at hl 1 rfl) ?_
  refine lv_bipush (v := 10) hx hb dX5_tellSecret_35 (by decide +kernel) ?_
  refine lv_idiv hx hb dX5_tellSecret_37 (by decide +kernel) ?_
  refine lv_istore (lv' := [(4, .int (((((p1 / 10) / 10) / 10) / 10) / 10)), (5, .int 1), (0, .ref h0), (1, .int 0), (2, .int p1), (3, .int 6)]) hx hb dX5_tellSecret_38 hl (by decide) rfl ?_
  clear hl
  clear ls
  intro ls hl
  refine lv_iinc (v := 0) (lv' := [(5, .int 0), (4, .int (((((p1 / 10) / 10) / 10) / 10) / 10)), (0, .ref h0), (1, .int 0), (2, .int p1), (3, .int 6)]) hx hb dX5_tellSecret_40 hl (k := 1) rfl (by decide +kernel) (by decide) rfl ?_
  clear hl
  clear ls
  intro ls hl
  refine lv_goto (tgt := 8) hx hb dX5_tellSecret_43 (by decide) ?_
  refine lv_iload hx hb dX5_tellSecret_8 (lv_at hl 0 rfl) ?_
  refine lv_if_lt (tgt := 46) hx hb dX5_tellSecret_10 (by decide) (fun c9 => absurd c9 (by decide +kernel)) (fun _ => ?_)
  refine lv_aload_n hx hb dX5_tellSecret_13 rfl (lv_at hl 2 rfl) ?_
  refine gm_get (D := D) (ci := 5) (v := .ref h4) (C := RX5) (T := TX5) (N := 5) hx hb hg inlX5 hown hK.1 hP 0 rfl rfl 2 (by decide) tX5_2 (hg _ gw_140) rfl dX5_tellSecret_14 ?_
  refine lv_iload_n hx hb dX5_tellSecret_17 rfl (lv_at hl 3 rfl) ?_
  refine lv_bipush (v := 6) hx hb dX5_tellSecret_18 (by decide +kernel) ?_
  refine lv_imul hx hb dX5_tellSecret_20 ?_
  refine g_fi (v := 0) (by decide +kernel) ?_
  refine lv_iload hx hb dX5_tellSecret_21 (lv_at hl 0 rfl) ?_
  refine lv_iadd hx hb dX5_tellSecret_23 ?_
  refine g_fi (v := 0) (by decide +kernel) ?_
  refine lv_iload hx hb dX5_tellSecret_24 (lv_at hl 1 rfl) ?_
  refine lv_bipush (v := 10) hx hb dX5_tellSecret_26 (by decide +kernel) ?_
  refine lv_irem hx hb dX5_tellSecret_28 (by decide +kernel) ?_
  refine lv_i2l (v := (((((((p1 / 10) / 10) / 10) / 10) / 10) - (((((p1 / 10) / 10) / 10) / 10) / 10) / 10 * 10).toInt64)) hx hb dX5_tellSecret_29 rfl ?_
  refine g_av (wr := [(h0, .inr (5, [.ref h2, .ref h3, .ref h4, .ref h5, .int wp19219])), (h5, .inr (8, [.ref h10, .int wp19222])), (h10, .inl (y 1, 3, .inr (.inl (fun _ => 0)))), (h2, .inr (8, [.ref h12, .int 0]))]) (va_runV (As := [.int 0, .long (((((((p1 / 10) / 10) / 10) / 10) / 10) - (((((p1 / 10) / 10) / 10) / 10) / 10) / 10 * 10).toInt64)]) (rest := []) ⟨hx, hb, hml, hown, hg⟩ (k_X8_set_28 l D y aS H.size h4 (((((((p1 / 10) / 10) / 10) / 10) / 10) - (((((p1 / 10) / 10) / 10) / 10) / 10) / 10 * 10).toInt64) h7 wp19220 (vp_updL (vp_updL (vp_updL (vp_updL (vp_updL wf19221 ((5 : Int32).toNatClampNeg) ((p1 - p1 / 10 * 10).toInt64)) ((4 : Int32).toNatClampNeg) (((p1 / 10) - (p1 / 10) / 10 * 10).toInt64)) ((3 : Int32).toNatClampNeg) ((((p1 / 10) / 10) - ((p1 / 10) / 10) / 10 * 10).toInt64)) ((2 : Int32).toNatClampNeg) (((((p1 / 10) / 10) / 10) - (((p1 / 10) / 10) / 10) / 10 * 10).toInt64)) ((1 : Int32).toNatClampNeg) ((((((p1 / 10) / 10) / 10) / 10) - ((((p1 / 10) / 10) / 10) / 10) / 10 * 10).toInt64))) (cwV 2 hg ggV_RX5_29_X8_set rfl rfl rfl (by decide +kernel) ⟨Nat.le_of_ble_eq_true rfl, Nat.le_of_ble_eq_true rfl⟩) (g_preV (q := (RX8, TX8, 2)) hK hP hD [4, 5] rfl (by decide) (ci := 8) (q0 := 4) rfl rfl) rfl rfl hl.1 rfl (lv_room (Nat.le_of_ble_eq_true rfl)) dX5_tellSecret_30 ⟨Nat.le_of_ble_eq_true rfl, Nat.le_of_ble_eq_true rfl⟩) hP hD hS hA [4, 5] [0, 1, 2, 3] rfl rfl (by decide) (by decide) ?_
  clear hP hD hS H locs
  refine fun u H locs hq hP hD hS => ?_
  replace hP : va_P D vwCl [(h0, .inr (5, [.ref h2, .ref h3, .ref h4, .ref h5, .int wp19219])), (h5, .inr (8, [.ref h10, .int wp19222])), (h10, .inl (y 1, 3, .inr (.inl (fun _ => 0)))), (h2, .inr (8, [.ref h12, .int 0])), (h4, .inr (8, [.ref h7, .int wp19220])), (h7, .inl (y 1, 18, .inr (.inl (vp_updL (vp_updL (vp_updL (vp_updL (vp_updL (vp_updL wf19221 ((5 : Int32).toNatClampNeg) ((p1 - p1 / 10 * 10).toInt64)) ((4 : Int32).toNatClampNeg) (((p1 / 10) - (p1 / 10) / 10 * 10).toInt64)) ((3 : Int32).toNatClampNeg) ((((p1 / 10) / 10) - ((p1 / 10) / 10) / 10 * 10).toInt64)) ((2 : Int32).toNatClampNeg) (((((p1 / 10) / 10) / 10) - (((p1 / 10) / 10) / 10) / 10 * 10).toInt64)) ((1 : Int32).toNatClampNeg) ((((((p1 / 10) / 10) / 10) / 10) - ((((p1 / 10) / 10) / 10) / 10) / 10 * 10).toInt64)) ((0 : Int32).toNatClampNeg) (((((((p1 / 10) / 10) / 10) / 10) / 10) - (((((p1 / 10) / 10) / 10) / 10) / 10) / 10 * 10).toInt64)))))] H := hP
  replace hD : va_D A [(h0, .inr (5, [.ref h2, .ref h3, .ref h4, .ref h5, .int wp19219])), (h5, .inr (8, [.ref h10, .int wp19222])), (h10, .inl (y 1, 3, .inr (.inl (fun _ => 0)))), (h2, .inr (8, [.ref h12, .int 0])), (h4, .inr (8, [.ref h7, .int wp19220])), (h7, .inl (y 1, 18, .inr (.inl (vp_updL (vp_updL (vp_updL (vp_updL (vp_updL (vp_updL wf19221 ((5 : Int32).toNatClampNeg) ((p1 - p1 / 10 * 10).toInt64)) ((4 : Int32).toNatClampNeg) (((p1 / 10) - (p1 / 10) / 10 * 10).toInt64)) ((3 : Int32).toNatClampNeg) ((((p1 / 10) / 10) - ((p1 / 10) / 10) / 10 * 10).toInt64)) ((2 : Int32).toNatClampNeg) (((((p1 / 10) / 10) / 10) - (((p1 / 10) / 10) / 10) / 10 * 10).toInt64)) ((1 : Int32).toNatClampNeg) ((((((p1 / 10) / 10) / 10) / 10) - ((((p1 / 10) / 10) / 10) / 10) / 10 * 10).toInt64)) ((0 : Int32).toNatClampNeg) (((((((p1 / 10) / 10) / 10) / 10) / 10) - (((((p1 / 10) / 10) / 10) / 10) / 10) / 10 * 10).toInt64)))))] := hD
  refine lv_iload hx hb dX5_tellSecret_33 (lv_at hl 1 rfl) ?_
  refine lv_bipush (v := 10) hx hb dX5_tellSecret_35 (by decide +kernel) ?_
  refine lv_idiv hx hb dX5_tellSecret_37 (by decide +kernel) ?_
  refine lv_istore (lv' := [(4, .int ((((((p1 / 10) / 10) / 10) / 10) / 10) / 10)), (5, .int 0), (0, .ref h0), (1, .int 0), (2, .int p1), (3, .int 6)]) hx hb dX5_tellSecret_38 hl (by decide) rfl ?_
  clear hl
  clear ls
  intro ls hl
  refine lv_iinc (v := (-1)) (lv' := [(5, .int (-1)), (4, .int ((((((p1 / 10) / 10) / 10) / 10) / 10) / 10)), (0, .ref h0), (1, .int 0), (2, .int p1), (3, .int 6)]) hx hb dX5_tellSecret_40 hl (k := 1) rfl (by decide +kernel) (by decide) rfl ?_
  clear hl
  clear ls
  intro ls hl
  refine lv_goto (tgt := 8) hx hb dX5_tellSecret_43 (by decide) ?_
  refine lv_iload hx hb dX5_tellSecret_8 (lv_at hl 0 rfl) ?_
  refine lv_if_lt (tgt := 46) hx hb dX5_tellSecret_10 (by decide) (fun _ => ?_) (fun c9 => absurd c9 (by decide +kernel))
  refine lv_aload_n hx hb dX5_tellSecret_46 rfl (lv_at hl 2 rfl) ?_
  refine gm_get (D := D) (ci := 5) (v := .ref h5) (C := RX5) (T := TX5) (N := 5) hx hb hg inlX5 hown hK.1 hP 0 rfl rfl 3 (by decide) tX5_3 (hg _ gw_141) rfl dX5_tellSecret_47 ?_
  refine lv_iload_n hx hb dX5_tellSecret_50 rfl (lv_at hl 3 rfl) ?_
  refine lv_iload_n hx hb dX5_tellSecret_51 rfl (lv_at hl 5 rfl) ?_
  refine lv_i2l (v := 6) hx hb dX5_tellSecret_52 (by decide +kernel) ?_
  refine g_av (wr := [(h0, .inr (5, [.ref h2, .ref h3, .ref h4, .ref h5, .int wp19219])), (h2, .inr (8, [.ref h12, .int 0])), (h4, .inr (8, [.ref h7, .int wp19220])), (h7, .inl (y 1, 18, .inr (.inl (vp_updL (vp_updL (vp_updL (vp_updL (vp_updL (vp_updL wf19221 ((5 : Int32).toNatClampNeg) ((p1 - p1 / 10 * 10).toInt64)) ((4 : Int32).toNatClampNeg) (((p1 / 10) - (p1 / 10) / 10 * 10).toInt64)) ((3 : Int32).toNatClampNeg) ((((p1 / 10) / 10) - ((p1 / 10) / 10) / 10 * 10).toInt64)) ((2 : Int32).toNatClampNeg) (((((p1 / 10) / 10) / 10) - (((p1 / 10) / 10) / 10) / 10 * 10).toInt64)) ((1 : Int32).toNatClampNeg) ((((((p1 / 10) / 10) / 10) / 10) - ((((p1 / 10) / 10) / 10) / 10) / 10 * 10).toInt64)) ((0 : Int32).toNatClampNeg) (((((((p1 / 10) / 10) / 10) / 10) / 10) - (((((p1 / 10) / 10) / 10) / 10) / 10) / 10 * 10).toInt64)))))]) (va_runV (As := [.int 0, .long 6]) (rest := []) ⟨hx, hb, hml, hown, hg⟩ (k_X8_set_24 l D y aS H.size h5 6 h10 wp19222 (fun _ => 0)) (cwV 2 hg ggV_RX5_29_X8_set rfl rfl rfl (by decide +kernel) ⟨Nat.le_of_ble_eq_true rfl, Nat.le_of_ble_eq_true rfl⟩) (g_preV (q := (RX8, TX8, 2)) hK hP hD [1, 2] rfl (by decide) (ci := 8) (q0 := 1) rfl rfl) rfl rfl hl.1 rfl (lv_room (Nat.le_of_ble_eq_true rfl)) dX5_tellSecret_53 ⟨Nat.le_of_ble_eq_true rfl, Nat.le_of_ble_eq_true rfl⟩) hP hD hS hA [1, 2] [0, 3, 4, 5] rfl rfl (by decide) (by decide) ?_
  clear hP hD hS H locs
  refine fun u H locs hq hP hD hS => ?_
  replace hP : va_P D vwCl [(h0, .inr (5, [.ref h2, .ref h3, .ref h4, .ref h5, .int wp19219])), (h2, .inr (8, [.ref h12, .int 0])), (h4, .inr (8, [.ref h7, .int wp19220])), (h7, .inl (y 1, 18, .inr (.inl (vp_updL (vp_updL (vp_updL (vp_updL (vp_updL (vp_updL wf19221 ((5 : Int32).toNatClampNeg) ((p1 - p1 / 10 * 10).toInt64)) ((4 : Int32).toNatClampNeg) (((p1 / 10) - (p1 / 10) / 10 * 10).toInt64)) ((3 : Int32).toNatClampNeg) ((((p1 / 10) / 10) - ((p1 / 10) / 10) / 10 * 10).toInt64)) ((2 : Int32).toNatClampNeg) (((((p1 / 10) / 10) / 10) - (((p1 / 10) / 10) / 10) / 10 * 10).toInt64)) ((1 : Int32).toNatClampNeg) ((((((p1 / 10) / 10) / 10) / 10) - ((((p1 / 10) / 10) / 10) / 10) / 10 * 10).toInt64)) ((0 : Int32).toNatClampNeg) (((((((p1 / 10) / 10) / 10) / 10) / 10) - (((((p1 / 10) / 10) / 10) / 10) / 10) / 10 * 10).toInt64))))), (h5, .inr (8, [.ref h10, .int wp19222])), (h10, .inl (y 1, 3, .inr (.inl (vp_updL (fun _ => 0) ((0 : Int32).toNatClampNeg) 6))))] H := hP
  replace hD : va_D A [(h0, .inr (5, [.ref h2, .ref h3, .ref h4, .ref h5, .int wp19219])), (h2, .inr (8, [.ref h12, .int 0])), (h4, .inr (8, [.ref h7, .int wp19220])), (h7, .inl (y 1, 18, .inr (.inl (vp_updL (vp_updL (vp_updL (vp_updL (vp_updL (vp_updL wf19221 ((5 : Int32).toNatClampNeg) ((p1 - p1 / 10 * 10).toInt64)) ((4 : Int32).toNatClampNeg) (((p1 / 10) - (p1 / 10) / 10 * 10).toInt64)) ((3 : Int32).toNatClampNeg) ((((p1 / 10) / 10) - ((p1 / 10) / 10) / 10 * 10).toInt64)) ((2 : Int32).toNatClampNeg) (((((p1 / 10) / 10) / 10) - (((p1 / 10) / 10) / 10) / 10 * 10).toInt64)) ((1 : Int32).toNatClampNeg) ((((((p1 / 10) / 10) / 10) / 10) - ((((p1 / 10) / 10) / 10) / 10) / 10 * 10).toInt64)) ((0 : Int32).toNatClampNeg) (((((((p1 / 10) / 10) / 10) / 10) / 10) - (((((p1 / 10) / 10) / 10) / 10) / 10) / 10 * 10).toInt64))))), (h5, .inr (8, [.ref h10, .int wp19222])), (h10, .inl (y 1, 3, .inr (.inl (vp_updL (fun _ => 0) ((0 : Int32).toNatClampNeg) 6))))] := hD
  refine lv_aload_n hx hb dX5_tellSecret_56 rfl (lv_at hl 2 rfl) ?_
  refine g_av (wr := [(h4, .inr (8, [.ref h7, .int wp19220])), (h7, .inl (y 1, 18, .inr (.inl (vp_updL (vp_updL (vp_updL (vp_updL (vp_updL (vp_updL wf19221 ((5 : Int32).toNatClampNeg) ((p1 - p1 / 10 * 10).toInt64)) ((4 : Int32).toNatClampNeg) (((p1 / 10) - (p1 / 10) / 10 * 10).toInt64)) ((3 : Int32).toNatClampNeg) ((((p1 / 10) / 10) - ((p1 / 10) / 10) / 10 * 10).toInt64)) ((2 : Int32).toNatClampNeg) (((((p1 / 10) / 10) / 10) - (((p1 / 10) / 10) / 10) / 10 * 10).toInt64)) ((1 : Int32).toNatClampNeg) ((((((p1 / 10) / 10) / 10) / 10) - ((((p1 / 10) / 10) / 10) / 10) / 10 * 10).toInt64)) ((0 : Int32).toNatClampNeg) (((((((p1 / 10) / 10) / 10) / 10) / 10) - (((((p1 / 10) / 10) / 10) / 10) / 10) / 10 * 10).toInt64))))), (h5, .inr (8, [.ref h10, .int wp19222])), (h10, .inl (y 1, 3, .inr (.inl (vp_updL (fun _ => 0) ((0 : Int32).toNatClampNeg) 6))))]) (va_runV (As := []) (rest := []) ⟨hx, hb, hml, hown, hg⟩ (k_X5_findOut_0 l D y aS H.size h0 h2 h3 h4 h5 wp19219 h12) (cwV 0 hg ggV_RX5_33_X5_findOut rfl rfl rfl (by decide +kernel) ⟨Nat.le_of_ble_eq_true rfl, Nat.le_of_ble_eq_true rfl⟩) (g_preV (q := (RX5, TX5, 5)) hK hP hD [0, 1] rfl (by decide) (ci := 5) (q0 := 0) rfl rfl) rfl rfl hl.1 rfl (lv_room (Nat.le_of_ble_eq_true rfl)) dX5_tellSecret_57 ⟨Nat.le_of_ble_eq_true rfl, Nat.le_of_ble_eq_true rfl⟩) hP hD hS hA [0, 1] [2, 3, 4, 5] rfl rfl (by decide) (by decide) ?_
  clear hP hD hS H locs
  refine fun u H locs hq hP hD hS => ?_
  replace hP : va_P D vwCl [(h4, .inr (8, [.ref h7, .int wp19220])), (h7, .inl (y 1, 18, .inr (.inl (vp_updL (vp_updL (vp_updL (vp_updL (vp_updL (vp_updL wf19221 ((5 : Int32).toNatClampNeg) ((p1 - p1 / 10 * 10).toInt64)) ((4 : Int32).toNatClampNeg) (((p1 / 10) - (p1 / 10) / 10 * 10).toInt64)) ((3 : Int32).toNatClampNeg) ((((p1 / 10) / 10) - ((p1 / 10) / 10) / 10 * 10).toInt64)) ((2 : Int32).toNatClampNeg) (((((p1 / 10) / 10) / 10) - (((p1 / 10) / 10) / 10) / 10 * 10).toInt64)) ((1 : Int32).toNatClampNeg) ((((((p1 / 10) / 10) / 10) / 10) - ((((p1 / 10) / 10) / 10) / 10) / 10 * 10).toInt64)) ((0 : Int32).toNatClampNeg) (((((((p1 / 10) / 10) / 10) / 10) / 10) - (((((p1 / 10) / 10) / 10) / 10) / 10) / 10 * 10).toInt64))))), (h5, .inr (8, [.ref h10, .int wp19222])), (h10, .inl (y 1, 3, .inr (.inl (vp_updL (fun _ => 0) ((0 : Int32).toNatClampNeg) 6)))), (h0, .inr (5, [.ref h2, .ref h3, .ref h4, .ref h5, .int 0])), (h2, .inr (8, [.ref h12, .int 0]))] H := hP
  replace hD : va_D A [(h4, .inr (8, [.ref h7, .int wp19220])), (h7, .inl (y 1, 18, .inr (.inl (vp_updL (vp_updL (vp_updL (vp_updL (vp_updL (vp_updL wf19221 ((5 : Int32).toNatClampNeg) ((p1 - p1 / 10 * 10).toInt64)) ((4 : Int32).toNatClampNeg) (((p1 / 10) - (p1 / 10) / 10 * 10).toInt64)) ((3 : Int32).toNatClampNeg) ((((p1 / 10) / 10) - ((p1 / 10) / 10) / 10 * 10).toInt64)) ((2 : Int32).toNatClampNeg) (((((p1 / 10) / 10) / 10) - (((p1 / 10) / 10) / 10) / 10 * 10).toInt64)) ((1 : Int32).toNatClampNeg) ((((((p1 / 10) / 10) / 10) / 10) - ((((p1 / 10) / 10) / 10) / 10) / 10 * 10).toInt64)) ((0 : Int32).toNatClampNeg) (((((((p1 / 10) / 10) / 10) / 10) / 10) - (((((p1 / 10) / 10) / 10) / 10) / 10) / 10 * 10).toInt64))))), (h5, .inr (8, [.ref h10, .int wp19222])), (h10, .inl (y 1, 3, .inr (.inl (vp_updL (fun _ => 0) ((0 : Int32).toNatClampNeg) 6)))), (h0, .inr (5, [.ref h2, .ref h3, .ref h4, .ref h5, .int 0])), (h2, .inr (8, [.ref h12, .int 0]))] := hD
  refine lv_iconst (v := 0) hx hb dX5_tellSecret_60 (by decide) ?_
  refine lv_istore (lv' := [(5, .int 0), (4, .int ((((((p1 / 10) / 10) / 10) / 10) / 10) / 10)), (0, .ref h0), (1, .int 0), (2, .int p1), (3, .int 6)]) hx hb dX5_tellSecret_61 hl (by decide) rfl ?_
  clear hl
  clear ls
  intro ls hl
  refine lv_iconst (v := 0) hx hb dX5_tellSecret_63 (by decide) ?_
  refine lv_istore (lv' := [(6, .int 0), (5, .int 0), (4, .int ((((((p1 / 10) / 10) / 10) / 10) / 10) / 10)), (0, .ref h0), (1, .int 0), (2, .int p1), (3, .int 6)]) hx hb dX5_tellSecret_64 hl (by decide) rfl ?_
  clear hl
  clear ls
  intro ls hl
  refine lv_iload hx hb dX5_tellSecret_66 (lv_at hl 0 rfl) ?_
  refine lv_iconst (v := 3) hx hb dX5_tellSecret_68 (by decide) ?_
  refine lv_icmp_ge (tgt := 95) hx hb dX5_tellSecret_69 (by decide) (fun c9 => absurd c9 (by decide +kernel)) (fun _ => ?_)
  refine lv_aload_n hx hb dX5_tellSecret_72 rfl (lv_at hl 3 rfl) ?_
  refine gm_get (D := D) (ci := 5) (v := .ref h5) (C := RX5) (T := TX5) (N := 5) hx hb hg inlX5 hown hK.1 hP 4 rfl rfl 3 (by decide) tX5_3 (hg _ gw_141) rfl dX5_tellSecret_73 ?_
  refine lv_iload hx hb dX5_tellSecret_76 (lv_at hl 0 rfl) ?_
  refine g_al (wr := [(h4, .inr (8, [.ref h7, .int wp19220])), (h7, .inl (y 1, 18, .inr (.inl (vp_updL (vp_updL (vp_updL (vp_updL (vp_updL (vp_updL wf19221 ((5 : Int32).toNatClampNeg) ((p1 - p1 / 10 * 10).toInt64)) ((4 : Int32).toNatClampNeg) (((p1 / 10) - (p1 / 10) / 10 * 10).toInt64)) ((3 : Int32).toNatClampNeg) ((((p1 / 10) / 10) - ((p1 / 10) / 10) / 10 * 10).toInt64)) ((2 : Int32).toNatClampNeg) (((((p1 / 10) / 10) / 10) - (((p1 / 10) / 10) / 10) / 10 * 10).toInt64)) ((1 : Int32).toNatClampNeg) ((((((p1 / 10) / 10) / 10) / 10) - ((((p1 / 10) / 10) / 10) / 10) / 10 * 10).toInt64)) ((0 : Int32).toNatClampNeg) (((((((p1 / 10) / 10) / 10) / 10) / 10) - (((((p1 / 10) / 10) / 10) / 10) / 10) / 10 * 10).toInt64))))), (h0, .inr (5, [.ref h2, .ref h3, .ref h4, .ref h5, .int 0])), (h2, .inr (8, [.ref h12, .int 0]))]) (va_runV (As := [.int 0]) (rest := []) ⟨hx, hb, hml, hown, hg⟩ (k_X8_get_38 l D y aS H.size h5 h10 wp19222) (cwV 1 hg ggV_RX5_36_X8_get rfl rfl rfl (by decide +kernel) ⟨Nat.le_of_ble_eq_true rfl, Nat.le_of_ble_eq_true rfl⟩) (g_preV (q := (RX8, TX8, 2)) hK hP hD [2, 3] rfl (by decide) (ci := 8) (q0 := 2) rfl rfl) rfl rfl hl.1 rfl (lv_room (Nat.le_of_ble_eq_true rfl)) dX5_tellSecret_78 ⟨Nat.le_of_ble_eq_true rfl, Nat.le_of_ble_eq_true rfl⟩) hP hD hS hA [2, 3] [0, 1, 4, 5] rfl rfl (by decide) (by decide) ?_
  clear hP hD hS H locs
  refine fun r19231 u H locs hq hP hD hS => ?_
  subst hq
  replace hP : va_P D vwCl [(h4, .inr (8, [.ref h7, .int wp19220])), (h7, .inl (y 1, 18, .inr (.inl (vp_updL (vp_updL (vp_updL (vp_updL (vp_updL (vp_updL wf19221 ((5 : Int32).toNatClampNeg) ((p1 - p1 / 10 * 10).toInt64)) ((4 : Int32).toNatClampNeg) (((p1 / 10) - (p1 / 10) / 10 * 10).toInt64)) ((3 : Int32).toNatClampNeg) ((((p1 / 10) / 10) - ((p1 / 10) / 10) / 10 * 10).toInt64)) ((2 : Int32).toNatClampNeg) (((((p1 / 10) / 10) / 10) - (((p1 / 10) / 10) / 10) / 10 * 10).toInt64)) ((1 : Int32).toNatClampNeg) ((((((p1 / 10) / 10) / 10) / 10) - ((((p1 / 10) / 10) / 10) / 10) / 10 * 10).toInt64)) ((0 : Int32).toNatClampNeg) (((((((p1 / 10) / 10) / 10) / 10) / 10) - (((((p1 / 10) / 10) / 10) / 10) / 10) / 10 * 10).toInt64))))), (h0, .inr (5, [.ref h2, .ref h3, .ref h4, .ref h5, .int 0])), (h2, .inr (8, [.ref h12, .int 0])), (h5, .inr (8, [.ref h10, .int wp19222])), (h10, .inl (y 1, 3, .inr (.inl (vp_updL (fun _ => 0) ((0 : Int32).toNatClampNeg) 6))))] H := hP
  replace hD : va_D A [(h4, .inr (8, [.ref h7, .int wp19220])), (h7, .inl (y 1, 18, .inr (.inl (vp_updL (vp_updL (vp_updL (vp_updL (vp_updL (vp_updL wf19221 ((5 : Int32).toNatClampNeg) ((p1 - p1 / 10 * 10).toInt64)) ((4 : Int32).toNatClampNeg) (((p1 / 10) - (p1 / 10) / 10 * 10).toInt64)) ((3 : Int32).toNatClampNeg) ((((p1 / 10) / 10) - ((p1 / 10) / 10) / 10 * 10).toInt64)) ((2 : Int32).toNatClampNeg) (((((p1 / 10) / 10) / 10) - (((p1 / 10) / 10) / 10) / 10 * 10).toInt64)) ((1 : Int32).toNatClampNeg) ((((((p1 / 10) / 10) / 10) / 10) - ((((p1 / 10) / 10) / 10) / 10) / 10 * 10).toInt64)) ((0 : Int32).toNatClampNeg) (((((((p1 / 10) / 10) / 10) / 10) / 10) - (((((p1 / 10) / 10) / 10) / 10) / 10) / 10 * 10).toInt64))))), (h0, .inr (5, [.ref h2, .ref h3, .ref h4, .ref h5, .int 0])), (h2, .inr (8, [.ref h12, .int 0])), (h5, .inr (8, [.ref h10, .int wp19222])), (h10, .inl (y 1, 3, .inr (.inl (vp_updL (fun _ => 0) ((0 : Int32).toNatClampNeg) 6))))] := hD
  refine lv_lconst (v := 0) hx hb dX5_tellSecret_81 (by decide) ?_
  refine W.lcmp hx hb dX5_tellSecret_82 ?_
  refine g_fi (v := 1) (by decide +kernel) ?_
  refine lv_if_le (tgt := 89) hx hb dX5_tellSecret_83 (by decide) (fun c9 => absurd c9 (by decide +kernel)) (fun _ => ?_)
  refine lv_iinc (v := 1) (lv' := [(5, .int 1), (6, .int 0), (4, .int ((((((p1 / 10) / 10) / 10) / 10) / 10) / 10)), (0, .ref h0), (1, .int 0), (2, .int p1), (3, .int 6)]) hx hb dX5_tellSecret_86 hl (k := 1) rfl (by decide +kernel) (by decide) rfl ?_
  clear hl
  clear ls
  intro ls hl
  refine lv_iinc (v := 1) (lv' := [(6, .int 1), (5, .int 1), (4, .int ((((((p1 / 10) / 10) / 10) / 10) / 10) / 10)), (0, .ref h0), (1, .int 0), (2, .int p1), (3, .int 6)]) hx hb dX5_tellSecret_89 hl (k := 1) rfl (by decide +kernel) (by decide) rfl ?_
  clear hl
  clear ls
  intro ls hl
  refine lv_goto (tgt := 66) hx hb dX5_tellSecret_92 (by decide) ?_
  refine lv_iload hx hb dX5_tellSecret_66 (lv_at hl 0 rfl) ?_
  refine lv_iconst (v := 3) hx hb dX5_tellSecret_68 (by decide) ?_
  refine lv_icmp_ge (tgt := 95) hx hb dX5_tellSecret_69 (by decide) (fun c9 => absurd c9 (by decide +kernel)) (fun _ => ?_)
  refine lv_aload_n hx hb dX5_tellSecret_72 rfl (lv_at hl 3 rfl) ?_
  refine gm_get (D := D) (ci := 5) (v := .ref h5) (C := RX5) (T := TX5) (N := 5) hx hb hg inlX5 hown hK.1 hP 2 rfl rfl 3 (by decide) tX5_3 (hg _ gw_141) rfl dX5_tellSecret_73 ?_
  refine lv_iload hx hb dX5_tellSecret_76 (lv_at hl 0 rfl) ?_
  refine g_al (wr := [(h4, .inr (8, [.ref h7, .int wp19220])), (h7, .inl (y 1, 18, .inr (.inl (vp_updL (vp_updL (vp_updL (vp_updL (vp_updL (vp_updL wf19221 ((5 : Int32).toNatClampNeg) ((p1 - p1 / 10 * 10).toInt64)) ((4 : Int32).toNatClampNeg) (((p1 / 10) - (p1 / 10) / 10 * 10).toInt64)) ((3 : Int32).toNatClampNeg) ((((p1 / 10) / 10) - ((p1 / 10) / 10) / 10 * 10).toInt64)) ((2 : Int32).toNatClampNeg) (((((p1 / 10) / 10) / 10) - (((p1 / 10) / 10) / 10) / 10 * 10).toInt64)) ((1 : Int32).toNatClampNeg) ((((((p1 / 10) / 10) / 10) / 10) - ((((p1 / 10) / 10) / 10) / 10) / 10 * 10).toInt64)) ((0 : Int32).toNatClampNeg) (((((((p1 / 10) / 10) / 10) / 10) / 10) - (((((p1 / 10) / 10) / 10) / 10) / 10) / 10 * 10).toInt64))))), (h0, .inr (5, [.ref h2, .ref h3, .ref h4, .ref h5, .int 0])), (h2, .inr (8, [.ref h12, .int 0]))]) (va_runV (As := [.int 1]) (rest := []) ⟨hx, hb, hml, hown, hg⟩ (k_X8_get_39 l D y aS H.size h5 h10 wp19222) (cwV 1 hg ggV_RX5_36_X8_get rfl rfl rfl (by decide +kernel) ⟨Nat.le_of_ble_eq_true rfl, Nat.le_of_ble_eq_true rfl⟩) (g_preV (q := (RX8, TX8, 2)) hK hP hD [4, 5] rfl (by decide) (ci := 8) (q0 := 4) rfl rfl) rfl rfl hl.1 rfl (lv_room (Nat.le_of_ble_eq_true rfl)) dX5_tellSecret_78 ⟨Nat.le_of_ble_eq_true rfl, Nat.le_of_ble_eq_true rfl⟩) hP hD hS hA [4, 5] [0, 1, 2, 3] rfl rfl (by decide) (by decide) ?_
  clear hP hD hS H locs
  refine fun r19232 u H locs hq hP hD hS => ?_
  subst hq
  replace hP : va_P D vwCl [(h4, .inr (8, [.ref h7, .int wp19220])), (h7, .inl (y 1, 18, .inr (.inl (vp_updL (vp_updL (vp_updL (vp_updL (vp_updL (vp_updL wf19221 ((5 : Int32).toNatClampNeg) ((p1 - p1 / 10 * 10).toInt64)) ((4 : Int32).toNatClampNeg) (((p1 / 10) - (p1 / 10) / 10 * 10).toInt64)) ((3 : Int32).toNatClampNeg) ((((p1 / 10) / 10) - ((p1 / 10) / 10) / 10 * 10).toInt64)) ((2 : Int32).toNatClampNeg) (((((p1 / 10) / 10) / 10) - (((p1 / 10) / 10) / 10) / 10 * 10).toInt64)) ((1 : Int32).toNatClampNeg) ((((((p1 / 10) / 10) / 10) / 10) - ((((p1 / 10) / 10) / 10) / 10) / 10 * 10).toInt64)) ((0 : Int32).toNatClampNeg) (((((((p1 / 10) / 10) / 10) / 10) / 10) - (((((p1 / 10) / 10) / 10) / 10) / 10) / 10 * 10).toInt64))))), (h0, .inr (5, [.ref h2, .ref h3, .ref h4, .ref h5, .int 0])), (h2, .inr (8, [.ref h12, .int 0])), (h5, .inr (8, [.ref h10, .int wp19222])), (h10, .inl (y 1, 3, .inr (.inl (vp_updL (fun _ => 0) ((0 : Int32).toNatClampNeg) 6))))] H := hP
  replace hD : va_D A [(h4, .inr (8, [.ref h7, .int wp19220])), (h7, .inl (y 1, 18, .inr (.inl (vp_updL (vp_updL (vp_updL (vp_updL (vp_updL (vp_updL wf19221 ((5 : Int32).toNatClampNeg) ((p1 - p1 / 10 * 10).toInt64)) ((4 : Int32).toNatClampNeg) (((p1 / 10) - (p1 / 10) / 10 * 10).toInt64)) ((3 : Int32).toNatClampNeg) ((((p1 / 10) / 10) - ((p1 / 10) / 10) / 10 * 10).toInt64)) ((2 : Int32).toNatClampNeg) (((((p1 / 10) / 10) / 10) - (((p1 / 10) / 10) / 10) / 10 * 10).toInt64)) ((1 : Int32).toNatClampNeg) ((((((p1 / 10) / 10) / 10) / 10) - ((((p1 / 10) / 10) / 10) / 10) / 10 * 10).toInt64)) ((0 : Int32).toNatClampNeg) (((((((p1 / 10) / 10) / 10) / 10) / 10) - (((((p1 / 10) / 10) / 10) / 10) / 10) / 10 * 10).toInt64))))), (h0, .inr (5, [.ref h2, .ref h3, .ref h4, .ref h5, .int 0])), (h2, .inr (8, [.ref h12, .int 0])), (h5, .inr (8, [.ref h10, .int wp19222])), (h10, .inl (y 1, 3, .inr (.inl (vp_updL (fun _ => 0) ((0 : Int32).toNatClampNeg) 6))))] := hD
  refine lv_lconst (v := 0) hx hb dX5_tellSecret_81 (by decide) ?_
  refine W.lcmp hx hb dX5_tellSecret_82 ?_
  refine g_fi (v := 0) (by decide +kernel) ?_
  refine lv_if_le (tgt := 89) hx hb dX5_tellSecret_83 (by decide) (fun _ => ?_) (fun c9 => absurd c9 (by decide +kernel))
  refine lv_iinc (v := 2) (lv' := [(6, .int 2), (5, .int 1), (4, .int ((((((p1 / 10) / 10) / 10) / 10) / 10) / 10)), (0, .ref h0), (1, .int 0), (2, .int p1), (3, .int 6)]) hx hb dX5_tellSecret_89 hl (k := 0) rfl (by decide +kernel) (by decide) rfl ?_
  clear hl
  clear ls
  intro ls hl
  refine lv_goto (tgt := 66) hx hb dX5_tellSecret_92 (by decide) ?_
  refine lv_iload hx hb dX5_tellSecret_66 (lv_at hl 0 rfl) ?_
  refine lv_iconst (v := 3) hx hb dX5_tellSecret_68 (by decide) ?_
  refine lv_icmp_ge (tgt := 95) hx hb dX5_tellSecret_69 (by decide) (fun c9 => absurd c9 (by decide +kernel)) (fun _ => ?_)
  refine lv_aload_n hx hb dX5_tellSecret_72 rfl (lv_at hl 3 rfl) ?_
  refine gm_get (D := D) (ci := 5) (v := .ref h5) (C := RX5) (T := TX5) (N := 5) hx hb hg inlX5 hown hK.1 hP 2 rfl rfl 3 (by decide) tX5_3 (hg _ gw_141) rfl dX5_tellSecret_73 ?_
  refine lv_iload hx hb dX5_tellSecret_76 (lv_at hl 0 rfl) ?_
  refine g_al (wr := [(h4, .inr (8, [.ref h7, .int wp19220])), (h7, .inl (y 1, 18, .inr (.inl (vp_updL (vp_updL (vp_updL (vp_updL (vp_updL (vp_updL wf19221 ((5 : Int32).toNatClampNeg) ((p1 - p1 / 10 * 10).toInt64)) ((4 : Int32).toNatClampNeg) (((p1 / 10) - (p1 / 10) / 10 * 10).toInt64)) ((3 : Int32).toNatClampNeg) ((((p1 / 10) / 10) - ((p1 / 10) / 10) / 10 * 10).toInt64)) ((2 : Int32).toNatClampNeg) (((((p1 / 10) / 10) / 10) - (((p1 / 10) / 10) / 10) / 10 * 10).toInt64)) ((1 : Int32).toNatClampNeg) ((((((p1 / 10) / 10) / 10) / 10) - ((((p1 / 10) / 10) / 10) / 10) / 10 * 10).toInt64)) ((0 : Int32).toNatClampNeg) (((((((p1 / 10) / 10) / 10) / 10) / 10) - (((((p1 / 10) / 10) / 10) / 10) / 10) / 10 * 10).toInt64))))), (h0, .inr (5, [.ref h2, .ref h3, .ref h4, .ref h5, .int 0])), (h2, .inr (8, [.ref h12, .int 0]))]) (va_runV (As := [.int 2]) (rest := []) ⟨hx, hb, hml, hown, hg⟩ (k_X8_get_40 l D y aS H.size h5 h10 wp19222) (cwV 1 hg ggV_RX5_36_X8_get rfl rfl rfl (by decide +kernel) ⟨Nat.le_of_ble_eq_true rfl, Nat.le_of_ble_eq_true rfl⟩) (g_preV (q := (RX8, TX8, 2)) hK hP hD [4, 5] rfl (by decide) (ci := 8) (q0 := 4) rfl rfl) rfl rfl hl.1 rfl (lv_room (Nat.le_of_ble_eq_true rfl)) dX5_tellSecret_78 ⟨Nat.le_of_ble_eq_true rfl, Nat.le_of_ble_eq_true rfl⟩) hP hD hS hA [4, 5] [0, 1, 2, 3] rfl rfl (by decide) (by decide) ?_
  clear hP hD hS H locs
  refine fun r19233 u H locs hq hP hD hS => ?_
  subst hq
  replace hP : va_P D vwCl [(h4, .inr (8, [.ref h7, .int wp19220])), (h7, .inl (y 1, 18, .inr (.inl (vp_updL (vp_updL (vp_updL (vp_updL (vp_updL (vp_updL wf19221 ((5 : Int32).toNatClampNeg) ((p1 - p1 / 10 * 10).toInt64)) ((4 : Int32).toNatClampNeg) (((p1 / 10) - (p1 / 10) / 10 * 10).toInt64)) ((3 : Int32).toNatClampNeg) ((((p1 / 10) / 10) - ((p1 / 10) / 10) / 10 * 10).toInt64)) ((2 : Int32).toNatClampNeg) (((((p1 / 10) / 10) / 10) - (((p1 / 10) / 10) / 10) / 10 * 10).toInt64)) ((1 : Int32).toNatClampNeg) ((((((p1 / 10) / 10) / 10) / 10) - ((((p1 / 10) / 10) / 10) / 10) / 10 * 10).toInt64)) ((0 : Int32).toNatClampNeg) (((((((p1 / 10) / 10) / 10) / 10) / 10) - (((((p1 / 10) / 10) / 10) / 10) / 10) / 10 * 10).toInt64))))), (h0, .inr (5, [.ref h2, .ref h3, .ref h4, .ref h5, .int 0])), (h2, .inr (8, [.ref h12, .int 0])), (h5, .inr (8, [.ref h10, .int wp19222])), (h10, .inl (y 1, 3, .inr (.inl (vp_updL (fun _ => 0) ((0 : Int32).toNatClampNeg) 6))))] H := hP
  replace hD : va_D A [(h4, .inr (8, [.ref h7, .int wp19220])), (h7, .inl (y 1, 18, .inr (.inl (vp_updL (vp_updL (vp_updL (vp_updL (vp_updL (vp_updL wf19221 ((5 : Int32).toNatClampNeg) ((p1 - p1 / 10 * 10).toInt64)) ((4 : Int32).toNatClampNeg) (((p1 / 10) - (p1 / 10) / 10 * 10).toInt64)) ((3 : Int32).toNatClampNeg) ((((p1 / 10) / 10) - ((p1 / 10) / 10) / 10 * 10).toInt64)) ((2 : Int32).toNatClampNeg) (((((p1 / 10) / 10) / 10) - (((p1 / 10) / 10) / 10) / 10 * 10).toInt64)) ((1 : Int32).toNatClampNeg) ((((((p1 / 10) / 10) / 10) / 10) - ((((p1 / 10) / 10) / 10) / 10) / 10 * 10).toInt64)) ((0 : Int32).toNatClampNeg) (((((((p1 / 10) / 10) / 10) / 10) / 10) - (((((p1 / 10) / 10) / 10) / 10) / 10) / 10 * 10).toInt64))))), (h0, .inr (5, [.ref h2, .ref h3, .ref h4, .ref h5, .int 0])), (h2, .inr (8, [.ref h12, .int 0])), (h5, .inr (8, [.ref h10, .int wp19222])), (h10, .inl (y 1, 3, .inr (.inl (vp_updL (fun _ => 0) ((0 : Int32).toNatClampNeg) 6))))] := hD
  refine lv_lconst (v := 0) hx hb dX5_tellSecret_81 (by decide) ?_
  refine W.lcmp hx hb dX5_tellSecret_82 ?_
  refine g_fi (v := 0) (by decide +kernel) ?_
  refine lv_if_le (tgt := 89) hx hb dX5_tellSecret_83 (by decide) (fun _ => ?_) (fun c9 => absurd c9 (by decide +kernel))
  refine lv_iinc (v := 3) (lv' := [(6, .int 3), (5, .int 1), (4, .int ((((((p1 / 10) / 10) / 10) / 10) / 10) / 10)), (0, .ref h0), (1, .int 0), (2, .int p1), (3, .int 6)]) hx hb dX5_tellSecret_89 hl (k := 0) rfl (by decide +kernel) (by decide) rfl ?_
  clear hl
  clear ls
  intro ls hl
  refine lv_goto (tgt := 66) hx hb dX5_tellSecret_92 (by decide) ?_
  refine lv_iload hx hb dX5_tellSecret_66 (lv_at hl 0 rfl) ?_
  refine lv_iconst (v := 3) hx hb dX5_tellSecret_68 (by decide) ?_
  refine lv_icmp_ge (tgt := 95) hx hb dX5_tellSecret_69 (by decide) (fun _ => ?_) (fun c9 => absurd c9 (by decide +kernel))
  refine lv_iload hx hb dX5_tellSecret_95 (lv_at hl 1 rfl) ?_
  exact g_iret hx hb hr hlocks () (hP.sub [2, 0, 1, 4, 5, 3] rfl) (hD.sub [2, 0, 1, 4, 5, 3] (by decide +kernel) rfl) hS rfl rfl (Nat.le_of_ble_eq_true rfl) (Nat.le_of_ble_eq_true rfl) dX5_tellSecret_97
set_option maxRecDepth 100000 in
set_option maxHeartbeats 4000000 in
theorem k_X8_set_43 (l : Launch) (D : va_G) (y : Nat → ClassId) (aS : Nat → Nat) (sz : Nat) (h0 : Nat) (p1 : Int64) (h2 : Nat) (wp19236 : Int32) (wf19237 : Nat → Int64) : Met l yX8_set (Cond.code yX8_set cX8_set 4 none :: wsL_law) ({ frames := 0, cells := 0, slots := 0, locals := 0 } : Room) (va_Pc [.ref h0, .int 11, .long p1] (gI D y aS [(h0, .inr (8, [.ref h2, .int wp19236])), (h2, .inl (y 1, 18, .inr (.inl wf19237)))] sz)) (va_Qv (fun (u : Unit) => True) (fun u => gO D (va_A [(h0, .inr (8, [.ref h2, .int wp19236])), (h2, .inl (y 1, 18, .inr (.inl wf19237)))] sz) [(h0, .inr (8, [.ref h2, .int wp19236])), (h2, .inl (y 1, 18, .inr (.inl (vp_updL wf19237 ((11 : Int32).toNatClampNeg) p1))))]) (va_A [(h0, .inr (8, [.ref h2, .int wp19236])), (h2, .inl (y 1, 18, .inr (.inl wf19237)))] sz)) 0 0 (va_A [(h0, .inr (8, [.ref h2, .int wp19236])), (h2, .inl (y 1, 18, .inr (.inl wf19237)))] sz) := by
  refine g_of (by decide) (Nat.le_of_ble_eq_true rfl) ?_
  intro p e s m below meth c ls A hx hb hr hml hown hg hlocks hin hsz hK hP hD hS hA hAe hl
  rw [← hAe]
  replace hown : s.vm.findClass RX8 = some m.cls := hown
  replace hl : lv_has ls 4 [(0, .ref h0), (1, .int 11), (2, .long p1)] := hl
  refine lv_iload_n hx hb dX8_set_0 rfl (lv_at hl 1 rfl) ?_
  refine lv_if_lt (tgt := 20) hx hb dX8_set_1 (by decide) (fun c9 => absurd c9 (by decide +kernel)) (fun _ => ?_)
  refine lv_iload_n hx hb dX8_set_4 rfl (lv_at hl 1 rfl) ?_
  refine lv_aload_n hx hb dX8_set_5 rfl (lv_at hl 0 rfl) ?_
  refine gm_get (D := D) (ci := 8) (v := .ref h2) (C := RX8) (T := TX8) (N := 2) hx hb hg inlX8 hown hK.1 hP 0 rfl rfl 0 (by decide) tX8_0 (hg _ gw_98) rfl dX8_set_6 ?_
  refine va_alen hx hb hK.1 hP 1 1 rfl rfl (v := 18) rfl dX8_set_9 ?_
  refine lv_icmp_ge (tgt := 20) hx hb dX8_set_10 (by decide) (fun c9 => absurd c9 (by decide +kernel)) (fun _ => ?_)
  refine lv_aload_n hx hb dX8_set_13 rfl (lv_at hl 0 rfl) ?_
  refine gm_get (D := D) (ci := 8) (v := .ref h2) (C := RX8) (T := TX8) (N := 2) hx hb hg inlX8 hown hK.1 hP 0 rfl rfl 0 (by decide) tX8_0 (hg _ gw_98) rfl dX8_set_14 ?_
  refine lv_iload_n hx hb dX8_set_17 rfl (lv_at hl 1 rfl) ?_
  refine lv_lload_n hx hb dX8_set_18 rfl (lv_at hl 2 rfl) ?_
  refine va_last hx hb hK.1 hP hD hS 1 1 rfl rfl (by unfold vp_in; decide +kernel) dX8_set_19 ?_
  clear hP hD hS
  refine fun H locs (hP : va_P D vwCl [(h0, .inr (8, [.ref h2, .int wp19236])), (h2, .inl (y 1, 18, .inr (.inl (vp_updL wf19237 ((11 : Int32).toNatClampNeg) p1))))] H) (hD : va_D A [(h0, .inr (8, [.ref h2, .int wp19236])), (h2, .inl (y 1, 18, .inr (.inl (vp_updL wf19237 ((11 : Int32).toNatClampNeg) p1))))]) hS => ?_
  exact g_vret hx hb hr hlocks () hP hD hS trivial (Nat.le_of_ble_eq_true rfl) (Nat.le_of_ble_eq_true rfl) dX8_set_20
set_option maxRecDepth 100000 in
set_option maxHeartbeats 4000000 in
theorem k_X8_get_41 (l : Launch) (D : va_G) (y : Nat → ClassId) (aS : Nat → Nat) (sz : Nat) (h0 : Nat) (h1 : Nat) (wp19246 : Int32) : Met l yX8_get (Cond.code yX8_get cX8_get 2 (some .long) :: wsL_law) ({ frames := 0, cells := 0, slots := 0, locals := 0 } : Room) (va_Pc [.ref h0, .int 0] (gI D y aS [(h0, .inr (8, [.ref h1, .int wp19246])), (h1, .inl (y 1, 3, .inr (.inl (vp_updL (fun _ => 0) ((1 : Int32).toNatClampNeg) 6))))] sz)) (va_Ql (fun (r : Int64) (u : Unit) => 0 = r) (fun u => gO D (va_A [(h0, .inr (8, [.ref h1, .int wp19246])), (h1, .inl (y 1, 3, .inr (.inl (vp_updL (fun _ => 0) ((1 : Int32).toNatClampNeg) 6))))] sz) [(h0, .inr (8, [.ref h1, .int wp19246])), (h1, .inl (y 1, 3, .inr (.inl (vp_updL (fun _ => 0) ((1 : Int32).toNatClampNeg) 6))))]) (va_A [(h0, .inr (8, [.ref h1, .int wp19246])), (h1, .inl (y 1, 3, .inr (.inl (vp_updL (fun _ => 0) ((1 : Int32).toNatClampNeg) 6))))] sz)) 0 0 (va_A [(h0, .inr (8, [.ref h1, .int wp19246])), (h1, .inl (y 1, 3, .inr (.inl (vp_updL (fun _ => 0) ((1 : Int32).toNatClampNeg) 6))))] sz) := by
  refine g_of (by decide) (Nat.le_of_ble_eq_true rfl) ?_
  intro p e s m below meth c ls A hx hb hr hml hown hg hlocks hin hsz hK hP hD hS hA hAe hl
  rw [← hAe]
  replace hown : s.vm.findClass RX8 = some m.cls := hown
  replace hl : lv_has ls 2 [(0, .ref h0), (1, .int 0)] := hl
  refine lv_iload_n hx hb dX8_get_0 rfl (lv_at hl 1 rfl) ?_
  refine lv_if_lt (tgt := 22) hx hb dX8_get_1 (by decide) (fun c9 => absurd c9 (by decide +kernel)) (fun _ => ?_)
  refine lv_iload_n hx hb dX8_get_4 rfl (lv_at hl 1 rfl) ?_
  refine lv_aload_n hx hb dX8_get_5 rfl (lv_at hl 0 rfl) ?_
  refine gm_get (D := D) (ci := 8) (v := .ref h1) (C := RX8) (T := TX8) (N := 2) hx hb hg inlX8 hown hK.1 hP 0 rfl rfl 0 (by decide) tX8_0 (hg _ gw_98) rfl dX8_get_6 ?_
  refine va_alen hx hb hK.1 hP 1 1 rfl rfl (v := 3) rfl dX8_get_9 ?_
  refine lv_icmp_ge (tgt := 22) hx hb dX8_get_10 (by decide) (fun c9 => absurd c9 (by decide +kernel)) (fun _ => ?_)
  refine lv_aload_n hx hb dX8_get_13 rfl (lv_at hl 0 rfl) ?_
  refine gm_get (D := D) (ci := 8) (v := .ref h1) (C := RX8) (T := TX8) (N := 2) hx hb hg inlX8 hown hK.1 hP 0 rfl rfl 0 (by decide) tX8_0 (hg _ gw_98) rfl dX8_get_14 ?_
  refine lv_iload_n hx hb dX8_get_17 rfl (lv_at hl 1 rfl) ?_
  refine va_lald hx hb hK.1 hP 1 1 rfl rfl (by unfold vp_in; decide +kernel) dX8_get_18 ?_
  refine g_fj (v := 0) (by rfl) ?_
  refine lv_goto (tgt := 23) hx hb dX8_get_19 (by decide) ?_
  exact g_lret hx hb hr hlocks () hP hD hS rfl (Nat.le_of_ble_eq_true rfl) (Nat.le_of_ble_eq_true rfl) dX8_get_23
set_option maxRecDepth 100000 in
set_option maxHeartbeats 4000000 in
theorem k_X8_get_42 (l : Launch) (D : va_G) (y : Nat → ClassId) (aS : Nat → Nat) (sz : Nat) (h0 : Nat) (h1 : Nat) (wp19248 : Int32) : Met l yX8_get (Cond.code yX8_get cX8_get 2 (some .long) :: wsL_law) ({ frames := 0, cells := 0, slots := 0, locals := 0 } : Room) (va_Pc [.ref h0, .int 1] (gI D y aS [(h0, .inr (8, [.ref h1, .int wp19248])), (h1, .inl (y 1, 3, .inr (.inl (vp_updL (fun _ => 0) ((1 : Int32).toNatClampNeg) 6))))] sz)) (va_Ql (fun (r : Int64) (u : Unit) => 6 = r) (fun u => gO D (va_A [(h0, .inr (8, [.ref h1, .int wp19248])), (h1, .inl (y 1, 3, .inr (.inl (vp_updL (fun _ => 0) ((1 : Int32).toNatClampNeg) 6))))] sz) [(h0, .inr (8, [.ref h1, .int wp19248])), (h1, .inl (y 1, 3, .inr (.inl (vp_updL (fun _ => 0) ((1 : Int32).toNatClampNeg) 6))))]) (va_A [(h0, .inr (8, [.ref h1, .int wp19248])), (h1, .inl (y 1, 3, .inr (.inl (vp_updL (fun _ => 0) ((1 : Int32).toNatClampNeg) 6))))] sz)) 0 0 (va_A [(h0, .inr (8, [.ref h1, .int wp19248])), (h1, .inl (y 1, 3, .inr (.inl (vp_updL (fun _ => 0) ((1 : Int32).toNatClampNeg) 6))))] sz) := by
  refine g_of (by decide) (Nat.le_of_ble_eq_true rfl) ?_
  intro p e s m below meth c ls A hx hb hr hml hown hg hlocks hin hsz hK hP hD hS hA hAe hl
  rw [← hAe]
  replace hown : s.vm.findClass RX8 = some m.cls := hown
  replace hl : lv_has ls 2 [(0, .ref h0), (1, .int 1)] := hl
  refine lv_iload_n hx hb dX8_get_0 rfl (lv_at hl 1 rfl) ?_
  refine lv_if_lt (tgt := 22) hx hb dX8_get_1 (by decide) (fun c9 => absurd c9 (by decide +kernel)) (fun _ => ?_)
  refine lv_iload_n hx hb dX8_get_4 rfl (lv_at hl 1 rfl) ?_
  refine lv_aload_n hx hb dX8_get_5 rfl (lv_at hl 0 rfl) ?_
  refine gm_get (D := D) (ci := 8) (v := .ref h1) (C := RX8) (T := TX8) (N := 2) hx hb hg inlX8 hown hK.1 hP 0 rfl rfl 0 (by decide) tX8_0 (hg _ gw_98) rfl dX8_get_6 ?_
  refine va_alen hx hb hK.1 hP 1 1 rfl rfl (v := 3) rfl dX8_get_9 ?_
  refine lv_icmp_ge (tgt := 22) hx hb dX8_get_10 (by decide) (fun c9 => absurd c9 (by decide +kernel)) (fun _ => ?_)
  refine lv_aload_n hx hb dX8_get_13 rfl (lv_at hl 0 rfl) ?_
  refine gm_get (D := D) (ci := 8) (v := .ref h1) (C := RX8) (T := TX8) (N := 2) hx hb hg inlX8 hown hK.1 hP 0 rfl rfl 0 (by decide) tX8_0 (hg _ gw_98) rfl dX8_get_14 ?_
  refine lv_iload_n hx hb dX8_get_17 rfl (lv_at hl 1 rfl) ?_
  refine va_lald hx hb hK.1 hP 1 1 rfl rfl (by unfold vp_in; decide +kernel) dX8_get_18 ?_
  refine g_fj (v := 6) (by rfl) ?_
  refine lv_goto (tgt := 23) hx hb dX8_get_19 (by decide) ?_
  exact g_lret hx hb hr hlocks () hP hD hS rfl (Nat.le_of_ble_eq_true rfl) (Nat.le_of_ble_eq_true rfl) dX8_get_23
set_option maxRecDepth 100000 in
set_option maxHeartbeats 4000000 in
theorem k_X8_get_43 (l : Launch) (D : va_G) (y : Nat → ClassId) (aS : Nat → Nat) (sz : Nat) (h0 : Nat) (h1 : Nat) (wp19250 : Int32) : Met l yX8_get (Cond.code yX8_get cX8_get 2 (some .long) :: wsL_law) ({ frames := 0, cells := 0, slots := 0, locals := 0 } : Room) (va_Pc [.ref h0, .int 2] (gI D y aS [(h0, .inr (8, [.ref h1, .int wp19250])), (h1, .inl (y 1, 3, .inr (.inl (vp_updL (fun _ => 0) ((1 : Int32).toNatClampNeg) 6))))] sz)) (va_Ql (fun (r : Int64) (u : Unit) => 0 = r) (fun u => gO D (va_A [(h0, .inr (8, [.ref h1, .int wp19250])), (h1, .inl (y 1, 3, .inr (.inl (vp_updL (fun _ => 0) ((1 : Int32).toNatClampNeg) 6))))] sz) [(h0, .inr (8, [.ref h1, .int wp19250])), (h1, .inl (y 1, 3, .inr (.inl (vp_updL (fun _ => 0) ((1 : Int32).toNatClampNeg) 6))))]) (va_A [(h0, .inr (8, [.ref h1, .int wp19250])), (h1, .inl (y 1, 3, .inr (.inl (vp_updL (fun _ => 0) ((1 : Int32).toNatClampNeg) 6))))] sz)) 0 0 (va_A [(h0, .inr (8, [.ref h1, .int wp19250])), (h1, .inl (y 1, 3, .inr (.inl (vp_updL (fun _ => 0) ((1 : Int32).toNatClampNeg) 6))))] sz) := by
  refine g_of (by decide) (Nat.le_of_ble_eq_true rfl) ?_
  intro p e s m below meth c ls A hx hb hr hml hown hg hlocks hin hsz hK hP hD hS hA hAe hl
  rw [← hAe]
  replace hown : s.vm.findClass RX8 = some m.cls := hown
  replace hl : lv_has ls 2 [(0, .ref h0), (1, .int 2)] := hl
  refine lv_iload_n hx hb dX8_get_0 rfl (lv_at hl 1 rfl) ?_
  refine lv_if_lt (tgt := 22) hx hb dX8_get_1 (by decide) (fun c9 => absurd c9 (by decide +kernel)) (fun _ => ?_)
  refine lv_iload_n hx hb dX8_get_4 rfl (lv_at hl 1 rfl) ?_
  refine lv_aload_n hx hb dX8_get_5 rfl (lv_at hl 0 rfl) ?_
  refine gm_get (D := D) (ci := 8) (v := .ref h1) (C := RX8) (T := TX8) (N := 2) hx hb hg inlX8 hown hK.1 hP 0 rfl rfl 0 (by decide) tX8_0 (hg _ gw_98) rfl dX8_get_6 ?_
  refine va_alen hx hb hK.1 hP 1 1 rfl rfl (v := 3) rfl dX8_get_9 ?_
  refine lv_icmp_ge (tgt := 22) hx hb dX8_get_10 (by decide) (fun c9 => absurd c9 (by decide +kernel)) (fun _ => ?_)
  refine lv_aload_n hx hb dX8_get_13 rfl (lv_at hl 0 rfl) ?_
  refine gm_get (D := D) (ci := 8) (v := .ref h1) (C := RX8) (T := TX8) (N := 2) hx hb hg inlX8 hown hK.1 hP 0 rfl rfl 0 (by decide) tX8_0 (hg _ gw_98) rfl dX8_get_14 ?_
  refine lv_iload_n hx hb dX8_get_17 rfl (lv_at hl 1 rfl) ?_
  refine va_lald hx hb hK.1 hP 1 1 rfl rfl (by unfold vp_in; decide +kernel) dX8_get_18 ?_
  refine g_fj (v := 0) (by rfl) ?_
  refine lv_goto (tgt := 23) hx hb dX8_get_19 (by decide) ?_
  exact g_lret hx hb hr hlocks () hP hD hS rfl (Nat.le_of_ble_eq_true rfl) (Nat.le_of_ble_eq_true rfl) dX8_get_23
set_option maxRecDepth 100000 in
set_option maxHeartbeats 4000000 in
theorem k_X5_tellSecret_13 (l : Launch) (D : va_G) (y : Nat → ClassId) (aS : Nat → Nat) (sz : Nat) (h0 : Nat) (p1 : Int32) (h2 : Nat) (h3 : Nat) (h4 : Nat) (h5 : Nat) (wp19252 : Int32) (h7 : Nat) (wp19253 : Int32) (wf19254 : Nat → Int64) (h10 : Nat) (wp19255 : Int32) (h12 : Nat) : Met l yX5_tellSecret (Cond.code yX5_tellSecret cX5_tellSecret 7 (some .int) :: wsL_law) ({ frames := 1, cells := 0, slots := 0, locals := 23 } : Room) (va_Pc [.ref h0, .int 1, .int p1, .int 6] (gI D y aS [(h0, .inr (5, [.ref h2, .ref h3, .ref h4, .ref h5, .int wp19252])), (h4, .inr (8, [.ref h7, .int wp19253])), (h7, .inl (y 1, 18, .inr (.inl wf19254))), (h5, .inr (8, [.ref h10, .int wp19255])), (h10, .inl (y 1, 3, .inr (.inl (fun _ => 0)))), (h2, .inr (8, [.ref h12, .int 0]))] sz)) (va_Qi (fun (r : Int32) (u : Unit) => 1 = r) (fun u => gO D (va_A [(h0, .inr (5, [.ref h2, .ref h3, .ref h4, .ref h5, .int wp19252])), (h4, .inr (8, [.ref h7, .int wp19253])), (h7, .inl (y 1, 18, .inr (.inl wf19254))), (h5, .inr (8, [.ref h10, .int wp19255])), (h10, .inl (y 1, 3, .inr (.inl (fun _ => 0)))), (h2, .inr (8, [.ref h12, .int 0]))] sz) [(h0, .inr (5, [.ref h2, .ref h3, .ref h4, .ref h5, .int 0])), (h4, .inr (8, [.ref h7, .int wp19253])), (h7, .inl (y 1, 18, .inr (.inl (vp_updL (vp_updL (vp_updL (vp_updL (vp_updL (vp_updL wf19254 ((11 : Int32).toNatClampNeg) ((p1 - p1 / 10 * 10).toInt64)) ((10 : Int32).toNatClampNeg) (((p1 / 10) - (p1 / 10) / 10 * 10).toInt64)) ((9 : Int32).toNatClampNeg) ((((p1 / 10) / 10) - ((p1 / 10) / 10) / 10 * 10).toInt64)) ((8 : Int32).toNatClampNeg) (((((p1 / 10) / 10) / 10) - (((p1 / 10) / 10) / 10) / 10 * 10).toInt64)) ((7 : Int32).toNatClampNeg) ((((((p1 / 10) / 10) / 10) / 10) - ((((p1 / 10) / 10) / 10) / 10) / 10 * 10).toInt64)) ((6 : Int32).toNatClampNeg) (((((((p1 / 10) / 10) / 10) / 10) / 10) - (((((p1 / 10) / 10) / 10) / 10) / 10) / 10 * 10).toInt64))))), (h5, .inr (8, [.ref h10, .int wp19255])), (h10, .inl (y 1, 3, .inr (.inl (vp_updL (fun _ => 0) ((1 : Int32).toNatClampNeg) 6)))), (h2, .inr (8, [.ref h12, .int 0]))]) (va_A [(h0, .inr (5, [.ref h2, .ref h3, .ref h4, .ref h5, .int wp19252])), (h4, .inr (8, [.ref h7, .int wp19253])), (h7, .inl (y 1, 18, .inr (.inl wf19254))), (h5, .inr (8, [.ref h10, .int wp19255])), (h10, .inl (y 1, 3, .inr (.inl (fun _ => 0)))), (h2, .inr (8, [.ref h12, .int 0]))] sz)) 0 0 (va_A [(h0, .inr (5, [.ref h2, .ref h3, .ref h4, .ref h5, .int wp19252])), (h4, .inr (8, [.ref h7, .int wp19253])), (h7, .inl (y 1, 18, .inr (.inl wf19254))), (h5, .inr (8, [.ref h10, .int wp19255])), (h10, .inl (y 1, 3, .inr (.inl (fun _ => 0)))), (h2, .inr (8, [.ref h12, .int 0]))] sz) := by
  refine g_of (by decide) (Nat.le_of_ble_eq_true rfl) ?_
  intro p e s m below meth c ls A hx hb hr hml hown hg hlocks hin hsz hK hP hD hS hA hAe hl
  rw [← hAe]
  replace hown : s.vm.findClass RX5 = some m.cls := hown
  replace hl : lv_has ls 7 [(0, .ref h0), (1, .int 1), (2, .int p1), (3, .int 6)] := hl
  refine lv_iload_n hx hb dX5_tellSecret_0 rfl (lv_at hl 2 rfl) ?_
  refine lv_istore (lv' := [(4, .int p1), (0, .ref h0), (1, .int 1), (2, .int p1), (3, .int 6)]) hx hb dX5_tellSecret_1 hl (by decide) rfl ?_
  clear hl
  clear ls
  intro ls hl
  refine lv_iload_n hx hb dX5_tellSecret_3 rfl (lv_at hl 4 rfl) ?_
  refine lv_iconst (v := 1) hx hb dX5_tellSecret_4 (by decide) ?_
  refine lv_isub hx hb dX5_tellSecret_5 ?_
  refine g_fi (v := 5) (by decide +kernel) ?_
  refine lv_istore (lv' := [(5, .int 5), (4, .int p1), (0, .ref h0), (1, .int 1), (2, .int p1), (3, .int 6)]) hx hb dX5_tellSecret_6 hl (by decide) rfl ?_
  clear hl
  clear ls
  intro ls hl
  refine lv_iload hx hb dX5_tellSecret_8 (lv_at hl 0 rfl) ?_
  refine lv_if_lt (tgt := 46) hx hb dX5_tellSecret_10 (by decide) (fun c9 => absurd c9 (by decide +kernel)) (fun _ => ?_)
  refine lv_aload_n hx hb dX5_tellSecret_13 rfl (lv_at hl 2 rfl) ?_
  refine gm_get (D := D) (ci := 5) (v := .ref h4) (C := RX5) (T := TX5) (N := 5) hx hb hg inlX5 hown hK.1 hP 0 rfl rfl 2 (by decide) tX5_2 (hg _ gw_140) rfl dX5_tellSecret_14 ?_
  refine lv_iload_n hx hb dX5_tellSecret_17 rfl (lv_at hl 3 rfl) ?_
  refine lv_bipush (v := 6) hx hb dX5_tellSecret_18 (by decide +kernel) ?_
  refine lv_imul hx hb dX5_tellSecret_20 ?_
  refine g_fi (v := 6) (by decide +kernel) ?_
  refine lv_iload hx hb dX5_tellSecret_21 (lv_at hl 0 rfl) ?_
  refine lv_iadd hx hb dX5_tellSecret_23 ?_
  refine g_fi (v := 11) (by decide +kernel) ?_
  refine lv_iload hx hb dX5_tellSecret_24 (lv_at hl 1 rfl) ?_
  refine lv_bipush (v := 10) hx hb dX5_tellSecret_26 (by decide +kernel) ?_
  refine lv_irem hx hb dX5_tellSecret_28 (by decide +kernel) ?_
  refine lv_i2l (v := ((p1 - p1 / 10 * 10).toInt64)) hx hb dX5_tellSecret_29 rfl ?_
  refine g_av (wr := [(h0, .inr (5, [.ref h2, .ref h3, .ref h4, .ref h5, .int wp19252])), (h5, .inr (8, [.ref h10, .int wp19255])), (h10, .inl (y 1, 3, .inr (.inl (fun _ => 0)))), (h2, .inr (8, [.ref h12, .int 0]))]) (va_runV (As := [.int 11, .long ((p1 - p1 / 10 * 10).toInt64)]) (rest := []) ⟨hx, hb, hml, hown, hg⟩ (k_X8_set_43 l D y aS s.heap.size h4 ((p1 - p1 / 10 * 10).toInt64) h7 wp19253 wf19254) (cwV 2 hg ggV_RX5_29_X8_set rfl rfl rfl (by decide +kernel) ⟨Nat.le_of_ble_eq_true rfl, Nat.le_of_ble_eq_true rfl⟩) (g_preV (q := (RX8, TX8, 2)) hK hP hD [1, 2] rfl (by decide) (ci := 8) (q0 := 1) rfl rfl) rfl rfl hl.1 rfl (lv_room (Nat.le_of_ble_eq_true rfl)) dX5_tellSecret_30 ⟨Nat.le_of_ble_eq_true rfl, Nat.le_of_ble_eq_true rfl⟩) hP hD hS hA [1, 2] [0, 3, 4, 5] rfl rfl (by decide) (by decide) ?_
  clear hP hD hS
  refine fun u H locs hq hP hD hS => ?_
  replace hP : va_P D vwCl [(h0, .inr (5, [.ref h2, .ref h3, .ref h4, .ref h5, .int wp19252])), (h5, .inr (8, [.ref h10, .int wp19255])), (h10, .inl (y 1, 3, .inr (.inl (fun _ => 0)))), (h2, .inr (8, [.ref h12, .int 0])), (h4, .inr (8, [.ref h7, .int wp19253])), (h7, .inl (y 1, 18, .inr (.inl (vp_updL wf19254 ((11 : Int32).toNatClampNeg) ((p1 - p1 / 10 * 10).toInt64)))))] H := hP
  replace hD : va_D A [(h0, .inr (5, [.ref h2, .ref h3, .ref h4, .ref h5, .int wp19252])), (h5, .inr (8, [.ref h10, .int wp19255])), (h10, .inl (y 1, 3, .inr (.inl (fun _ => 0)))), (h2, .inr (8, [.ref h12, .int 0])), (h4, .inr (8, [.ref h7, .int wp19253])), (h7, .inl (y 1, 18, .inr (.inl (vp_updL wf19254 ((11 : Int32).toNatClampNeg) ((p1 - p1 / 10 * 10).toInt64)))))] := hD
  refine lv_iload hx hb dX5_tellSecret_33 (lv_at hl 1 rfl) ?_
  refine lv_bipush (v := 10) hx hb dX5_tellSecret_35 (by decide +kernel) ?_
  refine lv_idiv hx hb dX5_tellSecret_37 (by decide +kernel) ?_
  refine lv_istore (lv' := [(4, .int (p1 / 10)), (5, .int 5), (0, .ref h0), (1, .int 1), (2, .int p1), (3, .int 6)]) hx hb dX5_tellSecret_38 hl (by decide) rfl ?_
  clear hl
  clear ls
  intro ls hl
  refine lv_iinc (v := 4) (lv' := [(5, .int 4), (4, .int (p1 / 10)), (0, .ref h0), (1, .int 1), (2, .int p1), (3, .int 6)]) hx hb dX5_tellSecret_40 hl (k := 1) rfl (by decide +kernel) (by decide) rfl ?_
  clear hl
  clear ls
  intro ls hl
  refine lv_goto (tgt := 8) hx hb dX5_tellSecret_43 (by decide) ?_
  refine lv_iload hx hb dX5_tellSecret_8 (lv_at hl 0 rfl) ?_
  refine lv_if_lt (tgt := 46) hx hb dX5_tellSecret_10 (by decide) (fun c9 => absurd c9 (by decide +kernel)) (fun _ => ?_)
  refine lv_aload_n hx hb dX5_tellSecret_13 rfl (lv_at hl 2 rfl) ?_
  refine gm_get (D := D) (ci := 5) (v := .ref h4) (C := RX5) (T := TX5) (N := 5) hx hb hg inlX5 hown hK.1 hP 0 rfl rfl 2 (by decide) tX5_2 (hg _ gw_140) rfl dX5_tellSecret_14 ?_
  refine lv_iload_n hx hb dX5_tellSecret_17 rfl (lv_at hl 3 rfl) ?_
  refine lv_bipush (v := 6) hx hb dX5_tellSecret_18 (by decide +kernel) ?_
  refine lv_imul hx hb dX5_tellSecret_20 ?_
  refine g_fi (v := 6) (by decide +kernel) ?_
  refine lv_iload hx hb dX5_tellSecret_21 (lv_at hl 0 rfl) ?_
  refine lv_iadd hx hb dX5_tellSecret_23 ?_
  refine g_fi (v := 10) (by decide +kernel) ?_
  refine lv_iload hx hb dX5_tellSecret_24 (lv_at hl 1 rfl) ?_
  refine lv_bipush (v := 10) hx hb dX5_tellSecret_26 (by decide +kernel) ?_
  refine lv_irem hx hb dX5_tellSecret_28 (by decide +kernel) ?_
  refine lv_i2l (v := (((p1 / 10) - (p1 / 10) / 10 * 10).toInt64)) hx hb dX5_tellSecret_29 rfl ?_
  refine g_av (wr := [(h0, .inr (5, [.ref h2, .ref h3, .ref h4, .ref h5, .int wp19252])), (h5, .inr (8, [.ref h10, .int wp19255])), (h10, .inl (y 1, 3, .inr (.inl (fun _ => 0)))), (h2, .inr (8, [.ref h12, .int 0]))]) (va_runV (As := [.int 10, .long (((p1 / 10) - (p1 / 10) / 10 * 10).toInt64)]) (rest := []) ⟨hx, hb, hml, hown, hg⟩ (k_X8_set_40 l D y aS H.size h4 (((p1 / 10) - (p1 / 10) / 10 * 10).toInt64) h7 wp19253 (vp_updL wf19254 ((11 : Int32).toNatClampNeg) ((p1 - p1 / 10 * 10).toInt64))) (cwV 2 hg ggV_RX5_29_X8_set rfl rfl rfl (by decide +kernel) ⟨Nat.le_of_ble_eq_true rfl, Nat.le_of_ble_eq_true rfl⟩) (g_preV (q := (RX8, TX8, 2)) hK hP hD [4, 5] rfl (by decide) (ci := 8) (q0 := 4) rfl rfl) rfl rfl hl.1 rfl (lv_room (Nat.le_of_ble_eq_true rfl)) dX5_tellSecret_30 ⟨Nat.le_of_ble_eq_true rfl, Nat.le_of_ble_eq_true rfl⟩) hP hD hS hA [4, 5] [0, 1, 2, 3] rfl rfl (by decide) (by decide) ?_
  clear hP hD hS H locs
  refine fun u H locs hq hP hD hS => ?_
  replace hP : va_P D vwCl [(h0, .inr (5, [.ref h2, .ref h3, .ref h4, .ref h5, .int wp19252])), (h5, .inr (8, [.ref h10, .int wp19255])), (h10, .inl (y 1, 3, .inr (.inl (fun _ => 0)))), (h2, .inr (8, [.ref h12, .int 0])), (h4, .inr (8, [.ref h7, .int wp19253])), (h7, .inl (y 1, 18, .inr (.inl (vp_updL (vp_updL wf19254 ((11 : Int32).toNatClampNeg) ((p1 - p1 / 10 * 10).toInt64)) ((10 : Int32).toNatClampNeg) (((p1 / 10) - (p1 / 10) / 10 * 10).toInt64)))))] H := hP
  replace hD : va_D A [(h0, .inr (5, [.ref h2, .ref h3, .ref h4, .ref h5, .int wp19252])), (h5, .inr (8, [.ref h10, .int wp19255])), (h10, .inl (y 1, 3, .inr (.inl (fun _ => 0)))), (h2, .inr (8, [.ref h12, .int 0])), (h4, .inr (8, [.ref h7, .int wp19253])), (h7, .inl (y 1, 18, .inr (.inl (vp_updL (vp_updL wf19254 ((11 : Int32).toNatClampNeg) ((p1 - p1 / 10 * 10).toInt64)) ((10 : Int32).toNatClampNeg) (((p1 / 10) - (p1 / 10) / 10 * 10).toInt64)))))] := hD
  refine lv_iload hx hb dX5_tellSecret_33 (lv_at hl 1 rfl) ?_
  refine lv_bipush (v := 10) hx hb dX5_tellSecret_35 (by decide +kernel) ?_
  refine lv_idiv hx hb dX5_tellSecret_37 (by decide +kernel) ?_
  refine lv_istore (lv' := [(4, .int ((p1 / 10) / 10)), (5, .int 4), (0, .ref h0), (1, .int 1), (2, .int p1), (3, .int 6)]) hx hb dX5_tellSecret_38 hl (by decide) rfl ?_
  clear hl
  clear ls
  intro ls hl
  refine lv_iinc (v := 3) (lv' := [(5, .int 3), (4, .int ((p1 / 10) / 10)), (0, .ref h0), (1, .int 1), (2, .int p1), (3, .int 6)]) hx hb dX5_tellSecret_40 hl (k := 1) rfl (by decide +kernel) (by decide) rfl ?_
  clear hl
  clear ls
  intro ls hl
  refine lv_goto (tgt := 8) hx hb dX5_tellSecret_43 (by decide) ?_
  refine lv_iload hx hb dX5_tellSecret_8 (lv_at hl 0 rfl) ?_
  refine lv_if_lt (tgt := 46) hx hb dX5_tellSecret_10 (by decide) (fun c9 => absurd c9 (by decide +kernel)) (fun _ => ?_)
  refine lv_aload_n hx hb dX5_tellSecret_13 rfl (lv_at hl 2 rfl) ?_
  refine gm_get (D := D) (ci := 5) (v := .ref h4) (C := RX5) (T := TX5) (N := 5) hx hb hg inlX5 hown hK.1 hP 0 rfl rfl 2 (by decide) tX5_2 (hg _ gw_140) rfl dX5_tellSecret_14 ?_
  refine lv_iload_n hx hb dX5_tellSecret_17 rfl (lv_at hl 3 rfl) ?_
  refine lv_bipush (v := 6) hx hb dX5_tellSecret_18 (by decide +kernel) ?_
  refine lv_imul hx hb dX5_tellSecret_20 ?_
  refine g_fi (v := 6) (by decide +kernel) ?_
  refine lv_iload hx hb dX5_tellSecret_21 (lv_at hl 0 rfl) ?_
  refine lv_iadd hx hb dX5_tellSecret_23 ?_
  refine g_fi (v := 9) (by decide +kernel) ?_
  refine lv_iload hx hb dX5_tellSecret_24 (lv_at hl 1 rfl) ?_
  refine lv_bipush (v := 10) hx hb dX5_tellSecret_26 (by decide +kernel) ?_
  refine lv_irem hx hb dX5_tellSecret_28 (by decide +kernel) ?_
  refine lv_i2l (v := ((((p1 / 10) / 10) - ((p1 / 10) / 10) / 10 * 10).toInt64)) hx hb dX5_tellSecret_29 rfl ?_
  refine g_av (wr := [(h0, .inr (5, [.ref h2, .ref h3, .ref h4, .ref h5, .int wp19252])), (h5, .inr (8, [.ref h10, .int wp19255])), (h10, .inl (y 1, 3, .inr (.inl (fun _ => 0)))), (h2, .inr (8, [.ref h12, .int 0]))]) (va_runV (As := [.int 9, .long ((((p1 / 10) / 10) - ((p1 / 10) / 10) / 10 * 10).toInt64)]) (rest := []) ⟨hx, hb, hml, hown, hg⟩ (k_X8_set_37 l D y aS H.size h4 ((((p1 / 10) / 10) - ((p1 / 10) / 10) / 10 * 10).toInt64) h7 wp19253 (vp_updL (vp_updL wf19254 ((11 : Int32).toNatClampNeg) ((p1 - p1 / 10 * 10).toInt64)) ((10 : Int32).toNatClampNeg) (((p1 / 10) - (p1 / 10) / 10 * 10).toInt64))) (cwV 2 hg ggV_RX5_29_X8_set rfl rfl rfl (by decide +kernel) ⟨Nat.le_of_ble_eq_true rfl, Nat.le_of_ble_eq_true rfl⟩) (g_preV (q := (RX8, TX8, 2)) hK hP hD [4, 5] rfl (by decide) (ci := 8) (q0 := 4) rfl rfl) rfl rfl hl.1 rfl (lv_room (Nat.le_of_ble_eq_true rfl)) dX5_tellSecret_30 ⟨Nat.le_of_ble_eq_true rfl, Nat.le_of_ble_eq_true rfl⟩) hP hD hS hA [4, 5] [0, 1, 2, 3] rfl rfl (by decide) (by decide) ?_
  clear hP hD hS H locs
  refine fun u H locs hq hP hD hS => ?_
  replace hP : va_P D vwCl [(h0, .inr (5, [.ref h2, .ref h3, .ref h4, .ref h5, .int wp19252])), (h5, .inr (8, [.ref h10, .int wp19255])), (h10, .inl (y 1, 3, .inr (.inl (fun _ => 0)))), (h2, .inr (8, [.ref h12, .int 0])), (h4, .inr (8, [.ref h7, .int wp19253])), (h7, .inl (y 1, 18, .inr (.inl (vp_updL (vp_updL (vp_updL wf19254 ((11 : Int32).toNatClampNeg) ((p1 - p1 / 10 * 10).toInt64)) ((10 : Int32).toNatClampNeg) (((p1 / 10) - (p1 / 10) / 10 * 10).toInt64)) ((9 : Int32).toNatClampNeg) ((((p1 / 10) / 10) - ((p1 / 10) / 10) / 10 * 10).toInt64)))))] H := hP
  replace hD : va_D A [(h0, .inr (5, [.ref h2, .ref h3, .ref h4, .ref h5, .int wp19252])), (h5, .inr (8, [.ref h10, .int wp19255])), (h10, .inl (y 1, 3, .inr (.inl (fun _ => 0)))), (h2, .inr (8, [.ref h12, .int 0])), (h4, .inr (8, [.ref h7, .int wp19253])), (h7, .inl (y 1, 18, .inr (.inl (vp_updL (vp_updL (vp_updL wf19254 ((11 : Int32).toNatClampNeg) ((p1 - p1 / 10 * 10).toInt64)) ((10 : Int32).toNatClampNeg) (((p1 / 10) - (p1 / 10) / 10 * 10).toInt64)) ((9 : Int32).toNatClampNeg) ((((p1 / 10) / 10) - ((p1 / 10) / 10) / 10 * 10).toInt64)))))] := hD
  refine lv_iload hx hb dX5_tellSecret_33 (lv_at hl 1 rfl) ?_
  refine lv_bipush (v := 10) hx hb dX5_tellSecret_35 (by decide +kernel) ?_
  refine lv_idiv hx hb dX5_tellSecret_37 (by decide +kernel) ?_
  refine lv_istore (lv' := [(4, .int (((p1 / 10) / 10) / 10)), (5, .int 3), (0, .ref h0), (1, .int 1), (2, .int p1), (3, .int 6)]) hx hb dX5_tellSecret_38 hl (by decide) rfl ?_
  clear hl
  clear ls
  intro ls hl
  refine lv_iinc (v := 2) (lv' := [(5, .int 2), (4, .int (((p1 / 10) / 10) / 10)), (0, .ref h0), (1, .int 1), (2, .int p1), (3, .int 6)]) hx hb dX5_tellSecret_40 hl (k := 1) rfl (by decide +kernel) (by decide) rfl ?_
  clear hl
  clear ls
  intro ls hl
  refine lv_goto (tgt := 8) hx hb dX5_tellSecret_43 (by decide) ?_
  refine lv_iload hx hb dX5_tellSecret_8 (lv_at hl 0 rfl) ?_
  refine lv_if_lt (tgt := 46) hx hb dX5_tellSecret_10 (by decide) (fun c9 => absurd c9 (by decide +kernel)) (fun _ => ?_)
  refine lv_aload_n hx hb dX5_tellSecret_13 rfl (lv_at hl 2 rfl) ?_
  refine gm_get (D := D) (ci := 5) (v := .ref h4) (C := RX5) (T := TX5) (N := 5) hx hb hg inlX5 hown hK.1 hP 0 rfl rfl 2 (by decide) tX5_2 (hg _ gw_140) rfl dX5_tellSecret_14 ?_
  refine lv_iload_n hx hb dX5_tellSecret_17 rfl (lv_at hl 3 rfl) ?_
  refine lv_bipush (v := 6) hx hb dX5_tellSecret_18 (by decide +kernel) ?_
  refine lv_imul hx hb dX5_tellSecret_20 ?_
  refine g_fi (v := 6) (by decide +kernel) ?_
  refine lv_iload hx hb dX5_tellSecret_21 (lv_at hl 0 rfl) ?_
  refine lv_iadd hx hb dX5_tellSecret_23 ?_
  refine g_fi (v := 8) (by decide +kernel) ?_
  refine lv_iload hx hb dX5_tellSecret_24 (lv_at hl 1 rfl) ?_
  refine lv_bipush (v := 10) hx hb dX5_tellSecret_26 (by decide +kernel) ?_
  refine lv_irem hx hb dX5_tellSecret_28 (by decide +kernel) ?_
  refine lv_i2l (v := (((((p1 / 10) / 10) / 10) - (((p1 / 10) / 10) / 10) / 10 * 10).toInt64)) hx hb dX5_tellSecret_29 rfl ?_
  refine g_av (wr := [(h0, .inr (5, [.ref h2, .ref h3, .ref h4, .ref h5, .int wp19252])), (h5, .inr (8, [.ref h10, .int wp19255])), (h10, .inl (y 1, 3, .inr (.inl (fun _ => 0)))), (h2, .inr (8, [.ref h12, .int 0]))]) (va_runV (As := [.int 8, .long (((((p1 / 10) / 10) / 10) - (((p1 / 10) / 10) / 10) / 10 * 10).toInt64)]) (rest := []) ⟨hx, hb, hml, hown, hg⟩ (k_X8_set_34 l D y aS H.size h4 (((((p1 / 10) / 10) / 10) - (((p1 / 10) / 10) / 10) / 10 * 10).toInt64) h7 wp19253 (vp_updL (vp_updL (vp_updL wf19254 ((11 : Int32).toNatClampNeg) ((p1 - p1 / 10 * 10).toInt64)) ((10 : Int32).toNatClampNeg) (((p1 / 10) - (p1 / 10) / 10 * 10).toInt64)) ((9 : Int32).toNatClampNeg) ((((p1 / 10) / 10) - ((p1 / 10) / 10) / 10 * 10).toInt64))) (cwV 2 hg ggV_RX5_29_X8_set rfl rfl rfl (by decide +kernel) ⟨Nat.le_of_ble_eq_true rfl, Nat.le_of_ble_eq_true rfl⟩) (g_preV (q := (RX8, TX8, 2)) hK hP hD [4, 5] rfl (by decide) (ci := 8) (q0 := 4) rfl rfl) rfl rfl hl.1 rfl (lv_room (Nat.le_of_ble_eq_true rfl)) dX5_tellSecret_30 ⟨Nat.le_of_ble_eq_true rfl, Nat.le_of_ble_eq_true rfl⟩) hP hD hS hA [4, 5] [0, 1, 2, 3] rfl rfl (by decide) (by decide) ?_
  clear hP hD hS H locs
  refine fun u H locs hq hP hD hS => ?_
  replace hP : va_P D vwCl [(h0, .inr (5, [.ref h2, .ref h3, .ref h4, .ref h5, .int wp19252])), (h5, .inr (8, [.ref h10, .int wp19255])), (h10, .inl (y 1, 3, .inr (.inl (fun _ => 0)))), (h2, .inr (8, [.ref h12, .int 0])), (h4, .inr (8, [.ref h7, .int wp19253])), (h7, .inl (y 1, 18, .inr (.inl (vp_updL (vp_updL (vp_updL (vp_updL wf19254 ((11 : Int32).toNatClampNeg) ((p1 - p1 / 10 * 10).toInt64)) ((10 : Int32).toNatClampNeg) (((p1 / 10) - (p1 / 10) / 10 * 10).toInt64)) ((9 : Int32).toNatClampNeg) ((((p1 / 10) / 10) - ((p1 / 10) / 10) / 10 * 10).toInt64)) ((8 : Int32).toNatClampNeg) (((((p1 / 10) / 10) / 10) - (((p1 / 10) / 10) / 10) / 10 * 10).toInt64)))))] H := hP
  replace hD : va_D A [(h0, .inr (5, [.ref h2, .ref h3, .ref h4, .ref h5, .int wp19252])), (h5, .inr (8, [.ref h10, .int wp19255])), (h10, .inl (y 1, 3, .inr (.inl (fun _ => 0)))), (h2, .inr (8, [.ref h12, .int 0])), (h4, .inr (8, [.ref h7, .int wp19253])), (h7, .inl (y 1, 18, .inr (.inl (vp_updL (vp_updL (vp_updL (vp_updL wf19254 ((11 : Int32).toNatClampNeg) ((p1 - p1 / 10 * 10).toInt64)) ((10 : Int32).toNatClampNeg) (((p1 / 10) - (p1 / 10) / 10 * 10).toInt64)) ((9 : Int32).toNatClampNeg) ((((p1 / 10) / 10) - ((p1 / 10) / 10) / 10 * 10).toInt64)) ((8 : Int32).toNatClampNeg) (((((p1 / 10) / 10) / 10) - (((p1 / 10) / 10) / 10) / 10 * 10).toInt64)))))] := hD
  refine lv_iload hx hb dX5_tellSecret_33 (lv_at hl 1 rfl) ?_
  refine lv_bipush (v := 10) hx hb dX5_tellSecret_35 (by decide +kernel) ?_
  refine lv_idiv hx hb dX5_tellSecret_37 (by decide +kernel) ?_
  refine lv_istore (lv' := [(4, .int ((((p1 / 10) / 10) / 10) / 10)), (5, .int 2), (0, .ref h0), (1, .int 1), (2, .int p1), (3, .int 6)]) hx hb dX5_tellSecret_38 hl (by decide) rfl ?_
  clear hl
  clear ls
  intro ls hl
  refine lv_iinc (v := 1) (lv' := [(5, .int 1), (4, .int ((((p1 / 10) / 10) / 10) / 10)), (0, .ref h0), (1, .int 1), (2, .int p1), (3, .int 6)]) hx hb dX5_tellSecret_40 hl (k := 1) rfl (by decide +kernel) (by decide) rfl ?_
  clear hl
  clear ls
  intro ls hl
  refine lv_goto (tgt := 8) hx hb dX5_tellSecret_43 (by decide) ?_
  refine lv_iload hx hb dX5_tellSecret_8 (lv_at hl 0 rfl) ?_
  refine lv_if_lt (tgt := 46) hx hb dX5_tellSecret_10 (by decide) (fun c9 => absurd c9 (by decide +kernel)) (fun _ => ?_)
  refine lv_aload_n hx hb dX5_tellSecret_13 rfl (lv_at hl 2 rfl) ?_
  refine gm_get (D := D) (ci := 5) (v := .ref h4) (C := RX5) (T := TX5) (N := 5) hx hb hg inlX5 hown hK.1 hP 0 rfl rfl 2 (by decide) tX5_2 (hg _ gw_140) rfl dX5_tellSecret_14 ?_
  refine lv_iload_n hx hb dX5_tellSecret_17 rfl (lv_at hl 3 rfl) ?_
  refine lv_bipush (v := 6) hx hb dX5_tellSecret_18 (by decide +kernel) ?_
  refine lv_imul hx hb dX5_tellSecret_20 ?_
  refine g_fi (v := 6) (by decide +kernel) ?_
  refine lv_iload hx hb dX5_tellSecret_21 (lv_at hl 0 rfl) ?_
  refine lv_iadd hx hb dX5_tellSecret_23 ?_
  refine g_fi (v := 7) (by decide +kernel) ?_
  refine lv_iload hx hb dX5_tellSecret_24 (lv_at hl 1 rfl) ?_
  refine lv_bipush (v := 10) hx hb dX5_tellSecret_26 (by decide +kernel) ?_
  refine lv_irem hx hb dX5_tellSecret_28 (by decide +kernel) ?_
  refine lv_i2l (v := ((((((p1 / 10) / 10) / 10) / 10) - ((((p1 / 10) / 10) / 10) / 10) / 10 * 10).toInt64)) hx hb dX5_tellSecret_29 rfl ?_
  refine g_av (wr := [(h0, .inr (5, [.ref h2, .ref h3, .ref h4, .ref h5, .int wp19252])), (h5, .inr (8, [.ref h10, .int wp19255])), (h10, .inl (y 1, 3, .inr (.inl (fun _ => 0)))), (h2, .inr (8, [.ref h12, .int 0]))]) (va_runV (As := [.int 7, .long ((((((p1 / 10) / 10) / 10) / 10) - ((((p1 / 10) / 10) / 10) / 10) / 10 * 10).toInt64)]) (rest := []) ⟨hx, hb, hml, hown, hg⟩ (k_X8_set_29 l D y aS H.size h4 ((((((p1 / 10) / 10) / 10) / 10) - ((((p1 / 10) / 10) / 10) / 10) / 10 * 10).toInt64) h7 wp19253 (vp_updL (vp_updL (vp_updL (vp_updL wf19254 ((11 : Int32).toNatClampNeg) ((p1 - p1 / 10 * 10).toInt64)) ((10 : Int32).toNatClampNeg) (((p1 / 10) - (p1 / 10) / 10 * 10).toInt64)) ((9 : Int32).toNatClampNeg) ((((p1 / 10) / 10) - ((p1 / 10) / 10) / 10 * 10).toInt64)) ((8 : Int32).toNatClampNeg) (((((p1 / 10) / 10) / 10) - (((p1 / 10) / 10) / 10) / 10 * 10).toInt64))) (cwV 2 hg ggV_RX5_29_X8_set rfl rfl rfl (by decide +kernel) ⟨Nat.le_of_ble_eq_true rfl, Nat.le_of_ble_eq_true rfl⟩) (g_preV (q := (RX8, TX8, 2)) hK hP hD [4, 5] rfl (by decide) (ci := 8) (q0 := 4) rfl rfl) rfl rfl hl.1 rfl (lv_room (Nat.le_of_ble_eq_true rfl)) dX5_tellSecret_30 ⟨Nat.le_of_ble_eq_true rfl, Nat.le_of_ble_eq_true rfl⟩) hP hD hS hA [4, 5] [0, 1, 2, 3] rfl rfl (by decide) (by decide) ?_
  clear hP hD hS H locs
  refine fun u H locs hq hP hD hS => ?_
  replace hP : va_P D vwCl [(h0, .inr (5, [.ref h2, .ref h3, .ref h4, .ref h5, .int wp19252])), (h5, .inr (8, [.ref h10, .int wp19255])), (h10, .inl (y 1, 3, .inr (.inl (fun _ => 0)))), (h2, .inr (8, [.ref h12, .int 0])), (h4, .inr (8, [.ref h7, .int wp19253])), (h7, .inl (y 1, 18, .inr (.inl (vp_updL (vp_updL (vp_updL (vp_updL (vp_updL wf19254 ((11 : Int32).toNatClampNeg) ((p1 - p1 / 10 * 10).toInt64)) ((10 : Int32).toNatClampNeg) (((p1 / 10) - (p1 / 10) / 10 * 10).toInt64)) ((9 : Int32).toNatClampNeg) ((((p1 / 10) / 10) - ((p1 / 10) / 10) / 10 * 10).toInt64)) ((8 : Int32).toNatClampNeg) (((((p1 / 10) / 10) / 10) - (((p1 / 10) / 10) / 10) / 10 * 10).toInt64)) ((7 : Int32).toNatClampNeg) ((((((p1 / 10) / 10) / 10) / 10) - ((((p1 / 10) / 10) / 10) / 10) / 10 * 10).toInt64)))))] H := hP
  replace hD : va_D A [(h0, .inr (5, [.ref h2, .ref h3, .ref h4, .ref h5, .int wp19252])), (h5, .inr (8, [.ref h10, .int wp19255])), (h10, .inl (y 1, 3, .inr (.inl (fun _ => 0)))), (h2, .inr (8, [.ref h12, .int 0])), (h4, .inr (8, [.ref h7, .int wp19253])), (h7, .inl (y 1, 18, .inr (.inl (vp_updL (vp_updL (vp_updL (vp_updL (vp_updL wf19254 ((11 : Int32).toNatClampNeg) ((p1 - p1 / 10 * 10).toInt64)) ((10 : Int32).toNatClampNeg) (((p1 / 10) - (p1 / 10) / 10 * 10).toInt64)) ((9 : Int32).toNatClampNeg) ((((p1 / 10) / 10) - ((p1 / 10) / 10) / 10 * 10).toInt64)) ((8 : Int32).toNatClampNeg) (((((p1 / 10) / 10) / 10) - (((p1 / 10) / 10) / 10) / 10 * 10).toInt64)) ((7 : Int32).toNatClampNeg) ((((((p1 / 10) / 10) / 10) / 10) - ((((p1 / 10) / 10) / 10) / 10) / 10 * 10).toInt64)))))] := hD
  refine lv_iload hx hb dX5_tellSecret_33 (lv_at hl 1 rfl) ?_
  refine lv_bipush (v := 10) hx hb dX5_tellSecret_35 (by decide +kernel) ?_
  refine lv_idiv hx hb dX5_tellSecret_37 (by decide +kernel) ?_
  refine lv_istore (lv' := [(4, .int (((((p1 / 10) / 10) / 10) / 10) / 10)), (5, .int 1), (0, .ref h0), (1, .int 1), (2, .int p1), (3, .int 6)]) hx hb dX5_tellSecret_38 hl (by decide) rfl ?_
  clear hl
  clear ls
  intro ls hl
  refine lv_iinc (v := 0) (lv' := [(5, .int 0), (4, .int (((((p1 / 10) / 10) / 10) / 10) / 10)), (0, .ref h0), (1, .int 1), (2, .int p1), (3, .int 6)]) hx hb dX5_tellSecret_40 hl (k := 1) rfl (by decide +kernel) (by decide) rfl ?_
  clear hl
  clear ls
  intro ls hl
  refine lv_goto (tgt := 8) hx hb dX5_tellSecret_43 (by decide) ?_
  refine lv_iload hx hb dX5_tellSecret_8 (lv_at hl 0 rfl) ?_
  refine lv_if_lt (tgt := 46) hx hb dX5_tellSecret_10 (by decide) (fun c9 => absurd c9 (by decide +kernel)) (fun _ => ?_)
  refine lv_aload_n hx hb dX5_tellSecret_13 rfl (lv_at hl 2 rfl) ?_
  refine gm_get (D := D) (ci := 5) (v := .ref h4) (C := RX5) (T := TX5) (N := 5) hx hb hg inlX5 hown hK.1 hP 0 rfl rfl 2 (by decide) tX5_2 (hg _ gw_140) rfl dX5_tellSecret_14 ?_
  refine lv_iload_n hx hb dX5_tellSecret_17 rfl (lv_at hl 3 rfl) ?_
  refine lv_bipush (v := 6) hx hb dX5_tellSecret_18 (by decide +kernel) ?_
  refine lv_imul hx hb dX5_tellSecret_20 ?_
  refine g_fi (v := 6) (by decide +kernel) ?_
  refine lv_iload hx hb dX5_tellSecret_21 (lv_at hl 0 rfl) ?_
  refine lv_iadd hx hb dX5_tellSecret_23 ?_
  refine g_fi (v := 6) (by decide +kernel) ?_
  refine lv_iload hx hb dX5_tellSecret_24 (lv_at hl 1 rfl) ?_
  refine lv_bipush (v := 10) hx hb dX5_tellSecret_26 (by decide +kernel) ?_
  refine lv_irem hx hb dX5_tellSecret_28 (by decide +kernel) ?_
  refine lv_i2l (v := (((((((p1 / 10) / 10) / 10) / 10) / 10) - (((((p1 / 10) / 10) / 10) / 10) / 10) / 10 * 10).toInt64)) hx hb dX5_tellSecret_29 rfl ?_
  refine g_av (wr := [(h0, .inr (5, [.ref h2, .ref h3, .ref h4, .ref h5, .int wp19252])), (h5, .inr (8, [.ref h10, .int wp19255])), (h10, .inl (y 1, 3, .inr (.inl (fun _ => 0)))), (h2, .inr (8, [.ref h12, .int 0]))]) (va_runV (As := [.int 6, .long (((((((p1 / 10) / 10) / 10) / 10) / 10) - (((((p1 / 10) / 10) / 10) / 10) / 10) / 10 * 10).toInt64)]) (rest := []) ⟨hx, hb, hml, hown, hg⟩ (k_X8_set_30 l D y aS H.size h4 (((((((p1 / 10) / 10) / 10) / 10) / 10) - (((((p1 / 10) / 10) / 10) / 10) / 10) / 10 * 10).toInt64) h7 wp19253 (vp_updL (vp_updL (vp_updL (vp_updL (vp_updL wf19254 ((11 : Int32).toNatClampNeg) ((p1 - p1 / 10 * 10).toInt64)) ((10 : Int32).toNatClampNeg) (((p1 / 10) - (p1 / 10) / 10 * 10).toInt64)) ((9 : Int32).toNatClampNeg) ((((p1 / 10) / 10) - ((p1 / 10) / 10) / 10 * 10).toInt64)) ((8 : Int32).toNatClampNeg) (((((p1 / 10) / 10) / 10) - (((p1 / 10) / 10) / 10) / 10 * 10).toInt64)) ((7 : Int32).toNatClampNeg) ((((((p1 / 10) / 10) / 10) / 10) - ((((p1 / 10) / 10) / 10) / 10) / 10 * 10).toInt64))) (cwV 2 hg ggV_RX5_29_X8_set rfl rfl rfl (by decide +kernel) ⟨Nat.le_of_ble_eq_true rfl, Nat.le_of_ble_eq_true rfl⟩) (g_preV (q := (RX8, TX8, 2)) hK hP hD [4, 5] rfl (by decide) (ci := 8) (q0 := 4) rfl rfl) rfl rfl hl.1 rfl (lv_room (Nat.le_of_ble_eq_true rfl)) dX5_tellSecret_30 ⟨Nat.le_of_ble_eq_true rfl, Nat.le_of_ble_eq_true rfl⟩) hP hD hS hA [4, 5] [0, 1, 2, 3] rfl rfl (by decide) (by decide) ?_
  clear hP hD hS H locs
  refine fun u H locs hq hP hD hS => ?_
  replace hP : va_P D vwCl [(h0, .inr (5, [.ref h2, .ref h3, .ref h4, .ref h5, .int wp19252])), (h5, .inr (8, [.ref h10, .int wp19255])), (h10, .inl (y 1, 3, .inr (.inl (fun _ => 0)))), (h2, .inr (8, [.ref h12, .int 0])), (h4, .inr (8, [.ref h7, .int wp19253])), (h7, .inl (y 1, 18, .inr (.inl (vp_updL (vp_updL (vp_updL (vp_updL (vp_updL (vp_updL wf19254 ((11 : Int32).toNatClampNeg) ((p1 - p1 / 10 * 10).toInt64)) ((10 : Int32).toNatClampNeg) (((p1 / 10) - (p1 / 10) / 10 * 10).toInt64)) ((9 : Int32).toNatClampNeg) ((((p1 / 10) / 10) - ((p1 / 10) / 10) / 10 * 10).toInt64)) ((8 : Int32).toNatClampNeg) (((((p1 / 10) / 10) / 10) - (((p1 / 10) / 10) / 10) / 10 * 10).toInt64)) ((7 : Int32).toNatClampNeg) ((((((p1 / 10) / 10) / 10) / 10) - ((((p1 / 10) / 10) / 10) / 10) / 10 * 10).toInt64)) ((6 : Int32).toNatClampNeg) (((((((p1 / 10) / 10) / 10) / 10) / 10) - (((((p1 / 10) / 10) / 10) / 10) / 10) / 10 * 10).toInt64)))))] H := hP
  replace hD : va_D A [(h0, .inr (5, [.ref h2, .ref h3, .ref h4, .ref h5, .int wp19252])), (h5, .inr (8, [.ref h10, .int wp19255])), (h10, .inl (y 1, 3, .inr (.inl (fun _ => 0)))), (h2, .inr (8, [.ref h12, .int 0])), (h4, .inr (8, [.ref h7, .int wp19253])), (h7, .inl (y 1, 18, .inr (.inl (vp_updL (vp_updL (vp_updL (vp_updL (vp_updL (vp_updL wf19254 ((11 : Int32).toNatClampNeg) ((p1 - p1 / 10 * 10).toInt64)) ((10 : Int32).toNatClampNeg) (((p1 / 10) - (p1 / 10) / 10 * 10).toInt64)) ((9 : Int32).toNatClampNeg) ((((p1 / 10) / 10) - ((p1 / 10) / 10) / 10 * 10).toInt64)) ((8 : Int32).toNatClampNeg) (((((p1 / 10) / 10) / 10) - (((p1 / 10) / 10) / 10) / 10 * 10).toInt64)) ((7 : Int32).toNatClampNeg) ((((((p1 / 10) / 10) / 10) / 10) - ((((p1 / 10) / 10) / 10) / 10) / 10 * 10).toInt64)) ((6 : Int32).toNatClampNeg) (((((((p1 / 10) / 10) / 10) / 10) / 10) - (((((p1 / 10) / 10) / 10) / 10) / 10) / 10 * 10).toInt64)))))] := hD
  refine lv_iload hx hb dX5_tellSecret_33 (lv_at hl 1 rfl) ?_
  refine lv_bipush (v := 10) hx hb dX5_tellSecret_35 (by decide +kernel) ?_
  refine lv_idiv hx hb dX5_tellSecret_37 (by decide +kernel) ?_
  refine lv_istore (lv' := [(4, .int ((((((p1 / 10) / 10) / 10) / 10) / 10) / 10)), (5, .int 0), (0, .ref h0), (1, .int 1), (2, .int p1), (3, .int 6)]) hx hb dX5_tellSecret_38 hl (by decide) rfl ?_
  clear hl
  clear ls
  intro ls hl
  refine lv_iinc (v := (-1)) (lv' := [(5, .int (-1)), (4, .int ((((((p1 / 10) / 10) / 10) / 10) / 10) / 10)), (0, .ref h0), (1, .int 1), (2, .int p1), (3, .int 6)]) hx hb dX5_tellSecret_40 hl (k := 1) rfl (by decide +kernel) (by decide) rfl ?_
  clear hl
  clear ls
  intro ls hl
  refine lv_goto (tgt := 8) hx hb dX5_tellSecret_43 (by decide) ?_
  refine lv_iload hx hb dX5_tellSecret_8 (lv_at hl 0 rfl) ?_
  refine lv_if_lt (tgt := 46) hx hb dX5_tellSecret_10 (by decide) (fun _ => ?_) (fun c9 => absurd c9 (by decide +kernel))
  refine lv_aload_n hx hb dX5_tellSecret_46 rfl (lv_at hl 2 rfl) ?_
  refine gm_get (D := D) (ci := 5) (v := .ref h5) (C := RX5) (T := TX5) (N := 5) hx hb hg inlX5 hown hK.1 hP 0 rfl rfl 3 (by decide) tX5_3 (hg _ gw_141) rfl dX5_tellSecret_47 ?_
  refine lv_iload_n hx hb dX5_tellSecret_50 rfl (lv_at hl 3 rfl) ?_
  refine lv_iload_n hx hb dX5_tellSecret_51 rfl (lv_at hl 5 rfl) ?_
  refine lv_i2l (v := 6) hx hb dX5_tellSecret_52 (by decide +kernel) ?_
  refine g_av (wr := [(h0, .inr (5, [.ref h2, .ref h3, .ref h4, .ref h5, .int wp19252])), (h2, .inr (8, [.ref h12, .int 0])), (h4, .inr (8, [.ref h7, .int wp19253])), (h7, .inl (y 1, 18, .inr (.inl (vp_updL (vp_updL (vp_updL (vp_updL (vp_updL (vp_updL wf19254 ((11 : Int32).toNatClampNeg) ((p1 - p1 / 10 * 10).toInt64)) ((10 : Int32).toNatClampNeg) (((p1 / 10) - (p1 / 10) / 10 * 10).toInt64)) ((9 : Int32).toNatClampNeg) ((((p1 / 10) / 10) - ((p1 / 10) / 10) / 10 * 10).toInt64)) ((8 : Int32).toNatClampNeg) (((((p1 / 10) / 10) / 10) - (((p1 / 10) / 10) / 10) / 10 * 10).toInt64)) ((7 : Int32).toNatClampNeg) ((((((p1 / 10) / 10) / 10) / 10) - ((((p1 / 10) / 10) / 10) / 10) / 10 * 10).toInt64)) ((6 : Int32).toNatClampNeg) (((((((p1 / 10) / 10) / 10) / 10) / 10) - (((((p1 / 10) / 10) / 10) / 10) / 10) / 10 * 10).toInt64)))))]) (va_runV (As := [.int 1, .long 6]) (rest := []) ⟨hx, hb, hml, hown, hg⟩ (k_X8_set_25 l D y aS H.size h5 6 h10 wp19255 (fun _ => 0)) (cwV 2 hg ggV_RX5_29_X8_set rfl rfl rfl (by decide +kernel) ⟨Nat.le_of_ble_eq_true rfl, Nat.le_of_ble_eq_true rfl⟩) (g_preV (q := (RX8, TX8, 2)) hK hP hD [1, 2] rfl (by decide) (ci := 8) (q0 := 1) rfl rfl) rfl rfl hl.1 rfl (lv_room (Nat.le_of_ble_eq_true rfl)) dX5_tellSecret_53 ⟨Nat.le_of_ble_eq_true rfl, Nat.le_of_ble_eq_true rfl⟩) hP hD hS hA [1, 2] [0, 3, 4, 5] rfl rfl (by decide) (by decide) ?_
  clear hP hD hS H locs
  refine fun u H locs hq hP hD hS => ?_
  replace hP : va_P D vwCl [(h0, .inr (5, [.ref h2, .ref h3, .ref h4, .ref h5, .int wp19252])), (h2, .inr (8, [.ref h12, .int 0])), (h4, .inr (8, [.ref h7, .int wp19253])), (h7, .inl (y 1, 18, .inr (.inl (vp_updL (vp_updL (vp_updL (vp_updL (vp_updL (vp_updL wf19254 ((11 : Int32).toNatClampNeg) ((p1 - p1 / 10 * 10).toInt64)) ((10 : Int32).toNatClampNeg) (((p1 / 10) - (p1 / 10) / 10 * 10).toInt64)) ((9 : Int32).toNatClampNeg) ((((p1 / 10) / 10) - ((p1 / 10) / 10) / 10 * 10).toInt64)) ((8 : Int32).toNatClampNeg) (((((p1 / 10) / 10) / 10) - (((p1 / 10) / 10) / 10) / 10 * 10).toInt64)) ((7 : Int32).toNatClampNeg) ((((((p1 / 10) / 10) / 10) / 10) - ((((p1 / 10) / 10) / 10) / 10) / 10 * 10).toInt64)) ((6 : Int32).toNatClampNeg) (((((((p1 / 10) / 10) / 10) / 10) / 10) - (((((p1 / 10) / 10) / 10) / 10) / 10) / 10 * 10).toInt64))))), (h5, .inr (8, [.ref h10, .int wp19255])), (h10, .inl (y 1, 3, .inr (.inl (vp_updL (fun _ => 0) ((1 : Int32).toNatClampNeg) 6))))] H := hP
  replace hD : va_D A [(h0, .inr (5, [.ref h2, .ref h3, .ref h4, .ref h5, .int wp19252])), (h2, .inr (8, [.ref h12, .int 0])), (h4, .inr (8, [.ref h7, .int wp19253])), (h7, .inl (y 1, 18, .inr (.inl (vp_updL (vp_updL (vp_updL (vp_updL (vp_updL (vp_updL wf19254 ((11 : Int32).toNatClampNeg) ((p1 - p1 / 10 * 10).toInt64)) ((10 : Int32).toNatClampNeg) (((p1 / 10) - (p1 / 10) / 10 * 10).toInt64)) ((9 : Int32).toNatClampNeg) ((((p1 / 10) / 10) - ((p1 / 10) / 10) / 10 * 10).toInt64)) ((8 : Int32).toNatClampNeg) (((((p1 / 10) / 10) / 10) - (((p1 / 10) / 10) / 10) / 10 * 10).toInt64)) ((7 : Int32).toNatClampNeg) ((((((p1 / 10) / 10) / 10) / 10) - ((((p1 / 10) / 10) / 10) / 10) / 10 * 10).toInt64)) ((6 : Int32).toNatClampNeg) (((((((p1 / 10) / 10) / 10) / 10) / 10) - (((((p1 / 10) / 10) / 10) / 10) / 10) / 10 * 10).toInt64))))), (h5, .inr (8, [.ref h10, .int wp19255])), (h10, .inl (y 1, 3, .inr (.inl (vp_updL (fun _ => 0) ((1 : Int32).toNatClampNeg) 6))))] := hD
  refine lv_aload_n hx hb dX5_tellSecret_56 rfl (lv_at hl 2 rfl) ?_
  refine g_av (wr := [(h4, .inr (8, [.ref h7, .int wp19253])), (h7, .inl (y 1, 18, .inr (.inl (vp_updL (vp_updL (vp_updL (vp_updL (vp_updL (vp_updL wf19254 ((11 : Int32).toNatClampNeg) ((p1 - p1 / 10 * 10).toInt64)) ((10 : Int32).toNatClampNeg) (((p1 / 10) - (p1 / 10) / 10 * 10).toInt64)) ((9 : Int32).toNatClampNeg) ((((p1 / 10) / 10) - ((p1 / 10) / 10) / 10 * 10).toInt64)) ((8 : Int32).toNatClampNeg) (((((p1 / 10) / 10) / 10) - (((p1 / 10) / 10) / 10) / 10 * 10).toInt64)) ((7 : Int32).toNatClampNeg) ((((((p1 / 10) / 10) / 10) / 10) - ((((p1 / 10) / 10) / 10) / 10) / 10 * 10).toInt64)) ((6 : Int32).toNatClampNeg) (((((((p1 / 10) / 10) / 10) / 10) / 10) - (((((p1 / 10) / 10) / 10) / 10) / 10) / 10 * 10).toInt64))))), (h5, .inr (8, [.ref h10, .int wp19255])), (h10, .inl (y 1, 3, .inr (.inl (vp_updL (fun _ => 0) ((1 : Int32).toNatClampNeg) 6))))]) (va_runV (As := []) (rest := []) ⟨hx, hb, hml, hown, hg⟩ (k_X5_findOut_0 l D y aS H.size h0 h2 h3 h4 h5 wp19252 h12) (cwV 0 hg ggV_RX5_33_X5_findOut rfl rfl rfl (by decide +kernel) ⟨Nat.le_of_ble_eq_true rfl, Nat.le_of_ble_eq_true rfl⟩) (g_preV (q := (RX5, TX5, 5)) hK hP hD [0, 1] rfl (by decide) (ci := 5) (q0 := 0) rfl rfl) rfl rfl hl.1 rfl (lv_room (Nat.le_of_ble_eq_true rfl)) dX5_tellSecret_57 ⟨Nat.le_of_ble_eq_true rfl, Nat.le_of_ble_eq_true rfl⟩) hP hD hS hA [0, 1] [2, 3, 4, 5] rfl rfl (by decide) (by decide) ?_
  clear hP hD hS H locs
  refine fun u H locs hq hP hD hS => ?_
  replace hP : va_P D vwCl [(h4, .inr (8, [.ref h7, .int wp19253])), (h7, .inl (y 1, 18, .inr (.inl (vp_updL (vp_updL (vp_updL (vp_updL (vp_updL (vp_updL wf19254 ((11 : Int32).toNatClampNeg) ((p1 - p1 / 10 * 10).toInt64)) ((10 : Int32).toNatClampNeg) (((p1 / 10) - (p1 / 10) / 10 * 10).toInt64)) ((9 : Int32).toNatClampNeg) ((((p1 / 10) / 10) - ((p1 / 10) / 10) / 10 * 10).toInt64)) ((8 : Int32).toNatClampNeg) (((((p1 / 10) / 10) / 10) - (((p1 / 10) / 10) / 10) / 10 * 10).toInt64)) ((7 : Int32).toNatClampNeg) ((((((p1 / 10) / 10) / 10) / 10) - ((((p1 / 10) / 10) / 10) / 10) / 10 * 10).toInt64)) ((6 : Int32).toNatClampNeg) (((((((p1 / 10) / 10) / 10) / 10) / 10) - (((((p1 / 10) / 10) / 10) / 10) / 10) / 10 * 10).toInt64))))), (h5, .inr (8, [.ref h10, .int wp19255])), (h10, .inl (y 1, 3, .inr (.inl (vp_updL (fun _ => 0) ((1 : Int32).toNatClampNeg) 6)))), (h0, .inr (5, [.ref h2, .ref h3, .ref h4, .ref h5, .int 0])), (h2, .inr (8, [.ref h12, .int 0]))] H := hP
  replace hD : va_D A [(h4, .inr (8, [.ref h7, .int wp19253])), (h7, .inl (y 1, 18, .inr (.inl (vp_updL (vp_updL (vp_updL (vp_updL (vp_updL (vp_updL wf19254 ((11 : Int32).toNatClampNeg) ((p1 - p1 / 10 * 10).toInt64)) ((10 : Int32).toNatClampNeg) (((p1 / 10) - (p1 / 10) / 10 * 10).toInt64)) ((9 : Int32).toNatClampNeg) ((((p1 / 10) / 10) - ((p1 / 10) / 10) / 10 * 10).toInt64)) ((8 : Int32).toNatClampNeg) (((((p1 / 10) / 10) / 10) - (((p1 / 10) / 10) / 10) / 10 * 10).toInt64)) ((7 : Int32).toNatClampNeg) ((((((p1 / 10) / 10) / 10) / 10) - ((((p1 / 10) / 10) / 10) / 10) / 10 * 10).toInt64)) ((6 : Int32).toNatClampNeg) (((((((p1 / 10) / 10) / 10) / 10) / 10) - (((((p1 / 10) / 10) / 10) / 10) / 10) / 10 * 10).toInt64))))), (h5, .inr (8, [.ref h10, .int wp19255])), (h10, .inl (y 1, 3, .inr (.inl (vp_updL (fun _ => 0) ((1 : Int32).toNatClampNeg) 6)))), (h0, .inr (5, [.ref h2, .ref h3, .ref h4, .ref h5, .int 0])), (h2, .inr (8, [.ref h12, .int 0]))] := hD
  refine lv_iconst (v := 0) hx hb dX5_tellSecret_60 (by decide) ?_
  refine lv_istore (lv' := [(5, .int 0), (4, .int ((((((p1 / 10) / 10) / 10) / 10) / 10) / 10)), (0, .ref h0), (1, .int 1), (2, .int p1), (3, .int 6)]) hx hb dX5_tellSecret_61 hl (by decide) rfl ?_
  clear hl
  clear ls
  intro ls hl
  refine lv_iconst (v := 0) hx hb dX5_tellSecret_63 (by decide) ?_
  refine lv_istore (lv' := [(6, .int 0), (5, .int 0), (4, .int ((((((p1 / 10) / 10) / 10) / 10) / 10) / 10)), (0, .ref h0), (1, .int 1), (2, .int p1), (3, .int 6)]) hx hb dX5_tellSecret_64 hl (by decide) rfl ?_
  clear hl
  clear ls
  intro ls hl
  refine lv_iload hx hb dX5_tellSecret_66 (lv_at hl 0 rfl) ?_
  refine lv_iconst (v := 3) hx hb dX5_tellSecret_68 (by decide) ?_
  refine lv_icmp_ge (tgt := 95) hx hb dX5_tellSecret_69 (by decide) (fun c9 => absurd c9 (by decide +kernel)) (fun _ => ?_)
  refine lv_aload_n hx hb dX5_tellSecret_72 rfl (lv_at hl 3 rfl) ?_
  refine gm_get (D := D) (ci := 5) (v := .ref h5) (C := RX5) (T := TX5) (N := 5) hx hb hg inlX5 hown hK.1 hP 4 rfl rfl 3 (by decide) tX5_3 (hg _ gw_141) rfl dX5_tellSecret_73 ?_
  refine lv_iload hx hb dX5_tellSecret_76 (lv_at hl 0 rfl) ?_
  refine g_al (wr := [(h4, .inr (8, [.ref h7, .int wp19253])), (h7, .inl (y 1, 18, .inr (.inl (vp_updL (vp_updL (vp_updL (vp_updL (vp_updL (vp_updL wf19254 ((11 : Int32).toNatClampNeg) ((p1 - p1 / 10 * 10).toInt64)) ((10 : Int32).toNatClampNeg) (((p1 / 10) - (p1 / 10) / 10 * 10).toInt64)) ((9 : Int32).toNatClampNeg) ((((p1 / 10) / 10) - ((p1 / 10) / 10) / 10 * 10).toInt64)) ((8 : Int32).toNatClampNeg) (((((p1 / 10) / 10) / 10) - (((p1 / 10) / 10) / 10) / 10 * 10).toInt64)) ((7 : Int32).toNatClampNeg) ((((((p1 / 10) / 10) / 10) / 10) - ((((p1 / 10) / 10) / 10) / 10) / 10 * 10).toInt64)) ((6 : Int32).toNatClampNeg) (((((((p1 / 10) / 10) / 10) / 10) / 10) - (((((p1 / 10) / 10) / 10) / 10) / 10) / 10 * 10).toInt64))))), (h0, .inr (5, [.ref h2, .ref h3, .ref h4, .ref h5, .int 0])), (h2, .inr (8, [.ref h12, .int 0]))]) (va_runV (As := [.int 0]) (rest := []) ⟨hx, hb, hml, hown, hg⟩ (k_X8_get_41 l D y aS H.size h5 h10 wp19255) (cwV 1 hg ggV_RX5_36_X8_get rfl rfl rfl (by decide +kernel) ⟨Nat.le_of_ble_eq_true rfl, Nat.le_of_ble_eq_true rfl⟩) (g_preV (q := (RX8, TX8, 2)) hK hP hD [2, 3] rfl (by decide) (ci := 8) (q0 := 2) rfl rfl) rfl rfl hl.1 rfl (lv_room (Nat.le_of_ble_eq_true rfl)) dX5_tellSecret_78 ⟨Nat.le_of_ble_eq_true rfl, Nat.le_of_ble_eq_true rfl⟩) hP hD hS hA [2, 3] [0, 1, 4, 5] rfl rfl (by decide) (by decide) ?_
  clear hP hD hS H locs
  refine fun r19264 u H locs hq hP hD hS => ?_
  subst hq
  replace hP : va_P D vwCl [(h4, .inr (8, [.ref h7, .int wp19253])), (h7, .inl (y 1, 18, .inr (.inl (vp_updL (vp_updL (vp_updL (vp_updL (vp_updL (vp_updL wf19254 ((11 : Int32).toNatClampNeg) ((p1 - p1 / 10 * 10).toInt64)) ((10 : Int32).toNatClampNeg) (((p1 / 10) - (p1 / 10) / 10 * 10).toInt64)) ((9 : Int32).toNatClampNeg) ((((p1 / 10) / 10) - ((p1 / 10) / 10) / 10 * 10).toInt64)) ((8 : Int32).toNatClampNeg) (((((p1 / 10) / 10) / 10) - (((p1 / 10) / 10) / 10) / 10 * 10).toInt64)) ((7 : Int32).toNatClampNeg) ((((((p1 / 10) / 10) / 10) / 10) - ((((p1 / 10) / 10) / 10) / 10) / 10 * 10).toInt64)) ((6 : Int32).toNatClampNeg) (((((((p1 / 10) / 10) / 10) / 10) / 10) - (((((p1 / 10) / 10) / 10) / 10) / 10) / 10 * 10).toInt64))))), (h0, .inr (5, [.ref h2, .ref h3, .ref h4, .ref h5, .int 0])), (h2, .inr (8, [.ref h12, .int 0])), (h5, .inr (8, [.ref h10, .int wp19255])), (h10, .inl (y 1, 3, .inr (.inl (vp_updL (fun _ => 0) ((1 : Int32).toNatClampNeg) 6))))] H := hP
  replace hD : va_D A [(h4, .inr (8, [.ref h7, .int wp19253])), (h7, .inl (y 1, 18, .inr (.inl (vp_updL (vp_updL (vp_updL (vp_updL (vp_updL (vp_updL wf19254 ((11 : Int32).toNatClampNeg) ((p1 - p1 / 10 * 10).toInt64)) ((10 : Int32).toNatClampNeg) (((p1 / 10) - (p1 / 10) / 10 * 10).toInt64)) ((9 : Int32).toNatClampNeg) ((((p1 / 10) / 10) - ((p1 / 10) / 10) / 10 * 10).toInt64)) ((8 : Int32).toNatClampNeg) (((((p1 / 10) / 10) / 10) - (((p1 / 10) / 10) / 10) / 10 * 10).toInt64)) ((7 : Int32).toNatClampNeg) ((((((p1 / 10) / 10) / 10) / 10) - ((((p1 / 10) / 10) / 10) / 10) / 10 * 10).toInt64)) ((6 : Int32).toNatClampNeg) (((((((p1 / 10) / 10) / 10) / 10) / 10) - (((((p1 / 10) / 10) / 10) / 10) / 10) / 10 * 10).toInt64))))), (h0, .inr (5, [.ref h2, .ref h3, .ref h4, .ref h5, .int 0])), (h2, .inr (8, [.ref h12, .int 0])), (h5, .inr (8, [.ref h10, .int wp19255])), (h10, .inl (y 1, 3, .inr (.inl (vp_updL (fun _ => 0) ((1 : Int32).toNatClampNeg) 6))))] := hD
  refine lv_lconst (v := 0) hx hb dX5_tellSecret_81 (by decide) ?_
  refine W.lcmp hx hb dX5_tellSecret_82 ?_
  refine g_fi (v := 0) (by decide +kernel) ?_
  refine lv_if_le (tgt := 89) hx hb dX5_tellSecret_83 (by decide) (fun _ => ?_) (fun c9 => absurd c9 (by decide +kernel))
  refine lv_iinc (v := 1) (lv' := [(6, .int 1), (5, .int 0), (4, .int ((((((p1 / 10) / 10) / 10) / 10) / 10) / 10)), (0, .ref h0), (1, .int 1), (2, .int p1), (3, .int 6)]) hx hb dX5_tellSecret_89 hl (k := 0) rfl (by decide +kernel) (by decide) rfl ?_
  clear hl
  clear ls
  intro ls hl
  refine lv_goto (tgt := 66) hx hb dX5_tellSecret_92 (by decide) ?_
  refine lv_iload hx hb dX5_tellSecret_66 (lv_at hl 0 rfl) ?_
  refine lv_iconst (v := 3) hx hb dX5_tellSecret_68 (by decide) ?_
  refine lv_icmp_ge (tgt := 95) hx hb dX5_tellSecret_69 (by decide) (fun c9 => absurd c9 (by decide +kernel)) (fun _ => ?_)
  refine lv_aload_n hx hb dX5_tellSecret_72 rfl (lv_at hl 3 rfl) ?_
  refine gm_get (D := D) (ci := 5) (v := .ref h5) (C := RX5) (T := TX5) (N := 5) hx hb hg inlX5 hown hK.1 hP 2 rfl rfl 3 (by decide) tX5_3 (hg _ gw_141) rfl dX5_tellSecret_73 ?_
  refine lv_iload hx hb dX5_tellSecret_76 (lv_at hl 0 rfl) ?_
  refine g_al (wr := [(h4, .inr (8, [.ref h7, .int wp19253])), (h7, .inl (y 1, 18, .inr (.inl (vp_updL (vp_updL (vp_updL (vp_updL (vp_updL (vp_updL wf19254 ((11 : Int32).toNatClampNeg) ((p1 - p1 / 10 * 10).toInt64)) ((10 : Int32).toNatClampNeg) (((p1 / 10) - (p1 / 10) / 10 * 10).toInt64)) ((9 : Int32).toNatClampNeg) ((((p1 / 10) / 10) - ((p1 / 10) / 10) / 10 * 10).toInt64)) ((8 : Int32).toNatClampNeg) (((((p1 / 10) / 10) / 10) - (((p1 / 10) / 10) / 10) / 10 * 10).toInt64)) ((7 : Int32).toNatClampNeg) ((((((p1 / 10) / 10) / 10) / 10) - ((((p1 / 10) / 10) / 10) / 10) / 10 * 10).toInt64)) ((6 : Int32).toNatClampNeg) (((((((p1 / 10) / 10) / 10) / 10) / 10) - (((((p1 / 10) / 10) / 10) / 10) / 10) / 10 * 10).toInt64))))), (h0, .inr (5, [.ref h2, .ref h3, .ref h4, .ref h5, .int 0])), (h2, .inr (8, [.ref h12, .int 0]))]) (va_runV (As := [.int 1]) (rest := []) ⟨hx, hb, hml, hown, hg⟩ (k_X8_get_42 l D y aS H.size h5 h10 wp19255) (cwV 1 hg ggV_RX5_36_X8_get rfl rfl rfl (by decide +kernel) ⟨Nat.le_of_ble_eq_true rfl, Nat.le_of_ble_eq_true rfl⟩) (g_preV (q := (RX8, TX8, 2)) hK hP hD [4, 5] rfl (by decide) (ci := 8) (q0 := 4) rfl rfl) rfl rfl hl.1 rfl (lv_room (Nat.le_of_ble_eq_true rfl)) dX5_tellSecret_78 ⟨Nat.le_of_ble_eq_true rfl, Nat.le_of_ble_eq_true rfl⟩) hP hD hS hA [4, 5] [0, 1, 2, 3] rfl rfl (by decide) (by decide) ?_
  clear hP hD hS H locs
  refine fun r19265 u H locs hq hP hD hS => ?_
  subst hq
  replace hP : va_P D vwCl [(h4, .inr (8, [.ref h7, .int wp19253])), (h7, .inl (y 1, 18, .inr (.inl (vp_updL (vp_updL (vp_updL (vp_updL (vp_updL (vp_updL wf19254 ((11 : Int32).toNatClampNeg) ((p1 - p1 / 10 * 10).toInt64)) ((10 : Int32).toNatClampNeg) (((p1 / 10) - (p1 / 10) / 10 * 10).toInt64)) ((9 : Int32).toNatClampNeg) ((((p1 / 10) / 10) - ((p1 / 10) / 10) / 10 * 10).toInt64)) ((8 : Int32).toNatClampNeg) (((((p1 / 10) / 10) / 10) - (((p1 / 10) / 10) / 10) / 10 * 10).toInt64)) ((7 : Int32).toNatClampNeg) ((((((p1 / 10) / 10) / 10) / 10) - ((((p1 / 10) / 10) / 10) / 10) / 10 * 10).toInt64)) ((6 : Int32).toNatClampNeg) (((((((p1 / 10) / 10) / 10) / 10) / 10) - (((((p1 / 10) / 10) / 10) / 10) / 10) / 10 * 10).toInt64))))), (h0, .inr (5, [.ref h2, .ref h3, .ref h4, .ref h5, .int 0])), (h2, .inr (8, [.ref h12, .int 0])), (h5, .inr (8, [.ref h10, .int wp19255])), (h10, .inl (y 1, 3, .inr (.inl (vp_updL (fun _ => 0) ((1 : Int32).toNatClampNeg) 6))))] H := hP
  replace hD : va_D A [(h4, .inr (8, [.ref h7, .int wp19253])), (h7, .inl (y 1, 18, .inr (.inl (vp_updL (vp_updL (vp_updL (vp_updL (vp_updL (vp_updL wf19254 ((11 : Int32).toNatClampNeg) ((p1 - p1 / 10 * 10).toInt64)) ((10 : Int32).toNatClampNeg) (((p1 / 10) - (p1 / 10) / 10 * 10).toInt64)) ((9 : Int32).toNatClampNeg) ((((p1 / 10) / 10) - ((p1 / 10) / 10) / 10 * 10).toInt64)) ((8 : Int32).toNatClampNeg) (((((p1 / 10) / 10) / 10) - (((p1 / 10) / 10) / 10) / 10 * 10).toInt64)) ((7 : Int32).toNatClampNeg) ((((((p1 / 10) / 10) / 10) / 10) - ((((p1 / 10) / 10) / 10) / 10) / 10 * 10).toInt64)) ((6 : Int32).toNatClampNeg) (((((((p1 / 10) / 10) / 10) / 10) / 10) - (((((p1 / 10) / 10) / 10) / 10) / 10) / 10 * 10).toInt64))))), (h0, .inr (5, [.ref h2, .ref h3, .ref h4, .ref h5, .int 0])), (h2, .inr (8, [.ref h12, .int 0])), (h5, .inr (8, [.ref h10, .int wp19255])), (h10, .inl (y 1, 3, .inr (.inl (vp_updL (fun _ => 0) ((1 : Int32).toNatClampNeg) 6))))] := hD
  refine lv_lconst (v := 0) hx hb dX5_tellSecret_81 (by decide) ?_
  refine W.lcmp hx hb dX5_tellSecret_82 ?_
  refine g_fi (v := 1) (by decide +kernel) ?_
  refine lv_if_le (tgt := 89) hx hb dX5_tellSecret_83 (by decide) (fun c9 => absurd c9 (by decide +kernel)) (fun _ => ?_)
  refine lv_iinc (v := 1) (lv' := [(5, .int 1), (6, .int 1), (4, .int ((((((p1 / 10) / 10) / 10) / 10) / 10) / 10)), (0, .ref h0), (1, .int 1), (2, .int p1), (3, .int 6)]) hx hb dX5_tellSecret_86 hl (k := 1) rfl (by decide +kernel) (by decide) rfl ?_
  clear hl
  clear ls
  intro ls hl
  refine lv_iinc (v := 2) (lv' := [(6, .int 2), (5, .int 1), (4, .int ((((((p1 / 10) / 10) / 10) / 10) / 10) / 10)), (0, .ref h0), (1, .int 1), (2, .int p1), (3, .int 6)]) hx hb dX5_tellSecret_89 hl (k := 1) rfl (by decide +kernel) (by decide) rfl ?_
  clear hl
  clear ls
  intro ls hl
  refine lv_goto (tgt := 66) hx hb dX5_tellSecret_92 (by decide) ?_
  refine lv_iload hx hb dX5_tellSecret_66 (lv_at hl 0 rfl) ?_
  refine lv_iconst (v := 3) hx hb dX5_tellSecret_68 (by decide) ?_
  refine lv_icmp_ge (tgt := 95) hx hb dX5_tellSecret_69 (by decide) (fun c9 => absurd c9 (by decide +kernel)) (fun _ => ?_)
  refine lv_aload_n hx hb dX5_tellSecret_72 rfl (lv_at hl 3 rfl) ?_
  refine gm_get (D := D) (ci := 5) (v := .ref h5) (C := RX5) (T := TX5) (N := 5) hx hb hg inlX5 hown hK.1 hP 2 rfl rfl 3 (by decide) tX5_3 (hg _ gw_141) rfl dX5_tellSecret_73 ?_
  refine lv_iload hx hb dX5_tellSecret_76 (lv_at hl 0 rfl) ?_
  refine g_al (wr := [(h4, .inr (8, [.ref h7, .int wp19253])), (h7, .inl (y 1, 18, .inr (.inl (vp_updL (vp_updL (vp_updL (vp_updL (vp_updL (vp_updL wf19254 ((11 : Int32).toNatClampNeg) ((p1 - p1 / 10 * 10).toInt64)) ((10 : Int32).toNatClampNeg) (((p1 / 10) - (p1 / 10) / 10 * 10).toInt64)) ((9 : Int32).toNatClampNeg) ((((p1 / 10) / 10) - ((p1 / 10) / 10) / 10 * 10).toInt64)) ((8 : Int32).toNatClampNeg) (((((p1 / 10) / 10) / 10) - (((p1 / 10) / 10) / 10) / 10 * 10).toInt64)) ((7 : Int32).toNatClampNeg) ((((((p1 / 10) / 10) / 10) / 10) - ((((p1 / 10) / 10) / 10) / 10) / 10 * 10).toInt64)) ((6 : Int32).toNatClampNeg) (((((((p1 / 10) / 10) / 10) / 10) / 10) - (((((p1 / 10) / 10) / 10) / 10) / 10) / 10 * 10).toInt64))))), (h0, .inr (5, [.ref h2, .ref h3, .ref h4, .ref h5, .int 0])), (h2, .inr (8, [.ref h12, .int 0]))]) (va_runV (As := [.int 2]) (rest := []) ⟨hx, hb, hml, hown, hg⟩ (k_X8_get_43 l D y aS H.size h5 h10 wp19255) (cwV 1 hg ggV_RX5_36_X8_get rfl rfl rfl (by decide +kernel) ⟨Nat.le_of_ble_eq_true rfl, Nat.le_of_ble_eq_true rfl⟩) (g_preV (q := (RX8, TX8, 2)) hK hP hD [4, 5] rfl (by decide) (ci := 8) (q0 := 4) rfl rfl) rfl rfl hl.1 rfl (lv_room (Nat.le_of_ble_eq_true rfl)) dX5_tellSecret_78 ⟨Nat.le_of_ble_eq_true rfl, Nat.le_of_ble_eq_true rfl⟩) hP hD hS hA [4, 5] [0, 1, 2, 3] rfl rfl (by decide) (by decide) ?_
  clear hP hD hS H locs
  refine fun r19266 u H locs hq hP hD hS => ?_
  subst hq
  replace hP : va_P D vwCl [(h4, .inr (8, [.ref h7, .int wp19253])), (h7, .inl (y 1, 18, .inr (.inl (vp_updL (vp_updL (vp_updL (vp_updL (vp_updL (vp_updL wf19254 ((11 : Int32).toNatClampNeg) ((p1 - p1 / 10 * 10).toInt64)) ((10 : Int32).toNatClampNeg) (((p1 / 10) - (p1 / 10) / 10 * 10).toInt64)) ((9 : Int32).toNatClampNeg) ((((p1 / 10) / 10) - ((p1 / 10) / 10) / 10 * 10).toInt64)) ((8 : Int32).toNatClampNeg) (((((p1 / 10) / 10) / 10) - (((p1 / 10) / 10) / 10) / 10 * 10).toInt64)) ((7 : Int32).toNatClampNeg) ((((((p1 / 10) / 10) / 10) / 10) - ((((p1 / 10) / 10) / 10) / 10) / 10 * 10).toInt64)) ((6 : Int32).toNatClampNeg) (((((((p1 / 10) / 10) / 10) / 10) / 10) - (((((p1 / 10) / 10) / 10) / 10) / 10) / 10 * 10).toInt64))))), (h0, .inr (5, [.ref h2, .ref h3, .ref h4, .ref h5, .int 0])), (h2, .inr (8, [.ref h12, .int 0])), (h5, .inr (8, [.ref h10, .int wp19255])), (h10, .inl (y 1, 3, .inr (.inl (vp_updL (fun _ => 0) ((1 : Int32).toNatClampNeg) 6))))] H := hP
  replace hD : va_D A [(h4, .inr (8, [.ref h7, .int wp19253])), (h7, .inl (y 1, 18, .inr (.inl (vp_updL (vp_updL (vp_updL (vp_updL (vp_updL (vp_updL wf19254 ((11 : Int32).toNatClampNeg) ((p1 - p1 / 10 * 10).toInt64)) ((10 : Int32).toNatClampNeg) (((p1 / 10) - (p1 / 10) / 10 * 10).toInt64)) ((9 : Int32).toNatClampNeg) ((((p1 / 10) / 10) - ((p1 / 10) / 10) / 10 * 10).toInt64)) ((8 : Int32).toNatClampNeg) (((((p1 / 10) / 10) / 10) - (((p1 / 10) / 10) / 10) / 10 * 10).toInt64)) ((7 : Int32).toNatClampNeg) ((((((p1 / 10) / 10) / 10) / 10) - ((((p1 / 10) / 10) / 10) / 10) / 10 * 10).toInt64)) ((6 : Int32).toNatClampNeg) (((((((p1 / 10) / 10) / 10) / 10) / 10) - (((((p1 / 10) / 10) / 10) / 10) / 10) / 10 * 10).toInt64))))), (h0, .inr (5, [.ref h2, .ref h3, .ref h4, .ref h5, .int 0])), (h2, .inr (8, [.ref h12, .int 0])), (h5, .inr (8, [.ref h10, .int wp19255])), (h10, .inl (y 1, 3, .inr (.inl (vp_updL (fun _ => 0) ((1 : Int32).toNatClampNeg) 6))))] := hD
  refine lv_lconst (v := 0) hx hb dX5_tellSecret_81 (by decide) ?_
  refine W.lcmp hx hb dX5_tellSecret_82 ?_
  refine g_fi (v := 0) (by decide +kernel) ?_
  refine lv_if_le (tgt := 89) hx hb dX5_tellSecret_83 (by decide) (fun _ => ?_) (fun c9 => absurd c9 (by decide +kernel))
  refine lv_iinc (v := 3) (lv' := [(6, .int 3), (5, .int 1), (4, .int ((((((p1 / 10) / 10) / 10) / 10) / 10) / 10)), (0, .ref h0), (1, .int 1), (2, .int p1), (3, .int 6)]) hx hb dX5_tellSecret_89 hl (k := 0) rfl (by decide +kernel) (by decide) rfl ?_
  clear hl
  clear ls
  intro ls hl
  refine lv_goto (tgt := 66) hx hb dX5_tellSecret_92 (by decide) ?_
  refine lv_iload hx hb dX5_tellSecret_66 (lv_at hl 0 rfl) ?_
  refine lv_iconst (v := 3) hx hb dX5_tellSecret_68 (by decide) ?_
  refine lv_icmp_ge (tgt := 95) hx hb dX5_tellSecret_69 (by decide) (fun _ => ?_) (fun c9 => absurd c9 (by decide +kernel))
  refine lv_iload hx hb dX5_tellSecret_95 (lv_at hl 1 rfl) ?_
  exact g_iret hx hb hr hlocks () (hP.sub [2, 0, 1, 4, 5, 3] rfl) (hD.sub [2, 0, 1, 4, 5, 3] (by decide +kernel) rfl) hS rfl rfl (Nat.le_of_ble_eq_true rfl) (Nat.le_of_ble_eq_true rfl) dX5_tellSecret_97
set_option maxRecDepth 100000 in
set_option maxHeartbeats 4000000 in
theorem k_X8_set_44 (l : Launch) (D : va_G) (y : Nat → ClassId) (aS : Nat → Nat) (sz : Nat) (h0 : Nat) (p1 : Int64) (h2 : Nat) (wp19269 : Int32) (wf19270 : Nat → Int64) : Met l yX8_set (Cond.code yX8_set cX8_set 4 none :: wsL_law) ({ frames := 0, cells := 0, slots := 0, locals := 0 } : Room) (va_Pc [.ref h0, .int 17, .long p1] (gI D y aS [(h0, .inr (8, [.ref h2, .int wp19269])), (h2, .inl (y 1, 18, .inr (.inl wf19270)))] sz)) (va_Qv (fun (u : Unit) => True) (fun u => gO D (va_A [(h0, .inr (8, [.ref h2, .int wp19269])), (h2, .inl (y 1, 18, .inr (.inl wf19270)))] sz) [(h0, .inr (8, [.ref h2, .int wp19269])), (h2, .inl (y 1, 18, .inr (.inl (vp_updL wf19270 ((17 : Int32).toNatClampNeg) p1))))]) (va_A [(h0, .inr (8, [.ref h2, .int wp19269])), (h2, .inl (y 1, 18, .inr (.inl wf19270)))] sz)) 0 0 (va_A [(h0, .inr (8, [.ref h2, .int wp19269])), (h2, .inl (y 1, 18, .inr (.inl wf19270)))] sz) := by
  refine g_of (by decide) (Nat.le_of_ble_eq_true rfl) ?_
  intro p e s m below meth c ls A hx hb hr hml hown hg hlocks hin hsz hK hP hD hS hA hAe hl
  rw [← hAe]
  replace hown : s.vm.findClass RX8 = some m.cls := hown
  replace hl : lv_has ls 4 [(0, .ref h0), (1, .int 17), (2, .long p1)] := hl
  refine lv_iload_n hx hb dX8_set_0 rfl (lv_at hl 1 rfl) ?_
  refine lv_if_lt (tgt := 20) hx hb dX8_set_1 (by decide) (fun c9 => absurd c9 (by decide +kernel)) (fun _ => ?_)
  refine lv_iload_n hx hb dX8_set_4 rfl (lv_at hl 1 rfl) ?_
  refine lv_aload_n hx hb dX8_set_5 rfl (lv_at hl 0 rfl) ?_
  refine gm_get (D := D) (ci := 8) (v := .ref h2) (C := RX8) (T := TX8) (N := 2) hx hb hg inlX8 hown hK.1 hP 0 rfl rfl 0 (by decide) tX8_0 (hg _ gw_98) rfl dX8_set_6 ?_
  refine va_alen hx hb hK.1 hP 1 1 rfl rfl (v := 18) rfl dX8_set_9 ?_
  refine lv_icmp_ge (tgt := 20) hx hb dX8_set_10 (by decide) (fun c9 => absurd c9 (by decide +kernel)) (fun _ => ?_)
  refine lv_aload_n hx hb dX8_set_13 rfl (lv_at hl 0 rfl) ?_
  refine gm_get (D := D) (ci := 8) (v := .ref h2) (C := RX8) (T := TX8) (N := 2) hx hb hg inlX8 hown hK.1 hP 0 rfl rfl 0 (by decide) tX8_0 (hg _ gw_98) rfl dX8_set_14 ?_
  refine lv_iload_n hx hb dX8_set_17 rfl (lv_at hl 1 rfl) ?_
  refine lv_lload_n hx hb dX8_set_18 rfl (lv_at hl 2 rfl) ?_
  refine va_last hx hb hK.1 hP hD hS 1 1 rfl rfl (by unfold vp_in; decide +kernel) dX8_set_19 ?_
  clear hP hD hS
  refine fun H locs (hP : va_P D vwCl [(h0, .inr (8, [.ref h2, .int wp19269])), (h2, .inl (y 1, 18, .inr (.inl (vp_updL wf19270 ((17 : Int32).toNatClampNeg) p1))))] H) (hD : va_D A [(h0, .inr (8, [.ref h2, .int wp19269])), (h2, .inl (y 1, 18, .inr (.inl (vp_updL wf19270 ((17 : Int32).toNatClampNeg) p1))))]) hS => ?_
  exact g_vret hx hb hr hlocks () hP hD hS trivial (Nat.le_of_ble_eq_true rfl) (Nat.le_of_ble_eq_true rfl) dX8_set_20
set_option maxRecDepth 100000 in
set_option maxHeartbeats 4000000 in
theorem k_X8_get_44 (l : Launch) (D : va_G) (y : Nat → ClassId) (aS : Nat → Nat) (sz : Nat) (h0 : Nat) (h1 : Nat) (wp19279 : Int32) : Met l yX8_get (Cond.code yX8_get cX8_get 2 (some .long) :: wsL_law) ({ frames := 0, cells := 0, slots := 0, locals := 0 } : Room) (va_Pc [.ref h0, .int 0] (gI D y aS [(h0, .inr (8, [.ref h1, .int wp19279])), (h1, .inl (y 1, 3, .inr (.inl (vp_updL (fun _ => 0) ((2 : Int32).toNatClampNeg) 6))))] sz)) (va_Ql (fun (r : Int64) (u : Unit) => 0 = r) (fun u => gO D (va_A [(h0, .inr (8, [.ref h1, .int wp19279])), (h1, .inl (y 1, 3, .inr (.inl (vp_updL (fun _ => 0) ((2 : Int32).toNatClampNeg) 6))))] sz) [(h0, .inr (8, [.ref h1, .int wp19279])), (h1, .inl (y 1, 3, .inr (.inl (vp_updL (fun _ => 0) ((2 : Int32).toNatClampNeg) 6))))]) (va_A [(h0, .inr (8, [.ref h1, .int wp19279])), (h1, .inl (y 1, 3, .inr (.inl (vp_updL (fun _ => 0) ((2 : Int32).toNatClampNeg) 6))))] sz)) 0 0 (va_A [(h0, .inr (8, [.ref h1, .int wp19279])), (h1, .inl (y 1, 3, .inr (.inl (vp_updL (fun _ => 0) ((2 : Int32).toNatClampNeg) 6))))] sz) := by
  refine g_of (by decide) (Nat.le_of_ble_eq_true rfl) ?_
  intro p e s m below meth c ls A hx hb hr hml hown hg hlocks hin hsz hK hP hD hS hA hAe hl
  rw [← hAe]
  replace hown : s.vm.findClass RX8 = some m.cls := hown
  replace hl : lv_has ls 2 [(0, .ref h0), (1, .int 0)] := hl
  refine lv_iload_n hx hb dX8_get_0 rfl (lv_at hl 1 rfl) ?_
  refine lv_if_lt (tgt := 22) hx hb dX8_get_1 (by decide) (fun c9 => absurd c9 (by decide +kernel)) (fun _ => ?_)
  refine lv_iload_n hx hb dX8_get_4 rfl (lv_at hl 1 rfl) ?_
  refine lv_aload_n hx hb dX8_get_5 rfl (lv_at hl 0 rfl) ?_
  refine gm_get (D := D) (ci := 8) (v := .ref h1) (C := RX8) (T := TX8) (N := 2) hx hb hg inlX8 hown hK.1 hP 0 rfl rfl 0 (by decide) tX8_0 (hg _ gw_98) rfl dX8_get_6 ?_
  refine va_alen hx hb hK.1 hP 1 1 rfl rfl (v := 3) rfl dX8_get_9 ?_
  refine lv_icmp_ge (tgt := 22) hx hb dX8_get_10 (by decide) (fun c9 => absurd c9 (by decide +kernel)) (fun _ => ?_)
  refine lv_aload_n hx hb dX8_get_13 rfl (lv_at hl 0 rfl) ?_
  refine gm_get (D := D) (ci := 8) (v := .ref h1) (C := RX8) (T := TX8) (N := 2) hx hb hg inlX8 hown hK.1 hP 0 rfl rfl 0 (by decide) tX8_0 (hg _ gw_98) rfl dX8_get_14 ?_
  refine lv_iload_n hx hb dX8_get_17 rfl (lv_at hl 1 rfl) ?_
  refine va_lald hx hb hK.1 hP 1 1 rfl rfl (by unfold vp_in; decide +kernel) dX8_get_18 ?_
  refine g_fj (v := 0) (by rfl) ?_
  refine lv_goto (tgt := 23) hx hb dX8_get_19 (by decide) ?_
  exact g_lret hx hb hr hlocks () hP hD hS rfl (Nat.le_of_ble_eq_true rfl) (Nat.le_of_ble_eq_true rfl) dX8_get_23
set_option maxRecDepth 100000 in
set_option maxHeartbeats 4000000 in
theorem k_X8_get_45 (l : Launch) (D : va_G) (y : Nat → ClassId) (aS : Nat → Nat) (sz : Nat) (h0 : Nat) (h1 : Nat) (wp19281 : Int32) : Met l yX8_get (Cond.code yX8_get cX8_get 2 (some .long) :: wsL_law) ({ frames := 0, cells := 0, slots := 0, locals := 0 } : Room) (va_Pc [.ref h0, .int 1] (gI D y aS [(h0, .inr (8, [.ref h1, .int wp19281])), (h1, .inl (y 1, 3, .inr (.inl (vp_updL (fun _ => 0) ((2 : Int32).toNatClampNeg) 6))))] sz)) (va_Ql (fun (r : Int64) (u : Unit) => 0 = r) (fun u => gO D (va_A [(h0, .inr (8, [.ref h1, .int wp19281])), (h1, .inl (y 1, 3, .inr (.inl (vp_updL (fun _ => 0) ((2 : Int32).toNatClampNeg) 6))))] sz) [(h0, .inr (8, [.ref h1, .int wp19281])), (h1, .inl (y 1, 3, .inr (.inl (vp_updL (fun _ => 0) ((2 : Int32).toNatClampNeg) 6))))]) (va_A [(h0, .inr (8, [.ref h1, .int wp19281])), (h1, .inl (y 1, 3, .inr (.inl (vp_updL (fun _ => 0) ((2 : Int32).toNatClampNeg) 6))))] sz)) 0 0 (va_A [(h0, .inr (8, [.ref h1, .int wp19281])), (h1, .inl (y 1, 3, .inr (.inl (vp_updL (fun _ => 0) ((2 : Int32).toNatClampNeg) 6))))] sz) := by
  refine g_of (by decide) (Nat.le_of_ble_eq_true rfl) ?_
  intro p e s m below meth c ls A hx hb hr hml hown hg hlocks hin hsz hK hP hD hS hA hAe hl
  rw [← hAe]
  replace hown : s.vm.findClass RX8 = some m.cls := hown
  replace hl : lv_has ls 2 [(0, .ref h0), (1, .int 1)] := hl
  refine lv_iload_n hx hb dX8_get_0 rfl (lv_at hl 1 rfl) ?_
  refine lv_if_lt (tgt := 22) hx hb dX8_get_1 (by decide) (fun c9 => absurd c9 (by decide +kernel)) (fun _ => ?_)
  refine lv_iload_n hx hb dX8_get_4 rfl (lv_at hl 1 rfl) ?_
  refine lv_aload_n hx hb dX8_get_5 rfl (lv_at hl 0 rfl) ?_
  refine gm_get (D := D) (ci := 8) (v := .ref h1) (C := RX8) (T := TX8) (N := 2) hx hb hg inlX8 hown hK.1 hP 0 rfl rfl 0 (by decide) tX8_0 (hg _ gw_98) rfl dX8_get_6 ?_
  refine va_alen hx hb hK.1 hP 1 1 rfl rfl (v := 3) rfl dX8_get_9 ?_
  refine lv_icmp_ge (tgt := 22) hx hb dX8_get_10 (by decide) (fun c9 => absurd c9 (by decide +kernel)) (fun _ => ?_)
  refine lv_aload_n hx hb dX8_get_13 rfl (lv_at hl 0 rfl) ?_
  refine gm_get (D := D) (ci := 8) (v := .ref h1) (C := RX8) (T := TX8) (N := 2) hx hb hg inlX8 hown hK.1 hP 0 rfl rfl 0 (by decide) tX8_0 (hg _ gw_98) rfl dX8_get_14 ?_
  refine lv_iload_n hx hb dX8_get_17 rfl (lv_at hl 1 rfl) ?_
  refine va_lald hx hb hK.1 hP 1 1 rfl rfl (by unfold vp_in; decide +kernel) dX8_get_18 ?_
  refine g_fj (v := 0) (by rfl) ?_
  refine lv_goto (tgt := 23) hx hb dX8_get_19 (by decide) ?_
  exact g_lret hx hb hr hlocks () hP hD hS rfl (Nat.le_of_ble_eq_true rfl) (Nat.le_of_ble_eq_true rfl) dX8_get_23
set_option maxRecDepth 100000 in
set_option maxHeartbeats 4000000 in
theorem k_X8_get_46 (l : Launch) (D : va_G) (y : Nat → ClassId) (aS : Nat → Nat) (sz : Nat) (h0 : Nat) (h1 : Nat) (wp19283 : Int32) : Met l yX8_get (Cond.code yX8_get cX8_get 2 (some .long) :: wsL_law) ({ frames := 0, cells := 0, slots := 0, locals := 0 } : Room) (va_Pc [.ref h0, .int 2] (gI D y aS [(h0, .inr (8, [.ref h1, .int wp19283])), (h1, .inl (y 1, 3, .inr (.inl (vp_updL (fun _ => 0) ((2 : Int32).toNatClampNeg) 6))))] sz)) (va_Ql (fun (r : Int64) (u : Unit) => 6 = r) (fun u => gO D (va_A [(h0, .inr (8, [.ref h1, .int wp19283])), (h1, .inl (y 1, 3, .inr (.inl (vp_updL (fun _ => 0) ((2 : Int32).toNatClampNeg) 6))))] sz) [(h0, .inr (8, [.ref h1, .int wp19283])), (h1, .inl (y 1, 3, .inr (.inl (vp_updL (fun _ => 0) ((2 : Int32).toNatClampNeg) 6))))]) (va_A [(h0, .inr (8, [.ref h1, .int wp19283])), (h1, .inl (y 1, 3, .inr (.inl (vp_updL (fun _ => 0) ((2 : Int32).toNatClampNeg) 6))))] sz)) 0 0 (va_A [(h0, .inr (8, [.ref h1, .int wp19283])), (h1, .inl (y 1, 3, .inr (.inl (vp_updL (fun _ => 0) ((2 : Int32).toNatClampNeg) 6))))] sz) := by
  refine g_of (by decide) (Nat.le_of_ble_eq_true rfl) ?_
  intro p e s m below meth c ls A hx hb hr hml hown hg hlocks hin hsz hK hP hD hS hA hAe hl
  rw [← hAe]
  replace hown : s.vm.findClass RX8 = some m.cls := hown
  replace hl : lv_has ls 2 [(0, .ref h0), (1, .int 2)] := hl
  refine lv_iload_n hx hb dX8_get_0 rfl (lv_at hl 1 rfl) ?_
  refine lv_if_lt (tgt := 22) hx hb dX8_get_1 (by decide) (fun c9 => absurd c9 (by decide +kernel)) (fun _ => ?_)
  refine lv_iload_n hx hb dX8_get_4 rfl (lv_at hl 1 rfl) ?_
  refine lv_aload_n hx hb dX8_get_5 rfl (lv_at hl 0 rfl) ?_
  refine gm_get (D := D) (ci := 8) (v := .ref h1) (C := RX8) (T := TX8) (N := 2) hx hb hg inlX8 hown hK.1 hP 0 rfl rfl 0 (by decide) tX8_0 (hg _ gw_98) rfl dX8_get_6 ?_
  refine va_alen hx hb hK.1 hP 1 1 rfl rfl (v := 3) rfl dX8_get_9 ?_
  refine lv_icmp_ge (tgt := 22) hx hb dX8_get_10 (by decide) (fun c9 => absurd c9 (by decide +kernel)) (fun _ => ?_)
  refine lv_aload_n hx hb dX8_get_13 rfl (lv_at hl 0 rfl) ?_
  refine gm_get (D := D) (ci := 8) (v := .ref h1) (C := RX8) (T := TX8) (N := 2) hx hb hg inlX8 hown hK.1 hP 0 rfl rfl 0 (by decide) tX8_0 (hg _ gw_98) rfl dX8_get_14 ?_
  refine lv_iload_n hx hb dX8_get_17 rfl (lv_at hl 1 rfl) ?_
  refine va_lald hx hb hK.1 hP 1 1 rfl rfl (by unfold vp_in; decide +kernel) dX8_get_18 ?_
  refine g_fj (v := 6) (by rfl) ?_
  refine lv_goto (tgt := 23) hx hb dX8_get_19 (by decide) ?_
  exact g_lret hx hb hr hlocks () hP hD hS rfl (Nat.le_of_ble_eq_true rfl) (Nat.le_of_ble_eq_true rfl) dX8_get_23
set_option maxRecDepth 100000 in
set_option maxHeartbeats 4000000 in
theorem k_X5_tellSecret_14 (l : Launch) (D : va_G) (y : Nat → ClassId) (aS : Nat → Nat) (sz : Nat) (h0 : Nat) (p1 : Int32) (h2 : Nat) (h3 : Nat) (h4 : Nat) (h5 : Nat) (wp19285 : Int32) (h7 : Nat) (wp19286 : Int32) (wf19287 : Nat → Int64) (h10 : Nat) (wp19288 : Int32) (h12 : Nat) : Met l yX5_tellSecret (Cond.code yX5_tellSecret cX5_tellSecret 7 (some .int) :: wsL_law) ({ frames := 1, cells := 0, slots := 0, locals := 23 } : Room) (va_Pc [.ref h0, .int 2, .int p1, .int 6] (gI D y aS [(h0, .inr (5, [.ref h2, .ref h3, .ref h4, .ref h5, .int wp19285])), (h4, .inr (8, [.ref h7, .int wp19286])), (h7, .inl (y 1, 18, .inr (.inl wf19287))), (h5, .inr (8, [.ref h10, .int wp19288])), (h10, .inl (y 1, 3, .inr (.inl (fun _ => 0)))), (h2, .inr (8, [.ref h12, .int 0]))] sz)) (va_Qi (fun (r : Int32) (u : Unit) => 1 = r) (fun u => gO D (va_A [(h0, .inr (5, [.ref h2, .ref h3, .ref h4, .ref h5, .int wp19285])), (h4, .inr (8, [.ref h7, .int wp19286])), (h7, .inl (y 1, 18, .inr (.inl wf19287))), (h5, .inr (8, [.ref h10, .int wp19288])), (h10, .inl (y 1, 3, .inr (.inl (fun _ => 0)))), (h2, .inr (8, [.ref h12, .int 0]))] sz) [(h0, .inr (5, [.ref h2, .ref h3, .ref h4, .ref h5, .int 0])), (h4, .inr (8, [.ref h7, .int wp19286])), (h7, .inl (y 1, 18, .inr (.inl (vp_updL (vp_updL (vp_updL (vp_updL (vp_updL (vp_updL wf19287 ((17 : Int32).toNatClampNeg) ((p1 - p1 / 10 * 10).toInt64)) ((16 : Int32).toNatClampNeg) (((p1 / 10) - (p1 / 10) / 10 * 10).toInt64)) ((15 : Int32).toNatClampNeg) ((((p1 / 10) / 10) - ((p1 / 10) / 10) / 10 * 10).toInt64)) ((14 : Int32).toNatClampNeg) (((((p1 / 10) / 10) / 10) - (((p1 / 10) / 10) / 10) / 10 * 10).toInt64)) ((13 : Int32).toNatClampNeg) ((((((p1 / 10) / 10) / 10) / 10) - ((((p1 / 10) / 10) / 10) / 10) / 10 * 10).toInt64)) ((12 : Int32).toNatClampNeg) (((((((p1 / 10) / 10) / 10) / 10) / 10) - (((((p1 / 10) / 10) / 10) / 10) / 10) / 10 * 10).toInt64))))), (h5, .inr (8, [.ref h10, .int wp19288])), (h10, .inl (y 1, 3, .inr (.inl (vp_updL (fun _ => 0) ((2 : Int32).toNatClampNeg) 6)))), (h2, .inr (8, [.ref h12, .int 0]))]) (va_A [(h0, .inr (5, [.ref h2, .ref h3, .ref h4, .ref h5, .int wp19285])), (h4, .inr (8, [.ref h7, .int wp19286])), (h7, .inl (y 1, 18, .inr (.inl wf19287))), (h5, .inr (8, [.ref h10, .int wp19288])), (h10, .inl (y 1, 3, .inr (.inl (fun _ => 0)))), (h2, .inr (8, [.ref h12, .int 0]))] sz)) 0 0 (va_A [(h0, .inr (5, [.ref h2, .ref h3, .ref h4, .ref h5, .int wp19285])), (h4, .inr (8, [.ref h7, .int wp19286])), (h7, .inl (y 1, 18, .inr (.inl wf19287))), (h5, .inr (8, [.ref h10, .int wp19288])), (h10, .inl (y 1, 3, .inr (.inl (fun _ => 0)))), (h2, .inr (8, [.ref h12, .int 0]))] sz) := by
  refine g_of (by decide) (Nat.le_of_ble_eq_true rfl) ?_
  intro p e s m below meth c ls A hx hb hr hml hown hg hlocks hin hsz hK hP hD hS hA hAe hl
  rw [← hAe]
  replace hown : s.vm.findClass RX5 = some m.cls := hown
  replace hl : lv_has ls 7 [(0, .ref h0), (1, .int 2), (2, .int p1), (3, .int 6)] := hl
  refine lv_iload_n hx hb dX5_tellSecret_0 rfl (lv_at hl 2 rfl) ?_
  refine lv_istore (lv' := [(4, .int p1), (0, .ref h0), (1, .int 2), (2, .int p1), (3, .int 6)]) hx hb dX5_tellSecret_1 hl (by decide) rfl ?_
  clear hl
  clear ls
  intro ls hl
  refine lv_iload_n hx hb dX5_tellSecret_3 rfl (lv_at hl 4 rfl) ?_
  refine lv_iconst (v := 1) hx hb dX5_tellSecret_4 (by decide) ?_
  refine lv_isub hx hb dX5_tellSecret_5 ?_
  refine g_fi (v := 5) (by decide +kernel) ?_
  refine lv_istore (lv' := [(5, .int 5), (4, .int p1), (0, .ref h0), (1, .int 2), (2, .int p1), (3, .int 6)]) hx hb dX5_tellSecret_6 hl (by decide) rfl ?_
  clear hl
  clear ls
  intro ls hl
  refine lv_iload hx hb dX5_tellSecret_8 (lv_at hl 0 rfl) ?_
  refine lv_if_lt (tgt := 46) hx hb dX5_tellSecret_10 (by decide) (fun c9 => absurd c9 (by decide +kernel)) (fun _ => ?_)
  refine lv_aload_n hx hb dX5_tellSecret_13 rfl (lv_at hl 2 rfl) ?_
  refine gm_get (D := D) (ci := 5) (v := .ref h4) (C := RX5) (T := TX5) (N := 5) hx hb hg inlX5 hown hK.1 hP 0 rfl rfl 2 (by decide) tX5_2 (hg _ gw_140) rfl dX5_tellSecret_14 ?_
  refine lv_iload_n hx hb dX5_tellSecret_17 rfl (lv_at hl 3 rfl) ?_
  refine lv_bipush (v := 6) hx hb dX5_tellSecret_18 (by decide +kernel) ?_
  refine lv_imul hx hb dX5_tellSecret_20 ?_
  refine g_fi (v := 12) (by decide +kernel) ?_
  refine lv_iload hx hb dX5_tellSecret_21 (lv_at hl 0 rfl) ?_
  refine lv_iadd hx hb dX5_tellSecret_23 ?_
  refine g_fi (v := 17) (by decide +kernel) ?_
  refine lv_iload hx hb dX5_tellSecret_24 (lv_at hl 1 rfl) ?_
  refine lv_bipush (v := 10) hx hb dX5_tellSecret_26 (by decide +kernel) ?_
  refine lv_irem hx hb dX5_tellSecret_28 (by decide +kernel) ?_
  refine lv_i2l (v := ((p1 - p1 / 10 * 10).toInt64)) hx hb dX5_tellSecret_29 rfl ?_
  refine g_av (wr := [(h0, .inr (5, [.ref h2, .ref h3, .ref h4, .ref h5, .int wp19285])), (h5, .inr (8, [.ref h10, .int wp19288])), (h10, .inl (y 1, 3, .inr (.inl (fun _ => 0)))), (h2, .inr (8, [.ref h12, .int 0]))]) (va_runV (As := [.int 17, .long ((p1 - p1 / 10 * 10).toInt64)]) (rest := []) ⟨hx, hb, hml, hown, hg⟩ (k_X8_set_44 l D y aS s.heap.size h4 ((p1 - p1 / 10 * 10).toInt64) h7 wp19286 wf19287) (cwV 2 hg ggV_RX5_29_X8_set rfl rfl rfl (by decide +kernel) ⟨Nat.le_of_ble_eq_true rfl, Nat.le_of_ble_eq_true rfl⟩) (g_preV (q := (RX8, TX8, 2)) hK hP hD [1, 2] rfl (by decide) (ci := 8) (q0 := 1) rfl rfl) rfl rfl hl.1 rfl (lv_room (Nat.le_of_ble_eq_true rfl)) dX5_tellSecret_30 ⟨Nat.le_of_ble_eq_true rfl, Nat.le_of_ble_eq_true rfl⟩) hP hD hS hA [1, 2] [0, 3, 4, 5] rfl rfl (by decide) (by decide) ?_
  clear hP hD hS
  refine fun u H locs hq hP hD hS => ?_
  replace hP : va_P D vwCl [(h0, .inr (5, [.ref h2, .ref h3, .ref h4, .ref h5, .int wp19285])), (h5, .inr (8, [.ref h10, .int wp19288])), (h10, .inl (y 1, 3, .inr (.inl (fun _ => 0)))), (h2, .inr (8, [.ref h12, .int 0])), (h4, .inr (8, [.ref h7, .int wp19286])), (h7, .inl (y 1, 18, .inr (.inl (vp_updL wf19287 ((17 : Int32).toNatClampNeg) ((p1 - p1 / 10 * 10).toInt64)))))] H := hP
  replace hD : va_D A [(h0, .inr (5, [.ref h2, .ref h3, .ref h4, .ref h5, .int wp19285])), (h5, .inr (8, [.ref h10, .int wp19288])), (h10, .inl (y 1, 3, .inr (.inl (fun _ => 0)))), (h2, .inr (8, [.ref h12, .int 0])), (h4, .inr (8, [.ref h7, .int wp19286])), (h7, .inl (y 1, 18, .inr (.inl (vp_updL wf19287 ((17 : Int32).toNatClampNeg) ((p1 - p1 / 10 * 10).toInt64)))))] := hD
  refine lv_iload hx hb dX5_tellSecret_33 (lv_at hl 1 rfl) ?_
  refine lv_bipush (v := 10) hx hb dX5_tellSecret_35 (by decide +kernel) ?_
  refine lv_idiv hx hb dX5_tellSecret_37 (by decide +kernel) ?_
  refine lv_istore (lv' := [(4, .int (p1 / 10)), (5, .int 5), (0, .ref h0), (1, .int 2), (2, .int p1), (3, .int 6)]) hx hb dX5_tellSecret_38 hl (by decide) rfl ?_
  clear hl
  clear ls
  intro ls hl
  refine lv_iinc (v := 4) (lv' := [(5, .int 4), (4, .int (p1 / 10)), (0, .ref h0), (1, .int 2), (2, .int p1), (3, .int 6)]) hx hb dX5_tellSecret_40 hl (k := 1) rfl (by decide +kernel) (by decide) rfl ?_
  clear hl
  clear ls
  intro ls hl
  refine lv_goto (tgt := 8) hx hb dX5_tellSecret_43 (by decide) ?_
  refine lv_iload hx hb dX5_tellSecret_8 (lv_at hl 0 rfl) ?_
  refine lv_if_lt (tgt := 46) hx hb dX5_tellSecret_10 (by decide) (fun c9 => absurd c9 (by decide +kernel)) (fun _ => ?_)
  refine lv_aload_n hx hb dX5_tellSecret_13 rfl (lv_at hl 2 rfl) ?_
  refine gm_get (D := D) (ci := 5) (v := .ref h4) (C := RX5) (T := TX5) (N := 5) hx hb hg inlX5 hown hK.1 hP 0 rfl rfl 2 (by decide) tX5_2 (hg _ gw_140) rfl dX5_tellSecret_14 ?_
  refine lv_iload_n hx hb dX5_tellSecret_17 rfl (lv_at hl 3 rfl) ?_
  refine lv_bipush (v := 6) hx hb dX5_tellSecret_18 (by decide +kernel) ?_
  refine lv_imul hx hb dX5_tellSecret_20 ?_
  refine g_fi (v := 12) (by decide +kernel) ?_
  refine lv_iload hx hb dX5_tellSecret_21 (lv_at hl 0 rfl) ?_
  refine lv_iadd hx hb dX5_tellSecret_23 ?_
  refine g_fi (v := 16) (by decide +kernel) ?_
  refine lv_iload hx hb dX5_tellSecret_24 (lv_at hl 1 rfl) ?_
  refine lv_bipush (v := 10) hx hb dX5_tellSecret_26 (by decide +kernel) ?_
  refine lv_irem hx hb dX5_tellSecret_28 (by decide +kernel) ?_
  refine lv_i2l (v := (((p1 / 10) - (p1 / 10) / 10 * 10).toInt64)) hx hb dX5_tellSecret_29 rfl ?_
  refine g_av (wr := [(h0, .inr (5, [.ref h2, .ref h3, .ref h4, .ref h5, .int wp19285])), (h5, .inr (8, [.ref h10, .int wp19288])), (h10, .inl (y 1, 3, .inr (.inl (fun _ => 0)))), (h2, .inr (8, [.ref h12, .int 0]))]) (va_runV (As := [.int 16, .long (((p1 / 10) - (p1 / 10) / 10 * 10).toInt64)]) (rest := []) ⟨hx, hb, hml, hown, hg⟩ (k_X8_set_41 l D y aS H.size h4 (((p1 / 10) - (p1 / 10) / 10 * 10).toInt64) h7 wp19286 (vp_updL wf19287 ((17 : Int32).toNatClampNeg) ((p1 - p1 / 10 * 10).toInt64))) (cwV 2 hg ggV_RX5_29_X8_set rfl rfl rfl (by decide +kernel) ⟨Nat.le_of_ble_eq_true rfl, Nat.le_of_ble_eq_true rfl⟩) (g_preV (q := (RX8, TX8, 2)) hK hP hD [4, 5] rfl (by decide) (ci := 8) (q0 := 4) rfl rfl) rfl rfl hl.1 rfl (lv_room (Nat.le_of_ble_eq_true rfl)) dX5_tellSecret_30 ⟨Nat.le_of_ble_eq_true rfl, Nat.le_of_ble_eq_true rfl⟩) hP hD hS hA [4, 5] [0, 1, 2, 3] rfl rfl (by decide) (by decide) ?_
  clear hP hD hS H locs
  refine fun u H locs hq hP hD hS => ?_
  replace hP : va_P D vwCl [(h0, .inr (5, [.ref h2, .ref h3, .ref h4, .ref h5, .int wp19285])), (h5, .inr (8, [.ref h10, .int wp19288])), (h10, .inl (y 1, 3, .inr (.inl (fun _ => 0)))), (h2, .inr (8, [.ref h12, .int 0])), (h4, .inr (8, [.ref h7, .int wp19286])), (h7, .inl (y 1, 18, .inr (.inl (vp_updL (vp_updL wf19287 ((17 : Int32).toNatClampNeg) ((p1 - p1 / 10 * 10).toInt64)) ((16 : Int32).toNatClampNeg) (((p1 / 10) - (p1 / 10) / 10 * 10).toInt64)))))] H := hP
  replace hD : va_D A [(h0, .inr (5, [.ref h2, .ref h3, .ref h4, .ref h5, .int wp19285])), (h5, .inr (8, [.ref h10, .int wp19288])), (h10, .inl (y 1, 3, .inr (.inl (fun _ => 0)))), (h2, .inr (8, [.ref h12, .int 0])), (h4, .inr (8, [.ref h7, .int wp19286])), (h7, .inl (y 1, 18, .inr (.inl (vp_updL (vp_updL wf19287 ((17 : Int32).toNatClampNeg) ((p1 - p1 / 10 * 10).toInt64)) ((16 : Int32).toNatClampNeg) (((p1 / 10) - (p1 / 10) / 10 * 10).toInt64)))))] := hD
  refine lv_iload hx hb dX5_tellSecret_33 (lv_at hl 1 rfl) ?_
  refine lv_bipush (v := 10) hx hb dX5_tellSecret_35 (by decide +kernel) ?_
  refine lv_idiv hx hb dX5_tellSecret_37 (by decide +kernel) ?_
  refine lv_istore (lv' := [(4, .int ((p1 / 10) / 10)), (5, .int 4), (0, .ref h0), (1, .int 2), (2, .int p1), (3, .int 6)]) hx hb dX5_tellSecret_38 hl (by decide) rfl ?_
  clear hl
  clear ls
  intro ls hl
  refine lv_iinc (v := 3) (lv' := [(5, .int 3), (4, .int ((p1 / 10) / 10)), (0, .ref h0), (1, .int 2), (2, .int p1), (3, .int 6)]) hx hb dX5_tellSecret_40 hl (k := 1) rfl (by decide +kernel) (by decide) rfl ?_
  clear hl
  clear ls
  intro ls hl
  refine lv_goto (tgt := 8) hx hb dX5_tellSecret_43 (by decide) ?_
  refine lv_iload hx hb dX5_tellSecret_8 (lv_at hl 0 rfl) ?_
  refine lv_if_lt (tgt := 46) hx hb dX5_tellSecret_10 (by decide) (fun c9 => absurd c9 (by decide +kernel)) (fun _ => ?_)
  refine lv_aload_n hx hb dX5_tellSecret_13 rfl (lv_at hl 2 rfl) ?_
  refine gm_get (D := D) (ci := 5) (v := .ref h4) (C := RX5) (T := TX5) (N := 5) hx hb hg inlX5 hown hK.1 hP 0 rfl rfl 2 (by decide) tX5_2 (hg _ gw_140) rfl dX5_tellSecret_14 ?_
  refine lv_iload_n hx hb dX5_tellSecret_17 rfl (lv_at hl 3 rfl) ?_
  refine lv_bipush (v := 6) hx hb dX5_tellSecret_18 (by decide +kernel) ?_
  refine lv_imul hx hb dX5_tellSecret_20 ?_
  refine g_fi (v := 12) (by decide +kernel) ?_
  refine lv_iload hx hb dX5_tellSecret_21 (lv_at hl 0 rfl) ?_
  refine lv_iadd hx hb dX5_tellSecret_23 ?_
  refine g_fi (v := 15) (by decide +kernel) ?_
  refine lv_iload hx hb dX5_tellSecret_24 (lv_at hl 1 rfl) ?_
  refine lv_bipush (v := 10) hx hb dX5_tellSecret_26 (by decide +kernel) ?_
  refine lv_irem hx hb dX5_tellSecret_28 (by decide +kernel) ?_
  refine lv_i2l (v := ((((p1 / 10) / 10) - ((p1 / 10) / 10) / 10 * 10).toInt64)) hx hb dX5_tellSecret_29 rfl ?_
  refine g_av (wr := [(h0, .inr (5, [.ref h2, .ref h3, .ref h4, .ref h5, .int wp19285])), (h5, .inr (8, [.ref h10, .int wp19288])), (h10, .inl (y 1, 3, .inr (.inl (fun _ => 0)))), (h2, .inr (8, [.ref h12, .int 0]))]) (va_runV (As := [.int 15, .long ((((p1 / 10) / 10) - ((p1 / 10) / 10) / 10 * 10).toInt64)]) (rest := []) ⟨hx, hb, hml, hown, hg⟩ (k_X8_set_38 l D y aS H.size h4 ((((p1 / 10) / 10) - ((p1 / 10) / 10) / 10 * 10).toInt64) h7 wp19286 (vp_updL (vp_updL wf19287 ((17 : Int32).toNatClampNeg) ((p1 - p1 / 10 * 10).toInt64)) ((16 : Int32).toNatClampNeg) (((p1 / 10) - (p1 / 10) / 10 * 10).toInt64))) (cwV 2 hg ggV_RX5_29_X8_set rfl rfl rfl (by decide +kernel) ⟨Nat.le_of_ble_eq_true rfl, Nat.le_of_ble_eq_true rfl⟩) (g_preV (q := (RX8, TX8, 2)) hK hP hD [4, 5] rfl (by decide) (ci := 8) (q0 := 4) rfl rfl) rfl rfl hl.1 rfl (lv_room (Nat.le_of_ble_eq_true rfl)) dX5_tellSecret_30 ⟨Nat.le_of_ble_eq_true rfl, Nat.le_of_ble_eq_true rfl⟩) hP hD hS hA [4, 5] [0, 1, 2, 3] rfl rfl (by decide) (by decide) ?_
  clear hP hD hS H locs
  refine fun u H locs hq hP hD hS => ?_
  replace hP : va_P D vwCl [(h0, .inr (5, [.ref h2, .ref h3, .ref h4, .ref h5, .int wp19285])), (h5, .inr (8, [.ref h10, .int wp19288])), (h10, .inl (y 1, 3, .inr (.inl (fun _ => 0)))), (h2, .inr (8, [.ref h12, .int 0])), (h4, .inr (8, [.ref h7, .int wp19286])), (h7, .inl (y 1, 18, .inr (.inl (vp_updL (vp_updL (vp_updL wf19287 ((17 : Int32).toNatClampNeg) ((p1 - p1 / 10 * 10).toInt64)) ((16 : Int32).toNatClampNeg) (((p1 / 10) - (p1 / 10) / 10 * 10).toInt64)) ((15 : Int32).toNatClampNeg) ((((p1 / 10) / 10) - ((p1 / 10) / 10) / 10 * 10).toInt64)))))] H := hP
  replace hD : va_D A [(h0, .inr (5, [.ref h2, .ref h3, .ref h4, .ref h5, .int wp19285])), (h5, .inr (8, [.ref h10, .int wp19288])), (h10, .inl (y 1, 3, .inr (.inl (fun _ => 0)))), (h2, .inr (8, [.ref h12, .int 0])), (h4, .inr (8, [.ref h7, .int wp19286])), (h7, .inl (y 1, 18, .inr (.inl (vp_updL (vp_updL (vp_updL wf19287 ((17 : Int32).toNatClampNeg) ((p1 - p1 / 10 * 10).toInt64)) ((16 : Int32).toNatClampNeg) (((p1 / 10) - (p1 / 10) / 10 * 10).toInt64)) ((15 : Int32).toNatClampNeg) ((((p1 / 10) / 10) - ((p1 / 10) / 10) / 10 * 10).toInt64)))))] := hD
  refine lv_iload hx hb dX5_tellSecret_33 (lv_at hl 1 rfl) ?_
  refine lv_bipush (v := 10) hx hb dX5_tellSecret_35 (by decide +kernel) ?_
  refine lv_idiv hx hb dX5_tellSecret_37 (by decide +kernel) ?_
  refine lv_istore (lv' := [(4, .int (((p1 / 10) / 10) / 10)), (5, .int 3), (0, .ref h0), (1, .int 2), (2, .int p1), (3, .int 6)]) hx hb dX5_tellSecret_38 hl (by decide) rfl ?_
  clear hl
  clear ls
  intro ls hl
  refine lv_iinc (v := 2) (lv' := [(5, .int 2), (4, .int (((p1 / 10) / 10) / 10)), (0, .ref h0), (1, .int 2), (2, .int p1), (3, .int 6)]) hx hb dX5_tellSecret_40 hl (k := 1) rfl (by decide +kernel) (by decide) rfl ?_
  clear hl
  clear ls
  intro ls hl
  refine lv_goto (tgt := 8) hx hb dX5_tellSecret_43 (by decide) ?_
  refine lv_iload hx hb dX5_tellSecret_8 (lv_at hl 0 rfl) ?_
  refine lv_if_lt (tgt := 46) hx hb dX5_tellSecret_10 (by decide) (fun c9 => absurd c9 (by decide +kernel)) (fun _ => ?_)
  refine lv_aload_n hx hb dX5_tellSecret_13 rfl (lv_at hl 2 rfl) ?_
  refine gm_get (D := D) (ci := 5) (v := .ref h4) (C := RX5) (T := TX5) (N := 5) hx hb hg inlX5 hown hK.1 hP 0 rfl rfl 2 (by decide) tX5_2 (hg _ gw_140) rfl dX5_tellSecret_14 ?_
  refine lv_iload_n hx hb dX5_tellSecret_17 rfl (lv_at hl 3 rfl) ?_
  refine lv_bipush (v := 6) hx hb dX5_tellSecret_18 (by decide +kernel) ?_
  refine lv_imul hx hb dX5_tellSecret_20 ?_
  refine g_fi (v := 12) (by decide +kernel) ?_
  refine lv_iload hx hb dX5_tellSecret_21 (lv_at hl 0 rfl) ?_
  refine lv_iadd hx hb dX5_tellSecret_23 ?_
  refine g_fi (v := 14) (by decide +kernel) ?_
  refine lv_iload hx hb dX5_tellSecret_24 (lv_at hl 1 rfl) ?_
  refine lv_bipush (v := 10) hx hb dX5_tellSecret_26 (by decide +kernel) ?_
  refine lv_irem hx hb dX5_tellSecret_28 (by decide +kernel) ?_
  refine lv_i2l (v := (((((p1 / 10) / 10) / 10) - (((p1 / 10) / 10) / 10) / 10 * 10).toInt64)) hx hb dX5_tellSecret_29 rfl ?_
  refine g_av (wr := [(h0, .inr (5, [.ref h2, .ref h3, .ref h4, .ref h5, .int wp19285])), (h5, .inr (8, [.ref h10, .int wp19288])), (h10, .inl (y 1, 3, .inr (.inl (fun _ => 0)))), (h2, .inr (8, [.ref h12, .int 0]))]) (va_runV (As := [.int 14, .long (((((p1 / 10) / 10) / 10) - (((p1 / 10) / 10) / 10) / 10 * 10).toInt64)]) (rest := []) ⟨hx, hb, hml, hown, hg⟩ (k_X8_set_35 l D y aS H.size h4 (((((p1 / 10) / 10) / 10) - (((p1 / 10) / 10) / 10) / 10 * 10).toInt64) h7 wp19286 (vp_updL (vp_updL (vp_updL wf19287 ((17 : Int32).toNatClampNeg) ((p1 - p1 / 10 * 10).toInt64)) ((16 : Int32).toNatClampNeg) (((p1 / 10) - (p1 / 10) / 10 * 10).toInt64)) ((15 : Int32).toNatClampNeg) ((((p1 / 10) / 10) - ((p1 / 10) / 10) / 10 * 10).toInt64))) (cwV 2 hg ggV_RX5_29_X8_set rfl rfl rfl (by decide +kernel) ⟨Nat.le_of_ble_eq_true rfl, Nat.le_of_ble_eq_true rfl⟩) (g_preV (q := (RX8, TX8, 2)) hK hP hD [4, 5] rfl (by decide) (ci := 8) (q0 := 4) rfl rfl) rfl rfl hl.1 rfl (lv_room (Nat.le_of_ble_eq_true rfl)) dX5_tellSecret_30 ⟨Nat.le_of_ble_eq_true rfl, Nat.le_of_ble_eq_true rfl⟩) hP hD hS hA [4, 5] [0, 1, 2, 3] rfl rfl (by decide) (by decide) ?_
  clear hP hD hS H locs
  refine fun u H locs hq hP hD hS => ?_
  replace hP : va_P D vwCl [(h0, .inr (5, [.ref h2, .ref h3, .ref h4, .ref h5, .int wp19285])), (h5, .inr (8, [.ref h10, .int wp19288])), (h10, .inl (y 1, 3, .inr (.inl (fun _ => 0)))), (h2, .inr (8, [.ref h12, .int 0])), (h4, .inr (8, [.ref h7, .int wp19286])), (h7, .inl (y 1, 18, .inr (.inl (vp_updL (vp_updL (vp_updL (vp_updL wf19287 ((17 : Int32).toNatClampNeg) ((p1 - p1 / 10 * 10).toInt64)) ((16 : Int32).toNatClampNeg) (((p1 / 10) - (p1 / 10) / 10 * 10).toInt64)) ((15 : Int32).toNatClampNeg) ((((p1 / 10) / 10) - ((p1 / 10) / 10) / 10 * 10).toInt64)) ((14 : Int32).toNatClampNeg) (((((p1 / 10) / 10) / 10) - (((p1 / 10) / 10) / 10) / 10 * 10).toInt64)))))] H := hP
  replace hD : va_D A [(h0, .inr (5, [.ref h2, .ref h3, .ref h4, .ref h5, .int wp19285])), (h5, .inr (8, [.ref h10, .int wp19288])), (h10, .inl (y 1, 3, .inr (.inl (fun _ => 0)))), (h2, .inr (8, [.ref h12, .int 0])), (h4, .inr (8, [.ref h7, .int wp19286])), (h7, .inl (y 1, 18, .inr (.inl (vp_updL (vp_updL (vp_updL (vp_updL wf19287 ((17 : Int32).toNatClampNeg) ((p1 - p1 / 10 * 10).toInt64)) ((16 : Int32).toNatClampNeg) (((p1 / 10) - (p1 / 10) / 10 * 10).toInt64)) ((15 : Int32).toNatClampNeg) ((((p1 / 10) / 10) - ((p1 / 10) / 10) / 10 * 10).toInt64)) ((14 : Int32).toNatClampNeg) (((((p1 / 10) / 10) / 10) - (((p1 / 10) / 10) / 10) / 10 * 10).toInt64)))))] := hD
  refine lv_iload hx hb dX5_tellSecret_33 (lv_at hl 1 rfl) ?_
  refine lv_bipush (v := 10) hx hb dX5_tellSecret_35 (by decide +kernel) ?_
  refine lv_idiv hx hb dX5_tellSecret_37 (by decide +kernel) ?_
  refine lv_istore (lv' := [(4, .int ((((p1 / 10) / 10) / 10) / 10)), (5, .int 2), (0, .ref h0), (1, .int 2), (2, .int p1), (3, .int 6)]) hx hb dX5_tellSecret_38 hl (by decide) rfl ?_
  clear hl
  clear ls
  intro ls hl
  refine lv_iinc (v := 1) (lv' := [(5, .int 1), (4, .int ((((p1 / 10) / 10) / 10) / 10)), (0, .ref h0), (1, .int 2), (2, .int p1), (3, .int 6)]) hx hb dX5_tellSecret_40 hl (k := 1) rfl (by decide +kernel) (by decide) rfl ?_
  clear hl
  clear ls
  intro ls hl
  refine lv_goto (tgt := 8) hx hb dX5_tellSecret_43 (by decide) ?_
  refine lv_iload hx hb dX5_tellSecret_8 (lv_at hl 0 rfl) ?_
  refine lv_if_lt (tgt := 46) hx hb dX5_tellSecret_10 (by decide) (fun c9 => absurd c9 (by decide +kernel)) (fun _ => ?_)
  refine lv_aload_n hx hb dX5_tellSecret_13 rfl (lv_at hl 2 rfl) ?_
  refine gm_get (D := D) (ci := 5) (v := .ref h4) (C := RX5) (T := TX5) (N := 5) hx hb hg inlX5 hown hK.1 hP 0 rfl rfl 2 (by decide) tX5_2 (hg _ gw_140) rfl dX5_tellSecret_14 ?_
  refine lv_iload_n hx hb dX5_tellSecret_17 rfl (lv_at hl 3 rfl) ?_
  refine lv_bipush (v := 6) hx hb dX5_tellSecret_18 (by decide +kernel) ?_
  refine lv_imul hx hb dX5_tellSecret_20 ?_
  refine g_fi (v := 12) (by decide +kernel) ?_
  refine lv_iload hx hb dX5_tellSecret_21 (lv_at hl 0 rfl) ?_
  refine lv_iadd hx hb dX5_tellSecret_23 ?_
  refine g_fi (v := 13) (by decide +kernel) ?_
  refine lv_iload hx hb dX5_tellSecret_24 (lv_at hl 1 rfl) ?_
  refine lv_bipush (v := 10) hx hb dX5_tellSecret_26 (by decide +kernel) ?_
  refine lv_irem hx hb dX5_tellSecret_28 (by decide +kernel) ?_
  refine lv_i2l (v := ((((((p1 / 10) / 10) / 10) / 10) - ((((p1 / 10) / 10) / 10) / 10) / 10 * 10).toInt64)) hx hb dX5_tellSecret_29 rfl ?_
  refine g_av (wr := [(h0, .inr (5, [.ref h2, .ref h3, .ref h4, .ref h5, .int wp19285])), (h5, .inr (8, [.ref h10, .int wp19288])), (h10, .inl (y 1, 3, .inr (.inl (fun _ => 0)))), (h2, .inr (8, [.ref h12, .int 0]))]) (va_runV (As := [.int 13, .long ((((((p1 / 10) / 10) / 10) / 10) - ((((p1 / 10) / 10) / 10) / 10) / 10 * 10).toInt64)]) (rest := []) ⟨hx, hb, hml, hown, hg⟩ (k_X8_set_31 l D y aS H.size h4 ((((((p1 / 10) / 10) / 10) / 10) - ((((p1 / 10) / 10) / 10) / 10) / 10 * 10).toInt64) h7 wp19286 (vp_updL (vp_updL (vp_updL (vp_updL wf19287 ((17 : Int32).toNatClampNeg) ((p1 - p1 / 10 * 10).toInt64)) ((16 : Int32).toNatClampNeg) (((p1 / 10) - (p1 / 10) / 10 * 10).toInt64)) ((15 : Int32).toNatClampNeg) ((((p1 / 10) / 10) - ((p1 / 10) / 10) / 10 * 10).toInt64)) ((14 : Int32).toNatClampNeg) (((((p1 / 10) / 10) / 10) - (((p1 / 10) / 10) / 10) / 10 * 10).toInt64))) (cwV 2 hg ggV_RX5_29_X8_set rfl rfl rfl (by decide +kernel) ⟨Nat.le_of_ble_eq_true rfl, Nat.le_of_ble_eq_true rfl⟩) (g_preV (q := (RX8, TX8, 2)) hK hP hD [4, 5] rfl (by decide) (ci := 8) (q0 := 4) rfl rfl) rfl rfl hl.1 rfl (lv_room (Nat.le_of_ble_eq_true rfl)) dX5_tellSecret_30 ⟨Nat.le_of_ble_eq_true rfl, Nat.le_of_ble_eq_true rfl⟩) hP hD hS hA [4, 5] [0, 1, 2, 3] rfl rfl (by decide) (by decide) ?_
  clear hP hD hS H locs
  refine fun u H locs hq hP hD hS => ?_
  replace hP : va_P D vwCl [(h0, .inr (5, [.ref h2, .ref h3, .ref h4, .ref h5, .int wp19285])), (h5, .inr (8, [.ref h10, .int wp19288])), (h10, .inl (y 1, 3, .inr (.inl (fun _ => 0)))), (h2, .inr (8, [.ref h12, .int 0])), (h4, .inr (8, [.ref h7, .int wp19286])), (h7, .inl (y 1, 18, .inr (.inl (vp_updL (vp_updL (vp_updL (vp_updL (vp_updL wf19287 ((17 : Int32).toNatClampNeg) ((p1 - p1 / 10 * 10).toInt64)) ((16 : Int32).toNatClampNeg) (((p1 / 10) - (p1 / 10) / 10 * 10).toInt64)) ((15 : Int32).toNatClampNeg) ((((p1 / 10) / 10) - ((p1 / 10) / 10) / 10 * 10).toInt64)) ((14 : Int32).toNatClampNeg) (((((p1 / 10) / 10) / 10) - (((p1 / 10) / 10) / 10) / 10 * 10).toInt64)) ((13 : Int32).toNatClampNeg) ((((((p1 / 10) / 10) / 10) / 10) - ((((p1 / 10) / 10) / 10) / 10) / 10 * 10).toInt64)))))] H := hP
  replace hD : va_D A [(h0, .inr (5, [.ref h2, .ref h3, .ref h4, .ref h5, .int wp19285])), (h5, .inr (8, [.ref h10, .int wp19288])), (h10, .inl (y 1, 3, .inr (.inl (fun _ => 0)))), (h2, .inr (8, [.ref h12, .int 0])), (h4, .inr (8, [.ref h7, .int wp19286])), (h7, .inl (y 1, 18, .inr (.inl (vp_updL (vp_updL (vp_updL (vp_updL (vp_updL wf19287 ((17 : Int32).toNatClampNeg) ((p1 - p1 / 10 * 10).toInt64)) ((16 : Int32).toNatClampNeg) (((p1 / 10) - (p1 / 10) / 10 * 10).toInt64)) ((15 : Int32).toNatClampNeg) ((((p1 / 10) / 10) - ((p1 / 10) / 10) / 10 * 10).toInt64)) ((14 : Int32).toNatClampNeg) (((((p1 / 10) / 10) / 10) - (((p1 / 10) / 10) / 10) / 10 * 10).toInt64)) ((13 : Int32).toNatClampNeg) ((((((p1 / 10) / 10) / 10) / 10) - ((((p1 / 10) / 10) / 10) / 10) / 10 * 10).toInt64)))))] := hD
  refine lv_iload hx hb dX5_tellSecret_33 (lv_at hl 1 rfl) ?_
  refine lv_bipush (v := 10) hx hb dX5_tellSecret_35 (by decide +kernel) ?_
  refine lv_idiv hx hb dX5_tellSecret_37 (by decide +kernel) ?_
  refine lv_istore (lv' := [(4, .int (((((p1 / 10) / 10) / 10) / 10) / 10)), (5, .int 1), (0, .ref h0), (1, .int 2), (2, .int p1), (3, .int 6)]) hx hb dX5_tellSecret_38 hl (by decide) rfl ?_
  clear hl
  clear ls
  intro ls hl
  refine lv_iinc (v := 0) (lv' := [(5, .int 0), (4, .int (((((p1 / 10) / 10) / 10) / 10) / 10)), (0, .ref h0), (1, .int 2), (2, .int p1), (3, .int 6)]) hx hb dX5_tellSecret_40 hl (k := 1) rfl (by decide +kernel) (by decide) rfl ?_
  clear hl
  clear ls
  intro ls hl
  refine lv_goto (tgt := 8) hx hb dX5_tellSecret_43 (by decide) ?_
  refine lv_iload hx hb dX5_tellSecret_8 (lv_at hl 0 rfl) ?_
  refine lv_if_lt (tgt := 46) hx hb dX5_tellSecret_10 (by decide) (fun c9 => absurd c9 (by decide +kernel)) (fun _ => ?_)
  refine lv_aload_n hx hb dX5_tellSecret_13 rfl (lv_at hl 2 rfl) ?_
  refine gm_get (D := D) (ci := 5) (v := .ref h4) (C := RX5) (T := TX5) (N := 5) hx hb hg inlX5 hown hK.1 hP 0 rfl rfl 2 (by decide) tX5_2 (hg _ gw_140) rfl dX5_tellSecret_14 ?_
  refine lv_iload_n hx hb dX5_tellSecret_17 rfl (lv_at hl 3 rfl) ?_
  refine lv_bipush (v := 6) hx hb dX5_tellSecret_18 (by decide +kernel) ?_
  refine lv_imul hx hb dX5_tellSecret_20 ?_
  refine g_fi (v := 12) (by decide +kernel) ?_
  refine lv_iload hx hb dX5_tellSecret_21 (lv_at hl 0 rfl) ?_
  refine lv_iadd hx hb dX5_tellSecret_23 ?_
  refine g_fi (v := 12) (by decide +kernel) ?_
  refine lv_iload hx hb dX5_tellSecret_24 (lv_at hl 1 rfl) ?_
  refine lv_bipush (v := 10) hx hb dX5_tellSecret_26 (by decide +kernel) ?_
  refine lv_irem hx hb dX5_tellSecret_28 (by decide +kernel) ?_
  refine lv_i2l (v := (((((((p1 / 10) / 10) / 10) / 10) / 10) - (((((p1 / 10) / 10) / 10) / 10) / 10) / 10 * 10).toInt64)) hx hb dX5_tellSecret_29 rfl ?_
  refine g_av (wr := [(h0, .inr (5, [.ref h2, .ref h3, .ref h4, .ref h5, .int wp19285])), (h5, .inr (8, [.ref h10, .int wp19288])), (h10, .inl (y 1, 3, .inr (.inl (fun _ => 0)))), (h2, .inr (8, [.ref h12, .int 0]))]) (va_runV (As := [.int 12, .long (((((((p1 / 10) / 10) / 10) / 10) / 10) - (((((p1 / 10) / 10) / 10) / 10) / 10) / 10 * 10).toInt64)]) (rest := []) ⟨hx, hb, hml, hown, hg⟩ (k_X8_set_32 l D y aS H.size h4 (((((((p1 / 10) / 10) / 10) / 10) / 10) - (((((p1 / 10) / 10) / 10) / 10) / 10) / 10 * 10).toInt64) h7 wp19286 (vp_updL (vp_updL (vp_updL (vp_updL (vp_updL wf19287 ((17 : Int32).toNatClampNeg) ((p1 - p1 / 10 * 10).toInt64)) ((16 : Int32).toNatClampNeg) (((p1 / 10) - (p1 / 10) / 10 * 10).toInt64)) ((15 : Int32).toNatClampNeg) ((((p1 / 10) / 10) - ((p1 / 10) / 10) / 10 * 10).toInt64)) ((14 : Int32).toNatClampNeg) (((((p1 / 10) / 10) / 10) - (((p1 / 10) / 10) / 10) / 10 * 10).toInt64)) ((13 : Int32).toNatClampNeg) ((((((p1 / 10) / 10) / 10) / 10) - ((((p1 / 10) / 10) / 10) / 10) / 10 * 10).toInt64))) (cwV 2 hg ggV_RX5_29_X8_set rfl rfl rfl (by decide +kernel) ⟨Nat.le_of_ble_eq_true rfl, Nat.le_of_ble_eq_true rfl⟩) (g_preV (q := (RX8, TX8, 2)) hK hP hD [4, 5] rfl (by decide) (ci := 8) (q0 := 4) rfl rfl) rfl rfl hl.1 rfl (lv_room (Nat.le_of_ble_eq_true rfl)) dX5_tellSecret_30 ⟨Nat.le_of_ble_eq_true rfl, Nat.le_of_ble_eq_true rfl⟩) hP hD hS hA [4, 5] [0, 1, 2, 3] rfl rfl (by decide) (by decide) ?_
  clear hP hD hS H locs
  refine fun u H locs hq hP hD hS => ?_
  replace hP : va_P D vwCl [(h0, .inr (5, [.ref h2, .ref h3, .ref h4, .ref h5, .int wp19285])), (h5, .inr (8, [.ref h10, .int wp19288])), (h10, .inl (y 1, 3, .inr (.inl (fun _ => 0)))), (h2, .inr (8, [.ref h12, .int 0])), (h4, .inr (8, [.ref h7, .int wp19286])), (h7, .inl (y 1, 18, .inr (.inl (vp_updL (vp_updL (vp_updL (vp_updL (vp_updL (vp_updL wf19287 ((17 : Int32).toNatClampNeg) ((p1 - p1 / 10 * 10).toInt64)) ((16 : Int32).toNatClampNeg) (((p1 / 10) - (p1 / 10) / 10 * 10).toInt64)) ((15 : Int32).toNatClampNeg) ((((p1 / 10) / 10) - ((p1 / 10) / 10) / 10 * 10).toInt64)) ((14 : Int32).toNatClampNeg) (((((p1 / 10) / 10) / 10) - (((p1 / 10) / 10) / 10) / 10 * 10).toInt64)) ((13 : Int32).toNatClampNeg) ((((((p1 / 10) / 10) / 10) / 10) - ((((p1 / 10) / 10) / 10) / 10) / 10 * 10).toInt64)) ((12 : Int32).toNatClampNeg) (((((((p1 / 10) / 10) / 10) / 10) / 10) - (((((p1 / 10) / 10) / 10) / 10) / 10) / 10 * 10).toInt64)))))] H := hP
  replace hD : va_D A [(h0, .inr (5, [.ref h2, .ref h3, .ref h4, .ref h5, .int wp19285])), (h5, .inr (8, [.ref h10, .int wp19288])), (h10, .inl (y 1, 3, .inr (.inl (fun _ => 0)))), (h2, .inr (8, [.ref h12, .int 0])), (h4, .inr (8, [.ref h7, .int wp19286])), (h7, .inl (y 1, 18, .inr (.inl (vp_updL (vp_updL (vp_updL (vp_updL (vp_updL (vp_updL wf19287 ((17 : Int32).toNatClampNeg) ((p1 - p1 / 10 * 10).toInt64)) ((16 : Int32).toNatClampNeg) (((p1 / 10) - (p1 / 10) / 10 * 10).toInt64)) ((15 : Int32).toNatClampNeg) ((((p1 / 10) / 10) - ((p1 / 10) / 10) / 10 * 10).toInt64)) ((14 : Int32).toNatClampNeg) (((((p1 / 10) / 10) / 10) - (((p1 / 10) / 10) / 10) / 10 * 10).toInt64)) ((13 : Int32).toNatClampNeg) ((((((p1 / 10) / 10) / 10) / 10) - ((((p1 / 10) / 10) / 10) / 10) / 10 * 10).toInt64)) ((12 : Int32).toNatClampNeg) (((((((p1 / 10) / 10) / 10) / 10) / 10) - (((((p1 / 10) / 10) / 10) / 10) / 10) / 10 * 10).toInt64)))))] := hD
  refine lv_iload hx hb dX5_tellSecret_33 (lv_at hl 1 rfl) ?_
  refine lv_bipush (v := 10) hx hb dX5_tellSecret_35 (by decide +kernel) ?_
  refine lv_idiv hx hb dX5_tellSecret_37 (by decide +kernel) ?_
  refine lv_istore (lv' := [(4, .int ((((((p1 / 10) / 10) / 10) / 10) / 10) / 10)), (5, .int 0), (0, .ref h0), (1, .int 2), (2, .int p1), (3, .int 6)]) hx hb dX5_tellSecret_38 hl (by decide) rfl ?_
  clear hl
  clear ls
  intro ls hl
  refine lv_iinc (v := (-1)) (lv' := [(5, .int (-1)), (4, .int ((((((p1 / 10) / 10) / 10) / 10) / 10) / 10)), (0, .ref h0), (1, .int 2), (2, .int p1), (3, .int 6)]) hx hb dX5_tellSecret_40 hl (k := 1) rfl (by decide +kernel) (by decide) rfl ?_
  clear hl
  clear ls
  intro ls hl
  refine lv_goto (tgt := 8) hx hb dX5_tellSecret_43 (by decide) ?_
  refine lv_iload hx hb dX5_tellSecret_8 (lv_at hl 0 rfl) ?_
  refine lv_if_lt (tgt := 46) hx hb dX5_tellSecret_10 (by decide) (fun _ => ?_) (fun c9 => absurd c9 (by decide +kernel))
  refine lv_aload_n hx hb dX5_tellSecret_46 rfl (lv_at hl 2 rfl) ?_
  refine gm_get (D := D) (ci := 5) (v := .ref h5) (C := RX5) (T := TX5) (N := 5) hx hb hg inlX5 hown hK.1 hP 0 rfl rfl 3 (by decide) tX5_3 (hg _ gw_141) rfl dX5_tellSecret_47 ?_
  refine lv_iload_n hx hb dX5_tellSecret_50 rfl (lv_at hl 3 rfl) ?_
  refine lv_iload_n hx hb dX5_tellSecret_51 rfl (lv_at hl 5 rfl) ?_
  refine lv_i2l (v := 6) hx hb dX5_tellSecret_52 (by decide +kernel) ?_
  refine g_av (wr := [(h0, .inr (5, [.ref h2, .ref h3, .ref h4, .ref h5, .int wp19285])), (h2, .inr (8, [.ref h12, .int 0])), (h4, .inr (8, [.ref h7, .int wp19286])), (h7, .inl (y 1, 18, .inr (.inl (vp_updL (vp_updL (vp_updL (vp_updL (vp_updL (vp_updL wf19287 ((17 : Int32).toNatClampNeg) ((p1 - p1 / 10 * 10).toInt64)) ((16 : Int32).toNatClampNeg) (((p1 / 10) - (p1 / 10) / 10 * 10).toInt64)) ((15 : Int32).toNatClampNeg) ((((p1 / 10) / 10) - ((p1 / 10) / 10) / 10 * 10).toInt64)) ((14 : Int32).toNatClampNeg) (((((p1 / 10) / 10) / 10) - (((p1 / 10) / 10) / 10) / 10 * 10).toInt64)) ((13 : Int32).toNatClampNeg) ((((((p1 / 10) / 10) / 10) / 10) - ((((p1 / 10) / 10) / 10) / 10) / 10 * 10).toInt64)) ((12 : Int32).toNatClampNeg) (((((((p1 / 10) / 10) / 10) / 10) / 10) - (((((p1 / 10) / 10) / 10) / 10) / 10) / 10 * 10).toInt64)))))]) (va_runV (As := [.int 2, .long 6]) (rest := []) ⟨hx, hb, hml, hown, hg⟩ (k_X8_set_26 l D y aS H.size h5 6 h10 wp19288 (fun _ => 0)) (cwV 2 hg ggV_RX5_29_X8_set rfl rfl rfl (by decide +kernel) ⟨Nat.le_of_ble_eq_true rfl, Nat.le_of_ble_eq_true rfl⟩) (g_preV (q := (RX8, TX8, 2)) hK hP hD [1, 2] rfl (by decide) (ci := 8) (q0 := 1) rfl rfl) rfl rfl hl.1 rfl (lv_room (Nat.le_of_ble_eq_true rfl)) dX5_tellSecret_53 ⟨Nat.le_of_ble_eq_true rfl, Nat.le_of_ble_eq_true rfl⟩) hP hD hS hA [1, 2] [0, 3, 4, 5] rfl rfl (by decide) (by decide) ?_
  clear hP hD hS H locs
  refine fun u H locs hq hP hD hS => ?_
  replace hP : va_P D vwCl [(h0, .inr (5, [.ref h2, .ref h3, .ref h4, .ref h5, .int wp19285])), (h2, .inr (8, [.ref h12, .int 0])), (h4, .inr (8, [.ref h7, .int wp19286])), (h7, .inl (y 1, 18, .inr (.inl (vp_updL (vp_updL (vp_updL (vp_updL (vp_updL (vp_updL wf19287 ((17 : Int32).toNatClampNeg) ((p1 - p1 / 10 * 10).toInt64)) ((16 : Int32).toNatClampNeg) (((p1 / 10) - (p1 / 10) / 10 * 10).toInt64)) ((15 : Int32).toNatClampNeg) ((((p1 / 10) / 10) - ((p1 / 10) / 10) / 10 * 10).toInt64)) ((14 : Int32).toNatClampNeg) (((((p1 / 10) / 10) / 10) - (((p1 / 10) / 10) / 10) / 10 * 10).toInt64)) ((13 : Int32).toNatClampNeg) ((((((p1 / 10) / 10) / 10) / 10) - ((((p1 / 10) / 10) / 10) / 10) / 10 * 10).toInt64)) ((12 : Int32).toNatClampNeg) (((((((p1 / 10) / 10) / 10) / 10) / 10) - (((((p1 / 10) / 10) / 10) / 10) / 10) / 10 * 10).toInt64))))), (h5, .inr (8, [.ref h10, .int wp19288])), (h10, .inl (y 1, 3, .inr (.inl (vp_updL (fun _ => 0) ((2 : Int32).toNatClampNeg) 6))))] H := hP
  replace hD : va_D A [(h0, .inr (5, [.ref h2, .ref h3, .ref h4, .ref h5, .int wp19285])), (h2, .inr (8, [.ref h12, .int 0])), (h4, .inr (8, [.ref h7, .int wp19286])), (h7, .inl (y 1, 18, .inr (.inl (vp_updL (vp_updL (vp_updL (vp_updL (vp_updL (vp_updL wf19287 ((17 : Int32).toNatClampNeg) ((p1 - p1 / 10 * 10).toInt64)) ((16 : Int32).toNatClampNeg) (((p1 / 10) - (p1 / 10) / 10 * 10).toInt64)) ((15 : Int32).toNatClampNeg) ((((p1 / 10) / 10) - ((p1 / 10) / 10) / 10 * 10).toInt64)) ((14 : Int32).toNatClampNeg) (((((p1 / 10) / 10) / 10) - (((p1 / 10) / 10) / 10) / 10 * 10).toInt64)) ((13 : Int32).toNatClampNeg) ((((((p1 / 10) / 10) / 10) / 10) - ((((p1 / 10) / 10) / 10) / 10) / 10 * 10).toInt64)) ((12 : Int32).toNatClampNeg) (((((((p1 / 10) / 10) / 10) / 10) / 10) - (((((p1 / 10) / 10) / 10) / 10) / 10) / 10 * 10).toInt64))))), (h5, .inr (8, [.ref h10, .int wp19288])), (h10, .inl (y 1, 3, .inr (.inl (vp_updL (fun _ => 0) ((2 : Int32).toNatClampNeg) 6))))] := hD
  refine lv_aload_n hx hb dX5_tellSecret_56 rfl (lv_at hl 2 rfl) ?_
  refine g_av (wr := [(h4, .inr (8, [.ref h7, .int wp19286])), (h7, .inl (y 1, 18, .inr (.inl (vp_updL (vp_updL (vp_updL (vp_updL (vp_updL (vp_updL wf19287 ((17 : Int32).toNatClampNeg) ((p1 - p1 / 10 * 10).toInt64)) ((16 : Int32).toNatClampNeg) (((p1 / 10) - (p1 / 10) / 10 * 10).toInt64)) ((15 : Int32).toNatClampNeg) ((((p1 / 10) / 10) - ((p1 / 10) / 10) / 10 * 10).toInt64)) ((14 : Int32).toNatClampNeg) (((((p1 / 10) / 10) / 10) - (((p1 / 10) / 10) / 10) / 10 * 10).toInt64)) ((13 : Int32).toNatClampNeg) ((((((p1 / 10) / 10) / 10) / 10) - ((((p1 / 10) / 10) / 10) / 10) / 10 * 10).toInt64)) ((12 : Int32).toNatClampNeg) (((((((p1 / 10) / 10) / 10) / 10) / 10) - (((((p1 / 10) / 10) / 10) / 10) / 10) / 10 * 10).toInt64))))), (h5, .inr (8, [.ref h10, .int wp19288])), (h10, .inl (y 1, 3, .inr (.inl (vp_updL (fun _ => 0) ((2 : Int32).toNatClampNeg) 6))))]) (va_runV (As := []) (rest := []) ⟨hx, hb, hml, hown, hg⟩ (k_X5_findOut_0 l D y aS H.size h0 h2 h3 h4 h5 wp19285 h12) (cwV 0 hg ggV_RX5_33_X5_findOut rfl rfl rfl (by decide +kernel) ⟨Nat.le_of_ble_eq_true rfl, Nat.le_of_ble_eq_true rfl⟩) (g_preV (q := (RX5, TX5, 5)) hK hP hD [0, 1] rfl (by decide) (ci := 5) (q0 := 0) rfl rfl) rfl rfl hl.1 rfl (lv_room (Nat.le_of_ble_eq_true rfl)) dX5_tellSecret_57 ⟨Nat.le_of_ble_eq_true rfl, Nat.le_of_ble_eq_true rfl⟩) hP hD hS hA [0, 1] [2, 3, 4, 5] rfl rfl (by decide) (by decide) ?_
  clear hP hD hS H locs
  refine fun u H locs hq hP hD hS => ?_
  replace hP : va_P D vwCl [(h4, .inr (8, [.ref h7, .int wp19286])), (h7, .inl (y 1, 18, .inr (.inl (vp_updL (vp_updL (vp_updL (vp_updL (vp_updL (vp_updL wf19287 ((17 : Int32).toNatClampNeg) ((p1 - p1 / 10 * 10).toInt64)) ((16 : Int32).toNatClampNeg) (((p1 / 10) - (p1 / 10) / 10 * 10).toInt64)) ((15 : Int32).toNatClampNeg) ((((p1 / 10) / 10) - ((p1 / 10) / 10) / 10 * 10).toInt64)) ((14 : Int32).toNatClampNeg) (((((p1 / 10) / 10) / 10) - (((p1 / 10) / 10) / 10) / 10 * 10).toInt64)) ((13 : Int32).toNatClampNeg) ((((((p1 / 10) / 10) / 10) / 10) - ((((p1 / 10) / 10) / 10) / 10) / 10 * 10).toInt64)) ((12 : Int32).toNatClampNeg) (((((((p1 / 10) / 10) / 10) / 10) / 10) - (((((p1 / 10) / 10) / 10) / 10) / 10) / 10 * 10).toInt64))))), (h5, .inr (8, [.ref h10, .int wp19288])), (h10, .inl (y 1, 3, .inr (.inl (vp_updL (fun _ => 0) ((2 : Int32).toNatClampNeg) 6)))), (h0, .inr (5, [.ref h2, .ref h3, .ref h4, .ref h5, .int 0])), (h2, .inr (8, [.ref h12, .int 0]))] H := hP
  replace hD : va_D A [(h4, .inr (8, [.ref h7, .int wp19286])), (h7, .inl (y 1, 18, .inr (.inl (vp_updL (vp_updL (vp_updL (vp_updL (vp_updL (vp_updL wf19287 ((17 : Int32).toNatClampNeg) ((p1 - p1 / 10 * 10).toInt64)) ((16 : Int32).toNatClampNeg) (((p1 / 10) - (p1 / 10) / 10 * 10).toInt64)) ((15 : Int32).toNatClampNeg) ((((p1 / 10) / 10) - ((p1 / 10) / 10) / 10 * 10).toInt64)) ((14 : Int32).toNatClampNeg) (((((p1 / 10) / 10) / 10) - (((p1 / 10) / 10) / 10) / 10 * 10).toInt64)) ((13 : Int32).toNatClampNeg) ((((((p1 / 10) / 10) / 10) / 10) - ((((p1 / 10) / 10) / 10) / 10) / 10 * 10).toInt64)) ((12 : Int32).toNatClampNeg) (((((((p1 / 10) / 10) / 10) / 10) / 10) - (((((p1 / 10) / 10) / 10) / 10) / 10) / 10 * 10).toInt64))))), (h5, .inr (8, [.ref h10, .int wp19288])), (h10, .inl (y 1, 3, .inr (.inl (vp_updL (fun _ => 0) ((2 : Int32).toNatClampNeg) 6)))), (h0, .inr (5, [.ref h2, .ref h3, .ref h4, .ref h5, .int 0])), (h2, .inr (8, [.ref h12, .int 0]))] := hD
  refine lv_iconst (v := 0) hx hb dX5_tellSecret_60 (by decide) ?_
  refine lv_istore (lv' := [(5, .int 0), (4, .int ((((((p1 / 10) / 10) / 10) / 10) / 10) / 10)), (0, .ref h0), (1, .int 2), (2, .int p1), (3, .int 6)]) hx hb dX5_tellSecret_61 hl (by decide) rfl ?_
  clear hl
  clear ls
  intro ls hl
  refine lv_iconst (v := 0) hx hb dX5_tellSecret_63 (by decide) ?_
  refine lv_istore (lv' := [(6, .int 0), (5, .int 0), (4, .int ((((((p1 / 10) / 10) / 10) / 10) / 10) / 10)), (0, .ref h0), (1, .int 2), (2, .int p1), (3, .int 6)]) hx hb dX5_tellSecret_64 hl (by decide) rfl ?_
  clear hl
  clear ls
  intro ls hl
  refine lv_iload hx hb dX5_tellSecret_66 (lv_at hl 0 rfl) ?_
  refine lv_iconst (v := 3) hx hb dX5_tellSecret_68 (by decide) ?_
  refine lv_icmp_ge (tgt := 95) hx hb dX5_tellSecret_69 (by decide) (fun c9 => absurd c9 (by decide +kernel)) (fun _ => ?_)
  refine lv_aload_n hx hb dX5_tellSecret_72 rfl (lv_at hl 3 rfl) ?_
  refine gm_get (D := D) (ci := 5) (v := .ref h5) (C := RX5) (T := TX5) (N := 5) hx hb hg inlX5 hown hK.1 hP 4 rfl rfl 3 (by decide) tX5_3 (hg _ gw_141) rfl dX5_tellSecret_73 ?_
  refine lv_iload hx hb dX5_tellSecret_76 (lv_at hl 0 rfl) ?_
  refine g_al (wr := [(h4, .inr (8, [.ref h7, .int wp19286])), (h7, .inl (y 1, 18, .inr (.inl (vp_updL (vp_updL (vp_updL (vp_updL (vp_updL (vp_updL wf19287 ((17 : Int32).toNatClampNeg) ((p1 - p1 / 10 * 10).toInt64)) ((16 : Int32).toNatClampNeg) (((p1 / 10) - (p1 / 10) / 10 * 10).toInt64)) ((15 : Int32).toNatClampNeg) ((((p1 / 10) / 10) - ((p1 / 10) / 10) / 10 * 10).toInt64)) ((14 : Int32).toNatClampNeg) (((((p1 / 10) / 10) / 10) - (((p1 / 10) / 10) / 10) / 10 * 10).toInt64)) ((13 : Int32).toNatClampNeg) ((((((p1 / 10) / 10) / 10) / 10) - ((((p1 / 10) / 10) / 10) / 10) / 10 * 10).toInt64)) ((12 : Int32).toNatClampNeg) (((((((p1 / 10) / 10) / 10) / 10) / 10) - (((((p1 / 10) / 10) / 10) / 10) / 10) / 10 * 10).toInt64))))), (h0, .inr (5, [.ref h2, .ref h3, .ref h4, .ref h5, .int 0])), (h2, .inr (8, [.ref h12, .int 0]))]) (va_runV (As := [.int 0]) (rest := []) ⟨hx, hb, hml, hown, hg⟩ (k_X8_get_44 l D y aS H.size h5 h10 wp19288) (cwV 1 hg ggV_RX5_36_X8_get rfl rfl rfl (by decide +kernel) ⟨Nat.le_of_ble_eq_true rfl, Nat.le_of_ble_eq_true rfl⟩) (g_preV (q := (RX8, TX8, 2)) hK hP hD [2, 3] rfl (by decide) (ci := 8) (q0 := 2) rfl rfl) rfl rfl hl.1 rfl (lv_room (Nat.le_of_ble_eq_true rfl)) dX5_tellSecret_78 ⟨Nat.le_of_ble_eq_true rfl, Nat.le_of_ble_eq_true rfl⟩) hP hD hS hA [2, 3] [0, 1, 4, 5] rfl rfl (by decide) (by decide) ?_
  clear hP hD hS H locs
  refine fun r19297 u H locs hq hP hD hS => ?_
  subst hq
  replace hP : va_P D vwCl [(h4, .inr (8, [.ref h7, .int wp19286])), (h7, .inl (y 1, 18, .inr (.inl (vp_updL (vp_updL (vp_updL (vp_updL (vp_updL (vp_updL wf19287 ((17 : Int32).toNatClampNeg) ((p1 - p1 / 10 * 10).toInt64)) ((16 : Int32).toNatClampNeg) (((p1 / 10) - (p1 / 10) / 10 * 10).toInt64)) ((15 : Int32).toNatClampNeg) ((((p1 / 10) / 10) - ((p1 / 10) / 10) / 10 * 10).toInt64)) ((14 : Int32).toNatClampNeg) (((((p1 / 10) / 10) / 10) - (((p1 / 10) / 10) / 10) / 10 * 10).toInt64)) ((13 : Int32).toNatClampNeg) ((((((p1 / 10) / 10) / 10) / 10) - ((((p1 / 10) / 10) / 10) / 10) / 10 * 10).toInt64)) ((12 : Int32).toNatClampNeg) (((((((p1 / 10) / 10) / 10) / 10) / 10) - (((((p1 / 10) / 10) / 10) / 10) / 10) / 10 * 10).toInt64))))), (h0, .inr (5, [.ref h2, .ref h3, .ref h4, .ref h5, .int 0])), (h2, .inr (8, [.ref h12, .int 0])), (h5, .inr (8, [.ref h10, .int wp19288])), (h10, .inl (y 1, 3, .inr (.inl (vp_updL (fun _ => 0) ((2 : Int32).toNatClampNeg) 6))))] H := hP
  replace hD : va_D A [(h4, .inr (8, [.ref h7, .int wp19286])), (h7, .inl (y 1, 18, .inr (.inl (vp_updL (vp_updL (vp_updL (vp_updL (vp_updL (vp_updL wf19287 ((17 : Int32).toNatClampNeg) ((p1 - p1 / 10 * 10).toInt64)) ((16 : Int32).toNatClampNeg) (((p1 / 10) - (p1 / 10) / 10 * 10).toInt64)) ((15 : Int32).toNatClampNeg) ((((p1 / 10) / 10) - ((p1 / 10) / 10) / 10 * 10).toInt64)) ((14 : Int32).toNatClampNeg) (((((p1 / 10) / 10) / 10) - (((p1 / 10) / 10) / 10) / 10 * 10).toInt64)) ((13 : Int32).toNatClampNeg) ((((((p1 / 10) / 10) / 10) / 10) - ((((p1 / 10) / 10) / 10) / 10) / 10 * 10).toInt64)) ((12 : Int32).toNatClampNeg) (((((((p1 / 10) / 10) / 10) / 10) / 10) - (((((p1 / 10) / 10) / 10) / 10) / 10) / 10 * 10).toInt64))))), (h0, .inr (5, [.ref h2, .ref h3, .ref h4, .ref h5, .int 0])), (h2, .inr (8, [.ref h12, .int 0])), (h5, .inr (8, [.ref h10, .int wp19288])), (h10, .inl (y 1, 3, .inr (.inl (vp_updL (fun _ => 0) ((2 : Int32).toNatClampNeg) 6))))] := hD
  refine lv_lconst (v := 0) hx hb dX5_tellSecret_81 (by decide) ?_
  refine W.lcmp hx hb dX5_tellSecret_82 ?_
  refine g_fi (v := 0) (by decide +kernel) ?_
  refine lv_if_le (tgt := 89) hx hb dX5_tellSecret_83 (by decide) (fun _ => ?_) (fun c9 => absurd c9 (by decide +kernel))
  refine lv_iinc (v := 1) (lv' := [(6, .int 1), (5, .int 0), (4, .int ((((((p1 / 10) / 10) / 10) / 10) / 10) / 10)), (0, .ref h0), (1, .int 2), (2, .int p1), (3, .int 6)]) hx hb dX5_tellSecret_89 hl (k := 0) rfl (by decide +kernel) (by decide) rfl ?_
  clear hl
  clear ls
  intro ls hl
  refine lv_goto (tgt := 66) hx hb dX5_tellSecret_92 (by decide) ?_
  refine lv_iload hx hb dX5_tellSecret_66 (lv_at hl 0 rfl) ?_
  refine lv_iconst (v := 3) hx hb dX5_tellSecret_68 (by decide) ?_
  refine lv_icmp_ge (tgt := 95) hx hb dX5_tellSecret_69 (by decide) (fun c9 => absurd c9 (by decide +kernel)) (fun _ => ?_)
  refine lv_aload_n hx hb dX5_tellSecret_72 rfl (lv_at hl 3 rfl) ?_
  refine gm_get (D := D) (ci := 5) (v := .ref h5) (C := RX5) (T := TX5) (N := 5) hx hb hg inlX5 hown hK.1 hP 2 rfl rfl 3 (by decide) tX5_3 (hg _ gw_141) rfl dX5_tellSecret_73 ?_
  refine lv_iload hx hb dX5_tellSecret_76 (lv_at hl 0 rfl) ?_
  refine g_al (wr := [(h4, .inr (8, [.ref h7, .int wp19286])), (h7, .inl (y 1, 18, .inr (.inl (vp_updL (vp_updL (vp_updL (vp_updL (vp_updL (vp_updL wf19287 ((17 : Int32).toNatClampNeg) ((p1 - p1 / 10 * 10).toInt64)) ((16 : Int32).toNatClampNeg) (((p1 / 10) - (p1 / 10) / 10 * 10).toInt64)) ((15 : Int32).toNatClampNeg) ((((p1 / 10) / 10) - ((p1 / 10) / 10) / 10 * 10).toInt64)) ((14 : Int32).toNatClampNeg) (((((p1 / 10) / 10) / 10) - (((p1 / 10) / 10) / 10) / 10 * 10).toInt64)) ((13 : Int32).toNatClampNeg) ((((((p1 / 10) / 10) / 10) / 10) - ((((p1 / 10) / 10) / 10) / 10) / 10 * 10).toInt64)) ((12 : Int32).toNatClampNeg) (((((((p1 / 10) / 10) / 10) / 10) / 10) - (((((p1 / 10) / 10) / 10) / 10) / 10) / 10 * 10).toInt64))))), (h0, .inr (5, [.ref h2, .ref h3, .ref h4, .ref h5, .int 0])), (h2, .inr (8, [.ref h12, .int 0]))]) (va_runV (As := [.int 1]) (rest := []) ⟨hx, hb, hml, hown, hg⟩ (k_X8_get_45 l D y aS H.size h5 h10 wp19288) (cwV 1 hg ggV_RX5_36_X8_get rfl rfl rfl (by decide +kernel) ⟨Nat.le_of_ble_eq_true rfl, Nat.le_of_ble_eq_true rfl⟩) (g_preV (q := (RX8, TX8, 2)) hK hP hD [4, 5] rfl (by decide) (ci := 8) (q0 := 4) rfl rfl) rfl rfl hl.1 rfl (lv_room (Nat.le_of_ble_eq_true rfl)) dX5_tellSecret_78 ⟨Nat.le_of_ble_eq_true rfl, Nat.le_of_ble_eq_true rfl⟩) hP hD hS hA [4, 5] [0, 1, 2, 3] rfl rfl (by decide) (by decide) ?_
  clear hP hD hS H locs
  refine fun r19298 u H locs hq hP hD hS => ?_
  subst hq
  replace hP : va_P D vwCl [(h4, .inr (8, [.ref h7, .int wp19286])), (h7, .inl (y 1, 18, .inr (.inl (vp_updL (vp_updL (vp_updL (vp_updL (vp_updL (vp_updL wf19287 ((17 : Int32).toNatClampNeg) ((p1 - p1 / 10 * 10).toInt64)) ((16 : Int32).toNatClampNeg) (((p1 / 10) - (p1 / 10) / 10 * 10).toInt64)) ((15 : Int32).toNatClampNeg) ((((p1 / 10) / 10) - ((p1 / 10) / 10) / 10 * 10).toInt64)) ((14 : Int32).toNatClampNeg) (((((p1 / 10) / 10) / 10) - (((p1 / 10) / 10) / 10) / 10 * 10).toInt64)) ((13 : Int32).toNatClampNeg) ((((((p1 / 10) / 10) / 10) / 10) - ((((p1 / 10) / 10) / 10) / 10) / 10 * 10).toInt64)) ((12 : Int32).toNatClampNeg) (((((((p1 / 10) / 10) / 10) / 10) / 10) - (((((p1 / 10) / 10) / 10) / 10) / 10) / 10 * 10).toInt64))))), (h0, .inr (5, [.ref h2, .ref h3, .ref h4, .ref h5, .int 0])), (h2, .inr (8, [.ref h12, .int 0])), (h5, .inr (8, [.ref h10, .int wp19288])), (h10, .inl (y 1, 3, .inr (.inl (vp_updL (fun _ => 0) ((2 : Int32).toNatClampNeg) 6))))] H := hP
  replace hD : va_D A [(h4, .inr (8, [.ref h7, .int wp19286])), (h7, .inl (y 1, 18, .inr (.inl (vp_updL (vp_updL (vp_updL (vp_updL (vp_updL (vp_updL wf19287 ((17 : Int32).toNatClampNeg) ((p1 - p1 / 10 * 10).toInt64)) ((16 : Int32).toNatClampNeg) (((p1 / 10) - (p1 / 10) / 10 * 10).toInt64)) ((15 : Int32).toNatClampNeg) ((((p1 / 10) / 10) - ((p1 / 10) / 10) / 10 * 10).toInt64)) ((14 : Int32).toNatClampNeg) (((((p1 / 10) / 10) / 10) - (((p1 / 10) / 10) / 10) / 10 * 10).toInt64)) ((13 : Int32).toNatClampNeg) ((((((p1 / 10) / 10) / 10) / 10) - ((((p1 / 10) / 10) / 10) / 10) / 10 * 10).toInt64)) ((12 : Int32).toNatClampNeg) (((((((p1 / 10) / 10) / 10) / 10) / 10) - (((((p1 / 10) / 10) / 10) / 10) / 10) / 10 * 10).toInt64))))), (h0, .inr (5, [.ref h2, .ref h3, .ref h4, .ref h5, .int 0])), (h2, .inr (8, [.ref h12, .int 0])), (h5, .inr (8, [.ref h10, .int wp19288])), (h10, .inl (y 1, 3, .inr (.inl (vp_updL (fun _ => 0) ((2 : Int32).toNatClampNeg) 6))))] := hD
  refine lv_lconst (v := 0) hx hb dX5_tellSecret_81 (by decide) ?_
  refine W.lcmp hx hb dX5_tellSecret_82 ?_
  refine g_fi (v := 0) (by decide +kernel) ?_
  refine lv_if_le (tgt := 89) hx hb dX5_tellSecret_83 (by decide) (fun _ => ?_) (fun c9 => absurd c9 (by decide +kernel))
  refine lv_iinc (v := 2) (lv' := [(6, .int 2), (5, .int 0), (4, .int ((((((p1 / 10) / 10) / 10) / 10) / 10) / 10)), (0, .ref h0), (1, .int 2), (2, .int p1), (3, .int 6)]) hx hb dX5_tellSecret_89 hl (k := 0) rfl (by decide +kernel) (by decide) rfl ?_
  clear hl
  clear ls
  intro ls hl
  refine lv_goto (tgt := 66) hx hb dX5_tellSecret_92 (by decide) ?_
  refine lv_iload hx hb dX5_tellSecret_66 (lv_at hl 0 rfl) ?_
  refine lv_iconst (v := 3) hx hb dX5_tellSecret_68 (by decide) ?_
  refine lv_icmp_ge (tgt := 95) hx hb dX5_tellSecret_69 (by decide) (fun c9 => absurd c9 (by decide +kernel)) (fun _ => ?_)
  refine lv_aload_n hx hb dX5_tellSecret_72 rfl (lv_at hl 3 rfl) ?_
  refine gm_get (D := D) (ci := 5) (v := .ref h5) (C := RX5) (T := TX5) (N := 5) hx hb hg inlX5 hown hK.1 hP 2 rfl rfl 3 (by decide) tX5_3 (hg _ gw_141) rfl dX5_tellSecret_73 ?_
  refine lv_iload hx hb dX5_tellSecret_76 (lv_at hl 0 rfl) ?_
  refine g_al (wr := [(h4, .inr (8, [.ref h7, .int wp19286])), (h7, .inl (y 1, 18, .inr (.inl (vp_updL (vp_updL (vp_updL (vp_updL (vp_updL (vp_updL wf19287 ((17 : Int32).toNatClampNeg) ((p1 - p1 / 10 * 10).toInt64)) ((16 : Int32).toNatClampNeg) (((p1 / 10) - (p1 / 10) / 10 * 10).toInt64)) ((15 : Int32).toNatClampNeg) ((((p1 / 10) / 10) - ((p1 / 10) / 10) / 10 * 10).toInt64)) ((14 : Int32).toNatClampNeg) (((((p1 / 10) / 10) / 10) - (((p1 / 10) / 10) / 10) / 10 * 10).toInt64)) ((13 : Int32).toNatClampNeg) ((((((p1 / 10) / 10) / 10) / 10) - ((((p1 / 10) / 10) / 10) / 10) / 10 * 10).toInt64)) ((12 : Int32).toNatClampNeg) (((((((p1 / 10) / 10) / 10) / 10) / 10) - (((((p1 / 10) / 10) / 10) / 10) / 10) / 10 * 10).toInt64))))), (h0, .inr (5, [.ref h2, .ref h3, .ref h4, .ref h5, .int 0])), (h2, .inr (8, [.ref h12, .int 0]))]) (va_runV (As := [.int 2]) (rest := []) ⟨hx, hb, hml, hown, hg⟩ (k_X8_get_46 l D y aS H.size h5 h10 wp19288) (cwV 1 hg ggV_RX5_36_X8_get rfl rfl rfl (by decide +kernel) ⟨Nat.le_of_ble_eq_true rfl, Nat.le_of_ble_eq_true rfl⟩) (g_preV (q := (RX8, TX8, 2)) hK hP hD [4, 5] rfl (by decide) (ci := 8) (q0 := 4) rfl rfl) rfl rfl hl.1 rfl (lv_room (Nat.le_of_ble_eq_true rfl)) dX5_tellSecret_78 ⟨Nat.le_of_ble_eq_true rfl, Nat.le_of_ble_eq_true rfl⟩) hP hD hS hA [4, 5] [0, 1, 2, 3] rfl rfl (by decide) (by decide) ?_
  clear hP hD hS H locs
  refine fun r19299 u H locs hq hP hD hS => ?_
  subst hq
  replace hP : va_P D vwCl [(h4, .inr (8, [.ref h7, .int wp19286])), (h7, .inl (y 1, 18, .inr (.inl (vp_updL (vp_updL (vp_updL (vp_updL (vp_updL (vp_updL wf19287 ((17 : Int32).toNatClampNeg) ((p1 - p1 / 10 * 10).toInt64)) ((16 : Int32).toNatClampNeg) (((p1 / 10) - (p1 / 10) / 10 * 10).toInt64)) ((15 : Int32).toNatClampNeg) ((((p1 / 10) / 10) - ((p1 / 10) / 10) / 10 * 10).toInt64)) ((14 : Int32).toNatClampNeg) (((((p1 / 10) / 10) / 10) - (((p1 / 10) / 10) / 10) / 10 * 10).toInt64)) ((13 : Int32).toNatClampNeg) ((((((p1 / 10) / 10) / 10) / 10) - ((((p1 / 10) / 10) / 10) / 10) / 10 * 10).toInt64)) ((12 : Int32).toNatClampNeg) (((((((p1 / 10) / 10) / 10) / 10) / 10) - (((((p1 / 10) / 10) / 10) / 10) / 10) / 10 * 10).toInt64))))), (h0, .inr (5, [.ref h2, .ref h3, .ref h4, .ref h5, .int 0])), (h2, .inr (8, [.ref h12, .int 0])), (h5, .inr (8, [.ref h10, .int wp19288])), (h10, .inl (y 1, 3, .inr (.inl (vp_updL (fun _ => 0) ((2 : Int32).toNatClampNeg) 6))))] H := hP
  replace hD : va_D A [(h4, .inr (8, [.ref h7, .int wp19286])), (h7, .inl (y 1, 18, .inr (.inl (vp_updL (vp_updL (vp_updL (vp_updL (vp_updL (vp_updL wf19287 ((17 : Int32).toNatClampNeg) ((p1 - p1 / 10 * 10).toInt64)) ((16 : Int32).toNatClampNeg) (((p1 / 10) - (p1 / 10) / 10 * 10).toInt64)) ((15 : Int32).toNatClampNeg) ((((p1 / 10) / 10) - ((p1 / 10) / 10) / 10 * 10).toInt64)) ((14 : Int32).toNatClampNeg) (((((p1 / 10) / 10) / 10) - (((p1 / 10) / 10) / 10) / 10 * 10).toInt64)) ((13 : Int32).toNatClampNeg) ((((((p1 / 10) / 10) / 10) / 10) - ((((p1 / 10) / 10) / 10) / 10) / 10 * 10).toInt64)) ((12 : Int32).toNatClampNeg) (((((((p1 / 10) / 10) / 10) / 10) / 10) - (((((p1 / 10) / 10) / 10) / 10) / 10) / 10 * 10).toInt64))))), (h0, .inr (5, [.ref h2, .ref h3, .ref h4, .ref h5, .int 0])), (h2, .inr (8, [.ref h12, .int 0])), (h5, .inr (8, [.ref h10, .int wp19288])), (h10, .inl (y 1, 3, .inr (.inl (vp_updL (fun _ => 0) ((2 : Int32).toNatClampNeg) 6))))] := hD
  refine lv_lconst (v := 0) hx hb dX5_tellSecret_81 (by decide) ?_
  refine W.lcmp hx hb dX5_tellSecret_82 ?_
  refine g_fi (v := 1) (by decide +kernel) ?_
  refine lv_if_le (tgt := 89) hx hb dX5_tellSecret_83 (by decide) (fun c9 => absurd c9 (by decide +kernel)) (fun _ => ?_)
  refine lv_iinc (v := 1) (lv' := [(5, .int 1), (6, .int 2), (4, .int ((((((p1 / 10) / 10) / 10) / 10) / 10) / 10)), (0, .ref h0), (1, .int 2), (2, .int p1), (3, .int 6)]) hx hb dX5_tellSecret_86 hl (k := 1) rfl (by decide +kernel) (by decide) rfl ?_
  clear hl
  clear ls
  intro ls hl
  refine lv_iinc (v := 3) (lv' := [(6, .int 3), (5, .int 1), (4, .int ((((((p1 / 10) / 10) / 10) / 10) / 10) / 10)), (0, .ref h0), (1, .int 2), (2, .int p1), (3, .int 6)]) hx hb dX5_tellSecret_89 hl (k := 1) rfl (by decide +kernel) (by decide) rfl ?_
  clear hl
  clear ls
  intro ls hl
  refine lv_goto (tgt := 66) hx hb dX5_tellSecret_92 (by decide) ?_
  refine lv_iload hx hb dX5_tellSecret_66 (lv_at hl 0 rfl) ?_
  refine lv_iconst (v := 3) hx hb dX5_tellSecret_68 (by decide) ?_
  refine lv_icmp_ge (tgt := 95) hx hb dX5_tellSecret_69 (by decide) (fun _ => ?_) (fun c9 => absurd c9 (by decide +kernel))
  refine lv_iload hx hb dX5_tellSecret_95 (lv_at hl 1 rfl) ?_
  exact g_iret hx hb hr hlocks () (hP.sub [2, 0, 1, 4, 5, 3] rfl) (hD.sub [2, 0, 1, 4, 5, 3] (by decide +kernel) rfl) hS rfl rfl (Nat.le_of_ble_eq_true rfl) (Nat.le_of_ble_eq_true rfl) dX5_tellSecret_97
set_option maxRecDepth 100000 in
set_option maxHeartbeats 4000000 in
theorem k_X11_secret_0 (l : Launch) (hfl : l.stackTraces = false) (D : va_G) (y : Nat → ClassId) (aS : Nat → Nat) (sz : Nat) (h0 : Nat) (p1 : Int32) (p2 : Int32) (p3 : Int32) (h4 : Nat) (h5 : Nat) (h6 : Nat) (h7 : Nat) (h8 : Nat) (h9 : Nat) (h10 : Nat) (h11 : Nat) (h12 : Nat) (h13 : Nat) (h14 : Nat) (h15 : Nat) (h16 : Nat) (h17 : Nat) (wp19301 : Int32) (wp19302 : Int32) (wp19303 : Int32) (wp19304 : Int32) (wp19305 : Int32) (h23 : Nat) (h24 : Nat) (h25 : Nat) (h26 : Nat) (wp19306 : Int32) (h28 : Nat) (wp19307 : Int32) (wf19308 : Nat → Int64) (h31 : Nat) (wp19309 : Int32) (h33 : Nat) : vx_Met l yX11_secret (Cond.code yX11_secret cX11_secret 4 (some .int) :: wsL_law) ({ frames := 7, cells := 3, slots := 18, locals := 104 } : Room) (va_Pc [.ref h0, .int p1, .int p2, .int p3] (gIX D y aS [(h0, .inr (11, [.ref h4, .ref h5, .ref h6, .ref h7, .ref h8, .ref h9, .ref h10, .ref h11, .ref h12, .ref h13, .ref h14, .ref h15, .ref h16, .ref h17, .int wp19301, .int wp19302, .int wp19303, .int wp19304, .int wp19305])), (h10, .inr (5, [.ref h23, .ref h24, .ref h25, .ref h26, .int wp19306])), (h25, .inr (8, [.ref h28, .int wp19307])), (h28, .inl (y 1, 18, .inr (.inl wf19308))), (h26, .inr (8, [.ref h31, .int wp19309])), (h31, .inl (y 1, 3, .inr (.inl (fun _ => 0)))), (h23, .inr (8, [.ref h33, .int 0]))] sz)) (va_Qi (fun (r : Int32) (u : (Nat → Int64) × (Nat → Int64)) => (1 = r ∧ (vp_updL (vp_updL wf19308 ((1 : Int32).toNatClampNeg) ((p2 - p2 / 10 * 10).toInt64)) ((0 : Int32).toNatClampNeg) (((p2 / 10) - (p2 / 10) / 10 * 10).toInt64)) = u.1 ∧ (vp_updL (fun _ => 0) ((0 : Int32).toNatClampNeg) 2) = u.2 ∧ 0 ≤ p1.toInt ∧ p1.toInt ≤ 0 ∧ 2 ≤ p3.toInt ∧ p3.toInt ≤ 2 ∧ 0 ≤ p2.toInt ∧ p2.toInt ≤ 99) ∨ (1 = r ∧ (vp_updL (vp_updL wf19308 ((7 : Int32).toNatClampNeg) ((p2 - p2 / 10 * 10).toInt64)) ((6 : Int32).toNatClampNeg) (((p2 / 10) - (p2 / 10) / 10 * 10).toInt64)) = u.1 ∧ (vp_updL (fun _ => 0) ((1 : Int32).toNatClampNeg) 2) = u.2 ∧ 1 ≤ p1.toInt ∧ p1.toInt ≤ 1 ∧ 2 ≤ p3.toInt ∧ p3.toInt ≤ 2 ∧ 0 ≤ p2.toInt ∧ p2.toInt ≤ 99) ∨ (1 = r ∧ (vp_updL (vp_updL wf19308 ((13 : Int32).toNatClampNeg) ((p2 - p2 / 10 * 10).toInt64)) ((12 : Int32).toNatClampNeg) (((p2 / 10) - (p2 / 10) / 10 * 10).toInt64)) = u.1 ∧ (vp_updL (fun _ => 0) ((2 : Int32).toNatClampNeg) 2) = u.2 ∧ 2 ≤ p1.toInt ∧ p1.toInt ≤ 2 ∧ 2 ≤ p3.toInt ∧ p3.toInt ≤ 2 ∧ 0 ≤ p2.toInt ∧ p2.toInt ≤ 99) ∨ (1 = r ∧ (vp_updL (vp_updL (vp_updL wf19308 ((2 : Int32).toNatClampNeg) ((p2 - p2 / 10 * 10).toInt64)) ((1 : Int32).toNatClampNeg) (((p2 / 10) - (p2 / 10) / 10 * 10).toInt64)) ((0 : Int32).toNatClampNeg) ((((p2 / 10) / 10) - ((p2 / 10) / 10) / 10 * 10).toInt64)) = u.1 ∧ (vp_updL (fun _ => 0) ((0 : Int32).toNatClampNeg) 3) = u.2 ∧ 0 ≤ p1.toInt ∧ p1.toInt ≤ 0 ∧ 3 ≤ p3.toInt ∧ p3.toInt ≤ 3 ∧ 0 ≤ p2.toInt ∧ p2.toInt ≤ 999) ∨ (1 = r ∧ (vp_updL (vp_updL (vp_updL wf19308 ((8 : Int32).toNatClampNeg) ((p2 - p2 / 10 * 10).toInt64)) ((7 : Int32).toNatClampNeg) (((p2 / 10) - (p2 / 10) / 10 * 10).toInt64)) ((6 : Int32).toNatClampNeg) ((((p2 / 10) / 10) - ((p2 / 10) / 10) / 10 * 10).toInt64)) = u.1 ∧ (vp_updL (fun _ => 0) ((1 : Int32).toNatClampNeg) 3) = u.2 ∧ 1 ≤ p1.toInt ∧ p1.toInt ≤ 1 ∧ 3 ≤ p3.toInt ∧ p3.toInt ≤ 3 ∧ 0 ≤ p2.toInt ∧ p2.toInt ≤ 999) ∨ (1 = r ∧ (vp_updL (vp_updL (vp_updL wf19308 ((14 : Int32).toNatClampNeg) ((p2 - p2 / 10 * 10).toInt64)) ((13 : Int32).toNatClampNeg) (((p2 / 10) - (p2 / 10) / 10 * 10).toInt64)) ((12 : Int32).toNatClampNeg) ((((p2 / 10) / 10) - ((p2 / 10) / 10) / 10 * 10).toInt64)) = u.1 ∧ (vp_updL (fun _ => 0) ((2 : Int32).toNatClampNeg) 3) = u.2 ∧ 2 ≤ p1.toInt ∧ p1.toInt ≤ 2 ∧ 3 ≤ p3.toInt ∧ p3.toInt ≤ 3 ∧ 0 ≤ p2.toInt ∧ p2.toInt ≤ 999) ∨ (1 = r ∧ (vp_updL (vp_updL (vp_updL (vp_updL wf19308 ((3 : Int32).toNatClampNeg) ((p2 - p2 / 10 * 10).toInt64)) ((2 : Int32).toNatClampNeg) (((p2 / 10) - (p2 / 10) / 10 * 10).toInt64)) ((1 : Int32).toNatClampNeg) ((((p2 / 10) / 10) - ((p2 / 10) / 10) / 10 * 10).toInt64)) ((0 : Int32).toNatClampNeg) (((((p2 / 10) / 10) / 10) - (((p2 / 10) / 10) / 10) / 10 * 10).toInt64)) = u.1 ∧ (vp_updL (fun _ => 0) ((0 : Int32).toNatClampNeg) 4) = u.2 ∧ 0 ≤ p1.toInt ∧ p1.toInt ≤ 0 ∧ 4 ≤ p3.toInt ∧ p3.toInt ≤ 4 ∧ 0 ≤ p2.toInt ∧ p2.toInt ≤ 9999) ∨ (1 = r ∧ (vp_updL (vp_updL (vp_updL (vp_updL wf19308 ((9 : Int32).toNatClampNeg) ((p2 - p2 / 10 * 10).toInt64)) ((8 : Int32).toNatClampNeg) (((p2 / 10) - (p2 / 10) / 10 * 10).toInt64)) ((7 : Int32).toNatClampNeg) ((((p2 / 10) / 10) - ((p2 / 10) / 10) / 10 * 10).toInt64)) ((6 : Int32).toNatClampNeg) (((((p2 / 10) / 10) / 10) - (((p2 / 10) / 10) / 10) / 10 * 10).toInt64)) = u.1 ∧ (vp_updL (fun _ => 0) ((1 : Int32).toNatClampNeg) 4) = u.2 ∧ 1 ≤ p1.toInt ∧ p1.toInt ≤ 1 ∧ 4 ≤ p3.toInt ∧ p3.toInt ≤ 4 ∧ 0 ≤ p2.toInt ∧ p2.toInt ≤ 9999) ∨ (1 = r ∧ (vp_updL (vp_updL (vp_updL (vp_updL wf19308 ((15 : Int32).toNatClampNeg) ((p2 - p2 / 10 * 10).toInt64)) ((14 : Int32).toNatClampNeg) (((p2 / 10) - (p2 / 10) / 10 * 10).toInt64)) ((13 : Int32).toNatClampNeg) ((((p2 / 10) / 10) - ((p2 / 10) / 10) / 10 * 10).toInt64)) ((12 : Int32).toNatClampNeg) (((((p2 / 10) / 10) / 10) - (((p2 / 10) / 10) / 10) / 10 * 10).toInt64)) = u.1 ∧ (vp_updL (fun _ => 0) ((2 : Int32).toNatClampNeg) 4) = u.2 ∧ 2 ≤ p1.toInt ∧ p1.toInt ≤ 2 ∧ 4 ≤ p3.toInt ∧ p3.toInt ≤ 4 ∧ 0 ≤ p2.toInt ∧ p2.toInt ≤ 9999) ∨ (1 = r ∧ (vp_updL (vp_updL (vp_updL (vp_updL (vp_updL wf19308 ((4 : Int32).toNatClampNeg) ((p2 - p2 / 10 * 10).toInt64)) ((3 : Int32).toNatClampNeg) (((p2 / 10) - (p2 / 10) / 10 * 10).toInt64)) ((2 : Int32).toNatClampNeg) ((((p2 / 10) / 10) - ((p2 / 10) / 10) / 10 * 10).toInt64)) ((1 : Int32).toNatClampNeg) (((((p2 / 10) / 10) / 10) - (((p2 / 10) / 10) / 10) / 10 * 10).toInt64)) ((0 : Int32).toNatClampNeg) ((((((p2 / 10) / 10) / 10) / 10) - ((((p2 / 10) / 10) / 10) / 10) / 10 * 10).toInt64)) = u.1 ∧ (vp_updL (fun _ => 0) ((0 : Int32).toNatClampNeg) 5) = u.2 ∧ 0 ≤ p1.toInt ∧ p1.toInt ≤ 0 ∧ 5 ≤ p3.toInt ∧ p3.toInt ≤ 5 ∧ 0 ≤ p2.toInt ∧ p2.toInt ≤ 99999) ∨ (1 = r ∧ (vp_updL (vp_updL (vp_updL (vp_updL (vp_updL wf19308 ((10 : Int32).toNatClampNeg) ((p2 - p2 / 10 * 10).toInt64)) ((9 : Int32).toNatClampNeg) (((p2 / 10) - (p2 / 10) / 10 * 10).toInt64)) ((8 : Int32).toNatClampNeg) ((((p2 / 10) / 10) - ((p2 / 10) / 10) / 10 * 10).toInt64)) ((7 : Int32).toNatClampNeg) (((((p2 / 10) / 10) / 10) - (((p2 / 10) / 10) / 10) / 10 * 10).toInt64)) ((6 : Int32).toNatClampNeg) ((((((p2 / 10) / 10) / 10) / 10) - ((((p2 / 10) / 10) / 10) / 10) / 10 * 10).toInt64)) = u.1 ∧ (vp_updL (fun _ => 0) ((1 : Int32).toNatClampNeg) 5) = u.2 ∧ 1 ≤ p1.toInt ∧ p1.toInt ≤ 1 ∧ 5 ≤ p3.toInt ∧ p3.toInt ≤ 5 ∧ 0 ≤ p2.toInt ∧ p2.toInt ≤ 99999) ∨ (1 = r ∧ (vp_updL (vp_updL (vp_updL (vp_updL (vp_updL wf19308 ((16 : Int32).toNatClampNeg) ((p2 - p2 / 10 * 10).toInt64)) ((15 : Int32).toNatClampNeg) (((p2 / 10) - (p2 / 10) / 10 * 10).toInt64)) ((14 : Int32).toNatClampNeg) ((((p2 / 10) / 10) - ((p2 / 10) / 10) / 10 * 10).toInt64)) ((13 : Int32).toNatClampNeg) (((((p2 / 10) / 10) / 10) - (((p2 / 10) / 10) / 10) / 10 * 10).toInt64)) ((12 : Int32).toNatClampNeg) ((((((p2 / 10) / 10) / 10) / 10) - ((((p2 / 10) / 10) / 10) / 10) / 10 * 10).toInt64)) = u.1 ∧ (vp_updL (fun _ => 0) ((2 : Int32).toNatClampNeg) 5) = u.2 ∧ 2 ≤ p1.toInt ∧ p1.toInt ≤ 2 ∧ 5 ≤ p3.toInt ∧ p3.toInt ≤ 5 ∧ 0 ≤ p2.toInt ∧ p2.toInt ≤ 99999) ∨ (1 = r ∧ (vp_updL (vp_updL (vp_updL (vp_updL (vp_updL (vp_updL wf19308 ((5 : Int32).toNatClampNeg) ((p2 - p2 / 10 * 10).toInt64)) ((4 : Int32).toNatClampNeg) (((p2 / 10) - (p2 / 10) / 10 * 10).toInt64)) ((3 : Int32).toNatClampNeg) ((((p2 / 10) / 10) - ((p2 / 10) / 10) / 10 * 10).toInt64)) ((2 : Int32).toNatClampNeg) (((((p2 / 10) / 10) / 10) - (((p2 / 10) / 10) / 10) / 10 * 10).toInt64)) ((1 : Int32).toNatClampNeg) ((((((p2 / 10) / 10) / 10) / 10) - ((((p2 / 10) / 10) / 10) / 10) / 10 * 10).toInt64)) ((0 : Int32).toNatClampNeg) (((((((p2 / 10) / 10) / 10) / 10) / 10) - (((((p2 / 10) / 10) / 10) / 10) / 10) / 10 * 10).toInt64)) = u.1 ∧ (vp_updL (fun _ => 0) ((0 : Int32).toNatClampNeg) 6) = u.2 ∧ 0 ≤ p1.toInt ∧ p1.toInt ≤ 0 ∧ 6 ≤ p3.toInt ∧ p3.toInt ≤ 6 ∧ 0 ≤ p2.toInt ∧ p2.toInt ≤ 999999) ∨ (1 = r ∧ (vp_updL (vp_updL (vp_updL (vp_updL (vp_updL (vp_updL wf19308 ((11 : Int32).toNatClampNeg) ((p2 - p2 / 10 * 10).toInt64)) ((10 : Int32).toNatClampNeg) (((p2 / 10) - (p2 / 10) / 10 * 10).toInt64)) ((9 : Int32).toNatClampNeg) ((((p2 / 10) / 10) - ((p2 / 10) / 10) / 10 * 10).toInt64)) ((8 : Int32).toNatClampNeg) (((((p2 / 10) / 10) / 10) - (((p2 / 10) / 10) / 10) / 10 * 10).toInt64)) ((7 : Int32).toNatClampNeg) ((((((p2 / 10) / 10) / 10) / 10) - ((((p2 / 10) / 10) / 10) / 10) / 10 * 10).toInt64)) ((6 : Int32).toNatClampNeg) (((((((p2 / 10) / 10) / 10) / 10) / 10) - (((((p2 / 10) / 10) / 10) / 10) / 10) / 10 * 10).toInt64)) = u.1 ∧ (vp_updL (fun _ => 0) ((1 : Int32).toNatClampNeg) 6) = u.2 ∧ 1 ≤ p1.toInt ∧ p1.toInt ≤ 1 ∧ 6 ≤ p3.toInt ∧ p3.toInt ≤ 6 ∧ 0 ≤ p2.toInt ∧ p2.toInt ≤ 999999) ∨ (1 = r ∧ (vp_updL (vp_updL (vp_updL (vp_updL (vp_updL (vp_updL wf19308 ((17 : Int32).toNatClampNeg) ((p2 - p2 / 10 * 10).toInt64)) ((16 : Int32).toNatClampNeg) (((p2 / 10) - (p2 / 10) / 10 * 10).toInt64)) ((15 : Int32).toNatClampNeg) ((((p2 / 10) / 10) - ((p2 / 10) / 10) / 10 * 10).toInt64)) ((14 : Int32).toNatClampNeg) (((((p2 / 10) / 10) / 10) - (((p2 / 10) / 10) / 10) / 10 * 10).toInt64)) ((13 : Int32).toNatClampNeg) ((((((p2 / 10) / 10) / 10) / 10) - ((((p2 / 10) / 10) / 10) / 10) / 10 * 10).toInt64)) ((12 : Int32).toNatClampNeg) (((((((p2 / 10) / 10) / 10) / 10) / 10) - (((((p2 / 10) / 10) / 10) / 10) / 10) / 10 * 10).toInt64)) = u.1 ∧ (vp_updL (fun _ => 0) ((2 : Int32).toNatClampNeg) 6) = u.2 ∧ 2 ≤ p1.toInt ∧ p1.toInt ≤ 2 ∧ 6 ≤ p3.toInt ∧ p3.toInt ≤ 6 ∧ 0 ≤ p2.toInt ∧ p2.toInt ≤ 999999)) (fun u => gO D (va_A [(h0, .inr (11, [.ref h4, .ref h5, .ref h6, .ref h7, .ref h8, .ref h9, .ref h10, .ref h11, .ref h12, .ref h13, .ref h14, .ref h15, .ref h16, .ref h17, .int wp19301, .int wp19302, .int wp19303, .int wp19304, .int wp19305])), (h10, .inr (5, [.ref h23, .ref h24, .ref h25, .ref h26, .int wp19306])), (h25, .inr (8, [.ref h28, .int wp19307])), (h28, .inl (y 1, 18, .inr (.inl wf19308))), (h26, .inr (8, [.ref h31, .int wp19309])), (h31, .inl (y 1, 3, .inr (.inl (fun _ => 0)))), (h23, .inr (8, [.ref h33, .int 0]))] sz) [(h0, .inr (11, [.ref h4, .ref h5, .ref h6, .ref h7, .ref h8, .ref h9, .ref h10, .ref h11, .ref h12, .ref h13, .ref h14, .ref h15, .ref h16, .ref h17, .int wp19301, .int wp19302, .int wp19303, .int wp19304, .int wp19305])), (h10, .inr (5, [.ref h23, .ref h24, .ref h25, .ref h26, .int 0])), (h25, .inr (8, [.ref h28, .int wp19307])), (h28, .inl (y 1, 18, .inr (.inl u.1))), (h26, .inr (8, [.ref h31, .int wp19309])), (h31, .inl (y 1, 3, .inr (.inl u.2))), (h23, .inr (8, [.ref h33, .int 0]))]) (va_A [(h0, .inr (11, [.ref h4, .ref h5, .ref h6, .ref h7, .ref h8, .ref h9, .ref h10, .ref h11, .ref h12, .ref h13, .ref h14, .ref h15, .ref h16, .ref h17, .int wp19301, .int wp19302, .int wp19303, .int wp19304, .int wp19305])), (h10, .inr (5, [.ref h23, .ref h24, .ref h25, .ref h26, .int wp19306])), (h25, .inr (8, [.ref h28, .int wp19307])), (h28, .inl (y 1, 18, .inr (.inl wf19308))), (h26, .inr (8, [.ref h31, .int wp19309])), (h31, .inl (y 1, 3, .inr (.inl (fun _ => 0)))), (h23, .inr (8, [.ref h33, .int 0]))] sz)) (vx_X (fun E : String => (E = "java/lang/IndexOutOfBoundsException" ∧ p1.toInt ≤ (-1)) ∨ (E = "java/lang/IndexOutOfBoundsException" ∧ 3 ≤ p1.toInt) ∨ (E = "java/lang/IllegalArgumentException" ∧ 0 ≤ p1.toInt ∧ p1.toInt ≤ 2 ∧ p3.toInt ≤ 1) ∨ (E = "java/lang/IllegalArgumentException" ∧ 0 ≤ p1.toInt ∧ p1.toInt ≤ 2 ∧ 7 ≤ p3.toInt) ∨ (E = "java/lang/IllegalArgumentException" ∧ 0 ≤ p1.toInt ∧ p1.toInt ≤ 2 ∧ 2 ≤ p3.toInt ∧ p3.toInt ≤ 2 ∧ p2.toInt ≤ (-1)) ∨ (E = "java/lang/IllegalArgumentException" ∧ 0 ≤ p1.toInt ∧ p1.toInt ≤ 2 ∧ 2 ≤ p3.toInt ∧ p3.toInt ≤ 2 ∧ 100 ≤ p2.toInt) ∨ (E = "java/lang/IllegalArgumentException" ∧ 0 ≤ p1.toInt ∧ p1.toInt ≤ 2 ∧ 3 ≤ p3.toInt ∧ p3.toInt ≤ 3 ∧ p2.toInt ≤ (-1)) ∨ (E = "java/lang/IllegalArgumentException" ∧ 0 ≤ p1.toInt ∧ p1.toInt ≤ 2 ∧ 3 ≤ p3.toInt ∧ p3.toInt ≤ 3 ∧ 1000 ≤ p2.toInt) ∨ (E = "java/lang/IllegalArgumentException" ∧ 0 ≤ p1.toInt ∧ p1.toInt ≤ 2 ∧ 4 ≤ p3.toInt ∧ p3.toInt ≤ 4 ∧ p2.toInt ≤ (-1)) ∨ (E = "java/lang/IllegalArgumentException" ∧ 0 ≤ p1.toInt ∧ p1.toInt ≤ 2 ∧ 4 ≤ p3.toInt ∧ p3.toInt ≤ 4 ∧ 10000 ≤ p2.toInt) ∨ (E = "java/lang/IllegalArgumentException" ∧ 0 ≤ p1.toInt ∧ p1.toInt ≤ 2 ∧ 5 ≤ p3.toInt ∧ p3.toInt ≤ 5 ∧ p2.toInt ≤ (-1)) ∨ (E = "java/lang/IllegalArgumentException" ∧ 0 ≤ p1.toInt ∧ p1.toInt ≤ 2 ∧ 5 ≤ p3.toInt ∧ p3.toInt ≤ 5 ∧ 100000 ≤ p2.toInt) ∨ (E = "java/lang/IllegalArgumentException" ∧ 0 ≤ p1.toInt ∧ p1.toInt ≤ 2 ∧ 6 ≤ p3.toInt ∧ p3.toInt ≤ 6 ∧ p2.toInt ≤ (-1)) ∨ (E = "java/lang/IllegalArgumentException" ∧ 0 ≤ p1.toInt ∧ p1.toInt ≤ 2 ∧ 6 ≤ p3.toInt ∧ p3.toInt ≤ 6 ∧ 1000000 ≤ p2.toInt)) (fun E u t => E = u ∧ gO D (va_A [(h0, .inr (11, [.ref h4, .ref h5, .ref h6, .ref h7, .ref h8, .ref h9, .ref h10, .ref h11, .ref h12, .ref h13, .ref h14, .ref h15, .ref h16, .ref h17, .int wp19301, .int wp19302, .int wp19303, .int wp19304, .int wp19305])), (h10, .inr (5, [.ref h23, .ref h24, .ref h25, .ref h26, .int wp19306])), (h25, .inr (8, [.ref h28, .int wp19307])), (h28, .inl (y 1, 18, .inr (.inl wf19308))), (h26, .inr (8, [.ref h31, .int wp19309])), (h31, .inl (y 1, 3, .inr (.inl (fun _ => 0)))), (h23, .inr (8, [.ref h33, .int 0]))] sz) [(h0, .inr (11, [.ref h4, .ref h5, .ref h6, .ref h7, .ref h8, .ref h9, .ref h10, .ref h11, .ref h12, .ref h13, .ref h14, .ref h15, .ref h16, .ref h17, .int wp19301, .int wp19302, .int wp19303, .int wp19304, .int wp19305])), (h10, .inr (5, [.ref h23, .ref h24, .ref h25, .ref h26, .int wp19306])), (h25, .inr (8, [.ref h28, .int wp19307])), (h28, .inl (y 1, 18, .inr (.inl wf19308))), (h26, .inr (8, [.ref h31, .int wp19309])), (h31, .inl (y 1, 3, .inr (.inl (fun _ => 0)))), (h23, .inr (8, [.ref h33, .int 0]))] t) (va_A [(h0, .inr (11, [.ref h4, .ref h5, .ref h6, .ref h7, .ref h8, .ref h9, .ref h10, .ref h11, .ref h12, .ref h13, .ref h14, .ref h15, .ref h16, .ref h17, .int wp19301, .int wp19302, .int wp19303, .int wp19304, .int wp19305])), (h10, .inr (5, [.ref h23, .ref h24, .ref h25, .ref h26, .int wp19306])), (h25, .inr (8, [.ref h28, .int wp19307])), (h28, .inl (y 1, 18, .inr (.inl wf19308))), (h26, .inr (8, [.ref h31, .int wp19309])), (h31, .inl (y 1, 3, .inr (.inl (fun _ => 0)))), (h23, .inr (8, [.ref h33, .int 0]))] sz)) 3 18 (va_A [(h0, .inr (11, [.ref h4, .ref h5, .ref h6, .ref h7, .ref h8, .ref h9, .ref h10, .ref h11, .ref h12, .ref h13, .ref h14, .ref h15, .ref h16, .ref h17, .int wp19301, .int wp19302, .int wp19303, .int wp19304, .int wp19305])), (h10, .inr (5, [.ref h23, .ref h24, .ref h25, .ref h26, .int wp19306])), (h25, .inr (8, [.ref h28, .int wp19307])), (h28, .inl (y 1, 18, .inr (.inl wf19308))), (h26, .inr (8, [.ref h31, .int wp19309])), (h31, .inl (y 1, 3, .inr (.inl (fun _ => 0)))), (h23, .inr (8, [.ref h33, .int 0]))] sz) := by
  refine gx_of (by decide) (Nat.le_of_ble_eq_true rfl) ?_
  intro p e s m below meth c ls A hx hb hr hml hown hg hlocks hin hsz hK hP hD hS hA hAe hl htab hZ
  rw [← hAe]
  replace hown : s.vm.findClass RX11 = some m.cls := hown
  replace hl : lv_has ls 4 [(0, .ref h0), (1, .int p1), (2, .int p2), (3, .int p3)] := hl
  refine lv_iload_n hx hb dX11_secret_0 rfl (lv_at hl 1 rfl) ?_
  refine lv_iconst (v := 3) hx hb dX11_secret_1 (by decide) ?_
  refine gx_av (wr := [(h0, .inr (11, [.ref h4, .ref h5, .ref h6, .ref h7, .ref h8, .ref h9, .ref h10, .ref h11, .ref h12, .ref h13, .ref h14, .ref h15, .ref h16, .ref h17, .int wp19301, .int wp19302, .int wp19303, .int wp19304, .int wp19305])), (h10, .inr (5, [.ref h23, .ref h24, .ref h25, .ref h26, .int wp19306])), (h25, .inr (8, [.ref h28, .int wp19307])), (h28, .inl (y 1, 18, .inr (.inl wf19308))), (h26, .inr (8, [.ref h31, .int wp19309])), (h31, .inl (y 1, 3, .inr (.inl (fun _ => 0)))), (h23, .inr (8, [.ref h33, .int 0]))]) (vx_runS (As := [.int p1, .int 3]) (rest := []) ⟨hx, hb, hml, hown, hg⟩ (k_X11_needPlace_3 l hfl D y aS s.heap.size p1) (va_cwS 2 hg ggS_RX11_106_X11_needPlace rfl rfl rfl (by decide +kernel) ⟨Nat.le_of_ble_eq_true rfl, Nat.le_of_ble_eq_true rfl⟩) (gx_preS hZ hS hA hK hP hD [] rfl (by decide)) rfl rfl hl.1 rfl (lv_room (Nat.le_of_ble_eq_true rfl)) dX11_secret_2 ⟨Nat.le_of_ble_eq_true rfl, Nat.le_of_ble_eq_true rfl⟩) hP hD hS hA [] [0, 1, 2, 3, 4, 5, 6] rfl rfl (by decide) (by decide) ?_ ?_
  ·
    clear hP hD hS
    refine fun E ce q9 H locs hq hP hD hS hce hcv hcl => ?_
    replace hP : va_P D vwCl [(h0, .inr (11, [.ref h4, .ref h5, .ref h6, .ref h7, .ref h8, .ref h9, .ref h10, .ref h11, .ref h12, .ref h13, .ref h14, .ref h15, .ref h16, .ref h17, .int wp19301, .int wp19302, .int wp19303, .int wp19304, .int wp19305])), (h10, .inr (5, [.ref h23, .ref h24, .ref h25, .ref h26, .int wp19306])), (h25, .inr (8, [.ref h28, .int wp19307])), (h28, .inl (y 1, 18, .inr (.inl wf19308))), (h26, .inr (8, [.ref h31, .int wp19309])), (h31, .inl (y 1, 3, .inr (.inl (fun _ => 0)))), (h23, .inr (8, [.ref h33, .int 0]))] H := hP
    replace hD : va_D A [(h0, .inr (11, [.ref h4, .ref h5, .ref h6, .ref h7, .ref h8, .ref h9, .ref h10, .ref h11, .ref h12, .ref h13, .ref h14, .ref h15, .ref h16, .ref h17, .int wp19301, .int wp19302, .int wp19303, .int wp19304, .int wp19305])), (h10, .inr (5, [.ref h23, .ref h24, .ref h25, .ref h26, .int wp19306])), (h25, .inr (8, [.ref h28, .int wp19307])), (h28, .inl (y 1, 18, .inr (.inl wf19308))), (h26, .inr (8, [.ref h31, .int wp19309])), (h31, .inl (y 1, 3, .inr (.inl (fun _ => 0)))), (h23, .inr (8, [.ref h33, .int 0]))] := hD
    rcases hq with ⟨rfl, z19311⟩ | ⟨rfl, z19312⟩
    ·
      exact gx_out htab hlocks hce hcv hcl hP hD hS (Or.inl ⟨rfl, (by first | omega | (simp_all; done))⟩) (Nat.le_of_ble_eq_true rfl) (Nat.le_of_ble_eq_true rfl)
    ·
      exact gx_out htab hlocks hce hcv hcl hP hD hS (Or.inr (Or.inl ⟨rfl, (by first | omega | (simp_all; done))⟩)) (Nat.le_of_ble_eq_true rfl) (Nat.le_of_ble_eq_true rfl)
  ·
    clear hP hD hS
    refine fun u H locs hq hP hD hS => ?_
    obtain ⟨z19313, z19314⟩ := hq
    replace hP : va_P D vwCl [(h0, .inr (11, [.ref h4, .ref h5, .ref h6, .ref h7, .ref h8, .ref h9, .ref h10, .ref h11, .ref h12, .ref h13, .ref h14, .ref h15, .ref h16, .ref h17, .int wp19301, .int wp19302, .int wp19303, .int wp19304, .int wp19305])), (h10, .inr (5, [.ref h23, .ref h24, .ref h25, .ref h26, .int wp19306])), (h25, .inr (8, [.ref h28, .int wp19307])), (h28, .inl (y 1, 18, .inr (.inl wf19308))), (h26, .inr (8, [.ref h31, .int wp19309])), (h31, .inl (y 1, 3, .inr (.inl (fun _ => 0)))), (h23, .inr (8, [.ref h33, .int 0]))] H := hP
    replace hD : va_D A [(h0, .inr (11, [.ref h4, .ref h5, .ref h6, .ref h7, .ref h8, .ref h9, .ref h10, .ref h11, .ref h12, .ref h13, .ref h14, .ref h15, .ref h16, .ref h17, .int wp19301, .int wp19302, .int wp19303, .int wp19304, .int wp19305])), (h10, .inr (5, [.ref h23, .ref h24, .ref h25, .ref h26, .int wp19306])), (h25, .inr (8, [.ref h28, .int wp19307])), (h28, .inl (y 1, 18, .inr (.inl wf19308))), (h26, .inr (8, [.ref h31, .int wp19309])), (h31, .inl (y 1, 3, .inr (.inl (fun _ => 0)))), (h23, .inr (8, [.ref h33, .int 0]))] := hD
    refine lv_iload_n hx hb dX11_secret_5 rfl (lv_at hl 3 rfl) ?_
    refine lv_iconst (v := 2) hx hb dX11_secret_6 (by decide) ?_
    refine lv_bipush (v := 6) hx hb dX11_secret_7 (by decide +kernel) ?_
    refine gx_av (wr := [(h0, .inr (11, [.ref h4, .ref h5, .ref h6, .ref h7, .ref h8, .ref h9, .ref h10, .ref h11, .ref h12, .ref h13, .ref h14, .ref h15, .ref h16, .ref h17, .int wp19301, .int wp19302, .int wp19303, .int wp19304, .int wp19305])), (h10, .inr (5, [.ref h23, .ref h24, .ref h25, .ref h26, .int wp19306])), (h25, .inr (8, [.ref h28, .int wp19307])), (h28, .inl (y 1, 18, .inr (.inl wf19308))), (h26, .inr (8, [.ref h31, .int wp19309])), (h31, .inl (y 1, 3, .inr (.inl (fun _ => 0)))), (h23, .inr (8, [.ref h33, .int 0]))]) (vx_runS (As := [.int p3, .int 2, .int 6]) (rest := []) ⟨hx, hb, hml, hown, hg⟩ (k_X11_needRange_8 l hfl D y aS H.size p3) (va_cwS 3 hg ggS_RX11_133_X11_needRange rfl rfl rfl (by decide +kernel) ⟨Nat.le_of_ble_eq_true rfl, Nat.le_of_ble_eq_true rfl⟩) (gx_preS hZ hS hA hK hP hD [] rfl (by decide)) rfl rfl hl.1 rfl (lv_room (Nat.le_of_ble_eq_true rfl)) dX11_secret_9 ⟨Nat.le_of_ble_eq_true rfl, Nat.le_of_ble_eq_true rfl⟩) hP hD hS hA [] [0, 1, 2, 3, 4, 5, 6] rfl rfl (by decide) (by decide) ?_ ?_
    ·
      clear hP hD hS H locs
      refine fun E ce q9 H locs hq hP hD hS hce hcv hcl => ?_
      replace hP : va_P D vwCl [(h0, .inr (11, [.ref h4, .ref h5, .ref h6, .ref h7, .ref h8, .ref h9, .ref h10, .ref h11, .ref h12, .ref h13, .ref h14, .ref h15, .ref h16, .ref h17, .int wp19301, .int wp19302, .int wp19303, .int wp19304, .int wp19305])), (h10, .inr (5, [.ref h23, .ref h24, .ref h25, .ref h26, .int wp19306])), (h25, .inr (8, [.ref h28, .int wp19307])), (h28, .inl (y 1, 18, .inr (.inl wf19308))), (h26, .inr (8, [.ref h31, .int wp19309])), (h31, .inl (y 1, 3, .inr (.inl (fun _ => 0)))), (h23, .inr (8, [.ref h33, .int 0]))] H := hP
      replace hD : va_D A [(h0, .inr (11, [.ref h4, .ref h5, .ref h6, .ref h7, .ref h8, .ref h9, .ref h10, .ref h11, .ref h12, .ref h13, .ref h14, .ref h15, .ref h16, .ref h17, .int wp19301, .int wp19302, .int wp19303, .int wp19304, .int wp19305])), (h10, .inr (5, [.ref h23, .ref h24, .ref h25, .ref h26, .int wp19306])), (h25, .inr (8, [.ref h28, .int wp19307])), (h28, .inl (y 1, 18, .inr (.inl wf19308))), (h26, .inr (8, [.ref h31, .int wp19309])), (h31, .inl (y 1, 3, .inr (.inl (fun _ => 0)))), (h23, .inr (8, [.ref h33, .int 0]))] := hD
      rcases hq with ⟨rfl, z19316⟩ | ⟨rfl, z19317⟩
      ·
        exact gx_out htab hlocks hce hcv hcl hP hD hS (Or.inr (Or.inr (Or.inl ⟨rfl, (by first | omega | (simp_all; done)), (by first | omega | (simp_all; done)), (by first | omega | (simp_all; done))⟩))) (Nat.le_of_ble_eq_true rfl) (Nat.le_of_ble_eq_true rfl)
      ·
        exact gx_out htab hlocks hce hcv hcl hP hD hS (Or.inr (Or.inr (Or.inr (Or.inl ⟨rfl, (by first | omega | (simp_all; done)), (by first | omega | (simp_all; done)), (by first | omega | (simp_all; done))⟩)))) (Nat.le_of_ble_eq_true rfl) (Nat.le_of_ble_eq_true rfl)
    ·
      clear hP hD hS H locs
      refine fun u H locs hq hP hD hS => ?_
      obtain ⟨z19318, z19319⟩ := hq
      replace hP : va_P D vwCl [(h0, .inr (11, [.ref h4, .ref h5, .ref h6, .ref h7, .ref h8, .ref h9, .ref h10, .ref h11, .ref h12, .ref h13, .ref h14, .ref h15, .ref h16, .ref h17, .int wp19301, .int wp19302, .int wp19303, .int wp19304, .int wp19305])), (h10, .inr (5, [.ref h23, .ref h24, .ref h25, .ref h26, .int wp19306])), (h25, .inr (8, [.ref h28, .int wp19307])), (h28, .inl (y 1, 18, .inr (.inl wf19308))), (h26, .inr (8, [.ref h31, .int wp19309])), (h31, .inl (y 1, 3, .inr (.inl (fun _ => 0)))), (h23, .inr (8, [.ref h33, .int 0]))] H := hP
      replace hD : va_D A [(h0, .inr (11, [.ref h4, .ref h5, .ref h6, .ref h7, .ref h8, .ref h9, .ref h10, .ref h11, .ref h12, .ref h13, .ref h14, .ref h15, .ref h16, .ref h17, .int wp19301, .int wp19302, .int wp19303, .int wp19304, .int wp19305])), (h10, .inr (5, [.ref h23, .ref h24, .ref h25, .ref h26, .int wp19306])), (h25, .inr (8, [.ref h28, .int wp19307])), (h28, .inl (y 1, 18, .inr (.inl wf19308))), (h26, .inr (8, [.ref h31, .int wp19309])), (h31, .inl (y 1, 3, .inr (.inl (fun _ => 0)))), (h23, .inr (8, [.ref h33, .int 0]))] := hD
      refine lv_iload_n hx hb dX11_secret_12 rfl (lv_at hl 2 rfl) ?_
      refine lv_iload_n hx hb dX11_secret_13 rfl (lv_at hl 3 rfl) ?_
      refine g_ai (wr := [(h0, .inr (11, [.ref h4, .ref h5, .ref h6, .ref h7, .ref h8, .ref h9, .ref h10, .ref h11, .ref h12, .ref h13, .ref h14, .ref h15, .ref h16, .ref h17, .int wp19301, .int wp19302, .int wp19303, .int wp19304, .int wp19305])), (h10, .inr (5, [.ref h23, .ref h24, .ref h25, .ref h26, .int wp19306])), (h25, .inr (8, [.ref h28, .int wp19307])), (h28, .inl (y 1, 18, .inr (.inl wf19308))), (h26, .inr (8, [.ref h31, .int wp19309])), (h31, .inl (y 1, 3, .inr (.inl (fun _ => 0)))), (h23, .inr (8, [.ref h33, .int 0]))]) (va_runS (As := [.int p2, .int p3]) (rest := []) ⟨hx, hb, hml, hown, hg⟩ (k_X11_hasDigits_0 l D y aS H.size p2 p3) (va_cwS 2 hg ggS_RX11_345_X11_hasDigits rfl rfl rfl (by decide +kernel) ⟨Nat.le_of_ble_eq_true rfl, Nat.le_of_ble_eq_true rfl⟩) (g_preS hK hP hD [] rfl (by decide)) rfl rfl hl.1 rfl (lv_room (Nat.le_of_ble_eq_true rfl)) dX11_secret_14 ⟨Nat.le_of_ble_eq_true rfl, Nat.le_of_ble_eq_true rfl⟩) hP hD hS hA [] [0, 1, 2, 3, 4, 5, 6] rfl rfl (by decide) (by decide) ?_
      clear hP hD hS H locs
      refine fun r19320 u H locs hq hP hD hS => ?_
      rcases hq with ⟨rfl, z19321, z19322⟩ | ⟨rfl, z19323, z19324⟩ | ⟨rfl, z19325, z19326, z19327⟩ | ⟨rfl, z19328, z19329, z19330⟩ | ⟨rfl, z19331, z19332, z19333⟩ | ⟨rfl, z19334, z19335, z19336, z19337⟩ | ⟨rfl, z19338, z19339, z19340⟩ | ⟨rfl, z19341, z19342, z19343⟩ | ⟨rfl, z19344, z19345, z19346, z19347⟩ | ⟨rfl, z19348, z19349, z19350⟩ | ⟨rfl, z19351, z19352, z19353⟩ | ⟨rfl, z19354, z19355, z19356, z19357⟩ | ⟨rfl, z19358, z19359, z19360⟩ | ⟨rfl, z19361, z19362, z19363⟩ | ⟨rfl, z19364, z19365, z19366, z19367⟩ | ⟨rfl, z19368, z19369, z19370⟩ | ⟨rfl, z19371, z19372, z19373⟩ | ⟨rfl, z19374, z19375, z19376, z19377⟩ | ⟨rfl, z19378, z19379, z19380⟩ | ⟨rfl, z19381, z19382, z19383⟩ | ⟨rfl, z19384, z19385, z19386, z19387⟩ | ⟨rfl, z19388, z19389⟩ | ⟨rfl, z19390, z19391⟩ | ⟨rfl, z19392, z19393, z19394⟩
      · exfalso; (try dsimp only at *); omega
      · exfalso; (try dsimp only at *); omega
      · exfalso; (try dsimp only at *); omega
      · exfalso; (try dsimp only at *); omega
      · exfalso; (try dsimp only at *); omega
      · exfalso; (try dsimp only at *); omega
      ·
        obtain rfl : p3 = 2 := Int32.toInt_inj.mp (by rw [g_l2]; omega)
        replace hP : va_P D vwCl [(h0, .inr (11, [.ref h4, .ref h5, .ref h6, .ref h7, .ref h8, .ref h9, .ref h10, .ref h11, .ref h12, .ref h13, .ref h14, .ref h15, .ref h16, .ref h17, .int wp19301, .int wp19302, .int wp19303, .int wp19304, .int wp19305])), (h10, .inr (5, [.ref h23, .ref h24, .ref h25, .ref h26, .int wp19306])), (h25, .inr (8, [.ref h28, .int wp19307])), (h28, .inl (y 1, 18, .inr (.inl wf19308))), (h26, .inr (8, [.ref h31, .int wp19309])), (h31, .inl (y 1, 3, .inr (.inl (fun _ => 0)))), (h23, .inr (8, [.ref h33, .int 0]))] H := hP
        replace hD : va_D A [(h0, .inr (11, [.ref h4, .ref h5, .ref h6, .ref h7, .ref h8, .ref h9, .ref h10, .ref h11, .ref h12, .ref h13, .ref h14, .ref h15, .ref h16, .ref h17, .int wp19301, .int wp19302, .int wp19303, .int wp19304, .int wp19305])), (h10, .inr (5, [.ref h23, .ref h24, .ref h25, .ref h26, .int wp19306])), (h25, .inr (8, [.ref h28, .int wp19307])), (h28, .inl (y 1, 18, .inr (.inl wf19308))), (h26, .inr (8, [.ref h31, .int wp19309])), (h31, .inl (y 1, 3, .inr (.inl (fun _ => 0)))), (h23, .inr (8, [.ref h33, .int 0]))] := hD
        refine gx_av (wr := [(h0, .inr (11, [.ref h4, .ref h5, .ref h6, .ref h7, .ref h8, .ref h9, .ref h10, .ref h11, .ref h12, .ref h13, .ref h14, .ref h15, .ref h16, .ref h17, .int wp19301, .int wp19302, .int wp19303, .int wp19304, .int wp19305])), (h10, .inr (5, [.ref h23, .ref h24, .ref h25, .ref h26, .int wp19306])), (h25, .inr (8, [.ref h28, .int wp19307])), (h28, .inl (y 1, 18, .inr (.inl wf19308))), (h26, .inr (8, [.ref h31, .int wp19309])), (h31, .inl (y 1, 3, .inr (.inl (fun _ => 0)))), (h23, .inr (8, [.ref h33, .int 0]))]) (vx_runS (As := [.int 0]) (rest := []) ⟨hx, hb, hml, hown, hg⟩ (k_X11_needArgument_0 l hfl D y aS H.size) (va_cwS 1 hg ggS_RX11_243_X11_needArgument rfl rfl rfl (by decide +kernel) ⟨Nat.le_of_ble_eq_true rfl, Nat.le_of_ble_eq_true rfl⟩) (gx_preS hZ hS hA hK hP hD [] rfl (by decide)) rfl rfl hl.1 rfl (lv_room (Nat.le_of_ble_eq_true rfl)) dX11_secret_17 ⟨Nat.le_of_ble_eq_true rfl, Nat.le_of_ble_eq_true rfl⟩) hP hD hS hA [] [0, 1, 2, 3, 4, 5, 6] rfl rfl (by decide) (by decide) ?_ ?_
        ·
          clear hP hD hS H locs
          refine fun E ce q9 H locs hq hP hD hS hce hcv hcl => ?_
          replace hP : va_P D vwCl [(h0, .inr (11, [.ref h4, .ref h5, .ref h6, .ref h7, .ref h8, .ref h9, .ref h10, .ref h11, .ref h12, .ref h13, .ref h14, .ref h15, .ref h16, .ref h17, .int wp19301, .int wp19302, .int wp19303, .int wp19304, .int wp19305])), (h10, .inr (5, [.ref h23, .ref h24, .ref h25, .ref h26, .int wp19306])), (h25, .inr (8, [.ref h28, .int wp19307])), (h28, .inl (y 1, 18, .inr (.inl wf19308))), (h26, .inr (8, [.ref h31, .int wp19309])), (h31, .inl (y 1, 3, .inr (.inl (fun _ => 0)))), (h23, .inr (8, [.ref h33, .int 0]))] H := hP
          replace hD : va_D A [(h0, .inr (11, [.ref h4, .ref h5, .ref h6, .ref h7, .ref h8, .ref h9, .ref h10, .ref h11, .ref h12, .ref h13, .ref h14, .ref h15, .ref h16, .ref h17, .int wp19301, .int wp19302, .int wp19303, .int wp19304, .int wp19305])), (h10, .inr (5, [.ref h23, .ref h24, .ref h25, .ref h26, .int wp19306])), (h25, .inr (8, [.ref h28, .int wp19307])), (h28, .inl (y 1, 18, .inr (.inl wf19308))), (h26, .inr (8, [.ref h31, .int wp19309])), (h31, .inl (y 1, 3, .inr (.inl (fun _ => 0)))), (h23, .inr (8, [.ref h33, .int 0]))] := hD
          obtain rfl := hq
          exact gx_out htab hlocks hce hcv hcl hP hD hS (Or.inr (Or.inr (Or.inr (Or.inr (Or.inl ⟨rfl, (by first | omega | (simp_all; done)), (by first | omega | (simp_all; done)), (by first | omega | (simp_all; done)), (by first | omega | (simp_all; done)), (by first | omega | (simp_all; done))⟩))))) (Nat.le_of_ble_eq_true rfl) (Nat.le_of_ble_eq_true rfl)
        ·
          clear hP hD hS H locs
          refine fun u H locs hq hP hD hS => ?_
          exact hq.elim
      ·
        obtain rfl : p3 = 2 := Int32.toInt_inj.mp (by rw [g_l2]; omega)
        replace hP : va_P D vwCl [(h0, .inr (11, [.ref h4, .ref h5, .ref h6, .ref h7, .ref h8, .ref h9, .ref h10, .ref h11, .ref h12, .ref h13, .ref h14, .ref h15, .ref h16, .ref h17, .int wp19301, .int wp19302, .int wp19303, .int wp19304, .int wp19305])), (h10, .inr (5, [.ref h23, .ref h24, .ref h25, .ref h26, .int wp19306])), (h25, .inr (8, [.ref h28, .int wp19307])), (h28, .inl (y 1, 18, .inr (.inl wf19308))), (h26, .inr (8, [.ref h31, .int wp19309])), (h31, .inl (y 1, 3, .inr (.inl (fun _ => 0)))), (h23, .inr (8, [.ref h33, .int 0]))] H := hP
        replace hD : va_D A [(h0, .inr (11, [.ref h4, .ref h5, .ref h6, .ref h7, .ref h8, .ref h9, .ref h10, .ref h11, .ref h12, .ref h13, .ref h14, .ref h15, .ref h16, .ref h17, .int wp19301, .int wp19302, .int wp19303, .int wp19304, .int wp19305])), (h10, .inr (5, [.ref h23, .ref h24, .ref h25, .ref h26, .int wp19306])), (h25, .inr (8, [.ref h28, .int wp19307])), (h28, .inl (y 1, 18, .inr (.inl wf19308))), (h26, .inr (8, [.ref h31, .int wp19309])), (h31, .inl (y 1, 3, .inr (.inl (fun _ => 0)))), (h23, .inr (8, [.ref h33, .int 0]))] := hD
        refine gx_av (wr := [(h0, .inr (11, [.ref h4, .ref h5, .ref h6, .ref h7, .ref h8, .ref h9, .ref h10, .ref h11, .ref h12, .ref h13, .ref h14, .ref h15, .ref h16, .ref h17, .int wp19301, .int wp19302, .int wp19303, .int wp19304, .int wp19305])), (h10, .inr (5, [.ref h23, .ref h24, .ref h25, .ref h26, .int wp19306])), (h25, .inr (8, [.ref h28, .int wp19307])), (h28, .inl (y 1, 18, .inr (.inl wf19308))), (h26, .inr (8, [.ref h31, .int wp19309])), (h31, .inl (y 1, 3, .inr (.inl (fun _ => 0)))), (h23, .inr (8, [.ref h33, .int 0]))]) (vx_runS (As := [.int 0]) (rest := []) ⟨hx, hb, hml, hown, hg⟩ (k_X11_needArgument_0 l hfl D y aS H.size) (va_cwS 1 hg ggS_RX11_243_X11_needArgument rfl rfl rfl (by decide +kernel) ⟨Nat.le_of_ble_eq_true rfl, Nat.le_of_ble_eq_true rfl⟩) (gx_preS hZ hS hA hK hP hD [] rfl (by decide)) rfl rfl hl.1 rfl (lv_room (Nat.le_of_ble_eq_true rfl)) dX11_secret_17 ⟨Nat.le_of_ble_eq_true rfl, Nat.le_of_ble_eq_true rfl⟩) hP hD hS hA [] [0, 1, 2, 3, 4, 5, 6] rfl rfl (by decide) (by decide) ?_ ?_
        ·
          clear hP hD hS H locs
          refine fun E ce q9 H locs hq hP hD hS hce hcv hcl => ?_
          replace hP : va_P D vwCl [(h0, .inr (11, [.ref h4, .ref h5, .ref h6, .ref h7, .ref h8, .ref h9, .ref h10, .ref h11, .ref h12, .ref h13, .ref h14, .ref h15, .ref h16, .ref h17, .int wp19301, .int wp19302, .int wp19303, .int wp19304, .int wp19305])), (h10, .inr (5, [.ref h23, .ref h24, .ref h25, .ref h26, .int wp19306])), (h25, .inr (8, [.ref h28, .int wp19307])), (h28, .inl (y 1, 18, .inr (.inl wf19308))), (h26, .inr (8, [.ref h31, .int wp19309])), (h31, .inl (y 1, 3, .inr (.inl (fun _ => 0)))), (h23, .inr (8, [.ref h33, .int 0]))] H := hP
          replace hD : va_D A [(h0, .inr (11, [.ref h4, .ref h5, .ref h6, .ref h7, .ref h8, .ref h9, .ref h10, .ref h11, .ref h12, .ref h13, .ref h14, .ref h15, .ref h16, .ref h17, .int wp19301, .int wp19302, .int wp19303, .int wp19304, .int wp19305])), (h10, .inr (5, [.ref h23, .ref h24, .ref h25, .ref h26, .int wp19306])), (h25, .inr (8, [.ref h28, .int wp19307])), (h28, .inl (y 1, 18, .inr (.inl wf19308))), (h26, .inr (8, [.ref h31, .int wp19309])), (h31, .inl (y 1, 3, .inr (.inl (fun _ => 0)))), (h23, .inr (8, [.ref h33, .int 0]))] := hD
          obtain rfl := hq
          exact gx_out htab hlocks hce hcv hcl hP hD hS (Or.inr (Or.inr (Or.inr (Or.inr (Or.inr (Or.inl ⟨rfl, (by first | omega | (simp_all; done)), (by first | omega | (simp_all; done)), (by first | omega | (simp_all; done)), (by first | omega | (simp_all; done)), (by first | omega | (simp_all; done))⟩)))))) (Nat.le_of_ble_eq_true rfl) (Nat.le_of_ble_eq_true rfl)
        ·
          clear hP hD hS H locs
          refine fun u H locs hq hP hD hS => ?_
          exact hq.elim
      ·
        obtain rfl : p3 = 2 := Int32.toInt_inj.mp (by rw [g_l2]; omega)
        replace hP : va_P D vwCl [(h0, .inr (11, [.ref h4, .ref h5, .ref h6, .ref h7, .ref h8, .ref h9, .ref h10, .ref h11, .ref h12, .ref h13, .ref h14, .ref h15, .ref h16, .ref h17, .int wp19301, .int wp19302, .int wp19303, .int wp19304, .int wp19305])), (h10, .inr (5, [.ref h23, .ref h24, .ref h25, .ref h26, .int wp19306])), (h25, .inr (8, [.ref h28, .int wp19307])), (h28, .inl (y 1, 18, .inr (.inl wf19308))), (h26, .inr (8, [.ref h31, .int wp19309])), (h31, .inl (y 1, 3, .inr (.inl (fun _ => 0)))), (h23, .inr (8, [.ref h33, .int 0]))] H := hP
        replace hD : va_D A [(h0, .inr (11, [.ref h4, .ref h5, .ref h6, .ref h7, .ref h8, .ref h9, .ref h10, .ref h11, .ref h12, .ref h13, .ref h14, .ref h15, .ref h16, .ref h17, .int wp19301, .int wp19302, .int wp19303, .int wp19304, .int wp19305])), (h10, .inr (5, [.ref h23, .ref h24, .ref h25, .ref h26, .int wp19306])), (h25, .inr (8, [.ref h28, .int wp19307])), (h28, .inl (y 1, 18, .inr (.inl wf19308))), (h26, .inr (8, [.ref h31, .int wp19309])), (h31, .inl (y 1, 3, .inr (.inl (fun _ => 0)))), (h23, .inr (8, [.ref h33, .int 0]))] := hD
        refine g_av (wr := [(h0, .inr (11, [.ref h4, .ref h5, .ref h6, .ref h7, .ref h8, .ref h9, .ref h10, .ref h11, .ref h12, .ref h13, .ref h14, .ref h15, .ref h16, .ref h17, .int wp19301, .int wp19302, .int wp19303, .int wp19304, .int wp19305])), (h10, .inr (5, [.ref h23, .ref h24, .ref h25, .ref h26, .int wp19306])), (h25, .inr (8, [.ref h28, .int wp19307])), (h28, .inl (y 1, 18, .inr (.inl wf19308))), (h26, .inr (8, [.ref h31, .int wp19309])), (h31, .inl (y 1, 3, .inr (.inl (fun _ => 0)))), (h23, .inr (8, [.ref h33, .int 0]))]) (va_runS (As := [.int 1]) (rest := []) ⟨hx, hb, hml, hown, hg⟩ (k_X11_needArgument_1 l D y aS H.size) (va_cwS 1 hg ggS_RX11_243_X11_needArgument rfl rfl rfl (by decide +kernel) ⟨Nat.le_of_ble_eq_true rfl, Nat.le_of_ble_eq_true rfl⟩) (g_preS hK hP hD [] rfl (by decide)) rfl rfl hl.1 rfl (lv_room (Nat.le_of_ble_eq_true rfl)) dX11_secret_17 ⟨Nat.le_of_ble_eq_true rfl, Nat.le_of_ble_eq_true rfl⟩) hP hD hS hA [] [0, 1, 2, 3, 4, 5, 6] rfl rfl (by decide) (by decide) ?_
        clear hP hD hS H locs
        refine fun u H locs hq hP hD hS => ?_
        replace hP : va_P D vwCl [(h0, .inr (11, [.ref h4, .ref h5, .ref h6, .ref h7, .ref h8, .ref h9, .ref h10, .ref h11, .ref h12, .ref h13, .ref h14, .ref h15, .ref h16, .ref h17, .int wp19301, .int wp19302, .int wp19303, .int wp19304, .int wp19305])), (h10, .inr (5, [.ref h23, .ref h24, .ref h25, .ref h26, .int wp19306])), (h25, .inr (8, [.ref h28, .int wp19307])), (h28, .inl (y 1, 18, .inr (.inl wf19308))), (h26, .inr (8, [.ref h31, .int wp19309])), (h31, .inl (y 1, 3, .inr (.inl (fun _ => 0)))), (h23, .inr (8, [.ref h33, .int 0]))] H := hP
        replace hD : va_D A [(h0, .inr (11, [.ref h4, .ref h5, .ref h6, .ref h7, .ref h8, .ref h9, .ref h10, .ref h11, .ref h12, .ref h13, .ref h14, .ref h15, .ref h16, .ref h17, .int wp19301, .int wp19302, .int wp19303, .int wp19304, .int wp19305])), (h10, .inr (5, [.ref h23, .ref h24, .ref h25, .ref h26, .int wp19306])), (h25, .inr (8, [.ref h28, .int wp19307])), (h28, .inl (y 1, 18, .inr (.inl wf19308))), (h26, .inr (8, [.ref h31, .int wp19309])), (h31, .inl (y 1, 3, .inr (.inl (fun _ => 0)))), (h23, .inr (8, [.ref h33, .int 0]))] := hD
        have hsp : p1 = 0 ∨ p1 = 1 ∨ p1 = 2 := by
          simp only [← Int32.toInt_inj, g_l0, g_l1, g_l2]; omega
        rcases hsp with rfl | rfl | rfl
        ·
          refine lv_aload_n hx hb dX11_secret_20 rfl (lv_at hl 0 rfl) ?_
          refine gm_get (D := D) (ci := 11) (v := .ref h10) (C := RX11) (T := TX11) (N := 19) hx hb hg inlX11 hown hK.1 hP 0 rfl rfl 6 (by decide) tX11_6 (hg _ gw_40) rfl dX11_secret_21 ?_
          refine lv_iload_n hx hb dX11_secret_24 rfl (lv_at hl 1 rfl) ?_
          refine lv_iload_n hx hb dX11_secret_25 rfl (lv_at hl 2 rfl) ?_
          refine lv_iload_n hx hb dX11_secret_26 rfl (lv_at hl 3 rfl) ?_
          refine g_ai (wr := [(h0, .inr (11, [.ref h4, .ref h5, .ref h6, .ref h7, .ref h8, .ref h9, .ref h10, .ref h11, .ref h12, .ref h13, .ref h14, .ref h15, .ref h16, .ref h17, .int wp19301, .int wp19302, .int wp19303, .int wp19304, .int wp19305]))]) (va_runV (As := [.int 0, .int p2, .int 2]) (rest := []) ⟨hx, hb, hml, hown, hg⟩ (k_X5_tellSecret_0 l D y aS H.size h10 p2 h23 h24 h25 h26 wp19306 h28 wp19307 wf19308 h31 wp19309 h33) (cwV 3 hg ggV_RX11_348_X5_tellSecret rfl rfl rfl (by decide +kernel) ⟨Nat.le_of_ble_eq_true rfl, Nat.le_of_ble_eq_true rfl⟩) (g_preV (q := (RX5, TX5, 5)) hK hP hD [1, 2, 3, 4, 5, 6] rfl (by decide) (ci := 5) (q0 := 1) rfl rfl) rfl rfl hl.1 rfl (lv_room (Nat.le_of_ble_eq_true rfl)) dX11_secret_27 ⟨Nat.le_of_ble_eq_true rfl, Nat.le_of_ble_eq_true rfl⟩) hP hD hS hA [1, 2, 3, 4, 5, 6] [0] rfl rfl (by decide) (by decide) ?_
          clear hP hD hS H locs
          refine fun r19398 u H locs hq hP hD hS => ?_
          subst hq
          replace hP : va_P D vwCl [(h0, .inr (11, [.ref h4, .ref h5, .ref h6, .ref h7, .ref h8, .ref h9, .ref h10, .ref h11, .ref h12, .ref h13, .ref h14, .ref h15, .ref h16, .ref h17, .int wp19301, .int wp19302, .int wp19303, .int wp19304, .int wp19305])), (h10, .inr (5, [.ref h23, .ref h24, .ref h25, .ref h26, .int 0])), (h25, .inr (8, [.ref h28, .int wp19307])), (h28, .inl (y 1, 18, .inr (.inl (vp_updL (vp_updL wf19308 ((1 : Int32).toNatClampNeg) ((p2 - p2 / 10 * 10).toInt64)) ((0 : Int32).toNatClampNeg) (((p2 / 10) - (p2 / 10) / 10 * 10).toInt64))))), (h26, .inr (8, [.ref h31, .int wp19309])), (h31, .inl (y 1, 3, .inr (.inl (vp_updL (fun _ => 0) ((0 : Int32).toNatClampNeg) 2)))), (h23, .inr (8, [.ref h33, .int 0]))] H := hP
          replace hD : va_D A [(h0, .inr (11, [.ref h4, .ref h5, .ref h6, .ref h7, .ref h8, .ref h9, .ref h10, .ref h11, .ref h12, .ref h13, .ref h14, .ref h15, .ref h16, .ref h17, .int wp19301, .int wp19302, .int wp19303, .int wp19304, .int wp19305])), (h10, .inr (5, [.ref h23, .ref h24, .ref h25, .ref h26, .int 0])), (h25, .inr (8, [.ref h28, .int wp19307])), (h28, .inl (y 1, 18, .inr (.inl (vp_updL (vp_updL wf19308 ((1 : Int32).toNatClampNeg) ((p2 - p2 / 10 * 10).toInt64)) ((0 : Int32).toNatClampNeg) (((p2 / 10) - (p2 / 10) / 10 * 10).toInt64))))), (h26, .inr (8, [.ref h31, .int wp19309])), (h31, .inl (y 1, 3, .inr (.inl (vp_updL (fun _ => 0) ((0 : Int32).toNatClampNeg) 2)))), (h23, .inr (8, [.ref h33, .int 0]))] := hD
          exact vx_ret (g_iret hx hb hr hlocks ⟨(vp_updL (vp_updL wf19308 ((1 : Int32).toNatClampNeg) ((p2 - p2 / 10 * 10).toInt64)) ((0 : Int32).toNatClampNeg) (((p2 / 10) - (p2 / 10) / 10 * 10).toInt64)), (vp_updL (fun _ => 0) ((0 : Int32).toNatClampNeg) 2)⟩ hP hD hS rfl (Or.inl ⟨rfl, rfl, rfl, (by first | omega | (simp_all; done)), (by first | omega | (simp_all; done)), (by first | omega | (simp_all; done)), (by first | omega | (simp_all; done)), (by first | omega | (simp_all; done)), (by first | omega | (simp_all; done))⟩) (Nat.le_of_ble_eq_true rfl) (Nat.le_of_ble_eq_true rfl) dX11_secret_30)
        ·
          refine lv_aload_n hx hb dX11_secret_20 rfl (lv_at hl 0 rfl) ?_
          refine gm_get (D := D) (ci := 11) (v := .ref h10) (C := RX11) (T := TX11) (N := 19) hx hb hg inlX11 hown hK.1 hP 0 rfl rfl 6 (by decide) tX11_6 (hg _ gw_40) rfl dX11_secret_21 ?_
          refine lv_iload_n hx hb dX11_secret_24 rfl (lv_at hl 1 rfl) ?_
          refine lv_iload_n hx hb dX11_secret_25 rfl (lv_at hl 2 rfl) ?_
          refine lv_iload_n hx hb dX11_secret_26 rfl (lv_at hl 3 rfl) ?_
          refine g_ai (wr := [(h0, .inr (11, [.ref h4, .ref h5, .ref h6, .ref h7, .ref h8, .ref h9, .ref h10, .ref h11, .ref h12, .ref h13, .ref h14, .ref h15, .ref h16, .ref h17, .int wp19301, .int wp19302, .int wp19303, .int wp19304, .int wp19305]))]) (va_runV (As := [.int 1, .int p2, .int 2]) (rest := []) ⟨hx, hb, hml, hown, hg⟩ (k_X5_tellSecret_1 l D y aS H.size h10 p2 h23 h24 h25 h26 wp19306 h28 wp19307 wf19308 h31 wp19309 h33) (cwV 3 hg ggV_RX11_348_X5_tellSecret rfl rfl rfl (by decide +kernel) ⟨Nat.le_of_ble_eq_true rfl, Nat.le_of_ble_eq_true rfl⟩) (g_preV (q := (RX5, TX5, 5)) hK hP hD [1, 2, 3, 4, 5, 6] rfl (by decide) (ci := 5) (q0 := 1) rfl rfl) rfl rfl hl.1 rfl (lv_room (Nat.le_of_ble_eq_true rfl)) dX11_secret_27 ⟨Nat.le_of_ble_eq_true rfl, Nat.le_of_ble_eq_true rfl⟩) hP hD hS hA [1, 2, 3, 4, 5, 6] [0] rfl rfl (by decide) (by decide) ?_
          clear hP hD hS H locs
          refine fun r19399 u H locs hq hP hD hS => ?_
          subst hq
          replace hP : va_P D vwCl [(h0, .inr (11, [.ref h4, .ref h5, .ref h6, .ref h7, .ref h8, .ref h9, .ref h10, .ref h11, .ref h12, .ref h13, .ref h14, .ref h15, .ref h16, .ref h17, .int wp19301, .int wp19302, .int wp19303, .int wp19304, .int wp19305])), (h10, .inr (5, [.ref h23, .ref h24, .ref h25, .ref h26, .int 0])), (h25, .inr (8, [.ref h28, .int wp19307])), (h28, .inl (y 1, 18, .inr (.inl (vp_updL (vp_updL wf19308 ((7 : Int32).toNatClampNeg) ((p2 - p2 / 10 * 10).toInt64)) ((6 : Int32).toNatClampNeg) (((p2 / 10) - (p2 / 10) / 10 * 10).toInt64))))), (h26, .inr (8, [.ref h31, .int wp19309])), (h31, .inl (y 1, 3, .inr (.inl (vp_updL (fun _ => 0) ((1 : Int32).toNatClampNeg) 2)))), (h23, .inr (8, [.ref h33, .int 0]))] H := hP
          replace hD : va_D A [(h0, .inr (11, [.ref h4, .ref h5, .ref h6, .ref h7, .ref h8, .ref h9, .ref h10, .ref h11, .ref h12, .ref h13, .ref h14, .ref h15, .ref h16, .ref h17, .int wp19301, .int wp19302, .int wp19303, .int wp19304, .int wp19305])), (h10, .inr (5, [.ref h23, .ref h24, .ref h25, .ref h26, .int 0])), (h25, .inr (8, [.ref h28, .int wp19307])), (h28, .inl (y 1, 18, .inr (.inl (vp_updL (vp_updL wf19308 ((7 : Int32).toNatClampNeg) ((p2 - p2 / 10 * 10).toInt64)) ((6 : Int32).toNatClampNeg) (((p2 / 10) - (p2 / 10) / 10 * 10).toInt64))))), (h26, .inr (8, [.ref h31, .int wp19309])), (h31, .inl (y 1, 3, .inr (.inl (vp_updL (fun _ => 0) ((1 : Int32).toNatClampNeg) 2)))), (h23, .inr (8, [.ref h33, .int 0]))] := hD
          exact vx_ret (g_iret hx hb hr hlocks ⟨(vp_updL (vp_updL wf19308 ((7 : Int32).toNatClampNeg) ((p2 - p2 / 10 * 10).toInt64)) ((6 : Int32).toNatClampNeg) (((p2 / 10) - (p2 / 10) / 10 * 10).toInt64)), (vp_updL (fun _ => 0) ((1 : Int32).toNatClampNeg) 2)⟩ hP hD hS rfl (Or.inr (Or.inl ⟨rfl, rfl, rfl, (by first | omega | (simp_all; done)), (by first | omega | (simp_all; done)), (by first | omega | (simp_all; done)), (by first | omega | (simp_all; done)), (by first | omega | (simp_all; done)), (by first | omega | (simp_all; done))⟩)) (Nat.le_of_ble_eq_true rfl) (Nat.le_of_ble_eq_true rfl) dX11_secret_30)
        ·
          refine lv_aload_n hx hb dX11_secret_20 rfl (lv_at hl 0 rfl) ?_
          refine gm_get (D := D) (ci := 11) (v := .ref h10) (C := RX11) (T := TX11) (N := 19) hx hb hg inlX11 hown hK.1 hP 0 rfl rfl 6 (by decide) tX11_6 (hg _ gw_40) rfl dX11_secret_21 ?_
          refine lv_iload_n hx hb dX11_secret_24 rfl (lv_at hl 1 rfl) ?_
          refine lv_iload_n hx hb dX11_secret_25 rfl (lv_at hl 2 rfl) ?_
          refine lv_iload_n hx hb dX11_secret_26 rfl (lv_at hl 3 rfl) ?_
          refine g_ai (wr := [(h0, .inr (11, [.ref h4, .ref h5, .ref h6, .ref h7, .ref h8, .ref h9, .ref h10, .ref h11, .ref h12, .ref h13, .ref h14, .ref h15, .ref h16, .ref h17, .int wp19301, .int wp19302, .int wp19303, .int wp19304, .int wp19305]))]) (va_runV (As := [.int 2, .int p2, .int 2]) (rest := []) ⟨hx, hb, hml, hown, hg⟩ (k_X5_tellSecret_2 l D y aS H.size h10 p2 h23 h24 h25 h26 wp19306 h28 wp19307 wf19308 h31 wp19309 h33) (cwV 3 hg ggV_RX11_348_X5_tellSecret rfl rfl rfl (by decide +kernel) ⟨Nat.le_of_ble_eq_true rfl, Nat.le_of_ble_eq_true rfl⟩) (g_preV (q := (RX5, TX5, 5)) hK hP hD [1, 2, 3, 4, 5, 6] rfl (by decide) (ci := 5) (q0 := 1) rfl rfl) rfl rfl hl.1 rfl (lv_room (Nat.le_of_ble_eq_true rfl)) dX11_secret_27 ⟨Nat.le_of_ble_eq_true rfl, Nat.le_of_ble_eq_true rfl⟩) hP hD hS hA [1, 2, 3, 4, 5, 6] [0] rfl rfl (by decide) (by decide) ?_
          clear hP hD hS H locs
          refine fun r19400 u H locs hq hP hD hS => ?_
          subst hq
          replace hP : va_P D vwCl [(h0, .inr (11, [.ref h4, .ref h5, .ref h6, .ref h7, .ref h8, .ref h9, .ref h10, .ref h11, .ref h12, .ref h13, .ref h14, .ref h15, .ref h16, .ref h17, .int wp19301, .int wp19302, .int wp19303, .int wp19304, .int wp19305])), (h10, .inr (5, [.ref h23, .ref h24, .ref h25, .ref h26, .int 0])), (h25, .inr (8, [.ref h28, .int wp19307])), (h28, .inl (y 1, 18, .inr (.inl (vp_updL (vp_updL wf19308 ((13 : Int32).toNatClampNeg) ((p2 - p2 / 10 * 10).toInt64)) ((12 : Int32).toNatClampNeg) (((p2 / 10) - (p2 / 10) / 10 * 10).toInt64))))), (h26, .inr (8, [.ref h31, .int wp19309])), (h31, .inl (y 1, 3, .inr (.inl (vp_updL (fun _ => 0) ((2 : Int32).toNatClampNeg) 2)))), (h23, .inr (8, [.ref h33, .int 0]))] H := hP
          replace hD : va_D A [(h0, .inr (11, [.ref h4, .ref h5, .ref h6, .ref h7, .ref h8, .ref h9, .ref h10, .ref h11, .ref h12, .ref h13, .ref h14, .ref h15, .ref h16, .ref h17, .int wp19301, .int wp19302, .int wp19303, .int wp19304, .int wp19305])), (h10, .inr (5, [.ref h23, .ref h24, .ref h25, .ref h26, .int 0])), (h25, .inr (8, [.ref h28, .int wp19307])), (h28, .inl (y 1, 18, .inr (.inl (vp_updL (vp_updL wf19308 ((13 : Int32).toNatClampNeg) ((p2 - p2 / 10 * 10).toInt64)) ((12 : Int32).toNatClampNeg) (((p2 / 10) - (p2 / 10) / 10 * 10).toInt64))))), (h26, .inr (8, [.ref h31, .int wp19309])), (h31, .inl (y 1, 3, .inr (.inl (vp_updL (fun _ => 0) ((2 : Int32).toNatClampNeg) 2)))), (h23, .inr (8, [.ref h33, .int 0]))] := hD
          exact vx_ret (g_iret hx hb hr hlocks ⟨(vp_updL (vp_updL wf19308 ((13 : Int32).toNatClampNeg) ((p2 - p2 / 10 * 10).toInt64)) ((12 : Int32).toNatClampNeg) (((p2 / 10) - (p2 / 10) / 10 * 10).toInt64)), (vp_updL (fun _ => 0) ((2 : Int32).toNatClampNeg) 2)⟩ hP hD hS rfl (Or.inr (Or.inr (Or.inl ⟨rfl, rfl, rfl, (by first | omega | (simp_all; done)), (by first | omega | (simp_all; done)), (by first | omega | (simp_all; done)), (by first | omega | (simp_all; done)), (by first | omega | (simp_all; done)), (by first | omega | (simp_all; done))⟩))) (Nat.le_of_ble_eq_true rfl) (Nat.le_of_ble_eq_true rfl) dX11_secret_30)
      ·
        obtain rfl : p3 = 3 := Int32.toInt_inj.mp (by rw [g_l3]; omega)
        replace hP : va_P D vwCl [(h0, .inr (11, [.ref h4, .ref h5, .ref h6, .ref h7, .ref h8, .ref h9, .ref h10, .ref h11, .ref h12, .ref h13, .ref h14, .ref h15, .ref h16, .ref h17, .int wp19301, .int wp19302, .int wp19303, .int wp19304, .int wp19305])), (h10, .inr (5, [.ref h23, .ref h24, .ref h25, .ref h26, .int wp19306])), (h25, .inr (8, [.ref h28, .int wp19307])), (h28, .inl (y 1, 18, .inr (.inl wf19308))), (h26, .inr (8, [.ref h31, .int wp19309])), (h31, .inl (y 1, 3, .inr (.inl (fun _ => 0)))), (h23, .inr (8, [.ref h33, .int 0]))] H := hP
        replace hD : va_D A [(h0, .inr (11, [.ref h4, .ref h5, .ref h6, .ref h7, .ref h8, .ref h9, .ref h10, .ref h11, .ref h12, .ref h13, .ref h14, .ref h15, .ref h16, .ref h17, .int wp19301, .int wp19302, .int wp19303, .int wp19304, .int wp19305])), (h10, .inr (5, [.ref h23, .ref h24, .ref h25, .ref h26, .int wp19306])), (h25, .inr (8, [.ref h28, .int wp19307])), (h28, .inl (y 1, 18, .inr (.inl wf19308))), (h26, .inr (8, [.ref h31, .int wp19309])), (h31, .inl (y 1, 3, .inr (.inl (fun _ => 0)))), (h23, .inr (8, [.ref h33, .int 0]))] := hD
        refine gx_av (wr := [(h0, .inr (11, [.ref h4, .ref h5, .ref h6, .ref h7, .ref h8, .ref h9, .ref h10, .ref h11, .ref h12, .ref h13, .ref h14, .ref h15, .ref h16, .ref h17, .int wp19301, .int wp19302, .int wp19303, .int wp19304, .int wp19305])), (h10, .inr (5, [.ref h23, .ref h24, .ref h25, .ref h26, .int wp19306])), (h25, .inr (8, [.ref h28, .int wp19307])), (h28, .inl (y 1, 18, .inr (.inl wf19308))), (h26, .inr (8, [.ref h31, .int wp19309])), (h31, .inl (y 1, 3, .inr (.inl (fun _ => 0)))), (h23, .inr (8, [.ref h33, .int 0]))]) (vx_runS (As := [.int 0]) (rest := []) ⟨hx, hb, hml, hown, hg⟩ (k_X11_needArgument_0 l hfl D y aS H.size) (va_cwS 1 hg ggS_RX11_243_X11_needArgument rfl rfl rfl (by decide +kernel) ⟨Nat.le_of_ble_eq_true rfl, Nat.le_of_ble_eq_true rfl⟩) (gx_preS hZ hS hA hK hP hD [] rfl (by decide)) rfl rfl hl.1 rfl (lv_room (Nat.le_of_ble_eq_true rfl)) dX11_secret_17 ⟨Nat.le_of_ble_eq_true rfl, Nat.le_of_ble_eq_true rfl⟩) hP hD hS hA [] [0, 1, 2, 3, 4, 5, 6] rfl rfl (by decide) (by decide) ?_ ?_
        ·
          clear hP hD hS H locs
          refine fun E ce q9 H locs hq hP hD hS hce hcv hcl => ?_
          replace hP : va_P D vwCl [(h0, .inr (11, [.ref h4, .ref h5, .ref h6, .ref h7, .ref h8, .ref h9, .ref h10, .ref h11, .ref h12, .ref h13, .ref h14, .ref h15, .ref h16, .ref h17, .int wp19301, .int wp19302, .int wp19303, .int wp19304, .int wp19305])), (h10, .inr (5, [.ref h23, .ref h24, .ref h25, .ref h26, .int wp19306])), (h25, .inr (8, [.ref h28, .int wp19307])), (h28, .inl (y 1, 18, .inr (.inl wf19308))), (h26, .inr (8, [.ref h31, .int wp19309])), (h31, .inl (y 1, 3, .inr (.inl (fun _ => 0)))), (h23, .inr (8, [.ref h33, .int 0]))] H := hP
          replace hD : va_D A [(h0, .inr (11, [.ref h4, .ref h5, .ref h6, .ref h7, .ref h8, .ref h9, .ref h10, .ref h11, .ref h12, .ref h13, .ref h14, .ref h15, .ref h16, .ref h17, .int wp19301, .int wp19302, .int wp19303, .int wp19304, .int wp19305])), (h10, .inr (5, [.ref h23, .ref h24, .ref h25, .ref h26, .int wp19306])), (h25, .inr (8, [.ref h28, .int wp19307])), (h28, .inl (y 1, 18, .inr (.inl wf19308))), (h26, .inr (8, [.ref h31, .int wp19309])), (h31, .inl (y 1, 3, .inr (.inl (fun _ => 0)))), (h23, .inr (8, [.ref h33, .int 0]))] := hD
          obtain rfl := hq
          exact gx_out htab hlocks hce hcv hcl hP hD hS (Or.inr (Or.inr (Or.inr (Or.inr (Or.inr (Or.inr (Or.inl ⟨rfl, (by first | omega | (simp_all; done)), (by first | omega | (simp_all; done)), (by first | omega | (simp_all; done)), (by first | omega | (simp_all; done)), (by first | omega | (simp_all; done))⟩))))))) (Nat.le_of_ble_eq_true rfl) (Nat.le_of_ble_eq_true rfl)
        ·
          clear hP hD hS H locs
          refine fun u H locs hq hP hD hS => ?_
          exact hq.elim
      ·
        obtain rfl : p3 = 3 := Int32.toInt_inj.mp (by rw [g_l3]; omega)
        replace hP : va_P D vwCl [(h0, .inr (11, [.ref h4, .ref h5, .ref h6, .ref h7, .ref h8, .ref h9, .ref h10, .ref h11, .ref h12, .ref h13, .ref h14, .ref h15, .ref h16, .ref h17, .int wp19301, .int wp19302, .int wp19303, .int wp19304, .int wp19305])), (h10, .inr (5, [.ref h23, .ref h24, .ref h25, .ref h26, .int wp19306])), (h25, .inr (8, [.ref h28, .int wp19307])), (h28, .inl (y 1, 18, .inr (.inl wf19308))), (h26, .inr (8, [.ref h31, .int wp19309])), (h31, .inl (y 1, 3, .inr (.inl (fun _ => 0)))), (h23, .inr (8, [.ref h33, .int 0]))] H := hP
        replace hD : va_D A [(h0, .inr (11, [.ref h4, .ref h5, .ref h6, .ref h7, .ref h8, .ref h9, .ref h10, .ref h11, .ref h12, .ref h13, .ref h14, .ref h15, .ref h16, .ref h17, .int wp19301, .int wp19302, .int wp19303, .int wp19304, .int wp19305])), (h10, .inr (5, [.ref h23, .ref h24, .ref h25, .ref h26, .int wp19306])), (h25, .inr (8, [.ref h28, .int wp19307])), (h28, .inl (y 1, 18, .inr (.inl wf19308))), (h26, .inr (8, [.ref h31, .int wp19309])), (h31, .inl (y 1, 3, .inr (.inl (fun _ => 0)))), (h23, .inr (8, [.ref h33, .int 0]))] := hD
        refine gx_av (wr := [(h0, .inr (11, [.ref h4, .ref h5, .ref h6, .ref h7, .ref h8, .ref h9, .ref h10, .ref h11, .ref h12, .ref h13, .ref h14, .ref h15, .ref h16, .ref h17, .int wp19301, .int wp19302, .int wp19303, .int wp19304, .int wp19305])), (h10, .inr (5, [.ref h23, .ref h24, .ref h25, .ref h26, .int wp19306])), (h25, .inr (8, [.ref h28, .int wp19307])), (h28, .inl (y 1, 18, .inr (.inl wf19308))), (h26, .inr (8, [.ref h31, .int wp19309])), (h31, .inl (y 1, 3, .inr (.inl (fun _ => 0)))), (h23, .inr (8, [.ref h33, .int 0]))]) (vx_runS (As := [.int 0]) (rest := []) ⟨hx, hb, hml, hown, hg⟩ (k_X11_needArgument_0 l hfl D y aS H.size) (va_cwS 1 hg ggS_RX11_243_X11_needArgument rfl rfl rfl (by decide +kernel) ⟨Nat.le_of_ble_eq_true rfl, Nat.le_of_ble_eq_true rfl⟩) (gx_preS hZ hS hA hK hP hD [] rfl (by decide)) rfl rfl hl.1 rfl (lv_room (Nat.le_of_ble_eq_true rfl)) dX11_secret_17 ⟨Nat.le_of_ble_eq_true rfl, Nat.le_of_ble_eq_true rfl⟩) hP hD hS hA [] [0, 1, 2, 3, 4, 5, 6] rfl rfl (by decide) (by decide) ?_ ?_
        ·
          clear hP hD hS H locs
          refine fun E ce q9 H locs hq hP hD hS hce hcv hcl => ?_
          replace hP : va_P D vwCl [(h0, .inr (11, [.ref h4, .ref h5, .ref h6, .ref h7, .ref h8, .ref h9, .ref h10, .ref h11, .ref h12, .ref h13, .ref h14, .ref h15, .ref h16, .ref h17, .int wp19301, .int wp19302, .int wp19303, .int wp19304, .int wp19305])), (h10, .inr (5, [.ref h23, .ref h24, .ref h25, .ref h26, .int wp19306])), (h25, .inr (8, [.ref h28, .int wp19307])), (h28, .inl (y 1, 18, .inr (.inl wf19308))), (h26, .inr (8, [.ref h31, .int wp19309])), (h31, .inl (y 1, 3, .inr (.inl (fun _ => 0)))), (h23, .inr (8, [.ref h33, .int 0]))] H := hP
          replace hD : va_D A [(h0, .inr (11, [.ref h4, .ref h5, .ref h6, .ref h7, .ref h8, .ref h9, .ref h10, .ref h11, .ref h12, .ref h13, .ref h14, .ref h15, .ref h16, .ref h17, .int wp19301, .int wp19302, .int wp19303, .int wp19304, .int wp19305])), (h10, .inr (5, [.ref h23, .ref h24, .ref h25, .ref h26, .int wp19306])), (h25, .inr (8, [.ref h28, .int wp19307])), (h28, .inl (y 1, 18, .inr (.inl wf19308))), (h26, .inr (8, [.ref h31, .int wp19309])), (h31, .inl (y 1, 3, .inr (.inl (fun _ => 0)))), (h23, .inr (8, [.ref h33, .int 0]))] := hD
          obtain rfl := hq
          exact gx_out htab hlocks hce hcv hcl hP hD hS (Or.inr (Or.inr (Or.inr (Or.inr (Or.inr (Or.inr (Or.inr (Or.inl ⟨rfl, (by first | omega | (simp_all; done)), (by first | omega | (simp_all; done)), (by first | omega | (simp_all; done)), (by first | omega | (simp_all; done)), (by first | omega | (simp_all; done))⟩)))))))) (Nat.le_of_ble_eq_true rfl) (Nat.le_of_ble_eq_true rfl)
        ·
          clear hP hD hS H locs
          refine fun u H locs hq hP hD hS => ?_
          exact hq.elim
      ·
        obtain rfl : p3 = 3 := Int32.toInt_inj.mp (by rw [g_l3]; omega)
        replace hP : va_P D vwCl [(h0, .inr (11, [.ref h4, .ref h5, .ref h6, .ref h7, .ref h8, .ref h9, .ref h10, .ref h11, .ref h12, .ref h13, .ref h14, .ref h15, .ref h16, .ref h17, .int wp19301, .int wp19302, .int wp19303, .int wp19304, .int wp19305])), (h10, .inr (5, [.ref h23, .ref h24, .ref h25, .ref h26, .int wp19306])), (h25, .inr (8, [.ref h28, .int wp19307])), (h28, .inl (y 1, 18, .inr (.inl wf19308))), (h26, .inr (8, [.ref h31, .int wp19309])), (h31, .inl (y 1, 3, .inr (.inl (fun _ => 0)))), (h23, .inr (8, [.ref h33, .int 0]))] H := hP
        replace hD : va_D A [(h0, .inr (11, [.ref h4, .ref h5, .ref h6, .ref h7, .ref h8, .ref h9, .ref h10, .ref h11, .ref h12, .ref h13, .ref h14, .ref h15, .ref h16, .ref h17, .int wp19301, .int wp19302, .int wp19303, .int wp19304, .int wp19305])), (h10, .inr (5, [.ref h23, .ref h24, .ref h25, .ref h26, .int wp19306])), (h25, .inr (8, [.ref h28, .int wp19307])), (h28, .inl (y 1, 18, .inr (.inl wf19308))), (h26, .inr (8, [.ref h31, .int wp19309])), (h31, .inl (y 1, 3, .inr (.inl (fun _ => 0)))), (h23, .inr (8, [.ref h33, .int 0]))] := hD
        refine g_av (wr := [(h0, .inr (11, [.ref h4, .ref h5, .ref h6, .ref h7, .ref h8, .ref h9, .ref h10, .ref h11, .ref h12, .ref h13, .ref h14, .ref h15, .ref h16, .ref h17, .int wp19301, .int wp19302, .int wp19303, .int wp19304, .int wp19305])), (h10, .inr (5, [.ref h23, .ref h24, .ref h25, .ref h26, .int wp19306])), (h25, .inr (8, [.ref h28, .int wp19307])), (h28, .inl (y 1, 18, .inr (.inl wf19308))), (h26, .inr (8, [.ref h31, .int wp19309])), (h31, .inl (y 1, 3, .inr (.inl (fun _ => 0)))), (h23, .inr (8, [.ref h33, .int 0]))]) (va_runS (As := [.int 1]) (rest := []) ⟨hx, hb, hml, hown, hg⟩ (k_X11_needArgument_1 l D y aS H.size) (va_cwS 1 hg ggS_RX11_243_X11_needArgument rfl rfl rfl (by decide +kernel) ⟨Nat.le_of_ble_eq_true rfl, Nat.le_of_ble_eq_true rfl⟩) (g_preS hK hP hD [] rfl (by decide)) rfl rfl hl.1 rfl (lv_room (Nat.le_of_ble_eq_true rfl)) dX11_secret_17 ⟨Nat.le_of_ble_eq_true rfl, Nat.le_of_ble_eq_true rfl⟩) hP hD hS hA [] [0, 1, 2, 3, 4, 5, 6] rfl rfl (by decide) (by decide) ?_
        clear hP hD hS H locs
        refine fun u H locs hq hP hD hS => ?_
        replace hP : va_P D vwCl [(h0, .inr (11, [.ref h4, .ref h5, .ref h6, .ref h7, .ref h8, .ref h9, .ref h10, .ref h11, .ref h12, .ref h13, .ref h14, .ref h15, .ref h16, .ref h17, .int wp19301, .int wp19302, .int wp19303, .int wp19304, .int wp19305])), (h10, .inr (5, [.ref h23, .ref h24, .ref h25, .ref h26, .int wp19306])), (h25, .inr (8, [.ref h28, .int wp19307])), (h28, .inl (y 1, 18, .inr (.inl wf19308))), (h26, .inr (8, [.ref h31, .int wp19309])), (h31, .inl (y 1, 3, .inr (.inl (fun _ => 0)))), (h23, .inr (8, [.ref h33, .int 0]))] H := hP
        replace hD : va_D A [(h0, .inr (11, [.ref h4, .ref h5, .ref h6, .ref h7, .ref h8, .ref h9, .ref h10, .ref h11, .ref h12, .ref h13, .ref h14, .ref h15, .ref h16, .ref h17, .int wp19301, .int wp19302, .int wp19303, .int wp19304, .int wp19305])), (h10, .inr (5, [.ref h23, .ref h24, .ref h25, .ref h26, .int wp19306])), (h25, .inr (8, [.ref h28, .int wp19307])), (h28, .inl (y 1, 18, .inr (.inl wf19308))), (h26, .inr (8, [.ref h31, .int wp19309])), (h31, .inl (y 1, 3, .inr (.inl (fun _ => 0)))), (h23, .inr (8, [.ref h33, .int 0]))] := hD
        have hsp : p1 = 0 ∨ p1 = 1 ∨ p1 = 2 := by
          simp only [← Int32.toInt_inj, g_l0, g_l1, g_l2]; omega
        rcases hsp with rfl | rfl | rfl
        ·
          refine lv_aload_n hx hb dX11_secret_20 rfl (lv_at hl 0 rfl) ?_
          refine gm_get (D := D) (ci := 11) (v := .ref h10) (C := RX11) (T := TX11) (N := 19) hx hb hg inlX11 hown hK.1 hP 0 rfl rfl 6 (by decide) tX11_6 (hg _ gw_40) rfl dX11_secret_21 ?_
          refine lv_iload_n hx hb dX11_secret_24 rfl (lv_at hl 1 rfl) ?_
          refine lv_iload_n hx hb dX11_secret_25 rfl (lv_at hl 2 rfl) ?_
          refine lv_iload_n hx hb dX11_secret_26 rfl (lv_at hl 3 rfl) ?_
          refine g_ai (wr := [(h0, .inr (11, [.ref h4, .ref h5, .ref h6, .ref h7, .ref h8, .ref h9, .ref h10, .ref h11, .ref h12, .ref h13, .ref h14, .ref h15, .ref h16, .ref h17, .int wp19301, .int wp19302, .int wp19303, .int wp19304, .int wp19305]))]) (va_runV (As := [.int 0, .int p2, .int 3]) (rest := []) ⟨hx, hb, hml, hown, hg⟩ (k_X5_tellSecret_3 l D y aS H.size h10 p2 h23 h24 h25 h26 wp19306 h28 wp19307 wf19308 h31 wp19309 h33) (cwV 3 hg ggV_RX11_348_X5_tellSecret rfl rfl rfl (by decide +kernel) ⟨Nat.le_of_ble_eq_true rfl, Nat.le_of_ble_eq_true rfl⟩) (g_preV (q := (RX5, TX5, 5)) hK hP hD [1, 2, 3, 4, 5, 6] rfl (by decide) (ci := 5) (q0 := 1) rfl rfl) rfl rfl hl.1 rfl (lv_room (Nat.le_of_ble_eq_true rfl)) dX11_secret_27 ⟨Nat.le_of_ble_eq_true rfl, Nat.le_of_ble_eq_true rfl⟩) hP hD hS hA [1, 2, 3, 4, 5, 6] [0] rfl rfl (by decide) (by decide) ?_
          clear hP hD hS H locs
          refine fun r19404 u H locs hq hP hD hS => ?_
          subst hq
          replace hP : va_P D vwCl [(h0, .inr (11, [.ref h4, .ref h5, .ref h6, .ref h7, .ref h8, .ref h9, .ref h10, .ref h11, .ref h12, .ref h13, .ref h14, .ref h15, .ref h16, .ref h17, .int wp19301, .int wp19302, .int wp19303, .int wp19304, .int wp19305])), (h10, .inr (5, [.ref h23, .ref h24, .ref h25, .ref h26, .int 0])), (h25, .inr (8, [.ref h28, .int wp19307])), (h28, .inl (y 1, 18, .inr (.inl (vp_updL (vp_updL (vp_updL wf19308 ((2 : Int32).toNatClampNeg) ((p2 - p2 / 10 * 10).toInt64)) ((1 : Int32).toNatClampNeg) (((p2 / 10) - (p2 / 10) / 10 * 10).toInt64)) ((0 : Int32).toNatClampNeg) ((((p2 / 10) / 10) - ((p2 / 10) / 10) / 10 * 10).toInt64))))), (h26, .inr (8, [.ref h31, .int wp19309])), (h31, .inl (y 1, 3, .inr (.inl (vp_updL (fun _ => 0) ((0 : Int32).toNatClampNeg) 3)))), (h23, .inr (8, [.ref h33, .int 0]))] H := hP
          replace hD : va_D A [(h0, .inr (11, [.ref h4, .ref h5, .ref h6, .ref h7, .ref h8, .ref h9, .ref h10, .ref h11, .ref h12, .ref h13, .ref h14, .ref h15, .ref h16, .ref h17, .int wp19301, .int wp19302, .int wp19303, .int wp19304, .int wp19305])), (h10, .inr (5, [.ref h23, .ref h24, .ref h25, .ref h26, .int 0])), (h25, .inr (8, [.ref h28, .int wp19307])), (h28, .inl (y 1, 18, .inr (.inl (vp_updL (vp_updL (vp_updL wf19308 ((2 : Int32).toNatClampNeg) ((p2 - p2 / 10 * 10).toInt64)) ((1 : Int32).toNatClampNeg) (((p2 / 10) - (p2 / 10) / 10 * 10).toInt64)) ((0 : Int32).toNatClampNeg) ((((p2 / 10) / 10) - ((p2 / 10) / 10) / 10 * 10).toInt64))))), (h26, .inr (8, [.ref h31, .int wp19309])), (h31, .inl (y 1, 3, .inr (.inl (vp_updL (fun _ => 0) ((0 : Int32).toNatClampNeg) 3)))), (h23, .inr (8, [.ref h33, .int 0]))] := hD
          exact vx_ret (g_iret hx hb hr hlocks ⟨(vp_updL (vp_updL (vp_updL wf19308 ((2 : Int32).toNatClampNeg) ((p2 - p2 / 10 * 10).toInt64)) ((1 : Int32).toNatClampNeg) (((p2 / 10) - (p2 / 10) / 10 * 10).toInt64)) ((0 : Int32).toNatClampNeg) ((((p2 / 10) / 10) - ((p2 / 10) / 10) / 10 * 10).toInt64)), (vp_updL (fun _ => 0) ((0 : Int32).toNatClampNeg) 3)⟩ hP hD hS rfl (Or.inr (Or.inr (Or.inr (Or.inl ⟨rfl, rfl, rfl, (by first | omega | (simp_all; done)), (by first | omega | (simp_all; done)), (by first | omega | (simp_all; done)), (by first | omega | (simp_all; done)), (by first | omega | (simp_all; done)), (by first | omega | (simp_all; done))⟩)))) (Nat.le_of_ble_eq_true rfl) (Nat.le_of_ble_eq_true rfl) dX11_secret_30)
        ·
          refine lv_aload_n hx hb dX11_secret_20 rfl (lv_at hl 0 rfl) ?_
          refine gm_get (D := D) (ci := 11) (v := .ref h10) (C := RX11) (T := TX11) (N := 19) hx hb hg inlX11 hown hK.1 hP 0 rfl rfl 6 (by decide) tX11_6 (hg _ gw_40) rfl dX11_secret_21 ?_
          refine lv_iload_n hx hb dX11_secret_24 rfl (lv_at hl 1 rfl) ?_
          refine lv_iload_n hx hb dX11_secret_25 rfl (lv_at hl 2 rfl) ?_
          refine lv_iload_n hx hb dX11_secret_26 rfl (lv_at hl 3 rfl) ?_
          refine g_ai (wr := [(h0, .inr (11, [.ref h4, .ref h5, .ref h6, .ref h7, .ref h8, .ref h9, .ref h10, .ref h11, .ref h12, .ref h13, .ref h14, .ref h15, .ref h16, .ref h17, .int wp19301, .int wp19302, .int wp19303, .int wp19304, .int wp19305]))]) (va_runV (As := [.int 1, .int p2, .int 3]) (rest := []) ⟨hx, hb, hml, hown, hg⟩ (k_X5_tellSecret_4 l D y aS H.size h10 p2 h23 h24 h25 h26 wp19306 h28 wp19307 wf19308 h31 wp19309 h33) (cwV 3 hg ggV_RX11_348_X5_tellSecret rfl rfl rfl (by decide +kernel) ⟨Nat.le_of_ble_eq_true rfl, Nat.le_of_ble_eq_true rfl⟩) (g_preV (q := (RX5, TX5, 5)) hK hP hD [1, 2, 3, 4, 5, 6] rfl (by decide) (ci := 5) (q0 := 1) rfl rfl) rfl rfl hl.1 rfl (lv_room (Nat.le_of_ble_eq_true rfl)) dX11_secret_27 ⟨Nat.le_of_ble_eq_true rfl, Nat.le_of_ble_eq_true rfl⟩) hP hD hS hA [1, 2, 3, 4, 5, 6] [0] rfl rfl (by decide) (by decide) ?_
          clear hP hD hS H locs
          refine fun r19405 u H locs hq hP hD hS => ?_
          subst hq
          replace hP : va_P D vwCl [(h0, .inr (11, [.ref h4, .ref h5, .ref h6, .ref h7, .ref h8, .ref h9, .ref h10, .ref h11, .ref h12, .ref h13, .ref h14, .ref h15, .ref h16, .ref h17, .int wp19301, .int wp19302, .int wp19303, .int wp19304, .int wp19305])), (h10, .inr (5, [.ref h23, .ref h24, .ref h25, .ref h26, .int 0])), (h25, .inr (8, [.ref h28, .int wp19307])), (h28, .inl (y 1, 18, .inr (.inl (vp_updL (vp_updL (vp_updL wf19308 ((8 : Int32).toNatClampNeg) ((p2 - p2 / 10 * 10).toInt64)) ((7 : Int32).toNatClampNeg) (((p2 / 10) - (p2 / 10) / 10 * 10).toInt64)) ((6 : Int32).toNatClampNeg) ((((p2 / 10) / 10) - ((p2 / 10) / 10) / 10 * 10).toInt64))))), (h26, .inr (8, [.ref h31, .int wp19309])), (h31, .inl (y 1, 3, .inr (.inl (vp_updL (fun _ => 0) ((1 : Int32).toNatClampNeg) 3)))), (h23, .inr (8, [.ref h33, .int 0]))] H := hP
          replace hD : va_D A [(h0, .inr (11, [.ref h4, .ref h5, .ref h6, .ref h7, .ref h8, .ref h9, .ref h10, .ref h11, .ref h12, .ref h13, .ref h14, .ref h15, .ref h16, .ref h17, .int wp19301, .int wp19302, .int wp19303, .int wp19304, .int wp19305])), (h10, .inr (5, [.ref h23, .ref h24, .ref h25, .ref h26, .int 0])), (h25, .inr (8, [.ref h28, .int wp19307])), (h28, .inl (y 1, 18, .inr (.inl (vp_updL (vp_updL (vp_updL wf19308 ((8 : Int32).toNatClampNeg) ((p2 - p2 / 10 * 10).toInt64)) ((7 : Int32).toNatClampNeg) (((p2 / 10) - (p2 / 10) / 10 * 10).toInt64)) ((6 : Int32).toNatClampNeg) ((((p2 / 10) / 10) - ((p2 / 10) / 10) / 10 * 10).toInt64))))), (h26, .inr (8, [.ref h31, .int wp19309])), (h31, .inl (y 1, 3, .inr (.inl (vp_updL (fun _ => 0) ((1 : Int32).toNatClampNeg) 3)))), (h23, .inr (8, [.ref h33, .int 0]))] := hD
          exact vx_ret (g_iret hx hb hr hlocks ⟨(vp_updL (vp_updL (vp_updL wf19308 ((8 : Int32).toNatClampNeg) ((p2 - p2 / 10 * 10).toInt64)) ((7 : Int32).toNatClampNeg) (((p2 / 10) - (p2 / 10) / 10 * 10).toInt64)) ((6 : Int32).toNatClampNeg) ((((p2 / 10) / 10) - ((p2 / 10) / 10) / 10 * 10).toInt64)), (vp_updL (fun _ => 0) ((1 : Int32).toNatClampNeg) 3)⟩ hP hD hS rfl (Or.inr (Or.inr (Or.inr (Or.inr (Or.inl ⟨rfl, rfl, rfl, (by first | omega | (simp_all; done)), (by first | omega | (simp_all; done)), (by first | omega | (simp_all; done)), (by first | omega | (simp_all; done)), (by first | omega | (simp_all; done)), (by first | omega | (simp_all; done))⟩))))) (Nat.le_of_ble_eq_true rfl) (Nat.le_of_ble_eq_true rfl) dX11_secret_30)
        ·
          refine lv_aload_n hx hb dX11_secret_20 rfl (lv_at hl 0 rfl) ?_
          refine gm_get (D := D) (ci := 11) (v := .ref h10) (C := RX11) (T := TX11) (N := 19) hx hb hg inlX11 hown hK.1 hP 0 rfl rfl 6 (by decide) tX11_6 (hg _ gw_40) rfl dX11_secret_21 ?_
          refine lv_iload_n hx hb dX11_secret_24 rfl (lv_at hl 1 rfl) ?_
          refine lv_iload_n hx hb dX11_secret_25 rfl (lv_at hl 2 rfl) ?_
          refine lv_iload_n hx hb dX11_secret_26 rfl (lv_at hl 3 rfl) ?_
          refine g_ai (wr := [(h0, .inr (11, [.ref h4, .ref h5, .ref h6, .ref h7, .ref h8, .ref h9, .ref h10, .ref h11, .ref h12, .ref h13, .ref h14, .ref h15, .ref h16, .ref h17, .int wp19301, .int wp19302, .int wp19303, .int wp19304, .int wp19305]))]) (va_runV (As := [.int 2, .int p2, .int 3]) (rest := []) ⟨hx, hb, hml, hown, hg⟩ (k_X5_tellSecret_5 l D y aS H.size h10 p2 h23 h24 h25 h26 wp19306 h28 wp19307 wf19308 h31 wp19309 h33) (cwV 3 hg ggV_RX11_348_X5_tellSecret rfl rfl rfl (by decide +kernel) ⟨Nat.le_of_ble_eq_true rfl, Nat.le_of_ble_eq_true rfl⟩) (g_preV (q := (RX5, TX5, 5)) hK hP hD [1, 2, 3, 4, 5, 6] rfl (by decide) (ci := 5) (q0 := 1) rfl rfl) rfl rfl hl.1 rfl (lv_room (Nat.le_of_ble_eq_true rfl)) dX11_secret_27 ⟨Nat.le_of_ble_eq_true rfl, Nat.le_of_ble_eq_true rfl⟩) hP hD hS hA [1, 2, 3, 4, 5, 6] [0] rfl rfl (by decide) (by decide) ?_
          clear hP hD hS H locs
          refine fun r19406 u H locs hq hP hD hS => ?_
          subst hq
          replace hP : va_P D vwCl [(h0, .inr (11, [.ref h4, .ref h5, .ref h6, .ref h7, .ref h8, .ref h9, .ref h10, .ref h11, .ref h12, .ref h13, .ref h14, .ref h15, .ref h16, .ref h17, .int wp19301, .int wp19302, .int wp19303, .int wp19304, .int wp19305])), (h10, .inr (5, [.ref h23, .ref h24, .ref h25, .ref h26, .int 0])), (h25, .inr (8, [.ref h28, .int wp19307])), (h28, .inl (y 1, 18, .inr (.inl (vp_updL (vp_updL (vp_updL wf19308 ((14 : Int32).toNatClampNeg) ((p2 - p2 / 10 * 10).toInt64)) ((13 : Int32).toNatClampNeg) (((p2 / 10) - (p2 / 10) / 10 * 10).toInt64)) ((12 : Int32).toNatClampNeg) ((((p2 / 10) / 10) - ((p2 / 10) / 10) / 10 * 10).toInt64))))), (h26, .inr (8, [.ref h31, .int wp19309])), (h31, .inl (y 1, 3, .inr (.inl (vp_updL (fun _ => 0) ((2 : Int32).toNatClampNeg) 3)))), (h23, .inr (8, [.ref h33, .int 0]))] H := hP
          replace hD : va_D A [(h0, .inr (11, [.ref h4, .ref h5, .ref h6, .ref h7, .ref h8, .ref h9, .ref h10, .ref h11, .ref h12, .ref h13, .ref h14, .ref h15, .ref h16, .ref h17, .int wp19301, .int wp19302, .int wp19303, .int wp19304, .int wp19305])), (h10, .inr (5, [.ref h23, .ref h24, .ref h25, .ref h26, .int 0])), (h25, .inr (8, [.ref h28, .int wp19307])), (h28, .inl (y 1, 18, .inr (.inl (vp_updL (vp_updL (vp_updL wf19308 ((14 : Int32).toNatClampNeg) ((p2 - p2 / 10 * 10).toInt64)) ((13 : Int32).toNatClampNeg) (((p2 / 10) - (p2 / 10) / 10 * 10).toInt64)) ((12 : Int32).toNatClampNeg) ((((p2 / 10) / 10) - ((p2 / 10) / 10) / 10 * 10).toInt64))))), (h26, .inr (8, [.ref h31, .int wp19309])), (h31, .inl (y 1, 3, .inr (.inl (vp_updL (fun _ => 0) ((2 : Int32).toNatClampNeg) 3)))), (h23, .inr (8, [.ref h33, .int 0]))] := hD
          exact vx_ret (g_iret hx hb hr hlocks ⟨(vp_updL (vp_updL (vp_updL wf19308 ((14 : Int32).toNatClampNeg) ((p2 - p2 / 10 * 10).toInt64)) ((13 : Int32).toNatClampNeg) (((p2 / 10) - (p2 / 10) / 10 * 10).toInt64)) ((12 : Int32).toNatClampNeg) ((((p2 / 10) / 10) - ((p2 / 10) / 10) / 10 * 10).toInt64)), (vp_updL (fun _ => 0) ((2 : Int32).toNatClampNeg) 3)⟩ hP hD hS rfl (Or.inr (Or.inr (Or.inr (Or.inr (Or.inr (Or.inl ⟨rfl, rfl, rfl, (by first | omega | (simp_all; done)), (by first | omega | (simp_all; done)), (by first | omega | (simp_all; done)), (by first | omega | (simp_all; done)), (by first | omega | (simp_all; done)), (by first | omega | (simp_all; done))⟩)))))) (Nat.le_of_ble_eq_true rfl) (Nat.le_of_ble_eq_true rfl) dX11_secret_30)
      ·
        obtain rfl : p3 = 4 := Int32.toInt_inj.mp (by rw [g_l4]; omega)
        replace hP : va_P D vwCl [(h0, .inr (11, [.ref h4, .ref h5, .ref h6, .ref h7, .ref h8, .ref h9, .ref h10, .ref h11, .ref h12, .ref h13, .ref h14, .ref h15, .ref h16, .ref h17, .int wp19301, .int wp19302, .int wp19303, .int wp19304, .int wp19305])), (h10, .inr (5, [.ref h23, .ref h24, .ref h25, .ref h26, .int wp19306])), (h25, .inr (8, [.ref h28, .int wp19307])), (h28, .inl (y 1, 18, .inr (.inl wf19308))), (h26, .inr (8, [.ref h31, .int wp19309])), (h31, .inl (y 1, 3, .inr (.inl (fun _ => 0)))), (h23, .inr (8, [.ref h33, .int 0]))] H := hP
        replace hD : va_D A [(h0, .inr (11, [.ref h4, .ref h5, .ref h6, .ref h7, .ref h8, .ref h9, .ref h10, .ref h11, .ref h12, .ref h13, .ref h14, .ref h15, .ref h16, .ref h17, .int wp19301, .int wp19302, .int wp19303, .int wp19304, .int wp19305])), (h10, .inr (5, [.ref h23, .ref h24, .ref h25, .ref h26, .int wp19306])), (h25, .inr (8, [.ref h28, .int wp19307])), (h28, .inl (y 1, 18, .inr (.inl wf19308))), (h26, .inr (8, [.ref h31, .int wp19309])), (h31, .inl (y 1, 3, .inr (.inl (fun _ => 0)))), (h23, .inr (8, [.ref h33, .int 0]))] := hD
        refine gx_av (wr := [(h0, .inr (11, [.ref h4, .ref h5, .ref h6, .ref h7, .ref h8, .ref h9, .ref h10, .ref h11, .ref h12, .ref h13, .ref h14, .ref h15, .ref h16, .ref h17, .int wp19301, .int wp19302, .int wp19303, .int wp19304, .int wp19305])), (h10, .inr (5, [.ref h23, .ref h24, .ref h25, .ref h26, .int wp19306])), (h25, .inr (8, [.ref h28, .int wp19307])), (h28, .inl (y 1, 18, .inr (.inl wf19308))), (h26, .inr (8, [.ref h31, .int wp19309])), (h31, .inl (y 1, 3, .inr (.inl (fun _ => 0)))), (h23, .inr (8, [.ref h33, .int 0]))]) (vx_runS (As := [.int 0]) (rest := []) ⟨hx, hb, hml, hown, hg⟩ (k_X11_needArgument_0 l hfl D y aS H.size) (va_cwS 1 hg ggS_RX11_243_X11_needArgument rfl rfl rfl (by decide +kernel) ⟨Nat.le_of_ble_eq_true rfl, Nat.le_of_ble_eq_true rfl⟩) (gx_preS hZ hS hA hK hP hD [] rfl (by decide)) rfl rfl hl.1 rfl (lv_room (Nat.le_of_ble_eq_true rfl)) dX11_secret_17 ⟨Nat.le_of_ble_eq_true rfl, Nat.le_of_ble_eq_true rfl⟩) hP hD hS hA [] [0, 1, 2, 3, 4, 5, 6] rfl rfl (by decide) (by decide) ?_ ?_
        ·
          clear hP hD hS H locs
          refine fun E ce q9 H locs hq hP hD hS hce hcv hcl => ?_
          replace hP : va_P D vwCl [(h0, .inr (11, [.ref h4, .ref h5, .ref h6, .ref h7, .ref h8, .ref h9, .ref h10, .ref h11, .ref h12, .ref h13, .ref h14, .ref h15, .ref h16, .ref h17, .int wp19301, .int wp19302, .int wp19303, .int wp19304, .int wp19305])), (h10, .inr (5, [.ref h23, .ref h24, .ref h25, .ref h26, .int wp19306])), (h25, .inr (8, [.ref h28, .int wp19307])), (h28, .inl (y 1, 18, .inr (.inl wf19308))), (h26, .inr (8, [.ref h31, .int wp19309])), (h31, .inl (y 1, 3, .inr (.inl (fun _ => 0)))), (h23, .inr (8, [.ref h33, .int 0]))] H := hP
          replace hD : va_D A [(h0, .inr (11, [.ref h4, .ref h5, .ref h6, .ref h7, .ref h8, .ref h9, .ref h10, .ref h11, .ref h12, .ref h13, .ref h14, .ref h15, .ref h16, .ref h17, .int wp19301, .int wp19302, .int wp19303, .int wp19304, .int wp19305])), (h10, .inr (5, [.ref h23, .ref h24, .ref h25, .ref h26, .int wp19306])), (h25, .inr (8, [.ref h28, .int wp19307])), (h28, .inl (y 1, 18, .inr (.inl wf19308))), (h26, .inr (8, [.ref h31, .int wp19309])), (h31, .inl (y 1, 3, .inr (.inl (fun _ => 0)))), (h23, .inr (8, [.ref h33, .int 0]))] := hD
          obtain rfl := hq
          exact gx_out htab hlocks hce hcv hcl hP hD hS (Or.inr (Or.inr (Or.inr (Or.inr (Or.inr (Or.inr (Or.inr (Or.inr (Or.inl ⟨rfl, (by first | omega | (simp_all; done)), (by first | omega | (simp_all; done)), (by first | omega | (simp_all; done)), (by first | omega | (simp_all; done)), (by first | omega | (simp_all; done))⟩))))))))) (Nat.le_of_ble_eq_true rfl) (Nat.le_of_ble_eq_true rfl)
        ·
          clear hP hD hS H locs
          refine fun u H locs hq hP hD hS => ?_
          exact hq.elim
      ·
        obtain rfl : p3 = 4 := Int32.toInt_inj.mp (by rw [g_l4]; omega)
        replace hP : va_P D vwCl [(h0, .inr (11, [.ref h4, .ref h5, .ref h6, .ref h7, .ref h8, .ref h9, .ref h10, .ref h11, .ref h12, .ref h13, .ref h14, .ref h15, .ref h16, .ref h17, .int wp19301, .int wp19302, .int wp19303, .int wp19304, .int wp19305])), (h10, .inr (5, [.ref h23, .ref h24, .ref h25, .ref h26, .int wp19306])), (h25, .inr (8, [.ref h28, .int wp19307])), (h28, .inl (y 1, 18, .inr (.inl wf19308))), (h26, .inr (8, [.ref h31, .int wp19309])), (h31, .inl (y 1, 3, .inr (.inl (fun _ => 0)))), (h23, .inr (8, [.ref h33, .int 0]))] H := hP
        replace hD : va_D A [(h0, .inr (11, [.ref h4, .ref h5, .ref h6, .ref h7, .ref h8, .ref h9, .ref h10, .ref h11, .ref h12, .ref h13, .ref h14, .ref h15, .ref h16, .ref h17, .int wp19301, .int wp19302, .int wp19303, .int wp19304, .int wp19305])), (h10, .inr (5, [.ref h23, .ref h24, .ref h25, .ref h26, .int wp19306])), (h25, .inr (8, [.ref h28, .int wp19307])), (h28, .inl (y 1, 18, .inr (.inl wf19308))), (h26, .inr (8, [.ref h31, .int wp19309])), (h31, .inl (y 1, 3, .inr (.inl (fun _ => 0)))), (h23, .inr (8, [.ref h33, .int 0]))] := hD
        refine gx_av (wr := [(h0, .inr (11, [.ref h4, .ref h5, .ref h6, .ref h7, .ref h8, .ref h9, .ref h10, .ref h11, .ref h12, .ref h13, .ref h14, .ref h15, .ref h16, .ref h17, .int wp19301, .int wp19302, .int wp19303, .int wp19304, .int wp19305])), (h10, .inr (5, [.ref h23, .ref h24, .ref h25, .ref h26, .int wp19306])), (h25, .inr (8, [.ref h28, .int wp19307])), (h28, .inl (y 1, 18, .inr (.inl wf19308))), (h26, .inr (8, [.ref h31, .int wp19309])), (h31, .inl (y 1, 3, .inr (.inl (fun _ => 0)))), (h23, .inr (8, [.ref h33, .int 0]))]) (vx_runS (As := [.int 0]) (rest := []) ⟨hx, hb, hml, hown, hg⟩ (k_X11_needArgument_0 l hfl D y aS H.size) (va_cwS 1 hg ggS_RX11_243_X11_needArgument rfl rfl rfl (by decide +kernel) ⟨Nat.le_of_ble_eq_true rfl, Nat.le_of_ble_eq_true rfl⟩) (gx_preS hZ hS hA hK hP hD [] rfl (by decide)) rfl rfl hl.1 rfl (lv_room (Nat.le_of_ble_eq_true rfl)) dX11_secret_17 ⟨Nat.le_of_ble_eq_true rfl, Nat.le_of_ble_eq_true rfl⟩) hP hD hS hA [] [0, 1, 2, 3, 4, 5, 6] rfl rfl (by decide) (by decide) ?_ ?_
        ·
          clear hP hD hS H locs
          refine fun E ce q9 H locs hq hP hD hS hce hcv hcl => ?_
          replace hP : va_P D vwCl [(h0, .inr (11, [.ref h4, .ref h5, .ref h6, .ref h7, .ref h8, .ref h9, .ref h10, .ref h11, .ref h12, .ref h13, .ref h14, .ref h15, .ref h16, .ref h17, .int wp19301, .int wp19302, .int wp19303, .int wp19304, .int wp19305])), (h10, .inr (5, [.ref h23, .ref h24, .ref h25, .ref h26, .int wp19306])), (h25, .inr (8, [.ref h28, .int wp19307])), (h28, .inl (y 1, 18, .inr (.inl wf19308))), (h26, .inr (8, [.ref h31, .int wp19309])), (h31, .inl (y 1, 3, .inr (.inl (fun _ => 0)))), (h23, .inr (8, [.ref h33, .int 0]))] H := hP
          replace hD : va_D A [(h0, .inr (11, [.ref h4, .ref h5, .ref h6, .ref h7, .ref h8, .ref h9, .ref h10, .ref h11, .ref h12, .ref h13, .ref h14, .ref h15, .ref h16, .ref h17, .int wp19301, .int wp19302, .int wp19303, .int wp19304, .int wp19305])), (h10, .inr (5, [.ref h23, .ref h24, .ref h25, .ref h26, .int wp19306])), (h25, .inr (8, [.ref h28, .int wp19307])), (h28, .inl (y 1, 18, .inr (.inl wf19308))), (h26, .inr (8, [.ref h31, .int wp19309])), (h31, .inl (y 1, 3, .inr (.inl (fun _ => 0)))), (h23, .inr (8, [.ref h33, .int 0]))] := hD
          obtain rfl := hq
          exact gx_out htab hlocks hce hcv hcl hP hD hS (Or.inr (Or.inr (Or.inr (Or.inr (Or.inr (Or.inr (Or.inr (Or.inr (Or.inr (Or.inl ⟨rfl, (by first | omega | (simp_all; done)), (by first | omega | (simp_all; done)), (by first | omega | (simp_all; done)), (by first | omega | (simp_all; done)), (by first | omega | (simp_all; done))⟩)))))))))) (Nat.le_of_ble_eq_true rfl) (Nat.le_of_ble_eq_true rfl)
        ·
          clear hP hD hS H locs
          refine fun u H locs hq hP hD hS => ?_
          exact hq.elim
      ·
        obtain rfl : p3 = 4 := Int32.toInt_inj.mp (by rw [g_l4]; omega)
        replace hP : va_P D vwCl [(h0, .inr (11, [.ref h4, .ref h5, .ref h6, .ref h7, .ref h8, .ref h9, .ref h10, .ref h11, .ref h12, .ref h13, .ref h14, .ref h15, .ref h16, .ref h17, .int wp19301, .int wp19302, .int wp19303, .int wp19304, .int wp19305])), (h10, .inr (5, [.ref h23, .ref h24, .ref h25, .ref h26, .int wp19306])), (h25, .inr (8, [.ref h28, .int wp19307])), (h28, .inl (y 1, 18, .inr (.inl wf19308))), (h26, .inr (8, [.ref h31, .int wp19309])), (h31, .inl (y 1, 3, .inr (.inl (fun _ => 0)))), (h23, .inr (8, [.ref h33, .int 0]))] H := hP
        replace hD : va_D A [(h0, .inr (11, [.ref h4, .ref h5, .ref h6, .ref h7, .ref h8, .ref h9, .ref h10, .ref h11, .ref h12, .ref h13, .ref h14, .ref h15, .ref h16, .ref h17, .int wp19301, .int wp19302, .int wp19303, .int wp19304, .int wp19305])), (h10, .inr (5, [.ref h23, .ref h24, .ref h25, .ref h26, .int wp19306])), (h25, .inr (8, [.ref h28, .int wp19307])), (h28, .inl (y 1, 18, .inr (.inl wf19308))), (h26, .inr (8, [.ref h31, .int wp19309])), (h31, .inl (y 1, 3, .inr (.inl (fun _ => 0)))), (h23, .inr (8, [.ref h33, .int 0]))] := hD
        refine g_av (wr := [(h0, .inr (11, [.ref h4, .ref h5, .ref h6, .ref h7, .ref h8, .ref h9, .ref h10, .ref h11, .ref h12, .ref h13, .ref h14, .ref h15, .ref h16, .ref h17, .int wp19301, .int wp19302, .int wp19303, .int wp19304, .int wp19305])), (h10, .inr (5, [.ref h23, .ref h24, .ref h25, .ref h26, .int wp19306])), (h25, .inr (8, [.ref h28, .int wp19307])), (h28, .inl (y 1, 18, .inr (.inl wf19308))), (h26, .inr (8, [.ref h31, .int wp19309])), (h31, .inl (y 1, 3, .inr (.inl (fun _ => 0)))), (h23, .inr (8, [.ref h33, .int 0]))]) (va_runS (As := [.int 1]) (rest := []) ⟨hx, hb, hml, hown, hg⟩ (k_X11_needArgument_1 l D y aS H.size) (va_cwS 1 hg ggS_RX11_243_X11_needArgument rfl rfl rfl (by decide +kernel) ⟨Nat.le_of_ble_eq_true rfl, Nat.le_of_ble_eq_true rfl⟩) (g_preS hK hP hD [] rfl (by decide)) rfl rfl hl.1 rfl (lv_room (Nat.le_of_ble_eq_true rfl)) dX11_secret_17 ⟨Nat.le_of_ble_eq_true rfl, Nat.le_of_ble_eq_true rfl⟩) hP hD hS hA [] [0, 1, 2, 3, 4, 5, 6] rfl rfl (by decide) (by decide) ?_
        clear hP hD hS H locs
        refine fun u H locs hq hP hD hS => ?_
        replace hP : va_P D vwCl [(h0, .inr (11, [.ref h4, .ref h5, .ref h6, .ref h7, .ref h8, .ref h9, .ref h10, .ref h11, .ref h12, .ref h13, .ref h14, .ref h15, .ref h16, .ref h17, .int wp19301, .int wp19302, .int wp19303, .int wp19304, .int wp19305])), (h10, .inr (5, [.ref h23, .ref h24, .ref h25, .ref h26, .int wp19306])), (h25, .inr (8, [.ref h28, .int wp19307])), (h28, .inl (y 1, 18, .inr (.inl wf19308))), (h26, .inr (8, [.ref h31, .int wp19309])), (h31, .inl (y 1, 3, .inr (.inl (fun _ => 0)))), (h23, .inr (8, [.ref h33, .int 0]))] H := hP
        replace hD : va_D A [(h0, .inr (11, [.ref h4, .ref h5, .ref h6, .ref h7, .ref h8, .ref h9, .ref h10, .ref h11, .ref h12, .ref h13, .ref h14, .ref h15, .ref h16, .ref h17, .int wp19301, .int wp19302, .int wp19303, .int wp19304, .int wp19305])), (h10, .inr (5, [.ref h23, .ref h24, .ref h25, .ref h26, .int wp19306])), (h25, .inr (8, [.ref h28, .int wp19307])), (h28, .inl (y 1, 18, .inr (.inl wf19308))), (h26, .inr (8, [.ref h31, .int wp19309])), (h31, .inl (y 1, 3, .inr (.inl (fun _ => 0)))), (h23, .inr (8, [.ref h33, .int 0]))] := hD
        have hsp : p1 = 0 ∨ p1 = 1 ∨ p1 = 2 := by
          simp only [← Int32.toInt_inj, g_l0, g_l1, g_l2]; omega
        rcases hsp with rfl | rfl | rfl
        ·
          refine lv_aload_n hx hb dX11_secret_20 rfl (lv_at hl 0 rfl) ?_
          refine gm_get (D := D) (ci := 11) (v := .ref h10) (C := RX11) (T := TX11) (N := 19) hx hb hg inlX11 hown hK.1 hP 0 rfl rfl 6 (by decide) tX11_6 (hg _ gw_40) rfl dX11_secret_21 ?_
          refine lv_iload_n hx hb dX11_secret_24 rfl (lv_at hl 1 rfl) ?_
          refine lv_iload_n hx hb dX11_secret_25 rfl (lv_at hl 2 rfl) ?_
          refine lv_iload_n hx hb dX11_secret_26 rfl (lv_at hl 3 rfl) ?_
          refine g_ai (wr := [(h0, .inr (11, [.ref h4, .ref h5, .ref h6, .ref h7, .ref h8, .ref h9, .ref h10, .ref h11, .ref h12, .ref h13, .ref h14, .ref h15, .ref h16, .ref h17, .int wp19301, .int wp19302, .int wp19303, .int wp19304, .int wp19305]))]) (va_runV (As := [.int 0, .int p2, .int 4]) (rest := []) ⟨hx, hb, hml, hown, hg⟩ (k_X5_tellSecret_6 l D y aS H.size h10 p2 h23 h24 h25 h26 wp19306 h28 wp19307 wf19308 h31 wp19309 h33) (cwV 3 hg ggV_RX11_348_X5_tellSecret rfl rfl rfl (by decide +kernel) ⟨Nat.le_of_ble_eq_true rfl, Nat.le_of_ble_eq_true rfl⟩) (g_preV (q := (RX5, TX5, 5)) hK hP hD [1, 2, 3, 4, 5, 6] rfl (by decide) (ci := 5) (q0 := 1) rfl rfl) rfl rfl hl.1 rfl (lv_room (Nat.le_of_ble_eq_true rfl)) dX11_secret_27 ⟨Nat.le_of_ble_eq_true rfl, Nat.le_of_ble_eq_true rfl⟩) hP hD hS hA [1, 2, 3, 4, 5, 6] [0] rfl rfl (by decide) (by decide) ?_
          clear hP hD hS H locs
          refine fun r19410 u H locs hq hP hD hS => ?_
          subst hq
          replace hP : va_P D vwCl [(h0, .inr (11, [.ref h4, .ref h5, .ref h6, .ref h7, .ref h8, .ref h9, .ref h10, .ref h11, .ref h12, .ref h13, .ref h14, .ref h15, .ref h16, .ref h17, .int wp19301, .int wp19302, .int wp19303, .int wp19304, .int wp19305])), (h10, .inr (5, [.ref h23, .ref h24, .ref h25, .ref h26, .int 0])), (h25, .inr (8, [.ref h28, .int wp19307])), (h28, .inl (y 1, 18, .inr (.inl (vp_updL (vp_updL (vp_updL (vp_updL wf19308 ((3 : Int32).toNatClampNeg) ((p2 - p2 / 10 * 10).toInt64)) ((2 : Int32).toNatClampNeg) (((p2 / 10) - (p2 / 10) / 10 * 10).toInt64)) ((1 : Int32).toNatClampNeg) ((((p2 / 10) / 10) - ((p2 / 10) / 10) / 10 * 10).toInt64)) ((0 : Int32).toNatClampNeg) (((((p2 / 10) / 10) / 10) - (((p2 / 10) / 10) / 10) / 10 * 10).toInt64))))), (h26, .inr (8, [.ref h31, .int wp19309])), (h31, .inl (y 1, 3, .inr (.inl (vp_updL (fun _ => 0) ((0 : Int32).toNatClampNeg) 4)))), (h23, .inr (8, [.ref h33, .int 0]))] H := hP
          replace hD : va_D A [(h0, .inr (11, [.ref h4, .ref h5, .ref h6, .ref h7, .ref h8, .ref h9, .ref h10, .ref h11, .ref h12, .ref h13, .ref h14, .ref h15, .ref h16, .ref h17, .int wp19301, .int wp19302, .int wp19303, .int wp19304, .int wp19305])), (h10, .inr (5, [.ref h23, .ref h24, .ref h25, .ref h26, .int 0])), (h25, .inr (8, [.ref h28, .int wp19307])), (h28, .inl (y 1, 18, .inr (.inl (vp_updL (vp_updL (vp_updL (vp_updL wf19308 ((3 : Int32).toNatClampNeg) ((p2 - p2 / 10 * 10).toInt64)) ((2 : Int32).toNatClampNeg) (((p2 / 10) - (p2 / 10) / 10 * 10).toInt64)) ((1 : Int32).toNatClampNeg) ((((p2 / 10) / 10) - ((p2 / 10) / 10) / 10 * 10).toInt64)) ((0 : Int32).toNatClampNeg) (((((p2 / 10) / 10) / 10) - (((p2 / 10) / 10) / 10) / 10 * 10).toInt64))))), (h26, .inr (8, [.ref h31, .int wp19309])), (h31, .inl (y 1, 3, .inr (.inl (vp_updL (fun _ => 0) ((0 : Int32).toNatClampNeg) 4)))), (h23, .inr (8, [.ref h33, .int 0]))] := hD
          exact vx_ret (g_iret hx hb hr hlocks ⟨(vp_updL (vp_updL (vp_updL (vp_updL wf19308 ((3 : Int32).toNatClampNeg) ((p2 - p2 / 10 * 10).toInt64)) ((2 : Int32).toNatClampNeg) (((p2 / 10) - (p2 / 10) / 10 * 10).toInt64)) ((1 : Int32).toNatClampNeg) ((((p2 / 10) / 10) - ((p2 / 10) / 10) / 10 * 10).toInt64)) ((0 : Int32).toNatClampNeg) (((((p2 / 10) / 10) / 10) - (((p2 / 10) / 10) / 10) / 10 * 10).toInt64)), (vp_updL (fun _ => 0) ((0 : Int32).toNatClampNeg) 4)⟩ hP hD hS rfl (Or.inr (Or.inr (Or.inr (Or.inr (Or.inr (Or.inr (Or.inl ⟨rfl, rfl, rfl, (by first | omega | (simp_all; done)), (by first | omega | (simp_all; done)), (by first | omega | (simp_all; done)), (by first | omega | (simp_all; done)), (by first | omega | (simp_all; done)), (by first | omega | (simp_all; done))⟩))))))) (Nat.le_of_ble_eq_true rfl) (Nat.le_of_ble_eq_true rfl) dX11_secret_30)
        ·
          refine lv_aload_n hx hb dX11_secret_20 rfl (lv_at hl 0 rfl) ?_
          refine gm_get (D := D) (ci := 11) (v := .ref h10) (C := RX11) (T := TX11) (N := 19) hx hb hg inlX11 hown hK.1 hP 0 rfl rfl 6 (by decide) tX11_6 (hg _ gw_40) rfl dX11_secret_21 ?_
          refine lv_iload_n hx hb dX11_secret_24 rfl (lv_at hl 1 rfl) ?_
          refine lv_iload_n hx hb dX11_secret_25 rfl (lv_at hl 2 rfl) ?_
          refine lv_iload_n hx hb dX11_secret_26 rfl (lv_at hl 3 rfl) ?_
          refine g_ai (wr := [(h0, .inr (11, [.ref h4, .ref h5, .ref h6, .ref h7, .ref h8, .ref h9, .ref h10, .ref h11, .ref h12, .ref h13, .ref h14, .ref h15, .ref h16, .ref h17, .int wp19301, .int wp19302, .int wp19303, .int wp19304, .int wp19305]))]) (va_runV (As := [.int 1, .int p2, .int 4]) (rest := []) ⟨hx, hb, hml, hown, hg⟩ (k_X5_tellSecret_7 l D y aS H.size h10 p2 h23 h24 h25 h26 wp19306 h28 wp19307 wf19308 h31 wp19309 h33) (cwV 3 hg ggV_RX11_348_X5_tellSecret rfl rfl rfl (by decide +kernel) ⟨Nat.le_of_ble_eq_true rfl, Nat.le_of_ble_eq_true rfl⟩) (g_preV (q := (RX5, TX5, 5)) hK hP hD [1, 2, 3, 4, 5, 6] rfl (by decide) (ci := 5) (q0 := 1) rfl rfl) rfl rfl hl.1 rfl (lv_room (Nat.le_of_ble_eq_true rfl)) dX11_secret_27 ⟨Nat.le_of_ble_eq_true rfl, Nat.le_of_ble_eq_true rfl⟩) hP hD hS hA [1, 2, 3, 4, 5, 6] [0] rfl rfl (by decide) (by decide) ?_
          clear hP hD hS H locs
          refine fun r19411 u H locs hq hP hD hS => ?_
          subst hq
          replace hP : va_P D vwCl [(h0, .inr (11, [.ref h4, .ref h5, .ref h6, .ref h7, .ref h8, .ref h9, .ref h10, .ref h11, .ref h12, .ref h13, .ref h14, .ref h15, .ref h16, .ref h17, .int wp19301, .int wp19302, .int wp19303, .int wp19304, .int wp19305])), (h10, .inr (5, [.ref h23, .ref h24, .ref h25, .ref h26, .int 0])), (h25, .inr (8, [.ref h28, .int wp19307])), (h28, .inl (y 1, 18, .inr (.inl (vp_updL (vp_updL (vp_updL (vp_updL wf19308 ((9 : Int32).toNatClampNeg) ((p2 - p2 / 10 * 10).toInt64)) ((8 : Int32).toNatClampNeg) (((p2 / 10) - (p2 / 10) / 10 * 10).toInt64)) ((7 : Int32).toNatClampNeg) ((((p2 / 10) / 10) - ((p2 / 10) / 10) / 10 * 10).toInt64)) ((6 : Int32).toNatClampNeg) (((((p2 / 10) / 10) / 10) - (((p2 / 10) / 10) / 10) / 10 * 10).toInt64))))), (h26, .inr (8, [.ref h31, .int wp19309])), (h31, .inl (y 1, 3, .inr (.inl (vp_updL (fun _ => 0) ((1 : Int32).toNatClampNeg) 4)))), (h23, .inr (8, [.ref h33, .int 0]))] H := hP
          replace hD : va_D A [(h0, .inr (11, [.ref h4, .ref h5, .ref h6, .ref h7, .ref h8, .ref h9, .ref h10, .ref h11, .ref h12, .ref h13, .ref h14, .ref h15, .ref h16, .ref h17, .int wp19301, .int wp19302, .int wp19303, .int wp19304, .int wp19305])), (h10, .inr (5, [.ref h23, .ref h24, .ref h25, .ref h26, .int 0])), (h25, .inr (8, [.ref h28, .int wp19307])), (h28, .inl (y 1, 18, .inr (.inl (vp_updL (vp_updL (vp_updL (vp_updL wf19308 ((9 : Int32).toNatClampNeg) ((p2 - p2 / 10 * 10).toInt64)) ((8 : Int32).toNatClampNeg) (((p2 / 10) - (p2 / 10) / 10 * 10).toInt64)) ((7 : Int32).toNatClampNeg) ((((p2 / 10) / 10) - ((p2 / 10) / 10) / 10 * 10).toInt64)) ((6 : Int32).toNatClampNeg) (((((p2 / 10) / 10) / 10) - (((p2 / 10) / 10) / 10) / 10 * 10).toInt64))))), (h26, .inr (8, [.ref h31, .int wp19309])), (h31, .inl (y 1, 3, .inr (.inl (vp_updL (fun _ => 0) ((1 : Int32).toNatClampNeg) 4)))), (h23, .inr (8, [.ref h33, .int 0]))] := hD
          exact vx_ret (g_iret hx hb hr hlocks ⟨(vp_updL (vp_updL (vp_updL (vp_updL wf19308 ((9 : Int32).toNatClampNeg) ((p2 - p2 / 10 * 10).toInt64)) ((8 : Int32).toNatClampNeg) (((p2 / 10) - (p2 / 10) / 10 * 10).toInt64)) ((7 : Int32).toNatClampNeg) ((((p2 / 10) / 10) - ((p2 / 10) / 10) / 10 * 10).toInt64)) ((6 : Int32).toNatClampNeg) (((((p2 / 10) / 10) / 10) - (((p2 / 10) / 10) / 10) / 10 * 10).toInt64)), (vp_updL (fun _ => 0) ((1 : Int32).toNatClampNeg) 4)⟩ hP hD hS rfl (Or.inr (Or.inr (Or.inr (Or.inr (Or.inr (Or.inr (Or.inr (Or.inl ⟨rfl, rfl, rfl, (by first | omega | (simp_all; done)), (by first | omega | (simp_all; done)), (by first | omega | (simp_all; done)), (by first | omega | (simp_all; done)), (by first | omega | (simp_all; done)), (by first | omega | (simp_all; done))⟩)))))))) (Nat.le_of_ble_eq_true rfl) (Nat.le_of_ble_eq_true rfl) dX11_secret_30)
        ·
          refine lv_aload_n hx hb dX11_secret_20 rfl (lv_at hl 0 rfl) ?_
          refine gm_get (D := D) (ci := 11) (v := .ref h10) (C := RX11) (T := TX11) (N := 19) hx hb hg inlX11 hown hK.1 hP 0 rfl rfl 6 (by decide) tX11_6 (hg _ gw_40) rfl dX11_secret_21 ?_
          refine lv_iload_n hx hb dX11_secret_24 rfl (lv_at hl 1 rfl) ?_
          refine lv_iload_n hx hb dX11_secret_25 rfl (lv_at hl 2 rfl) ?_
          refine lv_iload_n hx hb dX11_secret_26 rfl (lv_at hl 3 rfl) ?_
          refine g_ai (wr := [(h0, .inr (11, [.ref h4, .ref h5, .ref h6, .ref h7, .ref h8, .ref h9, .ref h10, .ref h11, .ref h12, .ref h13, .ref h14, .ref h15, .ref h16, .ref h17, .int wp19301, .int wp19302, .int wp19303, .int wp19304, .int wp19305]))]) (va_runV (As := [.int 2, .int p2, .int 4]) (rest := []) ⟨hx, hb, hml, hown, hg⟩ (k_X5_tellSecret_8 l D y aS H.size h10 p2 h23 h24 h25 h26 wp19306 h28 wp19307 wf19308 h31 wp19309 h33) (cwV 3 hg ggV_RX11_348_X5_tellSecret rfl rfl rfl (by decide +kernel) ⟨Nat.le_of_ble_eq_true rfl, Nat.le_of_ble_eq_true rfl⟩) (g_preV (q := (RX5, TX5, 5)) hK hP hD [1, 2, 3, 4, 5, 6] rfl (by decide) (ci := 5) (q0 := 1) rfl rfl) rfl rfl hl.1 rfl (lv_room (Nat.le_of_ble_eq_true rfl)) dX11_secret_27 ⟨Nat.le_of_ble_eq_true rfl, Nat.le_of_ble_eq_true rfl⟩) hP hD hS hA [1, 2, 3, 4, 5, 6] [0] rfl rfl (by decide) (by decide) ?_
          clear hP hD hS H locs
          refine fun r19412 u H locs hq hP hD hS => ?_
          subst hq
          replace hP : va_P D vwCl [(h0, .inr (11, [.ref h4, .ref h5, .ref h6, .ref h7, .ref h8, .ref h9, .ref h10, .ref h11, .ref h12, .ref h13, .ref h14, .ref h15, .ref h16, .ref h17, .int wp19301, .int wp19302, .int wp19303, .int wp19304, .int wp19305])), (h10, .inr (5, [.ref h23, .ref h24, .ref h25, .ref h26, .int 0])), (h25, .inr (8, [.ref h28, .int wp19307])), (h28, .inl (y 1, 18, .inr (.inl (vp_updL (vp_updL (vp_updL (vp_updL wf19308 ((15 : Int32).toNatClampNeg) ((p2 - p2 / 10 * 10).toInt64)) ((14 : Int32).toNatClampNeg) (((p2 / 10) - (p2 / 10) / 10 * 10).toInt64)) ((13 : Int32).toNatClampNeg) ((((p2 / 10) / 10) - ((p2 / 10) / 10) / 10 * 10).toInt64)) ((12 : Int32).toNatClampNeg) (((((p2 / 10) / 10) / 10) - (((p2 / 10) / 10) / 10) / 10 * 10).toInt64))))), (h26, .inr (8, [.ref h31, .int wp19309])), (h31, .inl (y 1, 3, .inr (.inl (vp_updL (fun _ => 0) ((2 : Int32).toNatClampNeg) 4)))), (h23, .inr (8, [.ref h33, .int 0]))] H := hP
          replace hD : va_D A [(h0, .inr (11, [.ref h4, .ref h5, .ref h6, .ref h7, .ref h8, .ref h9, .ref h10, .ref h11, .ref h12, .ref h13, .ref h14, .ref h15, .ref h16, .ref h17, .int wp19301, .int wp19302, .int wp19303, .int wp19304, .int wp19305])), (h10, .inr (5, [.ref h23, .ref h24, .ref h25, .ref h26, .int 0])), (h25, .inr (8, [.ref h28, .int wp19307])), (h28, .inl (y 1, 18, .inr (.inl (vp_updL (vp_updL (vp_updL (vp_updL wf19308 ((15 : Int32).toNatClampNeg) ((p2 - p2 / 10 * 10).toInt64)) ((14 : Int32).toNatClampNeg) (((p2 / 10) - (p2 / 10) / 10 * 10).toInt64)) ((13 : Int32).toNatClampNeg) ((((p2 / 10) / 10) - ((p2 / 10) / 10) / 10 * 10).toInt64)) ((12 : Int32).toNatClampNeg) (((((p2 / 10) / 10) / 10) - (((p2 / 10) / 10) / 10) / 10 * 10).toInt64))))), (h26, .inr (8, [.ref h31, .int wp19309])), (h31, .inl (y 1, 3, .inr (.inl (vp_updL (fun _ => 0) ((2 : Int32).toNatClampNeg) 4)))), (h23, .inr (8, [.ref h33, .int 0]))] := hD
          exact vx_ret (g_iret hx hb hr hlocks ⟨(vp_updL (vp_updL (vp_updL (vp_updL wf19308 ((15 : Int32).toNatClampNeg) ((p2 - p2 / 10 * 10).toInt64)) ((14 : Int32).toNatClampNeg) (((p2 / 10) - (p2 / 10) / 10 * 10).toInt64)) ((13 : Int32).toNatClampNeg) ((((p2 / 10) / 10) - ((p2 / 10) / 10) / 10 * 10).toInt64)) ((12 : Int32).toNatClampNeg) (((((p2 / 10) / 10) / 10) - (((p2 / 10) / 10) / 10) / 10 * 10).toInt64)), (vp_updL (fun _ => 0) ((2 : Int32).toNatClampNeg) 4)⟩ hP hD hS rfl (Or.inr (Or.inr (Or.inr (Or.inr (Or.inr (Or.inr (Or.inr (Or.inr (Or.inl ⟨rfl, rfl, rfl, (by first | omega | (simp_all; done)), (by first | omega | (simp_all; done)), (by first | omega | (simp_all; done)), (by first | omega | (simp_all; done)), (by first | omega | (simp_all; done)), (by first | omega | (simp_all; done))⟩))))))))) (Nat.le_of_ble_eq_true rfl) (Nat.le_of_ble_eq_true rfl) dX11_secret_30)
      ·
        obtain rfl : p3 = 5 := Int32.toInt_inj.mp (by rw [g_l5]; omega)
        replace hP : va_P D vwCl [(h0, .inr (11, [.ref h4, .ref h5, .ref h6, .ref h7, .ref h8, .ref h9, .ref h10, .ref h11, .ref h12, .ref h13, .ref h14, .ref h15, .ref h16, .ref h17, .int wp19301, .int wp19302, .int wp19303, .int wp19304, .int wp19305])), (h10, .inr (5, [.ref h23, .ref h24, .ref h25, .ref h26, .int wp19306])), (h25, .inr (8, [.ref h28, .int wp19307])), (h28, .inl (y 1, 18, .inr (.inl wf19308))), (h26, .inr (8, [.ref h31, .int wp19309])), (h31, .inl (y 1, 3, .inr (.inl (fun _ => 0)))), (h23, .inr (8, [.ref h33, .int 0]))] H := hP
        replace hD : va_D A [(h0, .inr (11, [.ref h4, .ref h5, .ref h6, .ref h7, .ref h8, .ref h9, .ref h10, .ref h11, .ref h12, .ref h13, .ref h14, .ref h15, .ref h16, .ref h17, .int wp19301, .int wp19302, .int wp19303, .int wp19304, .int wp19305])), (h10, .inr (5, [.ref h23, .ref h24, .ref h25, .ref h26, .int wp19306])), (h25, .inr (8, [.ref h28, .int wp19307])), (h28, .inl (y 1, 18, .inr (.inl wf19308))), (h26, .inr (8, [.ref h31, .int wp19309])), (h31, .inl (y 1, 3, .inr (.inl (fun _ => 0)))), (h23, .inr (8, [.ref h33, .int 0]))] := hD
        refine gx_av (wr := [(h0, .inr (11, [.ref h4, .ref h5, .ref h6, .ref h7, .ref h8, .ref h9, .ref h10, .ref h11, .ref h12, .ref h13, .ref h14, .ref h15, .ref h16, .ref h17, .int wp19301, .int wp19302, .int wp19303, .int wp19304, .int wp19305])), (h10, .inr (5, [.ref h23, .ref h24, .ref h25, .ref h26, .int wp19306])), (h25, .inr (8, [.ref h28, .int wp19307])), (h28, .inl (y 1, 18, .inr (.inl wf19308))), (h26, .inr (8, [.ref h31, .int wp19309])), (h31, .inl (y 1, 3, .inr (.inl (fun _ => 0)))), (h23, .inr (8, [.ref h33, .int 0]))]) (vx_runS (As := [.int 0]) (rest := []) ⟨hx, hb, hml, hown, hg⟩ (k_X11_needArgument_0 l hfl D y aS H.size) (va_cwS 1 hg ggS_RX11_243_X11_needArgument rfl rfl rfl (by decide +kernel) ⟨Nat.le_of_ble_eq_true rfl, Nat.le_of_ble_eq_true rfl⟩) (gx_preS hZ hS hA hK hP hD [] rfl (by decide)) rfl rfl hl.1 rfl (lv_room (Nat.le_of_ble_eq_true rfl)) dX11_secret_17 ⟨Nat.le_of_ble_eq_true rfl, Nat.le_of_ble_eq_true rfl⟩) hP hD hS hA [] [0, 1, 2, 3, 4, 5, 6] rfl rfl (by decide) (by decide) ?_ ?_
        ·
          clear hP hD hS H locs
          refine fun E ce q9 H locs hq hP hD hS hce hcv hcl => ?_
          replace hP : va_P D vwCl [(h0, .inr (11, [.ref h4, .ref h5, .ref h6, .ref h7, .ref h8, .ref h9, .ref h10, .ref h11, .ref h12, .ref h13, .ref h14, .ref h15, .ref h16, .ref h17, .int wp19301, .int wp19302, .int wp19303, .int wp19304, .int wp19305])), (h10, .inr (5, [.ref h23, .ref h24, .ref h25, .ref h26, .int wp19306])), (h25, .inr (8, [.ref h28, .int wp19307])), (h28, .inl (y 1, 18, .inr (.inl wf19308))), (h26, .inr (8, [.ref h31, .int wp19309])), (h31, .inl (y 1, 3, .inr (.inl (fun _ => 0)))), (h23, .inr (8, [.ref h33, .int 0]))] H := hP
          replace hD : va_D A [(h0, .inr (11, [.ref h4, .ref h5, .ref h6, .ref h7, .ref h8, .ref h9, .ref h10, .ref h11, .ref h12, .ref h13, .ref h14, .ref h15, .ref h16, .ref h17, .int wp19301, .int wp19302, .int wp19303, .int wp19304, .int wp19305])), (h10, .inr (5, [.ref h23, .ref h24, .ref h25, .ref h26, .int wp19306])), (h25, .inr (8, [.ref h28, .int wp19307])), (h28, .inl (y 1, 18, .inr (.inl wf19308))), (h26, .inr (8, [.ref h31, .int wp19309])), (h31, .inl (y 1, 3, .inr (.inl (fun _ => 0)))), (h23, .inr (8, [.ref h33, .int 0]))] := hD
          obtain rfl := hq
          exact gx_out htab hlocks hce hcv hcl hP hD hS (Or.inr (Or.inr (Or.inr (Or.inr (Or.inr (Or.inr (Or.inr (Or.inr (Or.inr (Or.inr (Or.inl ⟨rfl, (by first | omega | (simp_all; done)), (by first | omega | (simp_all; done)), (by first | omega | (simp_all; done)), (by first | omega | (simp_all; done)), (by first | omega | (simp_all; done))⟩))))))))))) (Nat.le_of_ble_eq_true rfl) (Nat.le_of_ble_eq_true rfl)
        ·
          clear hP hD hS H locs
          refine fun u H locs hq hP hD hS => ?_
          exact hq.elim
      ·
        obtain rfl : p3 = 5 := Int32.toInt_inj.mp (by rw [g_l5]; omega)
        replace hP : va_P D vwCl [(h0, .inr (11, [.ref h4, .ref h5, .ref h6, .ref h7, .ref h8, .ref h9, .ref h10, .ref h11, .ref h12, .ref h13, .ref h14, .ref h15, .ref h16, .ref h17, .int wp19301, .int wp19302, .int wp19303, .int wp19304, .int wp19305])), (h10, .inr (5, [.ref h23, .ref h24, .ref h25, .ref h26, .int wp19306])), (h25, .inr (8, [.ref h28, .int wp19307])), (h28, .inl (y 1, 18, .inr (.inl wf19308))), (h26, .inr (8, [.ref h31, .int wp19309])), (h31, .inl (y 1, 3, .inr (.inl (fun _ => 0)))), (h23, .inr (8, [.ref h33, .int 0]))] H := hP
        replace hD : va_D A [(h0, .inr (11, [.ref h4, .ref h5, .ref h6, .ref h7, .ref h8, .ref h9, .ref h10, .ref h11, .ref h12, .ref h13, .ref h14, .ref h15, .ref h16, .ref h17, .int wp19301, .int wp19302, .int wp19303, .int wp19304, .int wp19305])), (h10, .inr (5, [.ref h23, .ref h24, .ref h25, .ref h26, .int wp19306])), (h25, .inr (8, [.ref h28, .int wp19307])), (h28, .inl (y 1, 18, .inr (.inl wf19308))), (h26, .inr (8, [.ref h31, .int wp19309])), (h31, .inl (y 1, 3, .inr (.inl (fun _ => 0)))), (h23, .inr (8, [.ref h33, .int 0]))] := hD
        refine gx_av (wr := [(h0, .inr (11, [.ref h4, .ref h5, .ref h6, .ref h7, .ref h8, .ref h9, .ref h10, .ref h11, .ref h12, .ref h13, .ref h14, .ref h15, .ref h16, .ref h17, .int wp19301, .int wp19302, .int wp19303, .int wp19304, .int wp19305])), (h10, .inr (5, [.ref h23, .ref h24, .ref h25, .ref h26, .int wp19306])), (h25, .inr (8, [.ref h28, .int wp19307])), (h28, .inl (y 1, 18, .inr (.inl wf19308))), (h26, .inr (8, [.ref h31, .int wp19309])), (h31, .inl (y 1, 3, .inr (.inl (fun _ => 0)))), (h23, .inr (8, [.ref h33, .int 0]))]) (vx_runS (As := [.int 0]) (rest := []) ⟨hx, hb, hml, hown, hg⟩ (k_X11_needArgument_0 l hfl D y aS H.size) (va_cwS 1 hg ggS_RX11_243_X11_needArgument rfl rfl rfl (by decide +kernel) ⟨Nat.le_of_ble_eq_true rfl, Nat.le_of_ble_eq_true rfl⟩) (gx_preS hZ hS hA hK hP hD [] rfl (by decide)) rfl rfl hl.1 rfl (lv_room (Nat.le_of_ble_eq_true rfl)) dX11_secret_17 ⟨Nat.le_of_ble_eq_true rfl, Nat.le_of_ble_eq_true rfl⟩) hP hD hS hA [] [0, 1, 2, 3, 4, 5, 6] rfl rfl (by decide) (by decide) ?_ ?_
        ·
          clear hP hD hS H locs
          refine fun E ce q9 H locs hq hP hD hS hce hcv hcl => ?_
          replace hP : va_P D vwCl [(h0, .inr (11, [.ref h4, .ref h5, .ref h6, .ref h7, .ref h8, .ref h9, .ref h10, .ref h11, .ref h12, .ref h13, .ref h14, .ref h15, .ref h16, .ref h17, .int wp19301, .int wp19302, .int wp19303, .int wp19304, .int wp19305])), (h10, .inr (5, [.ref h23, .ref h24, .ref h25, .ref h26, .int wp19306])), (h25, .inr (8, [.ref h28, .int wp19307])), (h28, .inl (y 1, 18, .inr (.inl wf19308))), (h26, .inr (8, [.ref h31, .int wp19309])), (h31, .inl (y 1, 3, .inr (.inl (fun _ => 0)))), (h23, .inr (8, [.ref h33, .int 0]))] H := hP
          replace hD : va_D A [(h0, .inr (11, [.ref h4, .ref h5, .ref h6, .ref h7, .ref h8, .ref h9, .ref h10, .ref h11, .ref h12, .ref h13, .ref h14, .ref h15, .ref h16, .ref h17, .int wp19301, .int wp19302, .int wp19303, .int wp19304, .int wp19305])), (h10, .inr (5, [.ref h23, .ref h24, .ref h25, .ref h26, .int wp19306])), (h25, .inr (8, [.ref h28, .int wp19307])), (h28, .inl (y 1, 18, .inr (.inl wf19308))), (h26, .inr (8, [.ref h31, .int wp19309])), (h31, .inl (y 1, 3, .inr (.inl (fun _ => 0)))), (h23, .inr (8, [.ref h33, .int 0]))] := hD
          obtain rfl := hq
          exact gx_out htab hlocks hce hcv hcl hP hD hS (Or.inr (Or.inr (Or.inr (Or.inr (Or.inr (Or.inr (Or.inr (Or.inr (Or.inr (Or.inr (Or.inr (Or.inl ⟨rfl, (by first | omega | (simp_all; done)), (by first | omega | (simp_all; done)), (by first | omega | (simp_all; done)), (by first | omega | (simp_all; done)), (by first | omega | (simp_all; done))⟩)))))))))))) (Nat.le_of_ble_eq_true rfl) (Nat.le_of_ble_eq_true rfl)
        ·
          clear hP hD hS H locs
          refine fun u H locs hq hP hD hS => ?_
          exact hq.elim
      ·
        obtain rfl : p3 = 5 := Int32.toInt_inj.mp (by rw [g_l5]; omega)
        replace hP : va_P D vwCl [(h0, .inr (11, [.ref h4, .ref h5, .ref h6, .ref h7, .ref h8, .ref h9, .ref h10, .ref h11, .ref h12, .ref h13, .ref h14, .ref h15, .ref h16, .ref h17, .int wp19301, .int wp19302, .int wp19303, .int wp19304, .int wp19305])), (h10, .inr (5, [.ref h23, .ref h24, .ref h25, .ref h26, .int wp19306])), (h25, .inr (8, [.ref h28, .int wp19307])), (h28, .inl (y 1, 18, .inr (.inl wf19308))), (h26, .inr (8, [.ref h31, .int wp19309])), (h31, .inl (y 1, 3, .inr (.inl (fun _ => 0)))), (h23, .inr (8, [.ref h33, .int 0]))] H := hP
        replace hD : va_D A [(h0, .inr (11, [.ref h4, .ref h5, .ref h6, .ref h7, .ref h8, .ref h9, .ref h10, .ref h11, .ref h12, .ref h13, .ref h14, .ref h15, .ref h16, .ref h17, .int wp19301, .int wp19302, .int wp19303, .int wp19304, .int wp19305])), (h10, .inr (5, [.ref h23, .ref h24, .ref h25, .ref h26, .int wp19306])), (h25, .inr (8, [.ref h28, .int wp19307])), (h28, .inl (y 1, 18, .inr (.inl wf19308))), (h26, .inr (8, [.ref h31, .int wp19309])), (h31, .inl (y 1, 3, .inr (.inl (fun _ => 0)))), (h23, .inr (8, [.ref h33, .int 0]))] := hD
        refine g_av (wr := [(h0, .inr (11, [.ref h4, .ref h5, .ref h6, .ref h7, .ref h8, .ref h9, .ref h10, .ref h11, .ref h12, .ref h13, .ref h14, .ref h15, .ref h16, .ref h17, .int wp19301, .int wp19302, .int wp19303, .int wp19304, .int wp19305])), (h10, .inr (5, [.ref h23, .ref h24, .ref h25, .ref h26, .int wp19306])), (h25, .inr (8, [.ref h28, .int wp19307])), (h28, .inl (y 1, 18, .inr (.inl wf19308))), (h26, .inr (8, [.ref h31, .int wp19309])), (h31, .inl (y 1, 3, .inr (.inl (fun _ => 0)))), (h23, .inr (8, [.ref h33, .int 0]))]) (va_runS (As := [.int 1]) (rest := []) ⟨hx, hb, hml, hown, hg⟩ (k_X11_needArgument_1 l D y aS H.size) (va_cwS 1 hg ggS_RX11_243_X11_needArgument rfl rfl rfl (by decide +kernel) ⟨Nat.le_of_ble_eq_true rfl, Nat.le_of_ble_eq_true rfl⟩) (g_preS hK hP hD [] rfl (by decide)) rfl rfl hl.1 rfl (lv_room (Nat.le_of_ble_eq_true rfl)) dX11_secret_17 ⟨Nat.le_of_ble_eq_true rfl, Nat.le_of_ble_eq_true rfl⟩) hP hD hS hA [] [0, 1, 2, 3, 4, 5, 6] rfl rfl (by decide) (by decide) ?_
        clear hP hD hS H locs
        refine fun u H locs hq hP hD hS => ?_
        replace hP : va_P D vwCl [(h0, .inr (11, [.ref h4, .ref h5, .ref h6, .ref h7, .ref h8, .ref h9, .ref h10, .ref h11, .ref h12, .ref h13, .ref h14, .ref h15, .ref h16, .ref h17, .int wp19301, .int wp19302, .int wp19303, .int wp19304, .int wp19305])), (h10, .inr (5, [.ref h23, .ref h24, .ref h25, .ref h26, .int wp19306])), (h25, .inr (8, [.ref h28, .int wp19307])), (h28, .inl (y 1, 18, .inr (.inl wf19308))), (h26, .inr (8, [.ref h31, .int wp19309])), (h31, .inl (y 1, 3, .inr (.inl (fun _ => 0)))), (h23, .inr (8, [.ref h33, .int 0]))] H := hP
        replace hD : va_D A [(h0, .inr (11, [.ref h4, .ref h5, .ref h6, .ref h7, .ref h8, .ref h9, .ref h10, .ref h11, .ref h12, .ref h13, .ref h14, .ref h15, .ref h16, .ref h17, .int wp19301, .int wp19302, .int wp19303, .int wp19304, .int wp19305])), (h10, .inr (5, [.ref h23, .ref h24, .ref h25, .ref h26, .int wp19306])), (h25, .inr (8, [.ref h28, .int wp19307])), (h28, .inl (y 1, 18, .inr (.inl wf19308))), (h26, .inr (8, [.ref h31, .int wp19309])), (h31, .inl (y 1, 3, .inr (.inl (fun _ => 0)))), (h23, .inr (8, [.ref h33, .int 0]))] := hD
        have hsp : p1 = 0 ∨ p1 = 1 ∨ p1 = 2 := by
          simp only [← Int32.toInt_inj, g_l0, g_l1, g_l2]; omega
        rcases hsp with rfl | rfl | rfl
        ·
          refine lv_aload_n hx hb dX11_secret_20 rfl (lv_at hl 0 rfl) ?_
          refine gm_get (D := D) (ci := 11) (v := .ref h10) (C := RX11) (T := TX11) (N := 19) hx hb hg inlX11 hown hK.1 hP 0 rfl rfl 6 (by decide) tX11_6 (hg _ gw_40) rfl dX11_secret_21 ?_
          refine lv_iload_n hx hb dX11_secret_24 rfl (lv_at hl 1 rfl) ?_
          refine lv_iload_n hx hb dX11_secret_25 rfl (lv_at hl 2 rfl) ?_
          refine lv_iload_n hx hb dX11_secret_26 rfl (lv_at hl 3 rfl) ?_
          refine g_ai (wr := [(h0, .inr (11, [.ref h4, .ref h5, .ref h6, .ref h7, .ref h8, .ref h9, .ref h10, .ref h11, .ref h12, .ref h13, .ref h14, .ref h15, .ref h16, .ref h17, .int wp19301, .int wp19302, .int wp19303, .int wp19304, .int wp19305]))]) (va_runV (As := [.int 0, .int p2, .int 5]) (rest := []) ⟨hx, hb, hml, hown, hg⟩ (k_X5_tellSecret_9 l D y aS H.size h10 p2 h23 h24 h25 h26 wp19306 h28 wp19307 wf19308 h31 wp19309 h33) (cwV 3 hg ggV_RX11_348_X5_tellSecret rfl rfl rfl (by decide +kernel) ⟨Nat.le_of_ble_eq_true rfl, Nat.le_of_ble_eq_true rfl⟩) (g_preV (q := (RX5, TX5, 5)) hK hP hD [1, 2, 3, 4, 5, 6] rfl (by decide) (ci := 5) (q0 := 1) rfl rfl) rfl rfl hl.1 rfl (lv_room (Nat.le_of_ble_eq_true rfl)) dX11_secret_27 ⟨Nat.le_of_ble_eq_true rfl, Nat.le_of_ble_eq_true rfl⟩) hP hD hS hA [1, 2, 3, 4, 5, 6] [0] rfl rfl (by decide) (by decide) ?_
          clear hP hD hS H locs
          refine fun r19416 u H locs hq hP hD hS => ?_
          subst hq
          replace hP : va_P D vwCl [(h0, .inr (11, [.ref h4, .ref h5, .ref h6, .ref h7, .ref h8, .ref h9, .ref h10, .ref h11, .ref h12, .ref h13, .ref h14, .ref h15, .ref h16, .ref h17, .int wp19301, .int wp19302, .int wp19303, .int wp19304, .int wp19305])), (h10, .inr (5, [.ref h23, .ref h24, .ref h25, .ref h26, .int 0])), (h25, .inr (8, [.ref h28, .int wp19307])), (h28, .inl (y 1, 18, .inr (.inl (vp_updL (vp_updL (vp_updL (vp_updL (vp_updL wf19308 ((4 : Int32).toNatClampNeg) ((p2 - p2 / 10 * 10).toInt64)) ((3 : Int32).toNatClampNeg) (((p2 / 10) - (p2 / 10) / 10 * 10).toInt64)) ((2 : Int32).toNatClampNeg) ((((p2 / 10) / 10) - ((p2 / 10) / 10) / 10 * 10).toInt64)) ((1 : Int32).toNatClampNeg) (((((p2 / 10) / 10) / 10) - (((p2 / 10) / 10) / 10) / 10 * 10).toInt64)) ((0 : Int32).toNatClampNeg) ((((((p2 / 10) / 10) / 10) / 10) - ((((p2 / 10) / 10) / 10) / 10) / 10 * 10).toInt64))))), (h26, .inr (8, [.ref h31, .int wp19309])), (h31, .inl (y 1, 3, .inr (.inl (vp_updL (fun _ => 0) ((0 : Int32).toNatClampNeg) 5)))), (h23, .inr (8, [.ref h33, .int 0]))] H := hP
          replace hD : va_D A [(h0, .inr (11, [.ref h4, .ref h5, .ref h6, .ref h7, .ref h8, .ref h9, .ref h10, .ref h11, .ref h12, .ref h13, .ref h14, .ref h15, .ref h16, .ref h17, .int wp19301, .int wp19302, .int wp19303, .int wp19304, .int wp19305])), (h10, .inr (5, [.ref h23, .ref h24, .ref h25, .ref h26, .int 0])), (h25, .inr (8, [.ref h28, .int wp19307])), (h28, .inl (y 1, 18, .inr (.inl (vp_updL (vp_updL (vp_updL (vp_updL (vp_updL wf19308 ((4 : Int32).toNatClampNeg) ((p2 - p2 / 10 * 10).toInt64)) ((3 : Int32).toNatClampNeg) (((p2 / 10) - (p2 / 10) / 10 * 10).toInt64)) ((2 : Int32).toNatClampNeg) ((((p2 / 10) / 10) - ((p2 / 10) / 10) / 10 * 10).toInt64)) ((1 : Int32).toNatClampNeg) (((((p2 / 10) / 10) / 10) - (((p2 / 10) / 10) / 10) / 10 * 10).toInt64)) ((0 : Int32).toNatClampNeg) ((((((p2 / 10) / 10) / 10) / 10) - ((((p2 / 10) / 10) / 10) / 10) / 10 * 10).toInt64))))), (h26, .inr (8, [.ref h31, .int wp19309])), (h31, .inl (y 1, 3, .inr (.inl (vp_updL (fun _ => 0) ((0 : Int32).toNatClampNeg) 5)))), (h23, .inr (8, [.ref h33, .int 0]))] := hD
          exact vx_ret (g_iret hx hb hr hlocks ⟨(vp_updL (vp_updL (vp_updL (vp_updL (vp_updL wf19308 ((4 : Int32).toNatClampNeg) ((p2 - p2 / 10 * 10).toInt64)) ((3 : Int32).toNatClampNeg) (((p2 / 10) - (p2 / 10) / 10 * 10).toInt64)) ((2 : Int32).toNatClampNeg) ((((p2 / 10) / 10) - ((p2 / 10) / 10) / 10 * 10).toInt64)) ((1 : Int32).toNatClampNeg) (((((p2 / 10) / 10) / 10) - (((p2 / 10) / 10) / 10) / 10 * 10).toInt64)) ((0 : Int32).toNatClampNeg) ((((((p2 / 10) / 10) / 10) / 10) - ((((p2 / 10) / 10) / 10) / 10) / 10 * 10).toInt64)), (vp_updL (fun _ => 0) ((0 : Int32).toNatClampNeg) 5)⟩ hP hD hS rfl (Or.inr (Or.inr (Or.inr (Or.inr (Or.inr (Or.inr (Or.inr (Or.inr (Or.inr (Or.inl ⟨rfl, rfl, rfl, (by first | omega | (simp_all; done)), (by first | omega | (simp_all; done)), (by first | omega | (simp_all; done)), (by first | omega | (simp_all; done)), (by first | omega | (simp_all; done)), (by first | omega | (simp_all; done))⟩)))))))))) (Nat.le_of_ble_eq_true rfl) (Nat.le_of_ble_eq_true rfl) dX11_secret_30)
        ·
          refine lv_aload_n hx hb dX11_secret_20 rfl (lv_at hl 0 rfl) ?_
          refine gm_get (D := D) (ci := 11) (v := .ref h10) (C := RX11) (T := TX11) (N := 19) hx hb hg inlX11 hown hK.1 hP 0 rfl rfl 6 (by decide) tX11_6 (hg _ gw_40) rfl dX11_secret_21 ?_
          refine lv_iload_n hx hb dX11_secret_24 rfl (lv_at hl 1 rfl) ?_
          refine lv_iload_n hx hb dX11_secret_25 rfl (lv_at hl 2 rfl) ?_
          refine lv_iload_n hx hb dX11_secret_26 rfl (lv_at hl 3 rfl) ?_
          refine g_ai (wr := [(h0, .inr (11, [.ref h4, .ref h5, .ref h6, .ref h7, .ref h8, .ref h9, .ref h10, .ref h11, .ref h12, .ref h13, .ref h14, .ref h15, .ref h16, .ref h17, .int wp19301, .int wp19302, .int wp19303, .int wp19304, .int wp19305]))]) (va_runV (As := [.int 1, .int p2, .int 5]) (rest := []) ⟨hx, hb, hml, hown, hg⟩ (k_X5_tellSecret_10 l D y aS H.size h10 p2 h23 h24 h25 h26 wp19306 h28 wp19307 wf19308 h31 wp19309 h33) (cwV 3 hg ggV_RX11_348_X5_tellSecret rfl rfl rfl (by decide +kernel) ⟨Nat.le_of_ble_eq_true rfl, Nat.le_of_ble_eq_true rfl⟩) (g_preV (q := (RX5, TX5, 5)) hK hP hD [1, 2, 3, 4, 5, 6] rfl (by decide) (ci := 5) (q0 := 1) rfl rfl) rfl rfl hl.1 rfl (lv_room (Nat.le_of_ble_eq_true rfl)) dX11_secret_27 ⟨Nat.le_of_ble_eq_true rfl, Nat.le_of_ble_eq_true rfl⟩) hP hD hS hA [1, 2, 3, 4, 5, 6] [0] rfl rfl (by decide) (by decide) ?_
          clear hP hD hS H locs
          refine fun r19417 u H locs hq hP hD hS => ?_
          subst hq
          replace hP : va_P D vwCl [(h0, .inr (11, [.ref h4, .ref h5, .ref h6, .ref h7, .ref h8, .ref h9, .ref h10, .ref h11, .ref h12, .ref h13, .ref h14, .ref h15, .ref h16, .ref h17, .int wp19301, .int wp19302, .int wp19303, .int wp19304, .int wp19305])), (h10, .inr (5, [.ref h23, .ref h24, .ref h25, .ref h26, .int 0])), (h25, .inr (8, [.ref h28, .int wp19307])), (h28, .inl (y 1, 18, .inr (.inl (vp_updL (vp_updL (vp_updL (vp_updL (vp_updL wf19308 ((10 : Int32).toNatClampNeg) ((p2 - p2 / 10 * 10).toInt64)) ((9 : Int32).toNatClampNeg) (((p2 / 10) - (p2 / 10) / 10 * 10).toInt64)) ((8 : Int32).toNatClampNeg) ((((p2 / 10) / 10) - ((p2 / 10) / 10) / 10 * 10).toInt64)) ((7 : Int32).toNatClampNeg) (((((p2 / 10) / 10) / 10) - (((p2 / 10) / 10) / 10) / 10 * 10).toInt64)) ((6 : Int32).toNatClampNeg) ((((((p2 / 10) / 10) / 10) / 10) - ((((p2 / 10) / 10) / 10) / 10) / 10 * 10).toInt64))))), (h26, .inr (8, [.ref h31, .int wp19309])), (h31, .inl (y 1, 3, .inr (.inl (vp_updL (fun _ => 0) ((1 : Int32).toNatClampNeg) 5)))), (h23, .inr (8, [.ref h33, .int 0]))] H := hP
          replace hD : va_D A [(h0, .inr (11, [.ref h4, .ref h5, .ref h6, .ref h7, .ref h8, .ref h9, .ref h10, .ref h11, .ref h12, .ref h13, .ref h14, .ref h15, .ref h16, .ref h17, .int wp19301, .int wp19302, .int wp19303, .int wp19304, .int wp19305])), (h10, .inr (5, [.ref h23, .ref h24, .ref h25, .ref h26, .int 0])), (h25, .inr (8, [.ref h28, .int wp19307])), (h28, .inl (y 1, 18, .inr (.inl (vp_updL (vp_updL (vp_updL (vp_updL (vp_updL wf19308 ((10 : Int32).toNatClampNeg) ((p2 - p2 / 10 * 10).toInt64)) ((9 : Int32).toNatClampNeg) (((p2 / 10) - (p2 / 10) / 10 * 10).toInt64)) ((8 : Int32).toNatClampNeg) ((((p2 / 10) / 10) - ((p2 / 10) / 10) / 10 * 10).toInt64)) ((7 : Int32).toNatClampNeg) (((((p2 / 10) / 10) / 10) - (((p2 / 10) / 10) / 10) / 10 * 10).toInt64)) ((6 : Int32).toNatClampNeg) ((((((p2 / 10) / 10) / 10) / 10) - ((((p2 / 10) / 10) / 10) / 10) / 10 * 10).toInt64))))), (h26, .inr (8, [.ref h31, .int wp19309])), (h31, .inl (y 1, 3, .inr (.inl (vp_updL (fun _ => 0) ((1 : Int32).toNatClampNeg) 5)))), (h23, .inr (8, [.ref h33, .int 0]))] := hD
          exact vx_ret (g_iret hx hb hr hlocks ⟨(vp_updL (vp_updL (vp_updL (vp_updL (vp_updL wf19308 ((10 : Int32).toNatClampNeg) ((p2 - p2 / 10 * 10).toInt64)) ((9 : Int32).toNatClampNeg) (((p2 / 10) - (p2 / 10) / 10 * 10).toInt64)) ((8 : Int32).toNatClampNeg) ((((p2 / 10) / 10) - ((p2 / 10) / 10) / 10 * 10).toInt64)) ((7 : Int32).toNatClampNeg) (((((p2 / 10) / 10) / 10) - (((p2 / 10) / 10) / 10) / 10 * 10).toInt64)) ((6 : Int32).toNatClampNeg) ((((((p2 / 10) / 10) / 10) / 10) - ((((p2 / 10) / 10) / 10) / 10) / 10 * 10).toInt64)), (vp_updL (fun _ => 0) ((1 : Int32).toNatClampNeg) 5)⟩ hP hD hS rfl (Or.inr (Or.inr (Or.inr (Or.inr (Or.inr (Or.inr (Or.inr (Or.inr (Or.inr (Or.inr (Or.inl ⟨rfl, rfl, rfl, (by first | omega | (simp_all; done)), (by first | omega | (simp_all; done)), (by first | omega | (simp_all; done)), (by first | omega | (simp_all; done)), (by first | omega | (simp_all; done)), (by first | omega | (simp_all; done))⟩))))))))))) (Nat.le_of_ble_eq_true rfl) (Nat.le_of_ble_eq_true rfl) dX11_secret_30)
        ·
          refine lv_aload_n hx hb dX11_secret_20 rfl (lv_at hl 0 rfl) ?_
          refine gm_get (D := D) (ci := 11) (v := .ref h10) (C := RX11) (T := TX11) (N := 19) hx hb hg inlX11 hown hK.1 hP 0 rfl rfl 6 (by decide) tX11_6 (hg _ gw_40) rfl dX11_secret_21 ?_
          refine lv_iload_n hx hb dX11_secret_24 rfl (lv_at hl 1 rfl) ?_
          refine lv_iload_n hx hb dX11_secret_25 rfl (lv_at hl 2 rfl) ?_
          refine lv_iload_n hx hb dX11_secret_26 rfl (lv_at hl 3 rfl) ?_
          refine g_ai (wr := [(h0, .inr (11, [.ref h4, .ref h5, .ref h6, .ref h7, .ref h8, .ref h9, .ref h10, .ref h11, .ref h12, .ref h13, .ref h14, .ref h15, .ref h16, .ref h17, .int wp19301, .int wp19302, .int wp19303, .int wp19304, .int wp19305]))]) (va_runV (As := [.int 2, .int p2, .int 5]) (rest := []) ⟨hx, hb, hml, hown, hg⟩ (k_X5_tellSecret_11 l D y aS H.size h10 p2 h23 h24 h25 h26 wp19306 h28 wp19307 wf19308 h31 wp19309 h33) (cwV 3 hg ggV_RX11_348_X5_tellSecret rfl rfl rfl (by decide +kernel) ⟨Nat.le_of_ble_eq_true rfl, Nat.le_of_ble_eq_true rfl⟩) (g_preV (q := (RX5, TX5, 5)) hK hP hD [1, 2, 3, 4, 5, 6] rfl (by decide) (ci := 5) (q0 := 1) rfl rfl) rfl rfl hl.1 rfl (lv_room (Nat.le_of_ble_eq_true rfl)) dX11_secret_27 ⟨Nat.le_of_ble_eq_true rfl, Nat.le_of_ble_eq_true rfl⟩) hP hD hS hA [1, 2, 3, 4, 5, 6] [0] rfl rfl (by decide) (by decide) ?_
          clear hP hD hS H locs
          refine fun r19418 u H locs hq hP hD hS => ?_
          subst hq
          replace hP : va_P D vwCl [(h0, .inr (11, [.ref h4, .ref h5, .ref h6, .ref h7, .ref h8, .ref h9, .ref h10, .ref h11, .ref h12, .ref h13, .ref h14, .ref h15, .ref h16, .ref h17, .int wp19301, .int wp19302, .int wp19303, .int wp19304, .int wp19305])), (h10, .inr (5, [.ref h23, .ref h24, .ref h25, .ref h26, .int 0])), (h25, .inr (8, [.ref h28, .int wp19307])), (h28, .inl (y 1, 18, .inr (.inl (vp_updL (vp_updL (vp_updL (vp_updL (vp_updL wf19308 ((16 : Int32).toNatClampNeg) ((p2 - p2 / 10 * 10).toInt64)) ((15 : Int32).toNatClampNeg) (((p2 / 10) - (p2 / 10) / 10 * 10).toInt64)) ((14 : Int32).toNatClampNeg) ((((p2 / 10) / 10) - ((p2 / 10) / 10) / 10 * 10).toInt64)) ((13 : Int32).toNatClampNeg) (((((p2 / 10) / 10) / 10) - (((p2 / 10) / 10) / 10) / 10 * 10).toInt64)) ((12 : Int32).toNatClampNeg) ((((((p2 / 10) / 10) / 10) / 10) - ((((p2 / 10) / 10) / 10) / 10) / 10 * 10).toInt64))))), (h26, .inr (8, [.ref h31, .int wp19309])), (h31, .inl (y 1, 3, .inr (.inl (vp_updL (fun _ => 0) ((2 : Int32).toNatClampNeg) 5)))), (h23, .inr (8, [.ref h33, .int 0]))] H := hP
          replace hD : va_D A [(h0, .inr (11, [.ref h4, .ref h5, .ref h6, .ref h7, .ref h8, .ref h9, .ref h10, .ref h11, .ref h12, .ref h13, .ref h14, .ref h15, .ref h16, .ref h17, .int wp19301, .int wp19302, .int wp19303, .int wp19304, .int wp19305])), (h10, .inr (5, [.ref h23, .ref h24, .ref h25, .ref h26, .int 0])), (h25, .inr (8, [.ref h28, .int wp19307])), (h28, .inl (y 1, 18, .inr (.inl (vp_updL (vp_updL (vp_updL (vp_updL (vp_updL wf19308 ((16 : Int32).toNatClampNeg) ((p2 - p2 / 10 * 10).toInt64)) ((15 : Int32).toNatClampNeg) (((p2 / 10) - (p2 / 10) / 10 * 10).toInt64)) ((14 : Int32).toNatClampNeg) ((((p2 / 10) / 10) - ((p2 / 10) / 10) / 10 * 10).toInt64)) ((13 : Int32).toNatClampNeg) (((((p2 / 10) / 10) / 10) - (((p2 / 10) / 10) / 10) / 10 * 10).toInt64)) ((12 : Int32).toNatClampNeg) ((((((p2 / 10) / 10) / 10) / 10) - ((((p2 / 10) / 10) / 10) / 10) / 10 * 10).toInt64))))), (h26, .inr (8, [.ref h31, .int wp19309])), (h31, .inl (y 1, 3, .inr (.inl (vp_updL (fun _ => 0) ((2 : Int32).toNatClampNeg) 5)))), (h23, .inr (8, [.ref h33, .int 0]))] := hD
          exact vx_ret (g_iret hx hb hr hlocks ⟨(vp_updL (vp_updL (vp_updL (vp_updL (vp_updL wf19308 ((16 : Int32).toNatClampNeg) ((p2 - p2 / 10 * 10).toInt64)) ((15 : Int32).toNatClampNeg) (((p2 / 10) - (p2 / 10) / 10 * 10).toInt64)) ((14 : Int32).toNatClampNeg) ((((p2 / 10) / 10) - ((p2 / 10) / 10) / 10 * 10).toInt64)) ((13 : Int32).toNatClampNeg) (((((p2 / 10) / 10) / 10) - (((p2 / 10) / 10) / 10) / 10 * 10).toInt64)) ((12 : Int32).toNatClampNeg) ((((((p2 / 10) / 10) / 10) / 10) - ((((p2 / 10) / 10) / 10) / 10) / 10 * 10).toInt64)), (vp_updL (fun _ => 0) ((2 : Int32).toNatClampNeg) 5)⟩ hP hD hS rfl (Or.inr (Or.inr (Or.inr (Or.inr (Or.inr (Or.inr (Or.inr (Or.inr (Or.inr (Or.inr (Or.inr (Or.inl ⟨rfl, rfl, rfl, (by first | omega | (simp_all; done)), (by first | omega | (simp_all; done)), (by first | omega | (simp_all; done)), (by first | omega | (simp_all; done)), (by first | omega | (simp_all; done)), (by first | omega | (simp_all; done))⟩)))))))))))) (Nat.le_of_ble_eq_true rfl) (Nat.le_of_ble_eq_true rfl) dX11_secret_30)
      ·
        obtain rfl : p3 = 6 := Int32.toInt_inj.mp (by rw [g_l6]; omega)
        replace hP : va_P D vwCl [(h0, .inr (11, [.ref h4, .ref h5, .ref h6, .ref h7, .ref h8, .ref h9, .ref h10, .ref h11, .ref h12, .ref h13, .ref h14, .ref h15, .ref h16, .ref h17, .int wp19301, .int wp19302, .int wp19303, .int wp19304, .int wp19305])), (h10, .inr (5, [.ref h23, .ref h24, .ref h25, .ref h26, .int wp19306])), (h25, .inr (8, [.ref h28, .int wp19307])), (h28, .inl (y 1, 18, .inr (.inl wf19308))), (h26, .inr (8, [.ref h31, .int wp19309])), (h31, .inl (y 1, 3, .inr (.inl (fun _ => 0)))), (h23, .inr (8, [.ref h33, .int 0]))] H := hP
        replace hD : va_D A [(h0, .inr (11, [.ref h4, .ref h5, .ref h6, .ref h7, .ref h8, .ref h9, .ref h10, .ref h11, .ref h12, .ref h13, .ref h14, .ref h15, .ref h16, .ref h17, .int wp19301, .int wp19302, .int wp19303, .int wp19304, .int wp19305])), (h10, .inr (5, [.ref h23, .ref h24, .ref h25, .ref h26, .int wp19306])), (h25, .inr (8, [.ref h28, .int wp19307])), (h28, .inl (y 1, 18, .inr (.inl wf19308))), (h26, .inr (8, [.ref h31, .int wp19309])), (h31, .inl (y 1, 3, .inr (.inl (fun _ => 0)))), (h23, .inr (8, [.ref h33, .int 0]))] := hD
        refine gx_av (wr := [(h0, .inr (11, [.ref h4, .ref h5, .ref h6, .ref h7, .ref h8, .ref h9, .ref h10, .ref h11, .ref h12, .ref h13, .ref h14, .ref h15, .ref h16, .ref h17, .int wp19301, .int wp19302, .int wp19303, .int wp19304, .int wp19305])), (h10, .inr (5, [.ref h23, .ref h24, .ref h25, .ref h26, .int wp19306])), (h25, .inr (8, [.ref h28, .int wp19307])), (h28, .inl (y 1, 18, .inr (.inl wf19308))), (h26, .inr (8, [.ref h31, .int wp19309])), (h31, .inl (y 1, 3, .inr (.inl (fun _ => 0)))), (h23, .inr (8, [.ref h33, .int 0]))]) (vx_runS (As := [.int 0]) (rest := []) ⟨hx, hb, hml, hown, hg⟩ (k_X11_needArgument_0 l hfl D y aS H.size) (va_cwS 1 hg ggS_RX11_243_X11_needArgument rfl rfl rfl (by decide +kernel) ⟨Nat.le_of_ble_eq_true rfl, Nat.le_of_ble_eq_true rfl⟩) (gx_preS hZ hS hA hK hP hD [] rfl (by decide)) rfl rfl hl.1 rfl (lv_room (Nat.le_of_ble_eq_true rfl)) dX11_secret_17 ⟨Nat.le_of_ble_eq_true rfl, Nat.le_of_ble_eq_true rfl⟩) hP hD hS hA [] [0, 1, 2, 3, 4, 5, 6] rfl rfl (by decide) (by decide) ?_ ?_
        ·
          clear hP hD hS H locs
          refine fun E ce q9 H locs hq hP hD hS hce hcv hcl => ?_
          replace hP : va_P D vwCl [(h0, .inr (11, [.ref h4, .ref h5, .ref h6, .ref h7, .ref h8, .ref h9, .ref h10, .ref h11, .ref h12, .ref h13, .ref h14, .ref h15, .ref h16, .ref h17, .int wp19301, .int wp19302, .int wp19303, .int wp19304, .int wp19305])), (h10, .inr (5, [.ref h23, .ref h24, .ref h25, .ref h26, .int wp19306])), (h25, .inr (8, [.ref h28, .int wp19307])), (h28, .inl (y 1, 18, .inr (.inl wf19308))), (h26, .inr (8, [.ref h31, .int wp19309])), (h31, .inl (y 1, 3, .inr (.inl (fun _ => 0)))), (h23, .inr (8, [.ref h33, .int 0]))] H := hP
          replace hD : va_D A [(h0, .inr (11, [.ref h4, .ref h5, .ref h6, .ref h7, .ref h8, .ref h9, .ref h10, .ref h11, .ref h12, .ref h13, .ref h14, .ref h15, .ref h16, .ref h17, .int wp19301, .int wp19302, .int wp19303, .int wp19304, .int wp19305])), (h10, .inr (5, [.ref h23, .ref h24, .ref h25, .ref h26, .int wp19306])), (h25, .inr (8, [.ref h28, .int wp19307])), (h28, .inl (y 1, 18, .inr (.inl wf19308))), (h26, .inr (8, [.ref h31, .int wp19309])), (h31, .inl (y 1, 3, .inr (.inl (fun _ => 0)))), (h23, .inr (8, [.ref h33, .int 0]))] := hD
          obtain rfl := hq
          exact gx_out htab hlocks hce hcv hcl hP hD hS (Or.inr (Or.inr (Or.inr (Or.inr (Or.inr (Or.inr (Or.inr (Or.inr (Or.inr (Or.inr (Or.inr (Or.inr (Or.inl ⟨rfl, (by first | omega | (simp_all; done)), (by first | omega | (simp_all; done)), (by first | omega | (simp_all; done)), (by first | omega | (simp_all; done)), (by first | omega | (simp_all; done))⟩))))))))))))) (Nat.le_of_ble_eq_true rfl) (Nat.le_of_ble_eq_true rfl)
        ·
          clear hP hD hS H locs
          refine fun u H locs hq hP hD hS => ?_
          exact hq.elim
      ·
        obtain rfl : p3 = 6 := Int32.toInt_inj.mp (by rw [g_l6]; omega)
        replace hP : va_P D vwCl [(h0, .inr (11, [.ref h4, .ref h5, .ref h6, .ref h7, .ref h8, .ref h9, .ref h10, .ref h11, .ref h12, .ref h13, .ref h14, .ref h15, .ref h16, .ref h17, .int wp19301, .int wp19302, .int wp19303, .int wp19304, .int wp19305])), (h10, .inr (5, [.ref h23, .ref h24, .ref h25, .ref h26, .int wp19306])), (h25, .inr (8, [.ref h28, .int wp19307])), (h28, .inl (y 1, 18, .inr (.inl wf19308))), (h26, .inr (8, [.ref h31, .int wp19309])), (h31, .inl (y 1, 3, .inr (.inl (fun _ => 0)))), (h23, .inr (8, [.ref h33, .int 0]))] H := hP
        replace hD : va_D A [(h0, .inr (11, [.ref h4, .ref h5, .ref h6, .ref h7, .ref h8, .ref h9, .ref h10, .ref h11, .ref h12, .ref h13, .ref h14, .ref h15, .ref h16, .ref h17, .int wp19301, .int wp19302, .int wp19303, .int wp19304, .int wp19305])), (h10, .inr (5, [.ref h23, .ref h24, .ref h25, .ref h26, .int wp19306])), (h25, .inr (8, [.ref h28, .int wp19307])), (h28, .inl (y 1, 18, .inr (.inl wf19308))), (h26, .inr (8, [.ref h31, .int wp19309])), (h31, .inl (y 1, 3, .inr (.inl (fun _ => 0)))), (h23, .inr (8, [.ref h33, .int 0]))] := hD
        refine gx_av (wr := [(h0, .inr (11, [.ref h4, .ref h5, .ref h6, .ref h7, .ref h8, .ref h9, .ref h10, .ref h11, .ref h12, .ref h13, .ref h14, .ref h15, .ref h16, .ref h17, .int wp19301, .int wp19302, .int wp19303, .int wp19304, .int wp19305])), (h10, .inr (5, [.ref h23, .ref h24, .ref h25, .ref h26, .int wp19306])), (h25, .inr (8, [.ref h28, .int wp19307])), (h28, .inl (y 1, 18, .inr (.inl wf19308))), (h26, .inr (8, [.ref h31, .int wp19309])), (h31, .inl (y 1, 3, .inr (.inl (fun _ => 0)))), (h23, .inr (8, [.ref h33, .int 0]))]) (vx_runS (As := [.int 0]) (rest := []) ⟨hx, hb, hml, hown, hg⟩ (k_X11_needArgument_0 l hfl D y aS H.size) (va_cwS 1 hg ggS_RX11_243_X11_needArgument rfl rfl rfl (by decide +kernel) ⟨Nat.le_of_ble_eq_true rfl, Nat.le_of_ble_eq_true rfl⟩) (gx_preS hZ hS hA hK hP hD [] rfl (by decide)) rfl rfl hl.1 rfl (lv_room (Nat.le_of_ble_eq_true rfl)) dX11_secret_17 ⟨Nat.le_of_ble_eq_true rfl, Nat.le_of_ble_eq_true rfl⟩) hP hD hS hA [] [0, 1, 2, 3, 4, 5, 6] rfl rfl (by decide) (by decide) ?_ ?_
        ·
          clear hP hD hS H locs
          refine fun E ce q9 H locs hq hP hD hS hce hcv hcl => ?_
          replace hP : va_P D vwCl [(h0, .inr (11, [.ref h4, .ref h5, .ref h6, .ref h7, .ref h8, .ref h9, .ref h10, .ref h11, .ref h12, .ref h13, .ref h14, .ref h15, .ref h16, .ref h17, .int wp19301, .int wp19302, .int wp19303, .int wp19304, .int wp19305])), (h10, .inr (5, [.ref h23, .ref h24, .ref h25, .ref h26, .int wp19306])), (h25, .inr (8, [.ref h28, .int wp19307])), (h28, .inl (y 1, 18, .inr (.inl wf19308))), (h26, .inr (8, [.ref h31, .int wp19309])), (h31, .inl (y 1, 3, .inr (.inl (fun _ => 0)))), (h23, .inr (8, [.ref h33, .int 0]))] H := hP
          replace hD : va_D A [(h0, .inr (11, [.ref h4, .ref h5, .ref h6, .ref h7, .ref h8, .ref h9, .ref h10, .ref h11, .ref h12, .ref h13, .ref h14, .ref h15, .ref h16, .ref h17, .int wp19301, .int wp19302, .int wp19303, .int wp19304, .int wp19305])), (h10, .inr (5, [.ref h23, .ref h24, .ref h25, .ref h26, .int wp19306])), (h25, .inr (8, [.ref h28, .int wp19307])), (h28, .inl (y 1, 18, .inr (.inl wf19308))), (h26, .inr (8, [.ref h31, .int wp19309])), (h31, .inl (y 1, 3, .inr (.inl (fun _ => 0)))), (h23, .inr (8, [.ref h33, .int 0]))] := hD
          obtain rfl := hq
          exact gx_out htab hlocks hce hcv hcl hP hD hS (Or.inr (Or.inr (Or.inr (Or.inr (Or.inr (Or.inr (Or.inr (Or.inr (Or.inr (Or.inr (Or.inr (Or.inr (Or.inr ⟨rfl, (by first | omega | (simp_all; done)), (by first | omega | (simp_all; done)), (by first | omega | (simp_all; done)), (by first | omega | (simp_all; done)), (by first | omega | (simp_all; done))⟩))))))))))))) (Nat.le_of_ble_eq_true rfl) (Nat.le_of_ble_eq_true rfl)
        ·
          clear hP hD hS H locs
          refine fun u H locs hq hP hD hS => ?_
          exact hq.elim
      ·
        obtain rfl : p3 = 6 := Int32.toInt_inj.mp (by rw [g_l6]; omega)
        replace hP : va_P D vwCl [(h0, .inr (11, [.ref h4, .ref h5, .ref h6, .ref h7, .ref h8, .ref h9, .ref h10, .ref h11, .ref h12, .ref h13, .ref h14, .ref h15, .ref h16, .ref h17, .int wp19301, .int wp19302, .int wp19303, .int wp19304, .int wp19305])), (h10, .inr (5, [.ref h23, .ref h24, .ref h25, .ref h26, .int wp19306])), (h25, .inr (8, [.ref h28, .int wp19307])), (h28, .inl (y 1, 18, .inr (.inl wf19308))), (h26, .inr (8, [.ref h31, .int wp19309])), (h31, .inl (y 1, 3, .inr (.inl (fun _ => 0)))), (h23, .inr (8, [.ref h33, .int 0]))] H := hP
        replace hD : va_D A [(h0, .inr (11, [.ref h4, .ref h5, .ref h6, .ref h7, .ref h8, .ref h9, .ref h10, .ref h11, .ref h12, .ref h13, .ref h14, .ref h15, .ref h16, .ref h17, .int wp19301, .int wp19302, .int wp19303, .int wp19304, .int wp19305])), (h10, .inr (5, [.ref h23, .ref h24, .ref h25, .ref h26, .int wp19306])), (h25, .inr (8, [.ref h28, .int wp19307])), (h28, .inl (y 1, 18, .inr (.inl wf19308))), (h26, .inr (8, [.ref h31, .int wp19309])), (h31, .inl (y 1, 3, .inr (.inl (fun _ => 0)))), (h23, .inr (8, [.ref h33, .int 0]))] := hD
        refine g_av (wr := [(h0, .inr (11, [.ref h4, .ref h5, .ref h6, .ref h7, .ref h8, .ref h9, .ref h10, .ref h11, .ref h12, .ref h13, .ref h14, .ref h15, .ref h16, .ref h17, .int wp19301, .int wp19302, .int wp19303, .int wp19304, .int wp19305])), (h10, .inr (5, [.ref h23, .ref h24, .ref h25, .ref h26, .int wp19306])), (h25, .inr (8, [.ref h28, .int wp19307])), (h28, .inl (y 1, 18, .inr (.inl wf19308))), (h26, .inr (8, [.ref h31, .int wp19309])), (h31, .inl (y 1, 3, .inr (.inl (fun _ => 0)))), (h23, .inr (8, [.ref h33, .int 0]))]) (va_runS (As := [.int 1]) (rest := []) ⟨hx, hb, hml, hown, hg⟩ (k_X11_needArgument_1 l D y aS H.size) (va_cwS 1 hg ggS_RX11_243_X11_needArgument rfl rfl rfl (by decide +kernel) ⟨Nat.le_of_ble_eq_true rfl, Nat.le_of_ble_eq_true rfl⟩) (g_preS hK hP hD [] rfl (by decide)) rfl rfl hl.1 rfl (lv_room (Nat.le_of_ble_eq_true rfl)) dX11_secret_17 ⟨Nat.le_of_ble_eq_true rfl, Nat.le_of_ble_eq_true rfl⟩) hP hD hS hA [] [0, 1, 2, 3, 4, 5, 6] rfl rfl (by decide) (by decide) ?_
        clear hP hD hS H locs
        refine fun u H locs hq hP hD hS => ?_
        replace hP : va_P D vwCl [(h0, .inr (11, [.ref h4, .ref h5, .ref h6, .ref h7, .ref h8, .ref h9, .ref h10, .ref h11, .ref h12, .ref h13, .ref h14, .ref h15, .ref h16, .ref h17, .int wp19301, .int wp19302, .int wp19303, .int wp19304, .int wp19305])), (h10, .inr (5, [.ref h23, .ref h24, .ref h25, .ref h26, .int wp19306])), (h25, .inr (8, [.ref h28, .int wp19307])), (h28, .inl (y 1, 18, .inr (.inl wf19308))), (h26, .inr (8, [.ref h31, .int wp19309])), (h31, .inl (y 1, 3, .inr (.inl (fun _ => 0)))), (h23, .inr (8, [.ref h33, .int 0]))] H := hP
        replace hD : va_D A [(h0, .inr (11, [.ref h4, .ref h5, .ref h6, .ref h7, .ref h8, .ref h9, .ref h10, .ref h11, .ref h12, .ref h13, .ref h14, .ref h15, .ref h16, .ref h17, .int wp19301, .int wp19302, .int wp19303, .int wp19304, .int wp19305])), (h10, .inr (5, [.ref h23, .ref h24, .ref h25, .ref h26, .int wp19306])), (h25, .inr (8, [.ref h28, .int wp19307])), (h28, .inl (y 1, 18, .inr (.inl wf19308))), (h26, .inr (8, [.ref h31, .int wp19309])), (h31, .inl (y 1, 3, .inr (.inl (fun _ => 0)))), (h23, .inr (8, [.ref h33, .int 0]))] := hD
        have hsp : p1 = 0 ∨ p1 = 1 ∨ p1 = 2 := by
          simp only [← Int32.toInt_inj, g_l0, g_l1, g_l2]; omega
        rcases hsp with rfl | rfl | rfl
        ·
          refine lv_aload_n hx hb dX11_secret_20 rfl (lv_at hl 0 rfl) ?_
          refine gm_get (D := D) (ci := 11) (v := .ref h10) (C := RX11) (T := TX11) (N := 19) hx hb hg inlX11 hown hK.1 hP 0 rfl rfl 6 (by decide) tX11_6 (hg _ gw_40) rfl dX11_secret_21 ?_
          refine lv_iload_n hx hb dX11_secret_24 rfl (lv_at hl 1 rfl) ?_
          refine lv_iload_n hx hb dX11_secret_25 rfl (lv_at hl 2 rfl) ?_
          refine lv_iload_n hx hb dX11_secret_26 rfl (lv_at hl 3 rfl) ?_
          refine g_ai (wr := [(h0, .inr (11, [.ref h4, .ref h5, .ref h6, .ref h7, .ref h8, .ref h9, .ref h10, .ref h11, .ref h12, .ref h13, .ref h14, .ref h15, .ref h16, .ref h17, .int wp19301, .int wp19302, .int wp19303, .int wp19304, .int wp19305]))]) (va_runV (As := [.int 0, .int p2, .int 6]) (rest := []) ⟨hx, hb, hml, hown, hg⟩ (k_X5_tellSecret_12 l D y aS H.size h10 p2 h23 h24 h25 h26 wp19306 h28 wp19307 wf19308 h31 wp19309 h33) (cwV 3 hg ggV_RX11_348_X5_tellSecret rfl rfl rfl (by decide +kernel) ⟨Nat.le_of_ble_eq_true rfl, Nat.le_of_ble_eq_true rfl⟩) (g_preV (q := (RX5, TX5, 5)) hK hP hD [1, 2, 3, 4, 5, 6] rfl (by decide) (ci := 5) (q0 := 1) rfl rfl) rfl rfl hl.1 rfl (lv_room (Nat.le_of_ble_eq_true rfl)) dX11_secret_27 ⟨Nat.le_of_ble_eq_true rfl, Nat.le_of_ble_eq_true rfl⟩) hP hD hS hA [1, 2, 3, 4, 5, 6] [0] rfl rfl (by decide) (by decide) ?_
          clear hP hD hS H locs
          refine fun r19422 u H locs hq hP hD hS => ?_
          subst hq
          replace hP : va_P D vwCl [(h0, .inr (11, [.ref h4, .ref h5, .ref h6, .ref h7, .ref h8, .ref h9, .ref h10, .ref h11, .ref h12, .ref h13, .ref h14, .ref h15, .ref h16, .ref h17, .int wp19301, .int wp19302, .int wp19303, .int wp19304, .int wp19305])), (h10, .inr (5, [.ref h23, .ref h24, .ref h25, .ref h26, .int 0])), (h25, .inr (8, [.ref h28, .int wp19307])), (h28, .inl (y 1, 18, .inr (.inl (vp_updL (vp_updL (vp_updL (vp_updL (vp_updL (vp_updL wf19308 ((5 : Int32).toNatClampNeg) ((p2 - p2 / 10 * 10).toInt64)) ((4 : Int32).toNatClampNeg) (((p2 / 10) - (p2 / 10) / 10 * 10).toInt64)) ((3 : Int32).toNatClampNeg) ((((p2 / 10) / 10) - ((p2 / 10) / 10) / 10 * 10).toInt64)) ((2 : Int32).toNatClampNeg) (((((p2 / 10) / 10) / 10) - (((p2 / 10) / 10) / 10) / 10 * 10).toInt64)) ((1 : Int32).toNatClampNeg) ((((((p2 / 10) / 10) / 10) / 10) - ((((p2 / 10) / 10) / 10) / 10) / 10 * 10).toInt64)) ((0 : Int32).toNatClampNeg) (((((((p2 / 10) / 10) / 10) / 10) / 10) - (((((p2 / 10) / 10) / 10) / 10) / 10) / 10 * 10).toInt64))))), (h26, .inr (8, [.ref h31, .int wp19309])), (h31, .inl (y 1, 3, .inr (.inl (vp_updL (fun _ => 0) ((0 : Int32).toNatClampNeg) 6)))), (h23, .inr (8, [.ref h33, .int 0]))] H := hP
          replace hD : va_D A [(h0, .inr (11, [.ref h4, .ref h5, .ref h6, .ref h7, .ref h8, .ref h9, .ref h10, .ref h11, .ref h12, .ref h13, .ref h14, .ref h15, .ref h16, .ref h17, .int wp19301, .int wp19302, .int wp19303, .int wp19304, .int wp19305])), (h10, .inr (5, [.ref h23, .ref h24, .ref h25, .ref h26, .int 0])), (h25, .inr (8, [.ref h28, .int wp19307])), (h28, .inl (y 1, 18, .inr (.inl (vp_updL (vp_updL (vp_updL (vp_updL (vp_updL (vp_updL wf19308 ((5 : Int32).toNatClampNeg) ((p2 - p2 / 10 * 10).toInt64)) ((4 : Int32).toNatClampNeg) (((p2 / 10) - (p2 / 10) / 10 * 10).toInt64)) ((3 : Int32).toNatClampNeg) ((((p2 / 10) / 10) - ((p2 / 10) / 10) / 10 * 10).toInt64)) ((2 : Int32).toNatClampNeg) (((((p2 / 10) / 10) / 10) - (((p2 / 10) / 10) / 10) / 10 * 10).toInt64)) ((1 : Int32).toNatClampNeg) ((((((p2 / 10) / 10) / 10) / 10) - ((((p2 / 10) / 10) / 10) / 10) / 10 * 10).toInt64)) ((0 : Int32).toNatClampNeg) (((((((p2 / 10) / 10) / 10) / 10) / 10) - (((((p2 / 10) / 10) / 10) / 10) / 10) / 10 * 10).toInt64))))), (h26, .inr (8, [.ref h31, .int wp19309])), (h31, .inl (y 1, 3, .inr (.inl (vp_updL (fun _ => 0) ((0 : Int32).toNatClampNeg) 6)))), (h23, .inr (8, [.ref h33, .int 0]))] := hD
          exact vx_ret (g_iret hx hb hr hlocks ⟨(vp_updL (vp_updL (vp_updL (vp_updL (vp_updL (vp_updL wf19308 ((5 : Int32).toNatClampNeg) ((p2 - p2 / 10 * 10).toInt64)) ((4 : Int32).toNatClampNeg) (((p2 / 10) - (p2 / 10) / 10 * 10).toInt64)) ((3 : Int32).toNatClampNeg) ((((p2 / 10) / 10) - ((p2 / 10) / 10) / 10 * 10).toInt64)) ((2 : Int32).toNatClampNeg) (((((p2 / 10) / 10) / 10) - (((p2 / 10) / 10) / 10) / 10 * 10).toInt64)) ((1 : Int32).toNatClampNeg) ((((((p2 / 10) / 10) / 10) / 10) - ((((p2 / 10) / 10) / 10) / 10) / 10 * 10).toInt64)) ((0 : Int32).toNatClampNeg) (((((((p2 / 10) / 10) / 10) / 10) / 10) - (((((p2 / 10) / 10) / 10) / 10) / 10) / 10 * 10).toInt64)), (vp_updL (fun _ => 0) ((0 : Int32).toNatClampNeg) 6)⟩ hP hD hS rfl (Or.inr (Or.inr (Or.inr (Or.inr (Or.inr (Or.inr (Or.inr (Or.inr (Or.inr (Or.inr (Or.inr (Or.inr (Or.inl ⟨rfl, rfl, rfl, (by first | omega | (simp_all; done)), (by first | omega | (simp_all; done)), (by first | omega | (simp_all; done)), (by first | omega | (simp_all; done)), (by first | omega | (simp_all; done)), (by first | omega | (simp_all; done))⟩))))))))))))) (Nat.le_of_ble_eq_true rfl) (Nat.le_of_ble_eq_true rfl) dX11_secret_30)
        ·
          refine lv_aload_n hx hb dX11_secret_20 rfl (lv_at hl 0 rfl) ?_
          refine gm_get (D := D) (ci := 11) (v := .ref h10) (C := RX11) (T := TX11) (N := 19) hx hb hg inlX11 hown hK.1 hP 0 rfl rfl 6 (by decide) tX11_6 (hg _ gw_40) rfl dX11_secret_21 ?_
          refine lv_iload_n hx hb dX11_secret_24 rfl (lv_at hl 1 rfl) ?_
          refine lv_iload_n hx hb dX11_secret_25 rfl (lv_at hl 2 rfl) ?_
          refine lv_iload_n hx hb dX11_secret_26 rfl (lv_at hl 3 rfl) ?_
          refine g_ai (wr := [(h0, .inr (11, [.ref h4, .ref h5, .ref h6, .ref h7, .ref h8, .ref h9, .ref h10, .ref h11, .ref h12, .ref h13, .ref h14, .ref h15, .ref h16, .ref h17, .int wp19301, .int wp19302, .int wp19303, .int wp19304, .int wp19305]))]) (va_runV (As := [.int 1, .int p2, .int 6]) (rest := []) ⟨hx, hb, hml, hown, hg⟩ (k_X5_tellSecret_13 l D y aS H.size h10 p2 h23 h24 h25 h26 wp19306 h28 wp19307 wf19308 h31 wp19309 h33) (cwV 3 hg ggV_RX11_348_X5_tellSecret rfl rfl rfl (by decide +kernel) ⟨Nat.le_of_ble_eq_true rfl, Nat.le_of_ble_eq_true rfl⟩) (g_preV (q := (RX5, TX5, 5)) hK hP hD [1, 2, 3, 4, 5, 6] rfl (by decide) (ci := 5) (q0 := 1) rfl rfl) rfl rfl hl.1 rfl (lv_room (Nat.le_of_ble_eq_true rfl)) dX11_secret_27 ⟨Nat.le_of_ble_eq_true rfl, Nat.le_of_ble_eq_true rfl⟩) hP hD hS hA [1, 2, 3, 4, 5, 6] [0] rfl rfl (by decide) (by decide) ?_
          clear hP hD hS H locs
          refine fun r19423 u H locs hq hP hD hS => ?_
          subst hq
          replace hP : va_P D vwCl [(h0, .inr (11, [.ref h4, .ref h5, .ref h6, .ref h7, .ref h8, .ref h9, .ref h10, .ref h11, .ref h12, .ref h13, .ref h14, .ref h15, .ref h16, .ref h17, .int wp19301, .int wp19302, .int wp19303, .int wp19304, .int wp19305])), (h10, .inr (5, [.ref h23, .ref h24, .ref h25, .ref h26, .int 0])), (h25, .inr (8, [.ref h28, .int wp19307])), (h28, .inl (y 1, 18, .inr (.inl (vp_updL (vp_updL (vp_updL (vp_updL (vp_updL (vp_updL wf19308 ((11 : Int32).toNatClampNeg) ((p2 - p2 / 10 * 10).toInt64)) ((10 : Int32).toNatClampNeg) (((p2 / 10) - (p2 / 10) / 10 * 10).toInt64)) ((9 : Int32).toNatClampNeg) ((((p2 / 10) / 10) - ((p2 / 10) / 10) / 10 * 10).toInt64)) ((8 : Int32).toNatClampNeg) (((((p2 / 10) / 10) / 10) - (((p2 / 10) / 10) / 10) / 10 * 10).toInt64)) ((7 : Int32).toNatClampNeg) ((((((p2 / 10) / 10) / 10) / 10) - ((((p2 / 10) / 10) / 10) / 10) / 10 * 10).toInt64)) ((6 : Int32).toNatClampNeg) (((((((p2 / 10) / 10) / 10) / 10) / 10) - (((((p2 / 10) / 10) / 10) / 10) / 10) / 10 * 10).toInt64))))), (h26, .inr (8, [.ref h31, .int wp19309])), (h31, .inl (y 1, 3, .inr (.inl (vp_updL (fun _ => 0) ((1 : Int32).toNatClampNeg) 6)))), (h23, .inr (8, [.ref h33, .int 0]))] H := hP
          replace hD : va_D A [(h0, .inr (11, [.ref h4, .ref h5, .ref h6, .ref h7, .ref h8, .ref h9, .ref h10, .ref h11, .ref h12, .ref h13, .ref h14, .ref h15, .ref h16, .ref h17, .int wp19301, .int wp19302, .int wp19303, .int wp19304, .int wp19305])), (h10, .inr (5, [.ref h23, .ref h24, .ref h25, .ref h26, .int 0])), (h25, .inr (8, [.ref h28, .int wp19307])), (h28, .inl (y 1, 18, .inr (.inl (vp_updL (vp_updL (vp_updL (vp_updL (vp_updL (vp_updL wf19308 ((11 : Int32).toNatClampNeg) ((p2 - p2 / 10 * 10).toInt64)) ((10 : Int32).toNatClampNeg) (((p2 / 10) - (p2 / 10) / 10 * 10).toInt64)) ((9 : Int32).toNatClampNeg) ((((p2 / 10) / 10) - ((p2 / 10) / 10) / 10 * 10).toInt64)) ((8 : Int32).toNatClampNeg) (((((p2 / 10) / 10) / 10) - (((p2 / 10) / 10) / 10) / 10 * 10).toInt64)) ((7 : Int32).toNatClampNeg) ((((((p2 / 10) / 10) / 10) / 10) - ((((p2 / 10) / 10) / 10) / 10) / 10 * 10).toInt64)) ((6 : Int32).toNatClampNeg) (((((((p2 / 10) / 10) / 10) / 10) / 10) - (((((p2 / 10) / 10) / 10) / 10) / 10) / 10 * 10).toInt64))))), (h26, .inr (8, [.ref h31, .int wp19309])), (h31, .inl (y 1, 3, .inr (.inl (vp_updL (fun _ => 0) ((1 : Int32).toNatClampNeg) 6)))), (h23, .inr (8, [.ref h33, .int 0]))] := hD
          exact vx_ret (g_iret hx hb hr hlocks ⟨(vp_updL (vp_updL (vp_updL (vp_updL (vp_updL (vp_updL wf19308 ((11 : Int32).toNatClampNeg) ((p2 - p2 / 10 * 10).toInt64)) ((10 : Int32).toNatClampNeg) (((p2 / 10) - (p2 / 10) / 10 * 10).toInt64)) ((9 : Int32).toNatClampNeg) ((((p2 / 10) / 10) - ((p2 / 10) / 10) / 10 * 10).toInt64)) ((8 : Int32).toNatClampNeg) (((((p2 / 10) / 10) / 10) - (((p2 / 10) / 10) / 10) / 10 * 10).toInt64)) ((7 : Int32).toNatClampNeg) ((((((p2 / 10) / 10) / 10) / 10) - ((((p2 / 10) / 10) / 10) / 10) / 10 * 10).toInt64)) ((6 : Int32).toNatClampNeg) (((((((p2 / 10) / 10) / 10) / 10) / 10) - (((((p2 / 10) / 10) / 10) / 10) / 10) / 10 * 10).toInt64)), (vp_updL (fun _ => 0) ((1 : Int32).toNatClampNeg) 6)⟩ hP hD hS rfl (Or.inr (Or.inr (Or.inr (Or.inr (Or.inr (Or.inr (Or.inr (Or.inr (Or.inr (Or.inr (Or.inr (Or.inr (Or.inr (Or.inl ⟨rfl, rfl, rfl, (by first | omega | (simp_all; done)), (by first | omega | (simp_all; done)), (by first | omega | (simp_all; done)), (by first | omega | (simp_all; done)), (by first | omega | (simp_all; done)), (by first | omega | (simp_all; done))⟩)))))))))))))) (Nat.le_of_ble_eq_true rfl) (Nat.le_of_ble_eq_true rfl) dX11_secret_30)
        ·
          refine lv_aload_n hx hb dX11_secret_20 rfl (lv_at hl 0 rfl) ?_
          refine gm_get (D := D) (ci := 11) (v := .ref h10) (C := RX11) (T := TX11) (N := 19) hx hb hg inlX11 hown hK.1 hP 0 rfl rfl 6 (by decide) tX11_6 (hg _ gw_40) rfl dX11_secret_21 ?_
          refine lv_iload_n hx hb dX11_secret_24 rfl (lv_at hl 1 rfl) ?_
          refine lv_iload_n hx hb dX11_secret_25 rfl (lv_at hl 2 rfl) ?_
          refine lv_iload_n hx hb dX11_secret_26 rfl (lv_at hl 3 rfl) ?_
          refine g_ai (wr := [(h0, .inr (11, [.ref h4, .ref h5, .ref h6, .ref h7, .ref h8, .ref h9, .ref h10, .ref h11, .ref h12, .ref h13, .ref h14, .ref h15, .ref h16, .ref h17, .int wp19301, .int wp19302, .int wp19303, .int wp19304, .int wp19305]))]) (va_runV (As := [.int 2, .int p2, .int 6]) (rest := []) ⟨hx, hb, hml, hown, hg⟩ (k_X5_tellSecret_14 l D y aS H.size h10 p2 h23 h24 h25 h26 wp19306 h28 wp19307 wf19308 h31 wp19309 h33) (cwV 3 hg ggV_RX11_348_X5_tellSecret rfl rfl rfl (by decide +kernel) ⟨Nat.le_of_ble_eq_true rfl, Nat.le_of_ble_eq_true rfl⟩) (g_preV (q := (RX5, TX5, 5)) hK hP hD [1, 2, 3, 4, 5, 6] rfl (by decide) (ci := 5) (q0 := 1) rfl rfl) rfl rfl hl.1 rfl (lv_room (Nat.le_of_ble_eq_true rfl)) dX11_secret_27 ⟨Nat.le_of_ble_eq_true rfl, Nat.le_of_ble_eq_true rfl⟩) hP hD hS hA [1, 2, 3, 4, 5, 6] [0] rfl rfl (by decide) (by decide) ?_
          clear hP hD hS H locs
          refine fun r19424 u H locs hq hP hD hS => ?_
          subst hq
          replace hP : va_P D vwCl [(h0, .inr (11, [.ref h4, .ref h5, .ref h6, .ref h7, .ref h8, .ref h9, .ref h10, .ref h11, .ref h12, .ref h13, .ref h14, .ref h15, .ref h16, .ref h17, .int wp19301, .int wp19302, .int wp19303, .int wp19304, .int wp19305])), (h10, .inr (5, [.ref h23, .ref h24, .ref h25, .ref h26, .int 0])), (h25, .inr (8, [.ref h28, .int wp19307])), (h28, .inl (y 1, 18, .inr (.inl (vp_updL (vp_updL (vp_updL (vp_updL (vp_updL (vp_updL wf19308 ((17 : Int32).toNatClampNeg) ((p2 - p2 / 10 * 10).toInt64)) ((16 : Int32).toNatClampNeg) (((p2 / 10) - (p2 / 10) / 10 * 10).toInt64)) ((15 : Int32).toNatClampNeg) ((((p2 / 10) / 10) - ((p2 / 10) / 10) / 10 * 10).toInt64)) ((14 : Int32).toNatClampNeg) (((((p2 / 10) / 10) / 10) - (((p2 / 10) / 10) / 10) / 10 * 10).toInt64)) ((13 : Int32).toNatClampNeg) ((((((p2 / 10) / 10) / 10) / 10) - ((((p2 / 10) / 10) / 10) / 10) / 10 * 10).toInt64)) ((12 : Int32).toNatClampNeg) (((((((p2 / 10) / 10) / 10) / 10) / 10) - (((((p2 / 10) / 10) / 10) / 10) / 10) / 10 * 10).toInt64))))), (h26, .inr (8, [.ref h31, .int wp19309])), (h31, .inl (y 1, 3, .inr (.inl (vp_updL (fun _ => 0) ((2 : Int32).toNatClampNeg) 6)))), (h23, .inr (8, [.ref h33, .int 0]))] H := hP
          replace hD : va_D A [(h0, .inr (11, [.ref h4, .ref h5, .ref h6, .ref h7, .ref h8, .ref h9, .ref h10, .ref h11, .ref h12, .ref h13, .ref h14, .ref h15, .ref h16, .ref h17, .int wp19301, .int wp19302, .int wp19303, .int wp19304, .int wp19305])), (h10, .inr (5, [.ref h23, .ref h24, .ref h25, .ref h26, .int 0])), (h25, .inr (8, [.ref h28, .int wp19307])), (h28, .inl (y 1, 18, .inr (.inl (vp_updL (vp_updL (vp_updL (vp_updL (vp_updL (vp_updL wf19308 ((17 : Int32).toNatClampNeg) ((p2 - p2 / 10 * 10).toInt64)) ((16 : Int32).toNatClampNeg) (((p2 / 10) - (p2 / 10) / 10 * 10).toInt64)) ((15 : Int32).toNatClampNeg) ((((p2 / 10) / 10) - ((p2 / 10) / 10) / 10 * 10).toInt64)) ((14 : Int32).toNatClampNeg) (((((p2 / 10) / 10) / 10) - (((p2 / 10) / 10) / 10) / 10 * 10).toInt64)) ((13 : Int32).toNatClampNeg) ((((((p2 / 10) / 10) / 10) / 10) - ((((p2 / 10) / 10) / 10) / 10) / 10 * 10).toInt64)) ((12 : Int32).toNatClampNeg) (((((((p2 / 10) / 10) / 10) / 10) / 10) - (((((p2 / 10) / 10) / 10) / 10) / 10) / 10 * 10).toInt64))))), (h26, .inr (8, [.ref h31, .int wp19309])), (h31, .inl (y 1, 3, .inr (.inl (vp_updL (fun _ => 0) ((2 : Int32).toNatClampNeg) 6)))), (h23, .inr (8, [.ref h33, .int 0]))] := hD
          exact vx_ret (g_iret hx hb hr hlocks ⟨(vp_updL (vp_updL (vp_updL (vp_updL (vp_updL (vp_updL wf19308 ((17 : Int32).toNatClampNeg) ((p2 - p2 / 10 * 10).toInt64)) ((16 : Int32).toNatClampNeg) (((p2 / 10) - (p2 / 10) / 10 * 10).toInt64)) ((15 : Int32).toNatClampNeg) ((((p2 / 10) / 10) - ((p2 / 10) / 10) / 10 * 10).toInt64)) ((14 : Int32).toNatClampNeg) (((((p2 / 10) / 10) / 10) - (((p2 / 10) / 10) / 10) / 10 * 10).toInt64)) ((13 : Int32).toNatClampNeg) ((((((p2 / 10) / 10) / 10) / 10) - ((((p2 / 10) / 10) / 10) / 10) / 10 * 10).toInt64)) ((12 : Int32).toNatClampNeg) (((((((p2 / 10) / 10) / 10) / 10) / 10) - (((((p2 / 10) / 10) / 10) / 10) / 10) / 10 * 10).toInt64)), (vp_updL (fun _ => 0) ((2 : Int32).toNatClampNeg) 6)⟩ hP hD hS rfl (Or.inr (Or.inr (Or.inr (Or.inr (Or.inr (Or.inr (Or.inr (Or.inr (Or.inr (Or.inr (Or.inr (Or.inr (Or.inr (Or.inr ⟨rfl, rfl, rfl, (by first | omega | (simp_all; done)), (by first | omega | (simp_all; done)), (by first | omega | (simp_all; done)), (by first | omega | (simp_all; done)), (by first | omega | (simp_all; done)), (by first | omega | (simp_all; done))⟩)))))))))))))) (Nat.le_of_ble_eq_true rfl) (Nat.le_of_ble_eq_true rfl) dX11_secret_30)
      · exfalso; (try dsimp only at *); omega
      · exfalso; (try dsimp only at *); omega
      · exfalso; (try dsimp only at *); omega
