def dt5001_X11_needPlace : List (Nat × Instr × Nat) := [(9, (.new 364, 3)), (12, (.dup, 1)), (13, (.ldc_w 366, 3)), (16, (.invokespecial 368, 3)), (19, (.athrow, 1))]
theorem dt5001_X11_needPlace_ok : ∀ q ∈ dt5001_X11_needPlace, decode cX11_needPlace q.1 = .ok q.2 := by decide +kernel
theorem dX11_needPlace_9 : decode cX11_needPlace 9 = .ok (.new 364, 3) := g_dec dt5001_X11_needPlace_ok (k := 0) rfl
theorem dX11_needPlace_12 : decode cX11_needPlace 12 = .ok (.dup, 1) := g_dec dt5001_X11_needPlace_ok (k := 1) rfl
theorem dX11_needPlace_13 : decode cX11_needPlace 13 = .ok (.ldc_w 366, 3) := g_dec dt5001_X11_needPlace_ok (k := 2) rfl
theorem dX11_needPlace_16 : decode cX11_needPlace 16 = .ok (.invokespecial 368, 3) := g_dec dt5001_X11_needPlace_ok (k := 3) rfl
theorem dX11_needPlace_19 : decode cX11_needPlace 19 = .ok (.athrow, 1) := g_dec dt5001_X11_needPlace_ok (k := 4) rfl
def dt5002_X11_needRange : List (Nat × Instr × Nat) := [(10, (.new 371, 3)), (13, (.dup, 1)), (14, (.ldc_w 373, 3)), (17, (.invokespecial 375, 3)), (20, (.athrow, 1))]
theorem dt5002_X11_needRange_ok : ∀ q ∈ dt5002_X11_needRange, decode cX11_needRange q.1 = .ok q.2 := by decide +kernel
theorem dX11_needRange_10 : decode cX11_needRange 10 = .ok (.new 371, 3) := g_dec dt5002_X11_needRange_ok (k := 0) rfl
theorem dX11_needRange_13 : decode cX11_needRange 13 = .ok (.dup, 1) := g_dec dt5002_X11_needRange_ok (k := 1) rfl
theorem dX11_needRange_14 : decode cX11_needRange 14 = .ok (.ldc_w 373, 3) := g_dec dt5002_X11_needRange_ok (k := 2) rfl
theorem dX11_needRange_17 : decode cX11_needRange 17 = .ok (.invokespecial 375, 3) := g_dec dt5002_X11_needRange_ok (k := 3) rfl
theorem dX11_needRange_20 : decode cX11_needRange 20 = .ok (.athrow, 1) := g_dec dt5002_X11_needRange_ok (k := 4) rfl
def dt5003_X11_needState : List (Nat × Instr × Nat) := [(4, (.new 378, 3)), (7, (.dup, 1)), (8, (.ldc_w 380, 3)), (11, (.invokespecial 382, 3)), (14, (.athrow, 1))]
theorem dt5003_X11_needState_ok : ∀ q ∈ dt5003_X11_needState, decode cX11_needState q.1 = .ok q.2 := by decide +kernel
theorem dX11_needState_4 : decode cX11_needState 4 = .ok (.new 378, 3) := g_dec dt5003_X11_needState_ok (k := 0) rfl
theorem dX11_needState_7 : decode cX11_needState 7 = .ok (.dup, 1) := g_dec dt5003_X11_needState_ok (k := 1) rfl
theorem dX11_needState_8 : decode cX11_needState 8 = .ok (.ldc_w 380, 3) := g_dec dt5003_X11_needState_ok (k := 2) rfl
theorem dX11_needState_11 : decode cX11_needState 11 = .ok (.invokespecial 382, 3) := g_dec dt5003_X11_needState_ok (k := 3) rfl
theorem dX11_needState_14 : decode cX11_needState 14 = .ok (.athrow, 1) := g_dec dt5003_X11_needState_ok (k := 4) rfl
set_option maxRecDepth 100000 in
set_option maxHeartbeats 4000000 in
theorem xX11_needPlace (l : Launch) (hfl : l.stackTraces = false) (D : va_G) (y : Nat → ClassId) (aS : Nat → Nat) (sz : Nat) (L : List Nat) (ad : Nat → Nat) (N : Nat) (σ : gS) (x0 : Int32) (x1 : Int32) (h : fX11_needPlace N σ x0 x1 = none) : vx_Met l yX11_needPlace (Cond.code yX11_needPlace cX11_needPlace 2 none :: wsL_law) ({ frames := 6, cells := 1, slots := 6, locals := 82 } : Room) (va_Pc [.int x0, .int x1] (gIX D y aS (GW L y ad σ) sz)) (va_Qv (fun (_ : Unit) => False) (fun _ => gO D (va_A (GW L y ad σ) sz) (GW L y ad σ)) (va_A (GW L y ad σ) sz)) (vx_X (fun E => E = "java/lang/IndexOutOfBoundsException") (fun E u t => E = u ∧ gO D (va_A (GW L y ad σ) sz) (GW L y ad σ) t) (va_A (GW L y ad σ) sz)) 1 6 (va_A (GW L y ad σ) sz) := by
  refine gx_of (by decide) (Nat.le_of_ble_eq_true rfl) ?_
  intro p e s m below meth c ls A hx hb hr hml hown hg hlocks hin hsz hK hP hD hS hA hAe hl htab hZ
  rw [← hAe]
  replace hown : s.vm.findClass RX11 = some m.cls := hown
  replace hl : lv_has ls 2 [(0, .int x0), (1, .int x1)] := hl
  unfold fX11_needPlace at h
  refine lv_iload_n hx hb dX11_needPlace_0 rfl (lv_at hl 0 rfl) ?_
  refine lv_if_lt (tgt := 9) hx hb dX11_needPlace_1 (by decide) (fun z => ?_) (fun z => ?_)
  · exact gx_throw (is := 366) (ic := 368) hx hb hfl hK hZ hown (by decide +kernel) (hg _ gw_291) (hg _ gw_292) (List.mem_of_getElem? (i := 0) rfl) (exg_IOO hg) exb_IOO exo_IOO hP hD hS (by rw [hml]; exact hl.1) dX11_needPlace_9 dX11_needPlace_12 dX11_needPlace_13 dX11_needPlace_16 dX11_needPlace_19 htab (by decide) (Nat.le_of_ble_eq_true rfl) (Nat.le_of_ble_eq_true rfl) (Nat.le_of_ble_eq_true rfl) hlocks rfl (Nat.le_of_ble_eq_true rfl) (Nat.le_of_ble_eq_true rfl)
  · refine lv_iload_n hx hb dX11_needPlace_4 rfl (lv_at hl 0 rfl) ?_
    refine lv_iload_n hx hb dX11_needPlace_5 rfl (lv_at hl 1 rfl) ?_
    refine lv_icmp_lt (tgt := 20) hx hb dX11_needPlace_6 (by decide) (fun z2 => ?_) (fun z2 => ?_)
    · rw [if_neg z, if_pos z2] at h; cases h
    · exact gx_throw (is := 366) (ic := 368) hx hb hfl hK hZ hown (by decide +kernel) (hg _ gw_291) (hg _ gw_292) (List.mem_of_getElem? (i := 0) rfl) (exg_IOO hg) exb_IOO exo_IOO hP hD hS (by rw [hml]; exact hl.1) dX11_needPlace_9 dX11_needPlace_12 dX11_needPlace_13 dX11_needPlace_16 dX11_needPlace_19 htab (by decide) (Nat.le_of_ble_eq_true rfl) (Nat.le_of_ble_eq_true rfl) (Nat.le_of_ble_eq_true rfl) hlocks rfl (Nat.le_of_ble_eq_true rfl) (Nat.le_of_ble_eq_true rfl)
set_option maxRecDepth 100000 in
set_option maxHeartbeats 4000000 in
theorem xX11_needRange (l : Launch) (hfl : l.stackTraces = false) (D : va_G) (y : Nat → ClassId) (aS : Nat → Nat) (sz : Nat) (L : List Nat) (ad : Nat → Nat) (N : Nat) (σ : gS) (x0 : Int32) (x1 : Int32) (x2 : Int32) (h : fX11_needRange N σ x0 x1 x2 = none) : vx_Met l yX11_needRange (Cond.code yX11_needRange cX11_needRange 3 none :: wsL_law) ({ frames := 6, cells := 1, slots := 6, locals := 82 } : Room) (va_Pc [.int x0, .int x1, .int x2] (gIX D y aS (GW L y ad σ) sz)) (va_Qv (fun (_ : Unit) => False) (fun _ => gO D (va_A (GW L y ad σ) sz) (GW L y ad σ)) (va_A (GW L y ad σ) sz)) (vx_X (fun E => E = "java/lang/IllegalArgumentException") (fun E u t => E = u ∧ gO D (va_A (GW L y ad σ) sz) (GW L y ad σ) t) (va_A (GW L y ad σ) sz)) 1 6 (va_A (GW L y ad σ) sz) := by
  refine gx_of (by decide) (Nat.le_of_ble_eq_true rfl) ?_
  intro p e s m below meth c ls A hx hb hr hml hown hg hlocks hin hsz hK hP hD hS hA hAe hl htab hZ
  rw [← hAe]
  replace hown : s.vm.findClass RX11 = some m.cls := hown
  replace hl : lv_has ls 3 [(0, .int x0), (1, .int x1), (2, .int x2)] := hl
  unfold fX11_needRange at h
  refine lv_iload_n hx hb dX11_needRange_0 rfl (lv_at hl 0 rfl) ?_
  refine lv_iload_n hx hb dX11_needRange_1 rfl (lv_at hl 1 rfl) ?_
  refine lv_icmp_lt (tgt := 10) hx hb dX11_needRange_2 (by decide) (fun z => ?_) (fun z => ?_)
  · exact gx_throw (is := 373) (ic := 375) hx hb hfl hK hZ hown (by decide +kernel) (hg _ gw_337) (hg _ gw_338) (List.mem_of_getElem? (i := 2) rfl) (exg_IAE hg) exb_IAE exo_IAE hP hD hS (by rw [hml]; exact hl.1) dX11_needRange_10 dX11_needRange_13 dX11_needRange_14 dX11_needRange_17 dX11_needRange_20 htab (by decide) (Nat.le_of_ble_eq_true rfl) (Nat.le_of_ble_eq_true rfl) (Nat.le_of_ble_eq_true rfl) hlocks rfl (Nat.le_of_ble_eq_true rfl) (Nat.le_of_ble_eq_true rfl)
  · refine lv_iload_n hx hb dX11_needRange_5 rfl (lv_at hl 0 rfl) ?_
    refine lv_iload_n hx hb dX11_needRange_6 rfl (lv_at hl 2 rfl) ?_
    refine lv_icmp_le (tgt := 21) hx hb dX11_needRange_7 (by decide) (fun z2 => ?_) (fun z2 => ?_)
    · rw [if_neg z, if_pos z2] at h; cases h
    · exact gx_throw (is := 373) (ic := 375) hx hb hfl hK hZ hown (by decide +kernel) (hg _ gw_337) (hg _ gw_338) (List.mem_of_getElem? (i := 2) rfl) (exg_IAE hg) exb_IAE exo_IAE hP hD hS (by rw [hml]; exact hl.1) dX11_needRange_10 dX11_needRange_13 dX11_needRange_14 dX11_needRange_17 dX11_needRange_20 htab (by decide) (Nat.le_of_ble_eq_true rfl) (Nat.le_of_ble_eq_true rfl) (Nat.le_of_ble_eq_true rfl) hlocks rfl (Nat.le_of_ble_eq_true rfl) (Nat.le_of_ble_eq_true rfl)
set_option maxRecDepth 100000 in
set_option maxHeartbeats 4000000 in
theorem xX11_needState (l : Launch) (hfl : l.stackTraces = false) (D : va_G) (y : Nat → ClassId) (aS : Nat → Nat) (sz : Nat) (L : List Nat) (ad : Nat → Nat) (N : Nat) (σ : gS) (x0 : Int32) (h : fX11_needState N σ x0 = none) : vx_Met l yX11_needState (Cond.code yX11_needState cX11_needState 1 none :: wsL_law) ({ frames := 6, cells := 1, slots := 6, locals := 82 } : Room) (va_Pc [.int x0] (gIX D y aS (GW L y ad σ) sz)) (va_Qv (fun (_ : Unit) => False) (fun _ => gO D (va_A (GW L y ad σ) sz) (GW L y ad σ)) (va_A (GW L y ad σ) sz)) (vx_X (fun E => E = "java/lang/IllegalStateException") (fun E u t => E = u ∧ gO D (va_A (GW L y ad σ) sz) (GW L y ad σ) t) (va_A (GW L y ad σ) sz)) 1 6 (va_A (GW L y ad σ) sz) := by
  refine gx_of (by decide) (Nat.le_of_ble_eq_true rfl) ?_
  intro p e s m below meth c ls A hx hb hr hml hown hg hlocks hin hsz hK hP hD hS hA hAe hl htab hZ
  rw [← hAe]
  replace hown : s.vm.findClass RX11 = some m.cls := hown
  replace hl : lv_has ls 1 [(0, .int x0)] := hl
  unfold fX11_needState at h
  refine lv_iload_n hx hb dX11_needState_0 rfl (lv_at hl 0 rfl) ?_
  refine lv_if_ne (tgt := 15) hx hb dX11_needState_1 (by decide) (fun z => ?_) (fun z => ?_)
  · rw [if_neg z] at h; cases h
  · exact gx_throw (is := 380) (ic := 382) hx hb hfl hK hZ hown (by decide +kernel) (hg _ gw_316) (hg _ gw_317) (List.mem_of_getElem? (i := 1) rfl) (exg_ISE hg) exb_ISE exo_ISE hP hD hS (by rw [hml]; exact hl.1) dX11_needState_4 dX11_needState_7 dX11_needState_8 dX11_needState_11 dX11_needState_14 htab (by decide) (Nat.le_of_ble_eq_true rfl) (Nat.le_of_ble_eq_true rfl) (Nat.le_of_ble_eq_true rfl) hlocks rfl (Nat.le_of_ble_eq_true rfl) (Nat.le_of_ble_eq_true rfl)
