/-! the class is told of a run that counts -/
theorem X_tellL {N : Nat} {σ M : gS} {T V U B j q : Nat} {ag : Nat → Nat} {z : Int64} (hN : 5000 ≤ N) (hT : T ≤ 4) (hq : q < T) (hj : j < 3) (hen : EN M T V) (hck : CK σ M V B ag q) (hrv : RCv σ M T V U ag) (hU : U < 1024) (hB : B < 1000) (hag : ∀ q, q < T → ag q < 1000) (h2 : σ.1 (144 + j) 2 = iN q) (h4 : σ.1 (144 + j) 4 = iN (ag q)) (h3 : σ.2.1 (144 + j) 3 = z &&& gMask (M.1 172 (12 * q))) (hv : sVer M V q z = 0) :
    ∃ (f fk : Nat) (fb : Bool) (U' : Nat) (σ' : gS), f ≤ 4 ∧ fk ≤ B ∧ ev M V (gKey M q z) = 68 * f ∧ M.1 172 (12 * q + 5) = iN fk ∧ M.1 172 (12 * q + 6) = iN (if fk < 2 then 0 else 1) ∧ (∀ s : gS, s.1 172 = M.1 172 → fL_fails N s (iN q) z (iN f) = some (iB fb)) ∧ fX11_tellRun N σ (144 + j) = some σ' ∧ (∀ k, ¬ (106 ≤ k ∧ k < 109) → k ≠ 183 → k ≠ 76 + 3 * q → k ≠ 144 + j → k ≠ 0 → σ'.1 k = σ.1 k) ∧ (∀ i, i ≠ 8 → i ≠ 9 → σ'.1 (76 + 3 * q) i = σ.1 (76 + 3 * q) i) ∧ (∀ i, i ≠ 18 → σ'.1 0 i = σ.1 0 i) ∧ σ'.1 0 18 = iN 0 ∧ (∀ k, k ≠ 107 → k ≠ 182 → σ'.2.1 k = σ.2.1 k) ∧ (σ'.1 (144 + j) 1 = iN q ∧ σ'.1 (144 + j) 2 = iM ∧ ∀ i, i ≠ 1 → i ≠ 2 → σ'.1 (144 + j) i = σ.1 (144 + j) i) ∧ σ'.1 (76 + 3 * q) 8 = iN (sumR M q V + 1) ∧ σ'.1 (76 + 3 * q) 9 = iN (tlK (4 * f) fk fb) ∧ RCv σ' (tlM M V q f fk fb (gKey M q z)) T (tlU M V (gKey M q z)) U' ag ∧ U' ≤ U + 1 := by
  obtain ⟨hrk, ⟨r, b, fk, hr, hb, hb6, h5, hfkB, h9, h6, hw⟩, c2, c4, c5, c8, -⟩ := hck
  have hev0 := hen.ev (gKey M q z)
  rw [sVer_ev] at hv
  obtain ⟨f, hf4, hev⟩ := hev0.open_ hv
  have hgk : gKey M q (z &&& gMask (M.1 172 (12 * q))) = gKey M q z := gKey_mask M q z
  have hkey := X_keyOf (N := N) (t := z &&& gMask (M.1 172 (12 * q))) hrk (show q < 8 by omega)
  have hval := X_valueOf (t := z &&& gMask (M.1 172 (12 * q))) hN hrv hq hT
  rw [hgk, entC_ev, hev, show 68 * f / 64 * 4 + (68 * f - 68 * f / 4 * 4) = 4 * f by omega] at hval
  have hfail := X_fails (N := N) (t := z &&& gMask (M.1 172 (12 * q))) (run := iN f) (by omega) (show q < 4 by omega) hr hrk.1 c2 c5 hb6
  rw [flS_mask hw] at hfail
  have hfailL : ∀ s : gS, s.1 172 = M.1 172 → fL_fails N s (iN q) z (iN f) = some (iB (flS M q r z (iN f) b)) := fun s hs => by
    have hl : (lawOf s).1 172 = M.1 172 := (lw1 (rfl : lawOf s = lawOf s) (by omega)).symm.trans hs
    have := L_fails (N := N) (σ := s) (M := lawOf s) (q := q) (r := r) (t := z) (run := iN f) (b := b) (by omega) rfl (by omega) (by rw [hl]; exact hr.1) hr.2.1 (by rw [hl]; exact hb) (fun i hi => by
      have := hr.2.2.2 i hi
      unfold vN at this ⊢
      rw [hl]; exact ⟨this.1, this.2.1⟩)
    rw [this, flS_congr (M := M) (M' := lawOf s) (fun x _ _ => by rw [hl])]
  generalize flS M q r z (iN f) b = fb at hfail hfailL
  obtain ⟨len, g, hTab, hU2, hTV⟩ := hrv.tab
  have hne : kC (ag q) q ((z &&& gMask (M.1 172 (12 * q))) &&& gMask (M.1 172 (12 * q))) ≠ 0 := kC_ne (show q < 8 by omega) (low_mask _ _)
  have hupd := TabV.upd (M' := tlM M V q f fk fb (gKey M q z)) (V' := tlU M V (gKey M q z)) (q := q) (v := 4 * tlF (4 * f) fb + tlV (4 * f) fk fb) (t := z &&& gMask (M.1 172 (12 * q))) hTV hq hT hag (fun q' hq' => gMask_tl q' (by omega) (by omega)) (by rw [entC_ev, hgk, tl_ev hf4, if_pos rfl]; exact EV.tl_cls hf4) (fun key hk => by
    rw [hgk] at hk
    rw [entC_ev, entC_ev, tl_ev hf4, if_neg hk])
  have hX := X_tell (N := N) (σ := σ) (r := 76 + 3 * q) (e := 4 * f) (fb := fb) hN (by omega) hTab hU2 hU hne hkey hval (by omega) (by rw [show 4 * f / 4 = f by omega]; exact hfail) c8 h9 (by omega)
  generalize kC (ag q) q ((z &&& gMask (M.1 172 (12 * q))) &&& gMask (M.1 172 (12 * q))) = kk at hupd hX
  obtain ⟨σ2, len', U', w1, ⟨w2, w3, w4⟩, w5, w6, w7, w8, w9⟩ := hX
  have hrun : fX11_tellRun N σ (144 + j) = some (sI (sI (sI σ2 (144 + j) 1 (σ2.1 (144 + j) 2)) (144 + j) 2 (-1)) 0 18 0) := by
    unfold fX11_tellRun
    rw [h2, X7_at (show q < 10 by omega), Option.bind_some, h4, if_pos hrk.2.1.symm, h3, w1, Option.bind_some]
    rfl
  have hm : σ2.1 (144 + j) = σ.1 (144 + j) := w2 _ (by omega) (by omega) (by omega)
  have hR : ∀ k i, k ≠ 144 + j → ¬ (k = 0 ∧ i = 18) → (sI (sI (sI σ2 (144 + j) 1 (σ2.1 (144 + j) 2)) (144 + j) 2 (-1)) 0 18 0).1 k i = σ2.1 k i := fun k i hk hk2 => by
    rw [sI_1, if_neg hk2, sI_1, if_neg (by omega), sI_1, if_neg (by omega)]
  refine ⟨f, fk, fb, U', _, hf4, hfkB, hev, h5, h6, hfailL, hrun, fun k e1 e2 e3 e4 e5 => ?_, fun i e1 e2 => ?_, fun i e1 => ?_, ?_, fun k e1 e2 => ?_, ⟨?_, ?_, fun i e1 e2 => ?_⟩, ?_, ?_, ?_, w9⟩
  · funext i
    rw [hR k i e4 (by omega), w2 k e1 e2 e3]
  · rw [hR _ i (by omega) (by omega), w3 i e1 e2]
  · rw [hR _ i (by omega) (by omega), w2 0 (by omega) (by omega) (by omega)]
  · rw [sI_1, if_pos ⟨rfl, rfl⟩]; rfl
  · exact w4 k e1 e2
  · rw [sI_1, if_neg (by omega), sI_1, if_neg (by omega), sI_1, if_pos ⟨rfl, rfl⟩, hm]; exact h2
  · rw [sI_1, if_neg (by omega), sI_1, if_pos ⟨rfl, rfl⟩]; rfl
  · rw [sI_1, if_neg (by omega), sI_1, if_neg (by omega), sI_1, if_neg (by omega), hm]
  · rw [hR _ 8 (by omega) (by omega)]; exact w5
  · rw [hR _ 9 (by omega) (by omega)]; exact w6
  · refine RCv.of (len := len') (f := fun k => if k = kk then iN (4 * tlF (4 * f) fb + tlV (4 * f) fk fb) else g k) ?_ w8 hupd
    refine w7.sm rfl ?_ rfl ?_
    · funext i; exact hR 106 i (by omega) (by omega)
    · funext i; exact hR 108 i (by omega) (by omega)
/-- a run that counts no more -/
theorem X_tellS {N : Nat} {σ M : gS} {q j a : Nat} {ag : Nat → Nat} (hq : q < 4) (hj : j < 3) (hrk : RCk σ M ag q) (h2 : σ.1 (144 + j) 2 = iN q) (ha : a < ag q) (h4 : σ.1 (144 + j) 4 = iN a) : fX11_tellRun N σ (144 + j) = some (sI (sI (sI σ (144 + j) 1 (iN q)) (144 + j) 2 iM) 0 18 (iN 0)) := by
  have hb := hrk.2.2.1
  unfold fX11_tellRun
  rw [h2, X7_at (show q < 10 by omega), Option.bind_some, h4, hrk.2.1, if_neg (by rw [iN_eq (by omega) (by omega)]; omega)]
  unfold fX11_tellRun_35
  rw [h2]; rfl
theorem X_mach {N : Nat} {σ : gS} {j : Nat} (hj : j < 6) : fX11_machineAt N σ (iN j) = some (144 + j) := by
  unfold fX11_machineAt
  rw [if_neg (show ¬ iN j < (0 : Int32) by rw [i_0, iN_lt (by omega) (by omega)]; omega), if_neg (show ¬ (6 : Int32) ≤ iN j by rw [i_6, iN_le (by omega) (by omega)]; omega), if_neg (gi hj (by decide)), iN_cl (by omega)]
/-- a tick of a machine -/
theorem X_p12i {N : Nat} {rec : (gS × Int32) → Option gS} {σ : gS} {j : Nat} (hj : j < 6) (h : σ.1 (144 + j) 2 = iM) : fX11_passTick_12 N rec (σ, iN j) = rec (σ, iN (j + 1)) := by
  have e : fX6_isDoneByTick N σ (144 + j) = some ((0 : Int32), σ) := by
    unfold fX6_isDoneByTick
    rw [h, if_pos (show iM = (-1 : Int32) from rfl)]
  unfold fX11_passTick_12
  dsimp only
  rw [if_neg (show ¬ (6 : Int32) ≤ iN j by rw [i_6, iN_le (by omega) (by omega)]; omega), X_mach hj, Option.bind_some, e, Option.bind_some]
  unfold fX11_passTick_36
  dsimp only
  rw [if_pos rfl, i_1, iN_add]
theorem X_p12r {N : Nat} {rec : (gS × Int32) → Option gS} {σ : gS} {j q l : Nat} (hj : j < 6) (hq : q < 4) (h : σ.1 (144 + j) 2 = iN q) (h5 : σ.1 (144 + j) 5 = iN (l + 1)) (hl : l < 1000) (hl0 : l ≠ 0) : fX11_passTick_12 N rec (σ, iN j) = rec (sI σ (144 + j) 5 (iN l), iN (j + 1)) := by
  have e : fX6_isDoneByTick N σ (144 + j) = some ((0 : Int32), sI σ (144 + j) 5 (iN l)) := by
    have g : (sI σ (144 + j) 5 (iN l)).1 (144 + j) 5 = iN l := by rw [sI_1, if_pos ⟨rfl, rfl⟩]
    unfold fX6_isDoneByTick
    rw [h, if_neg (show ¬ iN q = (-1 : Int32) from iM_ne (by omega)), h5, i_1, iN_sub (by omega) (by omega), Nat.add_sub_cancel, g, if_pos (show (0 : Int32) < iN l by rw [i_0, iN_lt (by omega) (by omega)]; omega)]
    rfl
  unfold fX11_passTick_12
  dsimp only
  rw [if_neg (show ¬ (6 : Int32) ≤ iN j by rw [i_6, iN_le (by omega) (by omega)]; omega), X_mach hj, Option.bind_some, e, Option.bind_some]
  unfold fX11_passTick_36
  dsimp only
  rw [if_pos rfl, i_1, iN_add]
theorem X_p12d {N : Nat} {rec : (gS × Int32) → Option gS} {σ σ' : gS} {j q : Nat} (hj : j < 6) (hq : q < 4) (h : σ.1 (144 + j) 2 = iN q) (h5 : σ.1 (144 + j) 5 = iN 1) (hr : fX11_tellRun N (sI σ (144 + j) 5 (iN 0)) (144 + j) = some σ') : fX11_passTick_12 N rec (σ, iN j) = rec (σ', iN (j + 1)) := by
  have e : fX6_isDoneByTick N σ (144 + j) = some ((1 : Int32), sI σ (144 + j) 5 (iN 0)) := by
    have g : (sI σ (144 + j) 5 (iN (1 - 1))).1 (144 + j) 5 = iN (1 - 1) := by rw [sI_1, if_pos ⟨rfl, rfl⟩]
    unfold fX6_isDoneByTick
    rw [h, if_neg (show ¬ iN q = (-1 : Int32) from iM_ne (by omega)), h5]
    rw [show (iN 1 - 1 : Int32) = iN (1 - 1) from rfl, g, if_neg (show ¬ (0 : Int32) < iN (1 - 1) by decide)]
    rfl
  unfold fX11_passTick_12
  dsimp only
  rw [if_neg (show ¬ (6 : Int32) ≤ iN j by rw [i_6, iN_le (by omega) (by omega)]; omega), X_mach hj, Option.bind_some, e, Option.bind_some, if_neg (show ¬ (1 : Int32) = 0 by decide), hr, Option.bind_some]
  unfold fX11_passTick_36
  rw [i_1, iN_add]
