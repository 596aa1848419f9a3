/-! what is asked: the commits -/
section ASK
variable {N : Nat} {M : gS} {n T G V U h sz dp B : Nat} {ag : Nat → Nat}
theorem L_433 {σ : gS} {x25 : Int64} {x27 : Int32} {cm : Nat} (hN : 5000 ≤ N) (qa : QA σ M n T G V U h sz dp B ag) (hcm : cm < h) (rec368 : (gS × Int32 × Int32) → Option (Int32 × gS)) : lp (fL_isAll_433 N rec368 x25 x27 (iN cm)) N (σ, 1, 0) = rec368 (σ, 1, iN (cm + 2)) := by
  have hM := qa.2.2
  obtain ⟨hF, hh, h5, h6⟩ := id qa.1.1.1
  have hT := qa.1.2.1.1
  obtain ⟨z1, z2, z3, z4, ⟨t1, t2, t3, t4, t5⟩, z6, z7, z8, z9, z10, z11⟩ := id qa.1.1
  have hTs : σ.1 65 5 = iN T := z4.1.1
  have hT2 : σ.1 161 2 = iN T := by rw [lw1 hM (by omega)]; exact hF.2.1.1
  have l171 : σ.2.1 171 = M.2.1 171 := lw2 hM (by omega)
  have e2 : iN cm + (2 : Int32) = iN (cm + 2) := iN_add _ 2
  refine lp_run (F := fL_isAll_433 N rec368 x25 x27 (iN cm)) (fun q => (σ, 1, iN q)) T (fun q hq rec => ?_) (fun rec => ?_) N (by omega)
  · have ev : fX11_verdict N σ (iN q) (iN cm) = some (iN (sVer M V q (M.2.1 171 cm))) := by
      unfold fX11_verdict
      rw [hTs, X_place hq (by omega), Option.bind_some, t4, X_place hcm (by omega), Option.bind_some, X7_at (by omega), Option.bind_some, X_get (r := 151) (len := 61) rfl (show cm < 61 by omega) (by omega), Option.bind_some, show σ.2.1 (151 + 1) cm = M.2.1 171 cm from t5 cm hcm, X_verdictOf hN z10 (z11 q hq) hq hT (fun j hj => (hF.2.2.2.2.1.2.2 j hj).2), Option.bind_some]
    unfold fL_isAll_433
    dsimp only
    rw [hT2, if_neg (show ¬ iN T ≤ iN q by rw [iN_le (by omega) (by omega)]; omega), if_neg (show ¬ (1 : Int32) = 0 by decide), ev, Option.bind_some, if_neg (gi (show cm < 26 by omega) (by decide)), iN_cl (show cm < 2147483648 by omega), l171, L_ver (show 100 ≤ N by omega) hM hF (show q < 4 by omega), Option.bind_some, if_pos rfl]
    unfold fL_isAll_479
    rw [show iN q + (1 : Int32) = iN (q + 1) from iN_add _ 1]
  · unfold fL_isAll_433
    dsimp only
    rw [hT2, if_pos (Int32.le_refl _)]
    unfold fL_isAll_487
    rw [e2]
theorem L_384 {σ : gS} {x25 : Int64} {x27 : Int32} {cm : Nat} (hN : 5000 ≤ N) (qa : QA σ M n T G V U h sz dp B ag) (hcm : cm < h) (rec368 : (gS × Int32 × Int32) → Option (Int32 × gS)) : lp (fL_isAll_384 N rec368 x25 x27 (iN cm)) N (σ, 1, 0) = rec368 (σ, 1, iN (cm + 2)) := by
  have hM := qa.2.2
  obtain ⟨t1, t2, t3, t4, t5⟩ := id qa.1.1.2.2.2.2.1
  have l171 : σ.2.1 171 = M.2.1 171 := lw2 hM (by omega)
  refine lp_run (F := fL_isAll_384 N rec368 x25 x27 (iN cm)) (fun f => (σ, 1, iN f)) 12 (fun f hf rec => ?_) (fun rec => ?_) N (by omega)
  · have ev : fX11_content N σ (iN cm) (iN f) = some (gAt (M.2.1 171 cm) f) := by
      unfold fX11_content
      rw [t4, X_place hcm (by omega), Option.bind_some, show fX11_needPlace N σ (iN f) (12 : Int32) = some () from X_place (n := 12) hf (by omega), Option.bind_some, X_get (r := 151) (len := 61) rfl (show cm < 61 by omega) (by omega), Option.bind_some, show σ.2.1 (151 + 1) cm = M.2.1 171 cm from t5 cm hcm, X_cont hf, Option.bind_some]
    unfold fL_isAll_384
    dsimp only
    rw [if_neg (show ¬ (12 : Int32) ≤ iN f by rw [show (12 : Int32) = iN 12 from rfl, iN_le (by omega) (by omega)]; omega), if_neg (show ¬ (1 : Int32) = 0 by decide), ev, Option.bind_some, if_neg (gi (show cm < 26 by omega) (by decide)), iN_cl (show cm < 2147483648 by omega), l171, L_at (show f < 16 by omega), Option.bind_some, if_pos rfl]
    unfold fL_isAll_422
    rw [show iN f + (1 : Int32) = iN (f + 1) from iN_add _ 1]
  · unfold fL_isAll_384
    dsimp only
    rw [if_pos (show (12 : Int32) ≤ iN 12 by decide)]
    unfold fL_isAll_430
    exact L_433 hN qa hcm rec368
theorem L_362 {σ : gS} {x25 : Int64} {x27 : Int32} {x : Nat} (hN : 5000 ≤ N) (hB : B < 100000) (hx : x < 100000000) (qa : QA σ M n T G V U h sz dp B ag) : fL_isAll_362 N σ (iN x) 1 x25 x27 = fL_isAll_735 N σ 1 x25 x27 := by
  have hM := qa.2.2
  obtain ⟨t1, t2, t3, t4, t5⟩ := id qa.1.1.2.2.2.2.1
  have hh : σ.1 161 1 = iN h := by rw [lw1 hM (by omega)]; exact t1
  obtain ⟨r, hr⟩ : ∃ r, x - x / 2 * 2 = r := ⟨_, rfl⟩
  have er : iN x - iN x / (2 : Int32) * 2 = iN r := by rw [← hr]; exact iN_rem (k := 2) (by omega) (by omega)
  unfold fL_isAll_362
  rw [er]
  refine lp_run (F := fL_isAll_368 N x25 x27) (fun j => (σ, 1, iN (r + 2 * j))) ((h - r + 1) / 2) (fun j hj rec => ?_) (fun rec => ?_) N (by omega)
  · unfold fL_isAll_368
    dsimp only
    rw [hh, if_neg (show ¬ iN h ≤ iN (r + 2 * j) by rw [iN_le (by omega) (by omega)]; omega), if_neg (show ¬ (1 : Int32) = 0 by decide), L_384 hN qa (show r + 2 * j < h by omega)]
    rfl
  · unfold fL_isAll_368
    dsimp only
    rw [hh, if_pos (show iN h ≤ iN (r + 2 * ((h - r + 1) / 2)) by rw [iN_le (by omega) (by omega)]; omega)]
    unfold fL_isAll_493
    exact L_496 hN hB qa
end ASK
