/-! what the class makes of a beginning's verdicts -/
theorem sTog_stop {set : Int32} {ver : Nat → Nat} {T j : Nat} (hj : j < T) (h1 : tb set j = true) (h2 : ver j = 2) : sTog set ver T = 2 := by
  unfold sTog
  have : sAny (fun q => tb set q && ver q == 2) T = true := sAny_iff.mpr ⟨j, hj, by simp [h1, h2]⟩
  rw [if_pos this]
theorem X_vob30 {N : Nat} {σ : gS} {set : Int32} {tr : Int64} {T : Nat} {ver : Nat → Nat} (hT : σ.1 65 5 = iN T) (hT4 : T ≤ 4) (hver : ∀ q, q < T → fX9_verdictOf N σ (76 + 3 * q) tr = some (iN (ver q))) (hv3 : ∀ q, q < T → ver q < 4) : ∀ (m j N' : Nat), j + m = T → m < N' → (∀ i, i < j → (tb set i && ver i == 2) = false) →
    lp (fX11_verdictOfBeginning_30 N σ set tr) N' (iN (if sAny (fun q => tb set q && ver q == 0) j = true then 0 else 1), iN j) = some (iN (sTog set ver T)) := by
  intro m
  induction m with
  | zero =>
    intro j N' hj hN' hno
    obtain ⟨N', rfl⟩ : ∃ k, N' = k + 1 := ⟨N' - 1, by omega⟩
    have e : j = T := by omega
    subst e
    rw [lp_1]
    have h2 : sAny (fun q => tb set q && ver q == 2) j = false := sAny_false.mpr hno
    have e2 : sTog set ver j = if sAny (fun q => tb set q && ver q == 0) j = true then 0 else 1 := by
      unfold sTog
      rw [h2]; simp
    rw [e2]
    simp (disch := omega) only [fX11_verdictOfBeginning_30, hT, i_0, i_1, i_2, i_3, i_4, i_5, i_6, i_7, i_8, i_9, i_10, i_11, i_12, i_14, i_15, i_16, i_24, i_30, i_31, i_32, i_48, i_60, i_64, i_80, i_99, i_100, i_m1, iN_of, iN_add, iN_mul, iN_sub, iN_01, iM_1, iN_div, iN_lt, iN_le, iN_eq, iN_cl, iM_lt, iM_gt, iM_le, iM_ge, iM_eq, iM_eq2, iN_64, jN_32, if_pos, if_neg, if_true, if_false, true_or, or_true, false_or, or_false, not_true_eq_false, not_false_eq_true, Option.bind_some]
  | succ m ih =>
    intro j N' hj hN' hno
    obtain ⟨N', rfl⟩ : ∃ k, N' = k + 1 := ⟨N' - 1, by omega⟩
    have hjT : j < T := by omega
    rw [lp_1]
    have hv := hver j hjT
    have hv4 := hv3 j hjT
    by_cases c1 : tb set j = true
    · by_cases c2 : ver j = 2
      · rw [sTog_stop hjT c1 c2]
        simp (disch := omega) only [fX11_verdictOfBeginning_30, hT, X_hasBit (show j < 32 by omega), iB0, c1, X7_at, hv, c2, i_0, i_1, i_2, i_3, i_4, i_5, i_6, i_7, i_8, i_9, i_10, i_11, i_12, i_14, i_15, i_16, i_24, i_30, i_31, i_32, i_48, i_60, i_64, i_80, i_99, i_100, i_m1, iN_of, iN_add, iN_mul, iN_sub, iN_01, iM_1, iN_div, iN_lt, iN_le, iN_eq, iN_cl, iM_lt, iM_gt, iM_le, iM_ge, iM_eq, iM_eq2, iN_64, jN_32, if_pos, if_neg, if_true, if_false, true_or, or_true, false_or, or_false, not_true_eq_false, not_false_eq_true, Option.bind_some, Bool.true_eq_false]
      · have hno2 : ∀ i, i < j + 1 → (tb set i && ver i == 2) = false := fun i hi => by
          by_cases e : i = j
          · subst e; simp [c2]
          · exact hno i (by omega)
        have := ih (j + 1) N' (by omega) (by omega) hno2
        by_cases c3 : ver j = 0
        · have e : sAny (fun q => tb set q && ver q == 0) (j + 1) = true := sAny_iff.mpr ⟨j, by omega, by simp [c1, c3]⟩
          rw [if_pos e] at this
          simp (disch := omega) only [fX11_verdictOfBeginning_30, fX11_verdictOfBeginning_86, hT, X_hasBit (show j < 32 by omega), iB0, c1, X7_at, hv, c3, i_0, i_1, i_2, i_3, i_4, i_5, i_6, i_7, i_8, i_9, i_10, i_11, i_12, i_14, i_15, i_16, i_24, i_30, i_31, i_32, i_48, i_60, i_64, i_80, i_99, i_100, i_m1, iN_of, iN_add, iN_mul, iN_sub, iN_01, iM_1, iN_div, iN_lt, iN_le, iN_eq, iN_cl, iM_lt, iM_gt, iM_le, iM_ge, iM_eq, iM_eq2, iN_64, jN_32, if_pos, if_neg, if_true, if_false, true_or, or_true, false_or, or_false, not_true_eq_false, not_false_eq_true, Option.bind_some, Bool.true_eq_false, Nat.reduceEqDiff]
          exact this
        · have e : sAny (fun q => tb set q && ver q == 0) (j + 1) = sAny (fun q => tb set q && ver q == 0) j := by
            conv => { lhs; unfold sAny }
            simp [c3]
          rw [e] at this
          simp (disch := omega) only [fX11_verdictOfBeginning_30, fX11_verdictOfBeginning_86, hT, X_hasBit (show j < 32 by omega), iB0, c1, X7_at, hv, c2, c3, i_0, i_1, i_2, i_3, i_4, i_5, i_6, i_7, i_8, i_9, i_10, i_11, i_12, i_14, i_15, i_16, i_24, i_30, i_31, i_32, i_48, i_60, i_64, i_80, i_99, i_100, i_m1, iN_of, iN_add, iN_mul, iN_sub, iN_01, iM_1, iN_div, iN_lt, iN_le, iN_eq, iN_cl, iM_lt, iM_gt, iM_le, iM_ge, iM_eq, iM_eq2, iN_64, jN_32, if_pos, if_neg, if_true, if_false, true_or, or_true, false_or, or_false, not_true_eq_false, not_false_eq_true, Option.bind_some, Bool.true_eq_false]
          exact this
    · have c1b : tb set j = false := by simpa using c1
      have hno2 : ∀ i, i < j + 1 → (tb set i && ver i == 2) = false := fun i hi => by
        by_cases e : i = j
        · subst e; simp [c1b]
        · exact hno i (by omega)
      have := ih (j + 1) N' (by omega) (by omega) hno2
      have e : sAny (fun q => tb set q && ver q == 0) (j + 1) = sAny (fun q => tb set q && ver q == 0) j := by
        conv => { lhs; unfold sAny }
        simp [c1b]
      rw [e] at this
      simp (disch := omega) only [fX11_verdictOfBeginning_30, fX11_verdictOfBeginning_86, hT, X_hasBit (show j < 32 by omega), iB0, c1b, i_0, i_1, i_2, i_3, i_4, i_5, i_6, i_7, i_8, i_9, i_10, i_11, i_12, i_14, i_15, i_16, i_24, i_30, i_31, i_32, i_48, i_60, i_64, i_80, i_99, i_100, i_m1, iN_of, iN_add, iN_mul, iN_sub, iN_01, iM_1, iN_div, iN_lt, iN_le, iN_eq, iN_cl, iM_lt, iM_gt, iM_le, iM_ge, iM_eq, iM_eq2, iN_64, jN_32, if_pos, if_neg, if_true, if_false, true_or, or_true, false_or, or_false, not_true_eq_false, not_false_eq_true, Option.bind_some]
      exact this
/-- of failing tests: whether one passed, or one is open -/
def vbG (set : Int32) (ver : Nat → Nat) (T : Nat) : Nat := if sAny (fun q => tb set q && ver q == 1) T = true then 1 else if sAny (fun q => tb set q && ver q == 0) T = true then 0 else 2
theorem X_vbg29 {N : Nat} {σ : gS} {set : Int32} {tr : Int64} {T : Nat} {ver : Nat → Nat} (hT : σ.1 65 5 = iN T) (hT4 : T ≤ 4) (hver : ∀ q, q < T → fX9_verdictOf N σ (76 + 3 * q) tr = some (iN (ver q))) (hv3 : ∀ q, q < T → ver q < 4) : ∀ (m j N' : Nat), j + m = T → m < N' → (∀ i, i < j → (tb set i && ver i == 1) = false) →
    lp (fX11_verdictBehindGood_29 N σ set tr) N' (iN (if sAny (fun q => tb set q && ver q == 0) j = true then 0 else 2), iN j) = some (iN (vbG set ver T)) := by
  intro m
  induction m with
  | zero =>
    intro j N' hj hN' hno
    obtain ⟨N', rfl⟩ : ∃ k, N' = k + 1 := ⟨N' - 1, by omega⟩
    have e : j = T := by omega
    subst e
    rw [lp_1]
    have h2 : sAny (fun q => tb set q && ver q == 1) j = false := sAny_false.mpr hno
    have e2 : vbG set ver j = if sAny (fun q => tb set q && ver q == 0) j = true then 0 else 2 := by
      unfold vbG
      rw [h2]; simp
    rw [e2]
    simp (disch := omega) only [fX11_verdictBehindGood_29, hT, i_0, i_1, i_2, i_3, i_4, i_5, i_6, i_7, i_8, i_9, i_10, i_11, i_12, i_14, i_15, i_16, i_24, i_30, i_31, i_32, i_48, i_60, i_64, i_80, i_99, i_100, i_m1, iN_of, iN_add, iN_mul, iN_sub, iN_01, iM_1, iN_div, iN_lt, iN_le, iN_eq, iN_cl, iM_lt, iM_gt, iM_le, iM_ge, iM_eq, iM_eq2, iN_64, jN_32, if_pos, if_neg, if_true, if_false, true_or, or_true, false_or, or_false, not_true_eq_false, not_false_eq_true, Option.bind_some]
  | succ m ih =>
    intro j N' hj hN' hno
    obtain ⟨N', rfl⟩ : ∃ k, N' = k + 1 := ⟨N' - 1, by omega⟩
    have hjT : j < T := by omega
    rw [lp_1]
    have hv := hver j hjT
    have hv4 := hv3 j hjT
    by_cases c1 : tb set j = true
    · by_cases c2 : ver j = 1
      · have e1 : vbG set ver T = 1 := by
          unfold vbG
          rw [if_pos (sAny_iff.mpr ⟨j, hjT, by simp [c1, c2]⟩)]
        rw [e1]
        simp (disch := omega) only [fX11_verdictBehindGood_29, hT, X_hasBit (show j < 32 by omega), iB0, c1, X7_at, hv, c2, i_0, i_1, i_2, i_3, i_4, i_5, i_6, i_7, i_8, i_9, i_10, i_11, i_12, i_14, i_15, i_16, i_24, i_30, i_31, i_32, i_48, i_60, i_64, i_80, i_99, i_100, i_m1, iN_of, iN_add, iN_mul, iN_sub, iN_01, iM_1, iN_div, iN_lt, iN_le, iN_eq, iN_cl, iM_lt, iM_gt, iM_le, iM_ge, iM_eq, iM_eq2, iN_64, jN_32, if_pos, if_neg, if_true, if_false, true_or, or_true, false_or, or_false, not_true_eq_false, not_false_eq_true, Option.bind_some, Bool.true_eq_false]
      · have hno2 : ∀ i, i < j + 1 → (tb set i && ver i == 1) = false := fun i hi => by
          by_cases e : i = j
          · subst e; simp [c2]
          · exact hno i (by omega)
        have := ih (j + 1) N' (by omega) (by omega) hno2
        by_cases c3 : ver j = 0
        · have e : sAny (fun q => tb set q && ver q == 0) (j + 1) = true := sAny_iff.mpr ⟨j, by omega, by simp [c1, c3]⟩
          rw [if_pos e] at this
          simp (disch := omega) only [fX11_verdictBehindGood_29, fX11_verdictBehindGood_85, hT, X_hasBit (show j < 32 by omega), iB0, c1, X7_at, hv, c3, i_0, i_1, i_2, i_3, i_4, i_5, i_6, i_7, i_8, i_9, i_10, i_11, i_12, i_14, i_15, i_16, i_24, i_30, i_31, i_32, i_48, i_60, i_64, i_80, i_99, i_100, i_m1, iN_of, iN_add, iN_mul, iN_sub, iN_01, iM_1, iN_div, iN_lt, iN_le, iN_eq, iN_cl, iM_lt, iM_gt, iM_le, iM_ge, iM_eq, iM_eq2, iN_64, jN_32, if_pos, if_neg, if_true, if_false, true_or, or_true, false_or, or_false, not_true_eq_false, not_false_eq_true, Option.bind_some, Bool.true_eq_false, Nat.reduceEqDiff]
          exact this
        · have e : sAny (fun q => tb set q && ver q == 0) (j + 1) = sAny (fun q => tb set q && ver q == 0) j := by
            conv => { lhs; unfold sAny }
            simp [c3]
          rw [e] at this
          simp (disch := omega) only [fX11_verdictBehindGood_29, fX11_verdictBehindGood_85, hT, X_hasBit (show j < 32 by omega), iB0, c1, X7_at, hv, c2, c3, i_0, i_1, i_2, i_3, i_4, i_5, i_6, i_7, i_8, i_9, i_10, i_11, i_12, i_14, i_15, i_16, i_24, i_30, i_31, i_32, i_48, i_60, i_64, i_80, i_99, i_100, i_m1, iN_of, iN_add, iN_mul, iN_sub, iN_01, iM_1, iN_div, iN_lt, iN_le, iN_eq, iN_cl, iM_lt, iM_gt, iM_le, iM_ge, iM_eq, iM_eq2, iN_64, jN_32, if_pos, if_neg, if_true, if_false, true_or, or_true, false_or, or_false, not_true_eq_false, not_false_eq_true, Option.bind_some, Bool.true_eq_false]
          exact this
    · have c1b : tb set j = false := by simpa using c1
      have hno2 : ∀ i, i < j + 1 → (tb set i && ver i == 1) = false := fun i hi => by
        by_cases e : i = j
        · subst e; simp [c1b]
        · exact hno i (by omega)
      have := ih (j + 1) N' (by omega) (by omega) hno2
      have e : sAny (fun q => tb set q && ver q == 0) (j + 1) = sAny (fun q => tb set q && ver q == 0) j := by
        conv => { lhs; unfold sAny }
        simp [c1b]
      rw [e] at this
      simp (disch := omega) only [fX11_verdictBehindGood_29, fX11_verdictBehindGood_85, hT, X_hasBit (show j < 32 by omega), iB0, c1b, i_0, i_1, i_2, i_3, i_4, i_5, i_6, i_7, i_8, i_9, i_10, i_11, i_12, i_14, i_15, i_16, i_24, i_30, i_31, i_32, i_48, i_60, i_64, i_80, i_99, i_100, i_m1, iN_of, iN_add, iN_mul, iN_sub, iN_01, iM_1, iN_div, iN_lt, iN_le, iN_eq, iN_cl, iM_lt, iM_gt, iM_le, iM_ge, iM_eq, iM_eq2, iN_64, jN_32, if_pos, if_neg, if_true, if_false, true_or, or_true, false_or, or_false, not_true_eq_false, not_false_eq_true, Option.bind_some]
      exact this
theorem X_ffb42 {N : Nat} {σ : gS} {set : Int32} {tr : Int64} {T : Nat} {ver : Nat → Nat} (hN : 100 ≤ N) (hT : σ.1 65 5 = iN T) (hT4 : T ≤ 4) (hver : ∀ q, q < T → fX9_verdictOf N σ (76 + 3 * q) tr = some (iN (ver q))) (hv3 : ∀ q, q < T → ver q < 4) : lp (fX11_failedForBad_42 N σ set tr) N (iN 0, iN 0) = some (orT (fun q => tb set q && ver q == 2) T) := by
  refine lp_run (F := fX11_failedForBad_42 N σ set tr) (fun q => (orT (fun q => tb set q && ver q == 2) q, iN q)) T (fun j hj rec => ?_) (fun rec => ?_) N (by omega)
  · have hv := hver j hj
    have hv4 := hv3 j hj
    by_cases c1 : tb set j = true
    · by_cases c2 : ver j = 2
      · rw [orT_t (show (fun q => tb set q && ver q == 2) j = true by simp [c1, c2])]
        simp (disch := omega) only [fX11_failedForBad_42, fX11_failedForBad_93, hT, X_hasBit (show j < 32 by omega), iB0, c1, X7_at, hv, c2, i_0, i_1, i_2, i_3, i_4, i_5, i_6, i_7, i_8, i_9, i_10, i_11, i_12, i_14, i_15, i_16, i_24, i_30, i_31, i_32, i_48, i_60, i_64, i_80, i_99, i_100, i_m1, iN_of, iN_add, iN_mul, iN_sub, iN_01, iM_1, iN_div, iN_lt, iN_le, iN_eq, iN_cl, iM_lt, iM_gt, iM_le, iM_ge, iM_eq, iM_eq2, iN_64, jN_32, if_pos, if_neg, if_true, if_false, true_or, or_true, false_or, or_false, not_true_eq_false, not_false_eq_true, Option.bind_some, Bool.true_eq_false]
      · rw [orT_f (show (fun q => tb set q && ver q == 2) j = false by simp [c2])]
        simp (disch := omega) only [fX11_failedForBad_42, fX11_failedForBad_93, hT, X_hasBit (show j < 32 by omega), iB0, c1, X7_at, hv, c2, i_0, i_1, i_2, i_3, i_4, i_5, i_6, i_7, i_8, i_9, i_10, i_11, i_12, i_14, i_15, i_16, i_24, i_30, i_31, i_32, i_48, i_60, i_64, i_80, i_99, i_100, i_m1, iN_of, iN_add, iN_mul, iN_sub, iN_01, iM_1, iN_div, iN_lt, iN_le, iN_eq, iN_cl, iM_lt, iM_gt, iM_le, iM_ge, iM_eq, iM_eq2, iN_64, jN_32, if_pos, if_neg, if_true, if_false, true_or, or_true, false_or, or_false, not_true_eq_false, not_false_eq_true, Option.bind_some, Bool.true_eq_false]
    · have c1b : tb set j = false := by simpa using c1
      rw [orT_f (show (fun q => tb set q && ver q == 2) j = false by simp [c1b])]
      simp (disch := omega) only [fX11_failedForBad_42, fX11_failedForBad_93, hT, X_hasBit (show j < 32 by omega), iB0, c1b, i_0, i_1, i_2, i_3, i_4, i_5, i_6, i_7, i_8, i_9, i_10, i_11, i_12, i_14, i_15, i_16, i_24, i_30, i_31, i_32, i_48, i_60, i_64, i_80, i_99, i_100, i_m1, iN_of, iN_add, iN_mul, iN_sub, iN_01, iM_1, iN_div, iN_lt, iN_le, iN_eq, iN_cl, iM_lt, iM_gt, iM_le, iM_ge, iM_eq, iM_eq2, iN_64, jN_32, if_pos, if_neg, if_true, if_false, true_or, or_true, false_or, or_false, not_true_eq_false, not_false_eq_true, Option.bind_some]
  · simp (disch := omega) only [fX11_failedForBad_42, hT, i_0, i_1, i_2, i_3, i_4, i_5, i_6, i_7, i_8, i_9, i_10, i_11, i_12, i_14, i_15, i_16, i_24, i_30, i_31, i_32, i_48, i_60, i_64, i_80, i_99, i_100, i_m1, iN_of, iN_add, iN_mul, iN_sub, iN_01, iM_1, iN_div, iN_lt, iN_le, iN_eq, iN_cl, iM_lt, iM_gt, iM_le, iM_ge, iM_eq, iM_eq2, iN_64, jN_32, if_pos, if_neg, if_true, if_false, true_or, or_true, false_or, or_false, not_true_eq_false, not_false_eq_true, Option.bind_some]
