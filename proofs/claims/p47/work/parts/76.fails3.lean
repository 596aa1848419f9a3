/-! the law's runs -/
theorem l212_0 {N : Nat} {σ : gS} : fL_fails_212 N σ 0 = some (iN 0) := if_neg (by decide)
theorem l212_1 {N : Nat} {σ : gS} : fL_fails_212 N σ 1 = some (iN 1) := if_neg (by decide)
theorem L_f85 {N : Nat} {σ M : gS} {q r : Nat} {t : Int64} {run c : Int32} {b : Bool} (hN : 100 ≤ N) (hM : lawOf σ = M) (hq : q < 4) (h1 : M.1 172 (12 * q + 4) = iN r) (h2 : r ≤ 5) (h4 : ∀ i, i < r → M.1 172 (12 * q + 7 + i) = iN (vN M 172 (12 * q + 7 + i)) ∧ vN M 172 (12 * q + 7 + i) < 65536) : lp (fL_fails_85 N σ t run (iN (12 * q)) c) N (iB b, iN 0) = some (iB (b || sAny (brB M q t) r || !decide (M.1 172 (12 * q + 2) ≤ (fmD c run).toInt32))) := by
  have k172 : σ.1 172 = M.1 172 := lw1 hM (by omega)
  have w1 : ¬ (iN (12 * q + 4) < (0 : Int32) ∨ 48 ≤ (iN (12 * q + 4)).toNatClampNeg) := by
    rw [i_0, iN_lt (by omega) (by omega), iN_cl (by omega)]; omega
  have w2 : ¬ (iN (12 * q + 2) < (0 : Int32) ∨ 48 ≤ (iN (12 * q + 2)).toNatClampNeg) := by
    rw [i_0, iN_lt (by omega) (by omega), iN_cl (by omega)]; omega
  rw [show iB b = iB (b || sAny (brB M q t) 0) by rw [show sAny (brB M q t) 0 = false from rfl, Bool.or_false]]
  refine lp_run (F := fL_fails_85 N σ t run (iN (12 * q)) c) (fun i => (iB (b || sAny (brB M q t) i), iN i)) r (fun i hi rec => ?_) (fun rec => ?_) N (by omega)
  · obtain ⟨a1, a2⟩ := h4 i hi
    have w3 : ¬ (iN (12 * q + 7 + i) < (0 : Int32) ∨ 48 ≤ (iN (12 * q + 7 + i)).toNatClampNeg) := by
      rw [i_0, iN_lt (by omega) (by omega), iN_cl (by omega)]; omega
    have eb : brB M q t i = (decide (gAt t (vN M 172 (12 * q + 7 + i) - vN M 172 (12 * q + 7 + i) / 16 * 16) = iN (vN M 172 (12 * q + 7 + i) / 16 - vN M 172 (12 * q + 7 + i) / 16 / 16 * 16)) && decide (gAt t (vN M 172 (12 * q + 7 + i) / 256 - vN M 172 (12 * q + 7 + i) / 256 / 16 * 16) = iN (vN M 172 (12 * q + 7 + i) / 4096))) := rfl
    have e256 : (256 : Int32) = iN 256 := rfl
    have e4096 : (4096 : Int32) = iN 4096 := rfl
    have e7 : (7 : Int32) = iN 7 := rfl
    unfold fL_fails_85 fL_fails_155 fL_fails_159 fL_fails_160
    dsimp only
    rw [i_4, iN_add, if_neg w1, iN_cl (show 12 * q + 4 < 2147483648 by omega), k172, h1, if_neg (by rw [iN_le (by omega) (by omega)]; omega), e7, iN_add, iN_add, if_neg w3, iN_cl (show 12 * q + 7 + i < 2147483648 by omega), a1, i_0, sAny_s, eb]
    simp only [iB0, i_16, e256, e4096, i_1, iN_add]
    rw [iN_div (by omega) (by omega), iN_div (by omega) (by omega), iN_div (by omega) (by omega), iN_mul, iN_sub (by omega) (by omega), iN_div (by omega) (by omega), iN_mul, iN_sub (by omega) (by omega), iN_div (by omega) (by omega), iN_mul, iN_sub (by omega) (by omega), L_at (by omega), L_at (by omega)]
    simp only [Option.bind_some]
    cases c0 : b || sAny (brB M q t) i with
    | true =>
      rw [if_neg (by simp)]
      have : (b || (sAny (brB M q t) i || (decide (gAt t (vN M 172 (12 * q + 7 + i) - vN M 172 (12 * q + 7 + i) / 16 * 16) = iN (vN M 172 (12 * q + 7 + i) / 16 - vN M 172 (12 * q + 7 + i) / 16 / 16 * 16)) && decide (gAt t (vN M 172 (12 * q + 7 + i) / 256 - vN M 172 (12 * q + 7 + i) / 256 / 16 * 16) = iN (vN M 172 (12 * q + 7 + i) / 4096))))) = true := by
        rw [← Bool.or_assoc, c0]; rfl
      rw [this]; rfl
    | false =>
      rw [if_pos rfl]
      rw [show ∀ x, (b || (sAny (brB M q t) i || x)) = x from fun x => by rw [← Bool.or_assoc, c0]; rfl]
      by_cases d1 : gAt t (vN M 172 (12 * q + 7 + i) - vN M 172 (12 * q + 7 + i) / 16 * 16) = iN (vN M 172 (12 * q + 7 + i) / 16 - vN M 172 (12 * q + 7 + i) / 16 / 16 * 16)
      · rw [if_pos d1, decide_eq_true d1]
        by_cases d2 : gAt t (vN M 172 (12 * q + 7 + i) / 256 - vN M 172 (12 * q + 7 + i) / 256 / 16 * 16) = iN (vN M 172 (12 * q + 7 + i) / 4096)
        · rw [if_pos d2, decide_eq_true d2]; rfl
        · rw [if_neg d2, decide_eq_false d2]; rfl
      · rw [if_neg d1, decide_eq_false d1]; rfl
  · unfold fL_fails_85 fL_fails_207
    dsimp only
    rw [i_4, iN_add, if_neg w1, iN_cl (show 12 * q + 4 < 2147483648 by omega), k172, h1, if_pos (by rw [iN_le (by omega) (by omega)]; omega), i_2, iN_add, if_neg w2, iN_cl (show 12 * q + 2 < 2147483648 by omega)]
    have hf := fl_cmp (fl := M.1 172 (12 * q + 2)) (rem10 ((((c.toInt64) * 7919) + ((run.toInt64) * 104729)) - (((c.toInt64) * 7919) + ((run.toInt64) * 104729)) / 1000003 * 1000003))
    have hf2 : (M.1 172 (12 * q + 2) ≤ (fmD c run).toInt32) = ((0 : Int32) ≤ lg_cmp (fmD c run) (M.1 172 (12 * q + 2)).toInt64) := hf
    rw [show ((((c.toInt64) * 7919) + ((run.toInt64) * 104729)) - (((c.toInt64) * 7919) + ((run.toInt64) * 104729)) / 1000003 * 1000003) - ((((c.toInt64) * 7919) + ((run.toInt64) * 104729)) - (((c.toInt64) * 7919) + ((run.toInt64) * 104729)) / 1000003 * 1000003) / 10 * 10 = fmD c run from rfl]
    clear hf
    have e0 : (iB false = (0 : Int32)) := rfl
    have e1 : ¬ (iB true = (0 : Int32)) := by decide
    generalize fmD c run = d at hf2 ⊢
    generalize M.1 172 (12 * q + 2) = fl at hf2 ⊢
    cases c0 : b || sAny (brB M q t) r with
    | true =>
      rw [if_neg e1, l212_1, Bool.true_or, iB_t]
    | false =>
      rw [if_pos e0]
      by_cases c2 : fl ≤ d.toInt32
      · have c3 : (0 : Int32) ≤ lg_cmp d fl.toInt64 := hf2 ▸ c2
        rw [if_pos c3, l212_0, decide_eq_true c2, Bool.false_or, Bool.not_true, iB_f]
      · have c3 : ¬ ((0 : Int32) ≤ lg_cmp d fl.toInt64) := hf2 ▸ c2
        rw [if_neg c3, l212_1, decide_eq_false c2, Bool.false_or, Bool.not_false, iB_t]
