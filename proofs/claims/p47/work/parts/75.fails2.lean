/-! a test's run fails, whole -/
def flS (M : gS) (q r : Nat) (t : Int64) (run : Int32) (b : Bool) : Bool := b || sAny (brB M q t) r || !decide (M.1 172 (12 * q + 2) ≤ (fmD (accD M q t (iN (q + 1)) 12) run).toInt32)
theorem iB_t : iB true = iN 1 := rfl
theorem iB_f : iB false = iN 0 := rfl
theorem x33_0 {N : Nat} {σ : gS} : fX3_fails_33 N σ 0 = some (iN 0) := if_neg (by decide)
theorem x33_1 {N : Nat} {σ : gS} : fX3_fails_33 N σ 1 = some (iN 1) := if_neg (by decide)
theorem X_fails {N : Nat} {σ M : gS} {q r : Nat} {t : Int64} {run : Int32} {b : Bool} (hN : 100 ≤ N) (hq : q < 4) (h : RCr σ M q r) (h0 : σ.1 (76 + 3 * q) 0 = iN q) (h2 : σ.1 (76 + 3 * q) 2 = M.1 172 (12 * q)) (h5 : σ.1 (76 + 3 * q) 5 = M.1 172 (12 * q + 2)) (h6 : σ.1 (76 + 3 * q) 6 = iB b) : fX3_fails N σ (76 + 3 * q) t run = some (iB (flS M q r t run b)) := by
  have hb := X_breaksARule (t := t) hN hq h
  have hd := X_draw (t := t) (run := run) hN h0 h2
  have e0 : (iB false = (0 : Int32)) := rfl
  have e1 : ¬ (iB true = (0 : Int32)) := by decide
  unfold fX3_fails flS fX3_fails_28
  rw [h6, hb, hd, h5]
  generalize (fmD (accD M q t (iN (q + 1)) 12) run).toInt32 = d
  generalize M.1 172 (12 * q + 2) = fl
  cases b with
  | true => rw [if_neg e1, x33_1, Bool.true_or, Bool.true_or, iB_t]
  | false =>
    rw [if_pos e0, Option.bind_some]
    cases c : sAny (brB M q t) r with
    | true => rw [if_neg e1, x33_1, Bool.or_true, Bool.true_or, iB_t]
    | false =>
      rw [if_pos e0, Option.bind_some]
      by_cases c2 : fl ≤ d
      · rw [if_pos c2, x33_0, decide_eq_true c2, Bool.or_false, Bool.false_or, Bool.not_true, iB_f]
      · rw [if_neg c2, x33_1, decide_eq_false c2, Bool.or_false, Bool.false_or, Bool.not_false, iB_t]
