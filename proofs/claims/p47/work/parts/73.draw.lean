/-! drawing: the class and the law alike -/
def stpD (x d : Int32) : Int32 := (((x * 11) + d) + 1) - (((x * 11) + d) + 1) / 10007 * 10007
def accD (M : gS) (q : Nat) (t : Int64) (c : Int32) : Nat → Int32
  | 0 => c
  | k + 1 => if tb (M.1 172 (12 * q)) k = true then stpD (accD M q t c k) (gAt t k) else accD M q t c k
def fmD (c run : Int32) : Int64 := ((((c.toInt64) * 7919) + ((run.toInt64) * 104729)) - (((c.toInt64) * 7919) + ((run.toInt64) * 104729)) / 1000003 * 1000003) - ((((c.toInt64) * 7919) + ((run.toInt64) * 104729)) - (((c.toInt64) * 7919) + ((run.toInt64) * 104729)) / 1000003 * 1000003) / 10 * 10
theorem accD_t {M : gS} {q k : Nat} {t : Int64} {c : Int32} (h : tb (M.1 172 (12 * q)) k = true) : accD M q t c (k + 1) = stpD (accD M q t c k) (gAt t k) := if_pos h
theorem accD_f {M : gS} {q k : Nat} {t : Int64} {c : Int32} (h : tb (M.1 172 (12 * q)) k = false) : accD M q t c (k + 1) = accD M q t c k := if_neg (by rw [h]; exact Bool.false_ne_true)
theorem X_draw {N : Nat} {σ M : gS} {q r : Nat} {t : Int64} {run : Int32} (hN : 100 ≤ N) (h0 : σ.1 r 0 = iN q) (h2 : σ.1 r 2 = M.1 172 (12 * q)) : fX3_draw N σ r t run = some (fmD (accD M q t (iN (q + 1)) 12) run).toInt32 := by
  unfold fX3_draw
  rw [h0, i_1, iN_add, i_0]
  refine lp_run (F := fX3_draw_11 N σ r t run) (fun k => (accD M q t (iN (q + 1)) k, iN k)) 12 (fun k hk rec => ?_) (fun rec => ?_) N (by omega)
  · have c1 : ¬ ((12 : Int32) ≤ iN k) := by rw [i_12, iN_le (by omega) (by omega)]; omega
    unfold fX3_draw_11 fX3_draw_50
    dsimp only
    rw [if_neg c1, h2, X_hasBit (show k < 32 by omega), Option.bind_some, X_cont hk, Option.bind_some, i_1, iN_add]
    cases c : tb (M.1 172 (12 * q)) k with
    | true =>
      rw [if_neg (by rw [i_0, iB0]; exact fun h => by cases h), accD_t c]
      rfl
    | false =>
      rw [if_pos (by rw [i_0, iB0]), accD_f c]
  · have c1 : (12 : Int32) ≤ iN 12 := by rw [i_12, iN_le (by omega) (by omega)]; omega
    unfold fX3_draw_11
    dsimp only
    rw [if_pos c1]; rfl
theorem rem10 (a : Int64) : -10 < (a - a / 10 * 10).toInt ∧ (a - a / 10 * 10).toInt < 10 := by
  have hb := a.toInt_lt
  have ha := a.le_toInt
  have e10 : (10 : Int64).toInt = 10 := rfl
  have m1 := Int.mul_tdiv_add_tmod a.toInt 10
  have m2 := Int.tmod_lt_of_pos a.toInt (show (0 : Int) < 10 by decide)
  have m3 := Int.lt_tmod_of_pos a.toInt (show (0 : Int) < 10 by decide)
  have h1 : (a / 10).toInt = a.toInt.tdiv 10 := by
    rw [Int64.toInt_div, e10]
    exact Int.bmod_eq_of_le (by omega) (by omega)
  have h3 : (a - a / 10 * 10).toInt = a.toInt - a.toInt.tdiv 10 * 10 := by
    rw [Int64.toInt_sub, Int64.toInt_mul, h1, e10, Int.sub_bmod_bmod]
    exact Int.bmod_eq_of_le (by omega) (by omega)
  rw [h3]
  omega
theorem cmp_ge {a b : Int64} : ((0 : Int32) ≤ lg_cmp a b) = (b ≤ a) := by
  refine propext ?_
  rw [Int64.le_iff_toInt_le]
  unfold lg_cmp
  by_cases c1 : a > b
  · rw [if_pos c1]
    have := Int64.lt_iff_toInt_lt.mp c1
    exact ⟨fun _ => by omega, fun _ => by decide⟩
  · rw [if_neg c1]
    have hc1 : ¬ b.toInt < a.toInt := fun h => c1 (Int64.lt_iff_toInt_lt.mpr h)
    by_cases c2 : a = b
    · rw [if_pos c2]
      exact ⟨fun _ => by rw [c2]; omega, fun _ => by decide⟩
    · rw [if_neg c2]
      refine ⟨fun h => absurd h (by decide), fun h => ?_⟩
      exact absurd (Int64.toInt_inj.mp (by omega)) c2
theorem fl_cmp {fl : Int32} {d : Int64} (h : -10 < d.toInt ∧ d.toInt < 10) : (fl ≤ d.toInt32) = ((0 : Int32) ≤ lg_cmp d fl.toInt64) := by
  rw [cmp_ge]
  refine propext ?_
  rw [Int32.le_iff_toInt_le, Int64.le_iff_toInt_le, Int32.toInt_toInt64, Int64.toInt_toInt32]
  rw [Int.bmod_eq_of_le (by omega) (by omega)]
