/-! the law's runs, whole -/
theorem L_f31 {N : Nat} {σ M : gS} {q : Nat} {t : Int64} {run x6 : Int32} {R : Option Int32} (hN : 100 ≤ N) (hM : lawOf σ = M) (hq : q < 4) (hR : lp (fL_fails_85 N σ t run (iN (12 * q)) (accD M q t (iN (q + 1)) 12)) N (x6, iN 0) = R) : lp (fL_fails_31 N σ t run (iN (12 * q)) x6) N (iN (q + 1), iN 0) = R := by
  have k172 : σ.1 172 = M.1 172 := lw1 hM (by omega)
  have w1 : ¬ (iN (12 * q) < (0 : Int32) ∨ 48 ≤ (iN (12 * q)).toNatClampNeg) := by
    rw [i_0, iN_lt (by omega) (by omega), iN_cl (by omega)]; omega
  refine lp_run (F := fL_fails_31 N σ t run (iN (12 * q)) x6) (fun k => (accD M q t (iN (q + 1)) k, iN k)) 12 (fun k hk rec => ?_) (fun rec => ?_) N (by omega)
  · have c1 : ¬ ((12 : Int32) ≤ iN k) := by rw [i_12, iN_le (by omega) (by omega)]; omega
    unfold fL_fails_31 fL_fails_74
    dsimp only
    rw [if_neg c1, if_neg w1, iN_cl (show 12 * q < 2147483648 by omega), k172, L_at (show k < 16 by omega), Option.bind_some]
    cases c : tb (M.1 172 (12 * q)) k with
    | true =>
      have e : (((M.1 172 (12 * q)) >>> (iN k &&& 31)) &&& 1) = (1 : Int32) := (tb_sh1 (M.1 172 (12 * q)) (show k < 32 by omega)).mpr c
      rw [if_pos e, accD_t c, i_1, iN_add]
      rfl
    | false =>
      have e : ¬ (((M.1 172 (12 * q)) >>> (iN k &&& 31)) &&& 1) = (1 : Int32) := fun h => by
        have := (tb_sh1 (M.1 172 (12 * q)) (show k < 32 by omega)).mp h
        rw [c] at this; cases this
      rw [if_neg e, accD_f c, i_1, iN_add]
  · have c1 : (12 : Int32) ≤ iN 12 := by rw [i_12, iN_le (by omega) (by omega)]; omega
    unfold fL_fails_31
    dsimp only
    rw [if_pos c1]; exact hR
theorem L_fails {N : Nat} {σ M : gS} {q r : Nat} {t : Int64} {run : Int32} {b : Bool} (hN : 100 ≤ N) (hM : lawOf σ = M) (hq : q < 4) (h1 : M.1 172 (12 * q + 4) = iN r) (h2 : r ≤ 5) (h3 : M.1 172 (12 * q + 3) = iB b) (h4 : ∀ i, i < r → M.1 172 (12 * q + 7 + i) = iN (vN M 172 (12 * q + 7 + i)) ∧ vN M 172 (12 * q + 7 + i) < 65536) : fL_fails N σ (iN q) t run = some (iB (flS M q r t run b)) := by
  have k172 : σ.1 172 = M.1 172 := lw1 hM (by omega)
  have w1 : ¬ (iN (12 * q + 3) < (0 : Int32) ∨ 48 ≤ (iN (12 * q + 3)).toNatClampNeg) := by
    rw [i_0, iN_lt (by omega) (by omega), iN_cl (by omega)]; omega
  have h31 := L_f31 (x6 := iB b) hN hM hq (L_f85 (t := t) (run := run) (c := accD M q t (iN (q + 1)) 12) (b := b) hN hM hq h1 h2 h4)
  unfold flS
  unfold fL_fails fL_fails_21
  rw [i_12, iN_mul, i_3, iN_add, if_neg w1, iN_cl (show 12 * q + 3 < 2147483648 by omega), k172, h3, i_1, iN_add, i_0]
  cases b with
  | true => rw [if_pos iB_t]; exact h31
  | false => rw [if_neg (by rw [iB_f]; decide)]; exact h31
