/-! a tree and what a test sees of it -/
theorem tj_shr (x : Int64) {s : Nat} (y : Int64) (hs : y.toBitVec.smod 64 = BitVec.ofNat 64 s) (h : s < 64) {j : Nat} (hj : j < 64) : tj (x >>> y) j = if s + j < 64 then tj x (s + j) else tj x 63 := by
  unfold tj
  rw [Int64.toBitVec_shiftRight, hs]
  show (x.toBitVec.sshiftRight (BitVec.ofNat 64 s).toNat).getLsbD j = _
  rw [BitVec.toNat_ofNat, Nat.mod_eq_of_lt (show s < 2 ^ 64 by omega), BitVec.getLsbD_sshiftRight, decide_eq_false (show ¬ 64 ≤ j by omega)]
  by_cases c : s + j < 64
  · rw [if_pos c, if_pos c]; rfl
  · rw [if_neg c, if_neg c, BitVec.msb_eq_getLsbD_last]; rfl
theorem sm4 {f : Nat} (h : f < 12) : (jN (4 * f) &&& 63).toBitVec.smod 64 = BitVec.ofNat 64 (4 * f) := (show ∀ f : Nat, f < 12 → (Int64.ofNat (4 * f) &&& 63).toBitVec.smod 64 = BitVec.ofNat 64 (4 * f) by decide +kernel) f h
theorem tj_15 (j : Nat) : tj 15 j = decide (j < 4) := by
  rw [show (15 : Int64) = jN 15 from rfl, tj_jN]
  by_cases c : j < 4
  · rw [decide_eq_true c, decide_eq_true (show j < 64 by omega), (show ∀ i, i < 4 → Nat.testBit 15 i = true by decide) j c]; rfl
  · rw [decide_eq_false c, Nat.testBit_lt_two_pow (Nat.lt_of_lt_of_le (show 15 < 2 ^ 4 by decide) (Nat.pow_le_pow_right (by decide) (show 4 ≤ j by omega)))]
    simp
theorem tj_gBits (x : Int32) {f i : Nat} (hf : f < 12) (hi : i < 4) : ∀ k, k ≤ 12 → tj (gBits x k) (4 * f + i) = (decide (f < k) && tb x f)
  | 0, _ => by
    show tj 0 _ = _
    rw [tj_zero, decide_eq_false (Nat.not_lt_zero f)]; rfl
  | k + 1, hk => by
    have ih := tj_gBits x hf hi k (by omega)
    have h15 : tj ((15 : Int64) <<< (jN (4 * k) &&& 63)) (4 * f + i) = decide (f = k) := by
      rw [tj_shl _ _ (sm4 (show k < 12 by omega)) (by omega), tj_15, decide_eq_true (show 4 * f + i < 64 by omega)]
      by_cases c : f = k
      · subst c
        rw [decide_eq_false (show ¬ 4 * f + i < 4 * f by omega), decide_eq_true (show 4 * f + i - 4 * f < 4 by omega), decide_eq_true rfl]; rfl
      · rw [decide_eq_false c]
        by_cases c2 : f < k
        · rw [decide_eq_true (show 4 * f + i < 4 * k by omega)]; rfl
        · rw [decide_eq_false (show ¬ 4 * f + i < 4 * k by omega), decide_eq_false (show ¬ 4 * f + i - 4 * k < 4 by omega)]; rfl
    unfold gBits
    by_cases c : tb x k = true
    · rw [if_pos c, tj_or, ih, h15]
      by_cases e : f = k
      · subst e
        rw [decide_eq_false (Nat.lt_irrefl f), decide_eq_true rfl, decide_eq_true (Nat.lt_succ_self f), c]; rfl
      · rw [decide_eq_false e, Bool.or_false]
        by_cases c2 : f < k
        · rw [decide_eq_true c2, decide_eq_true (show f < k + 1 by omega)]
        · rw [decide_eq_false c2, decide_eq_false (show ¬ f < k + 1 by omega)]
    · rw [if_neg c, ih]
      by_cases e : f = k
      · subst e
        have c1 : tb x f = false := by simpa using c
        rw [c1, Bool.and_false, Bool.and_false]
      · by_cases c2 : f < k
        · rw [decide_eq_true c2, decide_eq_true (show f < k + 1 by omega)]
        · rw [decide_eq_false c2, decide_eq_false (show ¬ f < k + 1 by omega)]
theorem gAt_mask {t : Int64} {x : Int32} {f : Nat} (hf : f < 12) (h : tb x f = true) : gAt (t &&& gMask x) f = gAt t f := by
  unfold gAt
  apply congrArg Int64.toInt32
  apply tj_ext
  intro j hj
  rw [tj_and, tj_and, tj_15]
  by_cases c : j < 4
  · rw [tj_shr _ _ (sm4 hf) (by omega) hj, tj_shr _ _ (sm4 hf) (by omega) hj, if_pos (by omega), if_pos (by omega), tj_and]
    have := tj_gBits x hf c 12 (Nat.le_refl _)
    rw [show tj (gMask x) (4 * f + j) = (decide (f < 12) && tb x f) from this, h, decide_eq_true hf]; simp
  · rw [decide_eq_false c]; simp
theorem and_twice (t m : Int64) : (t &&& m) &&& m = t &&& m := by
  apply tj_ext
  intro j _
  rw [tj_and, tj_and]
  cases tj t j <;> cases tj m j <;> rfl
theorem gKey_mask (M : gS) (q : Nat) (t : Int64) : gKey M q (t &&& gMask (M.1 172 (12 * q))) = gKey M q t := by
  unfold gKey
  rw [and_twice]
theorem accD_mask {M : gS} {q : Nat} {t : Int64} {c : Int32} : ∀ k, k ≤ 12 → accD M q (t &&& gMask (M.1 172 (12 * q))) c k = accD M q t c k
  | 0, _ => rfl
  | k + 1, hk => by
    have ih := accD_mask (M := M) (q := q) (t := t) (c := c) k (by omega)
    cases h : tb (M.1 172 (12 * q)) k with
    | true => rw [accD_t h, accD_t h, ih, gAt_mask (by omega) h]
    | false => rw [accD_f h, accD_f h, ih]
def wtc (M : gS) (q r : Nat) : Prop := ∀ i, i < r → (vN M 172 (12 * q + 7 + i) - vN M 172 (12 * q + 7 + i) / 16 * 16 < 12 ∧ tb (M.1 172 (12 * q)) (vN M 172 (12 * q + 7 + i) - vN M 172 (12 * q + 7 + i) / 16 * 16) = true) ∧ vN M 172 (12 * q + 7 + i) / 256 - vN M 172 (12 * q + 7 + i) / 256 / 16 * 16 < 12 ∧ tb (M.1 172 (12 * q)) (vN M 172 (12 * q + 7 + i) / 256 - vN M 172 (12 * q + 7 + i) / 256 / 16 * 16) = true
theorem sAny_congr {p p' : Nat → Bool} : ∀ n, (∀ j, j < n → p j = p' j) → sAny p n = sAny p' n
  | 0, _ => rfl
  | n + 1, h => by
    rw [sAny_s, sAny_s, sAny_congr n (fun j hj => h j (by omega)), h n (by omega)]
theorem flS_mask {M : gS} {q r : Nat} {t : Int64} {run : Int32} {b : Bool} (h : wtc M q r) : flS M q r (t &&& gMask (M.1 172 (12 * q))) run b = flS M q r t run b := by
  have e : sAny (brB M q (t &&& gMask (M.1 172 (12 * q)))) r = sAny (brB M q t) r := sAny_congr r (fun i hi => by
    obtain ⟨⟨h1, h2⟩, h3, h4⟩ := h i hi
    unfold brB
    rw [gAt_mask h1 h2, gAt_mask h3 h4])
  unfold flS
  rw [e, accD_mask 12 (Nat.le_refl _)]
theorem flS_congr {M M' : gS} {q r : Nat} {t : Int64} {run : Int32} {b : Bool} (h : ∀ x, x ≠ 12 * q + 5 → x ≠ 12 * q + 6 → M'.1 172 x = M.1 172 x) : flS M' q r t run b = flS M q r t run b := by
  have e0 : M'.1 172 (12 * q) = M.1 172 (12 * q) := h _ (by omega) (by omega)
  have e2 : M'.1 172 (12 * q + 2) = M.1 172 (12 * q + 2) := h _ (by omega) (by omega)
  have ea : ∀ k, accD M' q t (iN (q + 1)) k = accD M q t (iN (q + 1)) k := fun k => by
    induction k with
    | zero => rfl
    | succ k ih =>
      cases hh : tb (M.1 172 (12 * q)) k with
      | true => rw [accD_t hh, accD_t (by rw [e0]; exact hh), ih]
      | false => rw [accD_f hh, accD_f (by rw [e0]; exact hh), ih]
  have e : sAny (brB M' q t) r = sAny (brB M q t) r := sAny_congr r (fun i _ => by
    have ev : vN M' 172 (12 * q + 7 + i) = vN M 172 (12 * q + 7 + i) := by unfold vN; rw [h _ (by omega) (by omega)]
    unfold brB
    rw [ev])
  unfold flS
  rw [e, ea, e2]
