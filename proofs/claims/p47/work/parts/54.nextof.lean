/-! sets of changes as long ones; the class's next one -/
theorem tj_or (x y : Int64) (j : Nat) : tj (x ||| y) j = (tj x j || tj y j) := by
  unfold tj; rw [Int64.toBitVec_or, BitVec.getLsbD_or]
theorem tj_and (x y : Int64) (j : Nat) : tj (x &&& y) j = (tj x j && tj y j) := by
  unfold tj; rw [Int64.toBitVec_and, BitVec.getLsbD_and]
theorem tj_ge (x : Int64) {j : Nat} (h : 64 ≤ j) : tj x j = false := BitVec.getLsbD_of_ge _ _ h
theorem tj_zero (j : Nat) : tj 0 j = false := by
  show (0#64).getLsbD j = false
  simp
theorem tj_one {c : Nat} (hc : c < 64) (j : Nat) : tj ((1 : Int64) <<< (jN c &&& 63)) j = decide (j = c) := by
  rcases Nat.lt_or_ge j 64 with h | h
  · exact (show ∀ c : Nat, c < 64 → ∀ j : Nat, j < 64 → tj ((1 : Int64) <<< (Int64.ofNat c &&& 63)) j = decide (j = c) by decide +kernel) c hc j h
  · rw [tj_ge _ h]; exact (decide_eq_false (by omega)).symm
theorem tj_not {c : Nat} (hc : c < 64) {j : Nat} (hj : j < 64) : tj (((1 : Int64) <<< (jN c &&& 63)) ^^^ (-1)) j = !decide (j = c) :=
  (show ∀ c : Nat, c < 64 → ∀ j : Nat, j < 64 → tj (((1 : Int64) <<< (Int64.ofNat c &&& 63)) ^^^ (-1)) j = !decide (j = c) by decide +kernel) c hc j hj
theorem tj_ext {x y : Int64} (h : ∀ j, j < 64 → tj x j = tj y j) : x = y := by
  apply Int64.toBitVec_inj.mp
  exact BitVec.eq_of_getLsbD_eq (fun i hi => h i hi)
theorem tj_usE (x : Int64) {j : Nat} (hj : j < 64) : ((x.toUInt64 >>> ((jN j).toUInt64 &&& Int64.toUInt64 63)).toInt64 &&& 1) = if tj x j = true then 1 else 0 := by
  have hk : ((jN j).toUInt64 &&& Int64.toUInt64 63).toBitVec % 64 = BitVec.ofNat 64 j := (show ∀ j : Nat, j < 64 → ((Int64.ofNat j).toUInt64 &&& Int64.toUInt64 63).toBitVec % 64 = BitVec.ofNat 64 j by decide +kernel) j hj
  apply Int64.toBitVec_inj.mp
  rw [Int64.toBitVec_and]
  show (x.toUInt64 >>> ((jN j).toUInt64 &&& Int64.toUInt64 63)).toBitVec &&& _ = _
  rw [UInt64.toBitVec_shiftRight, hk]
  apply BitVec.eq_of_getLsbD_eq
  intro i hi
  rw [BitVec.getLsbD_and]
  have h1 : (1 : Int64).toBitVec = 1#64 := rfl
  have h0 : (0 : Int64).toBitVec = 0#64 := rfl
  have hxx : x.toUInt64.toBitVec = x.toBitVec := rfl
  unfold tj
  by_cases h9 : i = 0
  · subst h9
    have e : (x.toBitVec >>> BitVec.ofNat 64 j).getLsbD 0 = x.toBitVec.getLsbD j := by
      rw [BitVec.ushiftRight_eq', BitVec.toNat_ofNat, Nat.mod_eq_of_lt (show j < 2 ^ 64 by omega), BitVec.getLsbD_ushiftRight]
      rfl
    rw [hxx, e, h1]
    cases x.toBitVec.getLsbD j <;> rfl
  · cases hx : x.toBitVec.getLsbD j <;> simp [h1, h0, h9, Ne.symm h9]
theorem tj_us0 (x : Int64) {j : Nat} (hj : j < 64) : (((x.toUInt64 >>> ((jN j).toUInt64 &&& Int64.toUInt64 63)).toInt64 &&& 1) = 0) = (tj x j = false) := by
  rw [tj_usE x hj]
  cases tj x j <;> simp
def gOnes (σ : gS) (st : Int32) : Nat → Int64
  | 0 => 0
  | c + 1 => if σ.1 (5 + c) 3 = st then gOnes σ st c ||| ((1 : Int64) <<< (jN c &&& 63)) else gOnes σ st c
theorem tj_ones {σ : gS} {st : Int32} {n : Nat} (hn : n ≤ 64) (d : Nat) : tj (gOnes σ st n) d = (decide (d < n) && decide (σ.1 (5 + d) 3 = st)) := by
  induction n with
  | zero => unfold gOnes; rw [tj_zero]; simp
  | succ n ih =>
    unfold gOnes
    by_cases q : σ.1 (5 + n) 3 = st
    · rw [if_pos q, tj_or, ih (by omega), tj_one (by omega)]
      by_cases e : d = n
      · subst e; simp [q]
      · by_cases l : d < n
        · simp [l, e, show d < n + 1 by omega]
        · simp [l, e, show ¬ d < n + 1 by omega]
    · rw [if_neg q, ih (by omega)]
      by_cases e : d = n
      · subst e; simp [q]
      · by_cases l : d < n
        · simp [l, show d < n + 1 by omega]
        · simp [l, show ¬ d < n + 1 by omega]
theorem X_ones {N : Nat} {σ : gS} {st : Int32} {n : Nat} (hN : 100 ≤ N) (h0 : σ.1 1 4 = iN n) (hn : n ≤ 20) : fX2_onesThatAre N σ st = some (gOnes σ st n) := by
  unfold fX2_onesThatAre
  refine lp_run (fun j => (gOnes σ st j, iN j)) n (fun j hj rec => ?_) (fun rec => ?_) N (by omega)
  · simp (disch := omega) only [fX2_onesThatAre_5, fX2_onesThatAre_34, h0, X2_at, i_0, i_1, i_2, i_3, i_4, i_5, i_6, i_7, i_8, i_9, i_10, i_11, i_12, i_14, i_15, i_16, i_24, i_30, i_31, i_32, i_48, i_60, i_64, i_80, i_99, i_100, i_m1, iN_of, iN_add, iN_mul, iN_sub, iN_01, iM_1, iN_div, iN_lt, iN_le, iN_eq, iN_cl, iM_lt, iM_gt, iM_le, iM_ge, iM_eq, iM_eq2, iN_64, jN_32, if_pos, if_neg, if_true, if_false, true_or, or_true, false_or, or_false, not_true_eq_false, not_false_eq_true, Option.bind_some]
    by_cases h : σ.1 (5 + j) 3 = st
    · simp only [gOnes, h, if_true]
    · simp only [gOnes, h, if_false]
  · simp (disch := omega) only [fX2_onesThatAre_5, h0, i_0, i_1, i_2, i_3, i_4, i_5, i_6, i_7, i_8, i_9, i_10, i_11, i_12, i_14, i_15, i_16, i_24, i_30, i_31, i_32, i_48, i_60, i_64, i_80, i_99, i_100, i_m1, iN_of, iN_add, iN_mul, iN_sub, iN_01, iM_1, iN_div, iN_lt, iN_le, iN_eq, iN_cl, iM_lt, iM_gt, iM_le, iM_ge, iM_eq, iM_eq2, iN_64, jN_32, if_pos, if_neg, if_true, if_false, true_or, or_true, false_or, or_false, not_true_eq_false, not_false_eq_true, Option.bind_some]
/-- what the class has of a change, as far as the order goes -/
def chOK (σ M : gS) (c : Nat) : Prop := σ.1 (5 + c) 2 = M.1 163 c ∧ (σ.1 (5 + c) 12 = iN 0 ∨ σ.1 (5 + c) 12 = iN 1) ∧ σ.1 (5 + c) 11 = M.1 166 c ∧ ((σ.1 (5 + c) 12 = iN 1 ∧ M.1 165 c = iN 4 ∧ σ.1 (5 + c) 10 = iN 0) ∨ (σ.1 (5 + c) 12 = iN 0 ∧ M.1 165 c = σ.1 (5 + c) 10 ∧ σ.1 (5 + c) 10 < iN 4))
theorem X_ahead {N : Nat} {σ M : gS} {c f : Nat} (hc : chOK σ M c) (hf : chOK σ M f) : fX1_isAheadOf N σ (5 + c) (5 + f) = some (iB (aheadB M c f)) := by
  obtain ⟨-, -, c1, c2⟩ := hc
  obtain ⟨-, -, f1, f2⟩ := hf
  have ne : (iN 0 = iN 1) = False := eq_false (by decide)
  have ne2 : (iN 1 = iN 0) = False := eq_false (by decide)
  simp only [fX1_isAheadOf, fX1_isAheadOf_62, c1, f1, i_0, i_1]
  unfold aheadB
  rcases c2 with ⟨a1, a2, a3⟩ | ⟨a1, a2, a3⟩ <;> rcases f2 with ⟨b1, b2, b3⟩ | ⟨b1, b2, b3⟩
  · rw [a1, b1, a2, b2, a3, b3, if_pos rfl, if_pos rfl]
    by_cases h : M.1 166 c < M.1 166 f
    · have h2 : ¬ M.1 166 f ≤ M.1 166 c := Int32.not_le.mpr h
      simp [h, h2, iB, ne2]
    · have h2 : M.1 166 f ≤ M.1 166 c := Int32.not_lt.mp h
      simp [h, h2, iB]
  · rw [a1, b1, a2, b2]
    have h : σ.1 (5 + f) 10 < iN 4 := b3
    simp [h, iB, ne2]
  · rw [a1, b1, a2, b2]
    have h : ¬ iN 4 < σ.1 (5 + c) 10 := fun q => Int32.lt_irrefl (Int32.lt_trans q a3)
    have h2 : ¬ σ.1 (5 + c) 10 = iN 4 := fun q => by rw [q] at a3; exact Int32.lt_irrefl a3
    simp [h, h2, iB, ne]
  · rw [a1, b1, a2, b2, if_pos rfl]
    by_cases e : σ.1 (5 + c) 10 = σ.1 (5 + f) 10
    · rw [if_pos e, e]
      by_cases h : M.1 166 c < M.1 166 f
      · have h2 : ¬ M.1 166 f ≤ M.1 166 c := Int32.not_le.mpr h
        simp [h, h2, iB, ne2]
      · have h2 : M.1 166 f ≤ M.1 166 c := Int32.not_lt.mp h
        simp [h, h2, iB]
    · rw [if_neg e]
      by_cases h : σ.1 (5 + f) 10 < σ.1 (5 + c) 10
      · have h2 : ¬ σ.1 (5 + c) 10 ≤ σ.1 (5 + f) 10 := Int32.not_le.mpr h
        simp [h, h2, iB, ne2]
      · have h2 : σ.1 (5 + c) 10 ≤ σ.1 (5 + f) 10 := Int32.not_lt.mp h
        simp [h, h2, iB, e]
theorem X_nextOf {N : Nat} {σ M : gS} {w : Int64} {n : Nat} {W : Nat → Bool} (hN : 100 ≤ N) (h0 : σ.1 1 4 = iN n) (hn : n ≤ 20) (hp : parOK M n) (hc : ∀ c, c < n → chOK σ M c) (hw : ∀ c, c < n → tj w c = W c) : fX4_nextOf N σ w = some (iO (nx M W n)) := by
  unfold fX4_nextOf
  refine lp_run (fun j => (iO (nx M W j), iN j)) n (fun j hj rec => ?_) (fun rec => ?_) N (by omega)
  · have hq : ∀ f, nx M W j = some f → f < n := fun f h => by have := (nx_lt h).1; omega
    rw [show nx M W (j + 1) = if (W j && !hangB W (par M j) && isB M j (nx M W j)) = true then some j else nx M W j from rfl]
    generalize hf : nx M W j = f at hq
    have e61 : ∀ b : Bool, fX4_nextOf_61 N rec σ w (iO f) (iN j) (5 + j) (iB b) = rec (iO (if (b && isB M j f) = true then some j else f), iN (j + 1)) := by
      intro b
      cases f with
      | none =>
        simp (disch := omega) only [fX4_nextOf_61, fX4_nextOf_86, fX4_nextOf_89, iO, iB0, i_0, i_1, i_2, i_3, i_4, i_5, i_6, i_7, i_8, i_9, i_10, i_11, i_12, i_14, i_15, i_16, i_24, i_30, i_31, i_32, i_48, i_60, i_64, i_80, i_99, i_100, i_m1, iN_of, iN_add, iN_mul, iN_sub, iN_01, iM_1, iN_div, iN_lt, iN_le, iN_eq, iN_cl, iM_lt, iM_gt, iM_le, iM_ge, iM_eq, iM_eq2, iN_64, jN_32, if_pos, if_neg, if_true, if_false, true_or, or_true, false_or, or_false, not_true_eq_false, not_false_eq_true, Option.bind_some]
        cases b <;> simp [isB, iO]
      | some g =>
        have hg := hq g rfl
        simp (disch := omega) only [fX4_nextOf_61, fX4_nextOf_86, fX4_nextOf_89, iO, iB0, X2_at, X_ahead (hc j hj) (hc g hg), i_0, i_1, i_2, i_3, i_4, i_5, i_6, i_7, i_8, i_9, i_10, i_11, i_12, i_14, i_15, i_16, i_24, i_30, i_31, i_32, i_48, i_60, i_64, i_80, i_99, i_100, i_m1, iN_of, iN_add, iN_mul, iN_sub, iN_01, iM_1, iN_div, iN_lt, iN_le, iN_eq, iN_cl, iM_lt, iM_gt, iM_le, iM_ge, iM_eq, iM_eq2, iN_64, jN_32, if_pos, if_neg, if_true, if_false, true_or, or_true, false_or, or_false, not_true_eq_false, not_false_eq_true, Option.bind_some]
        cases b
        · simp [iO]
        · unfold isB
          cases ha : aheadB M j g <;> simp [ha, iO, if_neg (iM_ne (show g < 2147483648 by omega))]
    simp (disch := omega) only [fX4_nextOf_5, fX4_nextOf_56, fX4_nextOf_60, h0, X2_at, lgc0, tj_us0, (hc j hj).1, hw j hj, i_0, i_1, i_2, i_3, i_4, i_5, i_6, i_7, i_8, i_9, i_10, i_11, i_12, i_14, i_15, i_16, i_24, i_30, i_31, i_32, i_48, i_60, i_64, i_80, i_99, i_100, i_m1, iN_of, iN_add, iN_mul, iN_sub, iN_01, iM_1, iN_div, iN_lt, iN_le, iN_eq, iN_cl, iM_lt, iM_gt, iM_le, iM_ge, iM_eq, iM_eq2, iN_64, jN_32, if_pos, if_neg, if_true, if_false, true_or, or_true, false_or, or_false, not_true_eq_false, not_false_eq_true, Option.bind_some]
    rcases par_cases hp hj with ⟨p1, p2⟩ | ⟨q, p1, p2, p3⟩
    · rw [p2, p1, if_pos rfl]
      cases hW : W j
      · rw [if_pos rfl]; exact e61 false
      · rw [if_neg (by simp)]; exact e61 true
    · rw [p2, p1, if_neg (iM_ne (by omega))]
      simp (disch := omega) only [i_0, i_1, i_2, i_3, i_4, i_5, i_6, i_7, i_8, i_9, i_10, i_11, i_12, i_14, i_15, i_16, i_24, i_30, i_31, i_32, i_48, i_60, i_64, i_80, i_99, i_100, i_m1, iN_of, iN_add, iN_mul, iN_sub, iN_01, iM_1, iN_div, iN_lt, iN_le, iN_eq, iN_cl, iM_lt, iM_gt, iM_le, iM_ge, iM_eq, iM_eq2, iN_64, jN_32, tj_us0, hw q (by omega)]
      show _ = rec (iO (if (W j && !W q && isB M j f) = true then some j else f), iN (j + 1))
      cases hW : W j
      · rw [if_pos rfl]; exact e61 false
      · rw [if_neg (by simp)]
        cases hV : W q
        · rw [if_pos rfl]; exact e61 true
        · rw [if_neg (by simp)]; exact e61 false
  · simp (disch := omega) only [fX4_nextOf_5, h0, i_0, i_1, i_2, i_3, i_4, i_5, i_6, i_7, i_8, i_9, i_10, i_11, i_12, i_14, i_15, i_16, i_24, i_30, i_31, i_32, i_48, i_60, i_64, i_80, i_99, i_100, i_m1, iN_of, iN_add, iN_mul, iN_sub, iN_01, iM_1, iN_div, iN_lt, iN_le, iN_eq, iN_cl, iM_lt, iM_gt, iM_le, iM_ge, iM_eq, iM_eq2, iN_64, jN_32, if_pos, if_neg, if_true, if_false, true_or, or_true, false_or, or_false, not_true_eq_false, not_false_eq_true, Option.bind_some]
