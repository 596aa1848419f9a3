/-! the order of the queue -/
theorem tb_or (x y : Int32) (j : Nat) : tb (x ||| y) j = (tb x j || tb y j) := by
  unfold tb; rw [Int32.toBitVec_or, BitVec.getLsbD_or]
theorem tb_ge (x : Int32) {j : Nat} (h : 32 ≤ j) : tb x j = false := BitVec.getLsbD_of_ge _ _ h
theorem tb_zero (j : Nat) : tb (iN 0) j = false := by
  show (0#32).getLsbD j = false
  simp
theorem tb_one {c : Nat} (hc : c < 32) (j : Nat) : tb (iN 1 <<< (iN c &&& iN 31)) j = decide (j = c) := by
  rcases Nat.lt_or_ge j 32 with h | h
  · exact (show ∀ c : Nat, c < 32 → ∀ j : Nat, j < 32 → tb (Int32.ofNat 1 <<< (Int32.ofNat c &&& Int32.ofNat 31)) j = decide (j = c) by decide +kernel) c hc j h
  · rw [tb_ge _ h]; exact (decide_eq_false (by omega)).symm
def par (M : gS) (c : Nat) : Option Nat := if M.1 163 c = iM then none else some (vN M 163 c)
def hangB (W : Nat → Bool) : Option Nat → Bool
  | none => false
  | some q => W q
def aheadB (M : gS) (c f : Nat) : Bool := decide (M.1 165 f < M.1 165 c) || (decide (M.1 165 c = M.1 165 f) && decide (M.1 166 c < M.1 166 f))
def isB (M : gS) (c : Nat) : Option Nat → Bool
  | none => true
  | some f => aheadB M c f
/-- the first that waits, below n -/
def nx (M : gS) (W : Nat → Bool) : Nat → Option Nat
  | 0 => none
  | c + 1 => if (W c && !hangB W (par M c) && isB M c (nx M W c)) = true then some c else nx M W c
theorem nx_lt {M : gS} {W : Nat → Bool} {n c : Nat} (h : nx M W n = some c) : c < n ∧ W c = true ∧ hangB W (par M c) = false := by
  induction n with
  | zero => cases h
  | succ n ih =>
    unfold nx at h
    by_cases q : (W n && !hangB W (par M n) && isB M n (nx M W n)) = true
    · rw [if_pos q] at h; cases h
      simp only [Bool.and_eq_true, Bool.not_eq_true'] at q
      exact ⟨by omega, q.1.1, q.1.2⟩
    · rw [if_neg q] at h
      have := ih h
      exact ⟨by omega, this.2⟩
def Wl (M : gS) (x : Int32) : Nat → Bool := fun c => decide (M.1 164 c = iN 1) && !tb x c
/-- parents stand below -/
def parOK (M : gS) (n : Nat) : Prop := ∀ c, c < n → M.1 163 c = iO (par M c) ∧ ∀ q, par M c = some q → q < c
theorem par_cases {M : gS} {n c : Nat} (hp : parOK M n) (hc : c < n) : (par M c = none ∧ M.1 163 c = iM) ∨ ∃ q, par M c = some q ∧ M.1 163 c = iN q ∧ q < c := by
  obtain ⟨h1, h2⟩ := hp c hc
  cases h : par M c with
  | none => rw [h] at h1; exact Or.inl ⟨rfl, h1⟩
  | some q => rw [h] at h1; exact Or.inr ⟨q, rfl, h1, h2 q h⟩
theorem L_next {N : Nat} {σ M : gS} {x : Int32} {n : Nat} (hN : 100 ≤ N) (hM : lawOf σ = M) (h0 : M.1 161 0 = iN n) (hn : n ≤ 20) (hp : parOK M n) : fL_next N σ x = some (iO (nx M (Wl M x) n)) := by
  unfold fL_next
  refine lp_run (fun j => (iO (nx M (Wl M x) j), iN j)) n (fun j hj rec => ?_) (fun rec => ?_) N (by omega)
  · have hq : ∀ f, nx M (Wl M x) j = some f → f < 20 := fun f h => by have := (nx_lt h).1; omega
    rw [show nx M (Wl M x) (j + 1) = if (Wl M x j && !hangB (Wl M x) (par M j) && isB M j (nx M (Wl M x) j)) = true then some j else nx M (Wl M x) j from rfl]
    generalize hf : nx M (Wl M x) j = f at hq
    simp (disch := omega) only [fL_next_6, lw1 hM, fL_next_36, h0, i_0, i_1, i_2, i_3, i_4, i_5, i_6, i_7, i_8, i_9, i_10, i_11, i_12, i_14, i_15, i_16, i_24, i_30, i_31, i_32, i_48, i_60, i_64, i_80, i_99, i_100, i_m1, iN_of, iN_add, iN_mul, iN_sub, iN_01, iM_1, iN_div, iN_lt, iN_le, iN_eq, iN_cl, iM_lt, iM_gt, iM_le, iM_ge, iM_eq, iM_eq2, iN_64, jN_32, if_pos, if_neg, if_true, if_false, true_or, or_true, false_or, or_false, not_true_eq_false, not_false_eq_true, Option.bind_some]
    -- what is asked of the one that was found
    have e73 : ∀ (w hgs : Bool), fL_next_73 N rec σ x (iO f) (iN j) (iB w) (iB hgs) = rec (iO (if (w && !hgs && isB M j f) = true then some j else f), iN (j + 1)) := by
      intro w hgs
      cases f with
      | none =>
        simp (disch := omega) only [fL_next_73, lw1 hM, fL_next_115, fL_next_120, fL_next_142, fL_next_144, iO, iB0, i_0, i_1, i_2, i_3, i_4, i_5, i_6, i_7, i_8, i_9, i_10, i_11, i_12, i_14, i_15, i_16, i_24, i_30, i_31, i_32, i_48, i_60, i_64, i_80, i_99, i_100, i_m1, iN_of, iN_add, iN_mul, iN_sub, iN_01, iM_1, iN_div, iN_lt, iN_le, iN_eq, iN_cl, iM_lt, iM_gt, iM_le, iM_ge, iM_eq, iM_eq2, iN_64, jN_32, if_pos, if_neg, if_true, if_false, true_or, or_true, false_or, or_false, not_true_eq_false, not_false_eq_true, Option.bind_some]
        cases w <;> cases hgs <;> simp [isB, iO] <;> rfl
      | some g =>
        have hg := hq g rfl
        simp (disch := omega) only [fL_next_73, lw1 hM, fL_next_115, fL_next_119, fL_next_120, fL_next_142, fL_next_144, iO, iB0, i_0, i_1, i_2, i_3, i_4, i_5, i_6, i_7, i_8, i_9, i_10, i_11, i_12, i_14, i_15, i_16, i_24, i_30, i_31, i_32, i_48, i_60, i_64, i_80, i_99, i_100, i_m1, iN_of, iN_add, iN_mul, iN_sub, iN_01, iM_1, iN_div, iN_lt, iN_le, iN_eq, iN_cl, iM_lt, iM_gt, iM_le, iM_ge, iM_eq, iM_eq2, iN_64, jN_32, if_pos, if_neg, if_true, if_false, true_or, or_true, false_or, or_false, not_true_eq_false, not_false_eq_true, Option.bind_some]
        unfold isB aheadB
        by_cases c1 : M.1 165 g < M.1 165 j
        · cases w <;> cases hgs <;> simp [c1, iO] <;> rfl
        · by_cases c2 : M.1 165 j = M.1 165 g
          · by_cases c3 : M.1 166 j < M.1 166 g
            · have c4 : ¬ M.1 166 g ≤ M.1 166 j := Int32.not_le.mpr c3
              cases w <;> cases hgs <;> simp [c1, c2, c3, c4, iO] <;> rfl
            · have c4 : M.1 166 g ≤ M.1 166 j := Int32.not_lt.mp c3
              cases w <;> cases hgs <;> simp [c1, c2, c3, c4, iO] <;> rfl
          · cases w <;> cases hgs <;> simp [c1, c2, iO] <;> rfl
    have e37 : ∀ w : Bool, fL_next_37 N rec σ x (iO f) (iN j) (iB w) = rec (iO (if (w && !hangB (Wl M x) (par M j) && isB M j f) = true then some j else f), iN (j + 1)) := by
      intro w
      rcases par_cases hp hj with ⟨p1, p2⟩ | ⟨q, p1, p2, p3⟩
      · simp (disch := omega) only [fL_next_37, lw1 hM, fL_next_72, p2, i_0, i_1, i_2, i_3, i_4, i_5, i_6, i_7, i_8, i_9, i_10, i_11, i_12, i_14, i_15, i_16, i_24, i_30, i_31, i_32, i_48, i_60, i_64, i_80, i_99, i_100, i_m1, iN_of, iN_add, iN_mul, iN_sub, iN_01, iM_1, iN_div, iN_lt, iN_le, iN_eq, iN_cl, iM_lt, iM_gt, iM_le, iM_ge, iM_eq, iM_eq2, iN_64, jN_32, if_pos, if_neg, if_true, if_false, true_or, or_true, false_or, or_false, not_true_eq_false, not_false_eq_true, Option.bind_some]
        rw [p1]
        exact e73 w false
      · simp (disch := omega) only [fL_next_37, lw1 hM, fL_next_72, p2, i_0, i_1, i_2, i_3, i_4, i_5, i_6, i_7, i_8, i_9, i_10, i_11, i_12, i_14, i_15, i_16, i_24, i_30, i_31, i_32, i_48, i_60, i_64, i_80, i_99, i_100, i_m1, iN_of, iN_add, iN_mul, iN_sub, iN_01, iM_1, iN_div, iN_lt, iN_le, iN_eq, iN_cl, iM_lt, iM_gt, iM_le, iM_ge, iM_eq, iM_eq2, iN_64, jN_32, if_pos, if_neg, if_true, if_false, true_or, or_true, false_or, or_false, not_true_eq_false, not_false_eq_true, Option.bind_some]
        rw [p1]
        show _ = rec (iO (if (w && !Wl M x q && isB M j f) = true then some j else f), iN (j + 1))
        unfold Wl
        by_cases c1 : M.1 164 q = iN 1
        · rw [if_pos c1]
          simp only [tb_sh0 x (show q < 32 by omega)]
          by_cases c2 : tb x q = false
          · rw [if_pos c2]
            have := e73 w true
            simp only [c1, c2, decide_true, Bool.true_and, Bool.not_false]
            exact this
          · rw [if_neg c2]
            have := e73 w false
            have c3 : tb x q = true := by simpa using c2
            simp only [c1, c3, decide_true, Bool.true_and, Bool.not_true]
            exact this
        · rw [if_neg c1]
          have := e73 w false
          simp only [c1, decide_false, Bool.false_and]
          exact this
    show _ = rec (iO (if (Wl M x j && !hangB (Wl M x) (par M j) && isB M j f) = true then some j else f), iN (j + 1))
    by_cases c1 : M.1 164 j = iN 1
    · rw [if_pos c1]
      simp only [tb_sh0 x (show j < 32 by omega)]
      by_cases c2 : tb x j = false
      · rw [if_pos c2]
        have := e37 true
        have ew : Wl M x j = true := by unfold Wl; simp [c1, c2]
        rw [ew]; exact this
      · rw [if_neg c2]
        have := e37 false
        have ew : Wl M x j = false := by unfold Wl; simp at c2; simp [c2]
        rw [ew]; exact this
    · rw [if_neg c1]
      have := e37 false
      have ew : Wl M x j = false := by unfold Wl; simp [c1]
      rw [ew]; exact this
  · simp (disch := omega) only [fL_next_6, lw1 hM, h0, i_0, i_1, i_2, i_3, i_4, i_5, i_6, i_7, i_8, i_9, i_10, i_11, i_12, i_14, i_15, i_16, i_24, i_30, i_31, i_32, i_48, i_60, i_64, i_80, i_99, i_100, i_m1, iN_of, iN_add, iN_mul, iN_sub, iN_01, iM_1, iN_div, iN_lt, iN_le, iN_eq, iN_cl, iM_lt, iM_gt, iM_le, iM_ge, iM_eq, iM_eq2, iN_64, jN_32, if_pos, if_neg, if_true, if_false, true_or, or_true, false_or, or_false, not_true_eq_false, not_false_eq_true, Option.bind_some]
