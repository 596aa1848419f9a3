/-! the class's order and batches -/
/-- the same outside of some places -/
def Sm (σ σ' : gS) (lo hi : Nat) : Prop := (∀ k, k < lo ∨ hi ≤ k → σ'.1 k = σ.1 k ∧ σ'.2.1 k = σ.2.1 k) ∧ σ'.2.2 = σ.2.2
theorem Sm.refl (σ : gS) (lo hi : Nat) : Sm σ σ lo hi := ⟨fun _ _ => ⟨rfl, rfl⟩, rfl⟩
theorem Sm.trans {σ σ1 σ2 : gS} {lo hi : Nat} (h1 : Sm σ σ1 lo hi) (h2 : Sm σ1 σ2 lo hi) : Sm σ σ2 lo hi :=
  ⟨fun k hk => ⟨(h2.1 k hk).1.trans (h1.1 k hk).1, (h2.1 k hk).2.trans (h1.1 k hk).2⟩, h2.2.trans h1.2⟩
theorem Sm.wide {σ σ1 : gS} {lo hi a b : Nat} (h : Sm σ σ1 lo hi) (ha : a ≤ lo) (hb : hi ≤ b) : Sm σ σ1 a b :=
  ⟨fun k hk => h.1 k (by omega), h.2⟩
theorem Sm.sI {σ : gS} {lo hi k j : Nat} {v : Int32} (h : lo ≤ k ∧ k < hi) : Sm σ (sI σ k j v) lo hi :=
  ⟨fun k' hk => ⟨gU_ne _ _ _ (by omega), rfl⟩, rfl⟩
theorem Sm.sJ {σ : gS} {lo hi k j : Nat} {v : Int64} (h : lo ≤ k ∧ k < hi) : Sm σ (sJ σ k j v) lo hi :=
  ⟨fun k' hk => ⟨rfl, gU_ne _ _ _ (by omega)⟩, rfl⟩
theorem Sm.add {σ : gS} {lo hi r n : Nat} {v : Int64} (h : lo ≤ r ∧ r + 2 ≤ hi) : Sm σ (gAdd σ r n v) lo hi :=
  ⟨fun k' hk => gAdd_far (by omega), rfl⟩
theorem Sm.law {σ σ' : gS} {lo hi : Nat} (h : Sm σ σ' lo hi) (hh : hi ≤ 161) : lawOf σ' = lawOf σ := lawOf_ext (fun k h1 _ => h.1 k (by omega))
theorem gAdd_1 {σ : gS} {r n : Nat} {v : Int64} : (gAdd σ r n v).1 r 1 = iN (n + 1) := by
  show gU _ r 1 _ r 1 = _
  unfold gU; rw [if_pos ⟨rfl, rfl⟩]; rfl
theorem gAdd_new {σ : gS} {r n : Nat} {v : Int64} : (gAdd σ r n v).2.1 (r + 1) n = v := by
  show gU _ (r + 1) n _ (r + 1) n = _
  unfold gU; rw [if_pos ⟨rfl, rfl⟩]
theorem gAdd_old {σ : gS} {r n j : Nat} {v : Int64} (h : j ≠ n) : (gAdd σ r n v).2.1 (r + 1) j = σ.2.1 (r + 1) j := by
  show gU _ (r + 1) n _ (r + 1) j = _
  unfold gU; rw [if_neg (fun q => h q.2)]
theorem gAdd_I {σ : gS} {r n k j : Nat} {v : Int64} (h : k ≠ r) : (gAdd σ r n v).1 k j = σ.1 k j := by
  show gU _ r 1 _ k j = _
  unfold gU; rw [if_neg (fun q => h q.1)]; rfl
theorem gAdd_J {σ : gS} {r n k j : Nat} {v : Int64} (h : k ≠ r + 1) : (gAdd σ r n v).2.1 k j = σ.2.1 k j := by
  show gU _ (r + 1) n _ k j = _
  unfold gU; rw [if_neg (fun q => h q.1)]
theorem tj_zero_of {w : Int64} (h : w ≠ 0) : ∃ d, d < 64 ∧ tj w d = true := by
  apply Classical.byContradiction
  intro q
  apply h
  apply tj_ext
  intro j hj
  rw [tj_zero]
  cases e : tj w j with
  | false => rfl
  | true => exact absurd ⟨j, hj, e⟩ q
theorem nx_none {M : gS} {W : Nat → Bool} {n : Nat} (h : ∀ c, c < n → W c = false) : nx M W n = none := by
  cases q : nx M W n with
  | none => rfl
  | some c => have := nx_lt q; rw [h c this.1] at this; exact absurd this.2.1 (by simp)
theorem X_ord17 {N : Nat} {M : gS} {n : Nat} (hN : 100 ≤ N) (hn : n ≤ 20) (hp : parOK M n) : ∀ (k : Nat) (W : Nat → Bool) (w : Int64) (σ : gS) (i : Nat) (N' : Nat), sCnt W n ≤ k → k < N' → i + k ≤ 40 → σ.1 1 4 = iN n → (∀ c, c < n → chOK σ M c) → (∀ d, d < 64 → tj w d = (decide (d < n) && W d)) → σ.1 110 1 = iN i →
    ∃ σ' : gS, lp (fX4_putInOrder_17 N) N' (σ, w, iN i) = some σ' ∧ Sm σ σ' 110 112 ∧ σ'.1 110 1 = iN (i + (ordL M n k W).length) ∧ (∀ j, j < i → σ'.2.1 111 j = σ.2.1 111 j) ∧ ∀ j, j < (ordL M n k W).length → σ'.2.1 111 (i + j) = jN ((ordL M n k W).getD j 0) := by
  intro k
  induction k with
  | zero =>
    intro W w σ i N' hk hN' hi h0 hc hw h1
    obtain ⟨N', rfl⟩ : ∃ k, N' = k + 1 := ⟨N' - 1, by omega⟩
    refine ⟨σ, ?_, Sm.refl _ _ _, h1, fun _ _ => rfl, fun j h => absurd h (Nat.not_lt_zero j)⟩
    have e := nx_zero (M := M) (show sCnt W n = 0 by omega)
    have en := X_nextOf (N := N) hN h0 hn hp hc (W := W) (fun c hc => by rw [hw c (by omega)]; simp [hc])
    rw [e] at en
    rw [lp_1]
    by_cases hz : w = 0
    · simp (disch := omega) only [fX4_putInOrder_17, fX4_putInOrder_71, lgc0, hz, i_0, i_1, i_2, i_3, i_4, i_5, i_6, i_7, i_8, i_9, i_10, i_11, i_12, i_14, i_15, i_16, i_24, i_30, i_31, i_32, i_48, i_60, i_64, i_80, i_99, i_100, i_m1, iN_of, iN_add, iN_mul, iN_sub, iN_01, iM_1, iN_div, iN_lt, iN_le, iN_eq, iN_cl, iM_lt, iM_gt, iM_le, iM_ge, iM_eq, iM_eq2, iN_64, jN_32, if_pos, if_neg, if_true, if_false, true_or, or_true, false_or, or_false, not_true_eq_false, not_false_eq_true, Option.bind_some]
    · simp (disch := omega) only [fX4_putInOrder_17, fX4_putInOrder_71, lgc0, hz, en, iO, i_0, i_1, i_2, i_3, i_4, i_5, i_6, i_7, i_8, i_9, i_10, i_11, i_12, i_14, i_15, i_16, i_24, i_30, i_31, i_32, i_48, i_60, i_64, i_80, i_99, i_100, i_m1, iN_of, iN_add, iN_mul, iN_sub, iN_01, iM_1, iN_div, iN_lt, iN_le, iN_eq, iN_cl, iM_lt, iM_gt, iM_le, iM_ge, iM_eq, iM_eq2, iN_64, jN_32, if_pos, if_neg, if_true, if_false, true_or, or_true, false_or, or_false, not_true_eq_false, not_false_eq_true, Option.bind_some]
  | succ k ih =>
    intro W w σ i N' hk hN' hi h0 hc hw h1
    obtain ⟨N', rfl⟩ : ∃ k, N' = k + 1 := ⟨N' - 1, by omega⟩
    rw [lp_1]
    by_cases hz : w = 0
    · have e : nx M W n = none := nx_none (fun c hc => by
        have := hw c (by omega)
        rw [hz, tj_zero] at this
        simpa [hc] using this.symm)
      rw [ordL_none e]
      refine ⟨σ, ?_, Sm.refl _ _ _, h1, fun _ _ => rfl, fun j h => absurd h (Nat.not_lt_zero j)⟩
      simp (disch := omega) only [fX4_putInOrder_17, fX4_putInOrder_71, lgc0, hz, i_0, i_1, i_2, i_3, i_4, i_5, i_6, i_7, i_8, i_9, i_10, i_11, i_12, i_14, i_15, i_16, i_24, i_30, i_31, i_32, i_48, i_60, i_64, i_80, i_99, i_100, i_m1, iN_of, iN_add, iN_mul, iN_sub, iN_01, iM_1, iN_div, iN_lt, iN_le, iN_eq, iN_cl, iM_lt, iM_gt, iM_le, iM_ge, iM_eq, iM_eq2, iN_64, jN_32, if_pos, if_neg, if_true, if_false, true_or, or_true, false_or, or_false, not_true_eq_false, not_false_eq_true, Option.bind_some]
    · have en := X_nextOf (N := N) hN h0 hn hp hc (W := W) (fun c hc => by rw [hw c (by omega)]; simp [hc])
      cases q : nx M W n with
      | none =>
        rw [q] at en
        rw [ordL_none q]
        refine ⟨σ, ?_, Sm.refl _ _ _, h1, fun _ _ => rfl, fun j h => absurd h (Nat.not_lt_zero j)⟩
        simp (disch := omega) only [fX4_putInOrder_17, fX4_putInOrder_71, lgc0, hz, en, iO, i_0, i_1, i_2, i_3, i_4, i_5, i_6, i_7, i_8, i_9, i_10, i_11, i_12, i_14, i_15, i_16, i_24, i_30, i_31, i_32, i_48, i_60, i_64, i_80, i_99, i_100, i_m1, iN_of, iN_add, iN_mul, iN_sub, iN_01, iM_1, iN_div, iN_lt, iN_le, iN_eq, iN_cl, iM_lt, iM_gt, iM_le, iM_ge, iM_eq, iM_eq2, iN_64, jN_32, if_pos, if_neg, if_true, if_false, true_or, or_true, false_or, or_false, not_true_eq_false, not_false_eq_true, Option.bind_some]
      | some c =>
        rw [q] at en
        have hcn := nx_lt q
        have hcnt := sCnt_wm hcn.1 hcn.2.1
        rw [ordL_some q]
        have hadd := X_add (N := N) (v := jN c) h1 (show gle σ.2.2 111 = 60 from rfl) (show i < 60 by omega) (by decide)
        have hsm : Sm σ (gAdd σ 110 i (jN c)) 110 112 := Sm.add (by omega)
        obtain ⟨σ', r1, r2, r3, r4, r5⟩ := ih (Wm W c) (w &&& (((1 : Int64) <<< (jN c &&& 63)) ^^^ (-1))) (gAdd σ 110 i (jN c)) (i + 1) N' (by omega) (by omega) (by omega) (by rw [gAdd_I (by omega)]; exact h0) (fun d hd => by
          have := hc d hd
          unfold chOK at this ⊢
          rw [(hsm.1 (5 + d) (by omega)).1]; exact this) (fun d hd => by
          rw [tj_and, tj_not (by omega) hd, hw d hd]; unfold Wm
          cases decide (d < n) <;> cases W d <;> cases decide (d = c) <;> rfl) gAdd_1
        refine ⟨σ', ?_, hsm.trans r2, ?_, fun j hj => ?_, fun j hj => ?_⟩
        · simp (disch := omega) only [fX4_putInOrder_17, fX4_putInOrder_71, lgc0, hz, en, iO, hadd, i_0, i_1, i_2, i_3, i_4, i_5, i_6, i_7, i_8, i_9, i_10, i_11, i_12, i_14, i_15, i_16, i_24, i_30, i_31, i_32, i_48, i_60, i_64, i_80, i_99, i_100, i_m1, iN_of, iN_add, iN_mul, iN_sub, iN_01, iM_1, iN_div, iN_lt, iN_le, iN_eq, iN_cl, iM_lt, iM_gt, iM_le, iM_ge, iM_eq, iM_eq2, iN_64, jN_32, if_pos, if_neg, if_true, if_false, true_or, or_true, false_or, or_false, not_true_eq_false, not_false_eq_true, Option.bind_some]
          exact r1
        · rw [r3, List.length_cons]; exact congrArg iN (by omega)
        · rw [r4 j (by omega), gAdd_old (by omega)]
        · cases j with
          | zero => rw [show i + 0 = i from rfl, r4 i (by omega), gAdd_new]; rfl
          | succ j =>
            have := r5 j (by simpa using hj)
            rw [show i + (j + 1) = i + 1 + j by omega, this]; rfl
theorem X_putInOrder {N : Nat} {σ M : gS} {n : Nat} (hN : 100 ≤ N) (hn : n ≤ 20) (hp : parOK M n) (h0 : σ.1 1 4 = iN n) (hc : ∀ c, c < n → chOK σ M c) (hs : ∀ c, c < n → σ.1 (5 + c) 3 = M.1 164 c) :
    ∃ σ' : gS, fX4_putInOrder N σ = some σ' ∧ Sm σ σ' 110 112 ∧ σ'.1 110 1 = iN (ordL M n n (fun c => decide (M.1 164 c = iN 1))).length ∧ ∀ j, j < (ordL M n n (fun c => decide (M.1 164 c = iN 1))).length → σ'.2.1 111 j = jN ((ordL M n n (fun c => decide (M.1 164 c = iN 1))).getD j 0) := by
  have hsm : Sm σ (sI σ 110 1 (iN 0)) 110 112 := Sm.sI (by omega)
  have e1 := X_ones (N := N) (σ := sI σ 110 1 (iN 0)) (st := iN 1) hN (by rw [sI_1, if_neg (by omega)]; exact h0) hn
  have hk : ∀ (W : Nat → Bool) (m : Nat), sCnt W m ≤ m := fun W m => sCnt_le m
  obtain ⟨σ', r1, r2, r3, r4, r5⟩ := X_ord17 hN hn hp n (fun c => decide (M.1 164 c = iN 1)) (gOnes (sI σ 110 1 (iN 0)) (iN 1) n) (sI σ 110 1 (iN 0)) 0 N (hk _ n) (by omega) (by omega) (by rw [sI_1, if_neg (by omega)]; exact h0) (fun d hd => by
      have := hc d hd
      unfold chOK at this ⊢
      rw [(hsm.1 (5 + d) (by omega)).1]; exact this) (fun d hd => by
      rw [tj_ones (by omega)]
      by_cases l : d < n
      · rw [(hsm.1 (5 + d) (by omega)).1, hs d l]
      · simp [l]) (by rw [sI_1, if_pos ⟨rfl, rfl⟩])
  refine ⟨σ', ?_, hsm.trans r2, by rw [r3]; exact congrArg iN (by omega), fun j hj => ?_⟩
  · simp only [fX4_putInOrder, i_0, i_1]
    rw [e1, Option.bind_some]
    exact r1
  · have := r5 j hj
    rw [Nat.zero_add] at this; exact this
