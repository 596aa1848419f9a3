/-! all batches of the class -/
/-- the lane behind all batches -/
theorem X_form39 {N : Nat} {M : gS} {n sz dp : Nat} {L : List Nat} (hN : 100 ≤ N) (hn : n ≤ 20) (hsz : sz ≤ 8) (hdp : dp ≤ 4) (hL : L.length ≤ 40) (hp : parOK M n) (hLq : ∀ c ∈ L, c < n ∧ M.1 164 c = iN 1) : ∀ (k e : Nat) (σ : gS) (m : Nat) (inn : Nat → Bool) (t : Int64) (N' : Nat), dp = e + k → k < N' → m + sz * k ≤ 32 → σ.1 109 1 = iN dp → laneOK σ M n sz m L inn → σ.1 114 1 = iN e → σ.1 116 1 = iN e →
    ∃ σ' : gS, lp (fX4_form_39 N) N' (σ, t, iN e) = some σ' ∧ Sm σ σ' 109 118 ∧ σ'.1 109 = σ.1 109 ∧ σ'.1 110 = σ.1 110 ∧ σ'.2.1 111 = σ.2.1 111
      ∧ σ'.1 112 1 = iN (m + (batL M L sz k inn t).flatten.length) ∧ (∀ j, j < m → σ'.2.1 113 j = σ.2.1 113 j) ∧ (∀ j, j < (batL M L sz k inn t).flatten.length → σ'.2.1 113 (m + j) = jN ((batL M L sz k inn t).flatten.getD j 0))
      ∧ σ'.1 114 1 = iN (e + (batL M L sz k inn t).length) ∧ (∀ j, j < e → σ'.2.1 115 j = σ.2.1 115 j) ∧ (∀ j, j < (batL M L sz k inn t).length → σ'.2.1 115 (e + j) = jN (m + ((batL M L sz k inn t).take (j + 1)).flatten.length))
      ∧ σ'.1 116 1 = iN (e + (batL M L sz k inn t).length) ∧ (∀ j, j < e → σ'.2.1 117 j = σ.2.1 117 j) ∧ (∀ j, j < (batL M L sz k inn t).length → σ'.2.1 117 (e + j) = treeL M t ((batL M L sz k inn t).take (j + 1)).flatten) := by
  intro k
  induction k with
  | zero =>
    intro e σ m inn t N' hd hN' hm h1 hl h4 h6
    obtain ⟨N', rfl⟩ : ∃ k, N' = k + 1 := ⟨N' - 1, by omega⟩
    refine ⟨σ, ?_, Sm.refl _ _ _, rfl, rfl, rfl, hl.2.2.2.1, fun _ _ => rfl, fun j h => absurd h (Nat.not_lt_zero j), h4, fun _ _ => rfl, fun j h => absurd h (Nat.not_lt_zero j), h6, fun _ _ => rfl, fun j h => absurd h (Nat.not_lt_zero j)⟩
    rw [lp_1]
    simp (disch := omega) only [fX4_form_39, fX4_form_115, h1, i_0, i_1, i_2, i_3, i_4, i_5, i_6, i_7, i_8, i_9, i_10, i_11, i_12, i_14, i_15, i_16, i_24, i_30, i_31, i_32, i_48, i_60, i_64, i_80, i_99, i_100, i_m1, iN_of, iN_add, iN_mul, iN_sub, iN_01, iM_1, iN_div, iN_lt, iN_le, iN_eq, iN_cl, iM_lt, iM_gt, iM_le, iM_ge, iM_eq, iM_eq2, iN_64, jN_32, if_pos, if_neg, if_true, if_false, true_or, or_true, false_or, or_false, not_true_eq_false, not_false_eq_true, Option.bind_some]
  | succ k ih =>
    intro e σ m inn t N' hd hN' hm h1 hl h4 h6
    obtain ⟨N', rfl⟩ : ∃ k, N' = k + 1 := ⟨N' - 1, by omega⟩
    have hmul : sz * (k + 1) = sz * k + sz := Nat.mul_succ _ _
    obtain ⟨σ1, r1, r2, r3, r4, r5, r6⟩ := X_one9 (N := N) hn hsz hL hp hLq L [] σ 0 m inn t N rfl (by omega) (by omega) (by omega) hl
    have hlen1 := takeB_len (M := M) L (sz - 0) inn t
    rw [Nat.sub_zero] at r1 r4 r6 hlen1
    have e12 : σ1.1 112 1 = iN (m + (takeB M L sz inn t).length) := r4.2.2.2.1
    have hone : fX4_formOne N σ t = some (treeL M t (takeB M L sz inn t), σ1) := r1
    rw [lp_1]
    cases hB : takeB M L sz inn t with
    | nil =>
      rw [hB] at hone e12 r4 r6
      rw [batL_nil hB]
      refine ⟨σ1, ?_, r2.wide (by omega) (by omega), r3.1, r3.2.1, r3.2.2, e12, r5, fun j h => absurd h (Nat.not_lt_zero j), ?_, fun j hj => by rw [(r2.1 115 (by omega)).2], fun j h => absurd h (Nat.not_lt_zero j), ?_, fun j hj => by rw [(r2.1 117 (by omega)).2], fun j h => absurd h (Nat.not_lt_zero j)⟩
      · simp (disch := omega) only [fX4_form_39, fX4_form_115, h1, hone, e12, hl.2.2.2.1, i_0, i_1, i_2, i_3, i_4, i_5, i_6, i_7, i_8, i_9, i_10, i_11, i_12, i_14, i_15, i_16, i_24, i_30, i_31, i_32, i_48, i_60, i_64, i_80, i_99, i_100, i_m1, iN_of, iN_add, iN_mul, iN_sub, iN_01, iM_1, iN_div, iN_lt, iN_le, iN_eq, iN_cl, iM_lt, iM_gt, iM_le, iM_ge, iM_eq, iM_eq2, iN_64, jN_32, if_pos, if_neg, if_true, if_false, true_or, or_true, false_or, or_false, not_true_eq_false, not_false_eq_true, Option.bind_some]
        rw [if_pos (by simp)]
      · rw [(r2.1 114 (by omega)).1]; exact h4
      · rw [(r2.1 116 (by omega)).1]; exact h6
    | cons c r =>
      rw [hB] at hone e12 r4 r6 hlen1
      rw [batL_cons hB]
      have q4 : σ1.1 114 1 = iN e := by rw [(r2.1 114 (by omega)).1]; exact h4
      have q6 : σ1.1 116 1 = iN e := by rw [(r2.1 116 (by omega)).1]; exact h6
      have a1 := X_add (N := N) (v := jN (m + (c :: r).length)) q4 (show gle σ1.2.2 115 = 4 from rfl) (show e < 4 by omega) (by decide)
      have q6b : (gAdd σ1 114 e (jN (m + (c :: r).length))).1 116 1 = iN e := (gAdd_I (show (116 : Nat) ≠ 114 by decide)).trans q6
      have a2 := X_add (N := N) (v := treeL M t (c :: r)) q6b (show gle (gAdd σ1 114 e (jN (m + (c :: r).length))).2.2 117 = 4 from rfl) (show e < 4 by omega) (by decide)
      have hS2 : Sm σ1 (gAdd (gAdd σ1 114 e (jN (m + (c :: r).length))) 116 e (treeL M t (c :: r))) 114 118 := (Sm.add (by omega)).trans (Sm.add (by omega))
      have hl2 : laneOK (gAdd (gAdd σ1 114 e (jN (m + (c :: r).length))) 116 e (treeL M t (c :: r))) M n sz (m + (c :: r).length) L (inL inn (c :: r)) := by
        obtain ⟨g1, g2, g3, g4, g5, g6⟩ := r4
        refine ⟨by rw [(hS2.1 110 (by omega)).1]; exact g1, fun j h => by rw [(hS2.1 111 (by omega)).2]; exact g2 j h, by rw [(hS2.1 109 (by omega)).1]; exact g3, by rw [(hS2.1 112 (by omega)).1]; exact g4, fun d hd => ?_, fun q hq => by rw [(hS2.1 109 (by omega)).2]; exact g6 q hq⟩
        have := g5 d hd
        unfold chB at this ⊢
        rw [(hS2.1 (5 + d) (by omega)).1, (hS2.1 (5 + d) (by omega)).2]; exact this
      obtain ⟨σ', w1, w2, w3, w3b, w3c, w4, w5, w6, w7, w8, w9, w10, w11, w12⟩ := ih (e + 1) _ (m + (c :: r).length) (inL inn (c :: r)) (treeL M t (c :: r)) N' (by omega) (by omega) (by omega) (by rw [(hS2.1 109 (by omega)).1, r3.1]; exact h1) hl2 ((gAdd_I (show (114 : Nat) ≠ 116 by decide)).trans gAdd_1) gAdd_1
      refine ⟨σ', ?_, (r2.wide (by omega) (by omega)).trans ((hS2.wide (by omega) (by omega)).trans w2), w3.trans ((hS2.1 109 (by omega)).1.trans r3.1), w3b.trans ((hS2.1 110 (by omega)).1.trans r3.2.1), w3c.trans ((hS2.1 111 (by omega)).2.trans r3.2.2), ?_, fun j hj => ?_, fun j hj => ?_, ?_, fun j hj => ?_, fun j hj => ?_, ?_, fun j hj => ?_, fun j hj => ?_⟩
      · simp (disch := omega) only [fX4_form_39, fX4_form_115, h1, hone, e12, hl.2.2.2.1, i_0, i_1, i_2, i_3, i_4, i_5, i_6, i_7, i_8, i_9, i_10, i_11, i_12, i_14, i_15, i_16, i_24, i_30, i_31, i_32, i_48, i_60, i_64, i_80, i_99, i_100, i_m1, iN_of, iN_add, iN_mul, iN_sub, iN_01, iM_1, iN_div, iN_lt, iN_le, iN_eq, iN_cl, iM_lt, iM_gt, iM_le, iM_ge, iM_eq, iM_eq2, iN_64, jN_32, if_pos, if_neg, if_true, if_false, true_or, or_true, false_or, or_false, not_true_eq_false, not_false_eq_true, Option.bind_some]
        rw [if_neg (by simp only [List.length_cons]; omega)]
        rw [a1, Option.bind_some, a2, Option.bind_some]
        exact w1
      · rw [w4, List.flatten_cons, List.length_append]; exact congrArg iN (by omega)
      · rw [w5 j (by omega), (hS2.1 113 (by omega)).2, r5 j hj]
      · by_cases hj2 : j < (c :: r).length
        · rw [w5 (m + j) (by omega), (hS2.1 113 (by omega)).2, r6 j hj2]
          rw [List.flatten_cons, gD_app1 hj2]
        · have hj3 : j - (c :: r).length < (batL M L sz k (inL inn (c :: r)) (treeL M t (c :: r))).flatten.length := by
            rw [List.flatten_cons, List.length_append] at hj; omega
          have := w6 (j - (c :: r).length) hj3
          rw [show m + (c :: r).length + (j - (c :: r).length) = m + j by omega] at this
          rw [this]
          rw [List.flatten_cons]
          have := gD_app2 (l := c :: r) (r := (batL M L sz k (inL inn (c :: r)) (treeL M t (c :: r))).flatten) (j := j - (c :: r).length)
          rw [show (c :: r).length + (j - (c :: r).length) = j by omega] at this
          rw [this]
      · rw [w7, List.length_cons]; exact congrArg iN (by omega)
      · rw [w8 j (by omega), gAdd_J (show (115 : Nat) ≠ 116 + 1 by decide), gAdd_old (show j ≠ e by omega), (r2.1 115 (by omega)).2]
      · cases j with
        | zero =>
          rw [show e + 0 = e from rfl, w8 e (by omega), gAdd_J (show (115 : Nat) ≠ 116 + 1 by decide), gAdd_new]
          simp
        | succ j =>
          have := w9 j (by simpa using hj)
          rw [show e + (j + 1) = e + 1 + j by omega, this]
          rw [List.take_succ_cons, List.flatten_cons, List.length_append]; exact congrArg jN (by omega)
      · rw [w10, List.length_cons]; exact congrArg iN (by omega)
      · rw [w11 j (by omega), gAdd_old (show j ≠ e by omega), gAdd_J (show (117 : Nat) ≠ 114 + 1 by decide), (r2.1 117 (by omega)).2]
      · cases j with
        | zero =>
          rw [show e + 0 = e from rfl, w11 e (by omega), gAdd_new]
          simp
        | succ j =>
          have := w12 j (by simpa using hj)
          rw [show e + (j + 1) = e + 1 + j by omega, this]
          rw [List.take_succ_cons, List.flatten_cons]
          unfold treeL
          rw [List.foldl_append]
