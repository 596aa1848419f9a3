/-! the law bisects the first batch -/
theorem wtF_up {M : gS} {n T G V : Nat} {F : List Nat} (h : LF M n T G V) (hF : ∀ c ∈ F, c < n) : ∀ k, k ≤ F.length → wtF M F k ≤ 1000 * k
  | 0, _ => Nat.le_of_eq rfl
  | k + 1, hk => by
    have h1 := wtF_up h hF k (by omega)
    have hc := hF _ (gD_mem (show k < F.length by omega))
    have h2 := (h.2.2.2.2.2 _ (h.2.2.2.1 _ hc).2).2
    rw [wtF_step (by omega)]
    unfold wtA; omega
theorem wtF_le {M : gS} {F : List Nat} {g k : Nat} (h : g ≤ k) (hk : k ≤ F.length) : wtF M F g ≤ wtF M F k := by
  have := wtF_mono (M := M) (F := F) (g := g) (k - g) (by omega)
  rw [show g + (k - g) = k by omega] at this; omega
theorem sTog3 (set : Int32) (ver : Nat → Nat) (T : Nat) : sTog set ver T = 0 ∨ sTog set ver T = 1 ∨ sTog set ver T = 2 := by
  unfold sTog
  split
  · exact Or.inr (Or.inr rfl)
  · split
    · exact Or.inl rfl
    · exact Or.inr (Or.inl rfl)
theorem L_bis45 {N : Nat} {σ M : gS} {n T G V g b : Nat} {F : List Nat} {t : Int64} {rec16 : gS → Option gS} (hN : 100 ≤ N) (hM : lawOf σ = M) (h : LF M n T G V) (hd : dHas σ F) (hF : ∀ c ∈ F, c < n) (hb : b ≤ F.length) (hg : g ≤ b) (h0 : σ.1 181 0 = iN g) (h1 : σ.1 181 1 = iN b) :
    lp (fL_bisects_45 N rec16 t) N (σ, iN 0, iN g) = lp (fL_bisects_89 N rec16 t (iN (wtF M F b - wtF M F g))) N (σ, iN g, iN 0) := by
  have hd1 := hd.1
  have hn := h.1.2.1
  have := lp_run (F := fL_bisects_45 N rec16 t) (out := lp (fL_bisects_89 N rec16 t (iN (wtF M F b - wtF M F g))) N (σ, iN g, iN 0)) (fun j => (σ, iN (wtF M F (g + j) - wtF M F g), iN (g + j))) (b - g) (fun j hj rec => ?_) (fun rec => ?_) N (by omega)
  · simp only [Nat.add_zero, Nat.sub_self] at this
    exact this
  · have hj2 : g + j < F.length := by omega
    have hc := hF _ (gD_mem hj2)
    have ha := h.2.2.2.1 _ hc
    have hu := h.2.2.2.2.2 _ ha.2
    have hw := wtF_le (M := M) (F := F) (show g ≤ g + j by omega) (by omega)
    simp (disch := omega) only [fL_bisects_45, h0, h1, hd.2 _ hj2, lw1 hM, ha.1, hu.1, i_0, i_1, i_2, i_3, i_4, i_5, i_6, i_7, i_8, i_9, i_10, i_11, i_12, i_14, i_15, i_16, i_24, i_30, i_31, i_32, i_48, i_60, i_64, i_80, i_99, i_100, i_m1, iN_of, iN_add, iN_mul, iN_sub, iN_01, iM_1, iN_div, iN_lt, iN_le, iN_eq, iN_cl, iM_lt, iM_gt, iM_le, iM_ge, iM_eq, iM_eq2, iN_64, jN_32, if_pos, if_neg, if_true, if_false, true_or, or_true, false_or, or_false, not_true_eq_false, not_false_eq_true, Option.bind_some]
    rw [show g + (j + 1) = g + j + 1 by omega, wtF_step hj2]
    unfold wtA
    rw [show wtF M F (g + j) - wtF M F g + (1 + vN M 178 (6 + vN M 162 (F.getD (g + j) 0))) = wtF M F (g + j) + (1 + vN M 178 (6 + vN M 162 (F.getD (g + j) 0))) - wtF M F g by omega]
  · rw [show g + (b - g) = b by omega]
    simp (disch := omega) only [fL_bisects_45, h0, h1, i_0, i_1, i_2, i_3, i_4, i_5, i_6, i_7, i_8, i_9, i_10, i_11, i_12, i_14, i_15, i_16, i_24, i_30, i_31, i_32, i_48, i_60, i_64, i_80, i_99, i_100, i_m1, iN_of, iN_add, iN_mul, iN_sub, iN_01, iM_1, iN_div, iN_lt, iN_le, iN_eq, iN_cl, iM_lt, iM_gt, iM_le, iM_ge, iM_eq, iM_eq2, iN_64, jN_32, if_pos, if_neg, if_true, if_false, true_or, or_true, false_or, or_false, not_true_eq_false, not_false_eq_true, Option.bind_some]
theorem L_bis89 {N : Nat} {σ M : gS} {n T G V g b : Nat} {F : List Nat} {t : Int64} {rec16 : gS → Option gS} (hM : lawOf σ = M) (h : LF M n T G V) (hd : dHas σ F) (hF : ∀ c ∈ F, c < n) (hb : b ≤ F.length) (hg : g + 2 ≤ b) (h0 : σ.1 181 0 = iN g) (h1 : σ.1 181 1 = iN b) : ∀ (f k N' : Nat), g + 1 ≤ k → k ≤ b - 1 → b - 1 - k ≤ f → f < N' →
    lp (fL_bisects_89 N rec16 t (iN (wtF M F b - wtF M F g))) N' (σ, iN k, iN (wtF M F k - wtF M F g)) = fL_bisects_144 N rec16 σ t (iN (nxF (wtF M F) g b f k)) := by
  have hd1 := hd.1
  have hn := h.1.2.1
  have hup := wtF_up h hF b hb
  intro f
  induction f with
  | zero =>
    intro k N' hk1 hk2 hk3 hN'
    obtain ⟨N', rfl⟩ : ∃ k, N' = k + 1 := ⟨N' - 1, by omega⟩
    rw [lp_1]
    simp (disch := omega) only [fL_bisects_89, h0, h1, i_0, i_1, i_2, i_3, i_4, i_5, i_6, i_7, i_8, i_9, i_10, i_11, i_12, i_14, i_15, i_16, i_24, i_30, i_31, i_32, i_48, i_60, i_64, i_80, i_99, i_100, i_m1, iN_of, iN_add, iN_mul, iN_sub, iN_01, iM_1, iN_div, iN_lt, iN_le, iN_eq, iN_cl, iM_lt, iM_gt, iM_le, iM_ge, iM_eq, iM_eq2, iN_64, jN_32, if_pos, if_neg, if_true, if_false, true_or, or_true, false_or, or_false, not_true_eq_false, not_false_eq_true, Option.bind_some]
    rfl
  | succ f ih =>
    intro k N' hk1 hk2 hk3 hN'
    obtain ⟨N', rfl⟩ : ∃ k, N' = k + 1 := ⟨N' - 1, by omega⟩
    have hup2 := wtF_up h hF k (by omega)
    rw [lp_1]
    by_cases e1 : b - 1 ≤ k
    · rw [show nxF (wtF M F) g b (f + 1) k = k by unfold nxF; rw [if_neg (by omega)]]
      simp (disch := omega) only [fL_bisects_89, h0, h1, i_0, i_1, i_2, i_3, i_4, i_5, i_6, i_7, i_8, i_9, i_10, i_11, i_12, i_14, i_15, i_16, i_24, i_30, i_31, i_32, i_48, i_60, i_64, i_80, i_99, i_100, i_m1, iN_of, iN_add, iN_mul, iN_sub, iN_01, iM_1, iN_div, iN_lt, iN_le, iN_eq, iN_cl, iM_lt, iM_gt, iM_le, iM_ge, iM_eq, iM_eq2, iN_64, jN_32, if_pos, if_neg, if_true, if_false, true_or, or_true, false_or, or_false, not_true_eq_false, not_false_eq_true, Option.bind_some]
    · by_cases e2 : wtF M F b - wtF M F g ≤ 2 * (wtF M F k - wtF M F g)
      · rw [show nxF (wtF M F) g b (f + 1) k = k by unfold nxF; rw [if_neg (by omega)]]
        simp (disch := omega) only [fL_bisects_89, h0, h1, i_0, i_1, i_2, i_3, i_4, i_5, i_6, i_7, i_8, i_9, i_10, i_11, i_12, i_14, i_15, i_16, i_24, i_30, i_31, i_32, i_48, i_60, i_64, i_80, i_99, i_100, i_m1, iN_of, iN_add, iN_mul, iN_sub, iN_01, iM_1, iN_div, iN_lt, iN_le, iN_eq, iN_cl, iM_lt, iM_gt, iM_le, iM_ge, iM_eq, iM_eq2, iN_64, jN_32, if_pos, if_neg, if_true, if_false, true_or, or_true, false_or, or_false, not_true_eq_false, not_false_eq_true, Option.bind_some]
      · rw [show nxF (wtF M F) g b (f + 1) k = nxF (wtF M F) g b f (k + 1) by conv => { lhs; unfold nxF }; rw [if_pos (by omega)]]
        have hj2 : k < F.length := by omega
        have hc := hF _ (gD_mem hj2)
        have ha := h.2.2.2.1 _ hc
        have hu := h.2.2.2.2.2 _ ha.2
        have hw := wtF_le (M := M) (F := F) (show g ≤ k by omega) (by omega)
        simp (disch := omega) only [fL_bisects_89, fL_bisects_118, h0, h1, hd.2 _ hj2, lw1 hM, ha.1, hu.1, i_0, i_1, i_2, i_3, i_4, i_5, i_6, i_7, i_8, i_9, i_10, i_11, i_12, i_14, i_15, i_16, i_24, i_30, i_31, i_32, i_48, i_60, i_64, i_80, i_99, i_100, i_m1, iN_of, iN_add, iN_mul, iN_sub, iN_01, iM_1, iN_div, iN_lt, iN_le, iN_eq, iN_cl, iM_lt, iM_gt, iM_le, iM_ge, iM_eq, iM_eq2, iN_64, jN_32, if_pos, if_neg, if_true, if_false, true_or, or_true, false_or, or_false, not_true_eq_false, not_false_eq_true, Option.bind_some]
        have := ih (k + 1) N' (by omega) (by omega) (by omega) (by omega)
        rw [wtF_step hj2] at this
        unfold wtA at this
        rw [show wtF M F k - wtF M F g + (1 + vN M 178 (6 + vN M 162 (F.getD k 0))) = wtF M F k + (1 + vN M 178 (6 + vN M 162 (F.getD k 0))) - wtF M F g by omega]
        exact this
theorem L_bis144 {N : Nat} {σ M : gS} {n T G V g b k : Nat} {F : List Nat} {t : Int64} {rec16 : gS → Option gS} (hN : 100 ≤ N) (hM : lawOf σ = M) (h : LF M n T G V) (hd : dHas σ F) (hF : ∀ c ∈ F, c < n) (hk : k ≤ F.length) (h0 : σ.1 181 0 = iN g) (h1 : σ.1 181 1 = iN b) :
    fL_bisects_144 N rec16 σ t (iN k) = rec16 (sI (sI (sI σ 181 0 (iN (if vdF M T G V t F k = 1 then k else g))) 181 1 (iN (if vdF M T G V t F k = 2 then k else b))) 181 2 (if vdF M T G V t F k = 0 then iN k else iM)) := by
  have hreq := L_requiredOf hN hM h hd hF hk
  have hv : vdF M T G V t F k = 0 ∨ vdF M T G V t F k = 1 ∨ vdF M T G V t F k = 2 := sTog3 _ _ _
  have hver := L_vers (set := rqL M T G (F.take k)) (t := treeL M t (F.take k)) hN hM h
  have hver2 : fL_verdicts N σ (rqL M T G (F.take k)) (treeL M t (F.take k)) = some (iN (vdF M T G V t F k)) := hver
  rw [i_0] at hreq
  rcases hv with e | e | e <;> rw [e] at hver2 ⊢ <;>
    simp (disch := omega) only [fL_bisects_144, fL_bisects_200, fL_bisects_219, fL_bisects_234, hreq, L_beginning hN hM h.1.2.1 hd hF hk, hver2, h0, h1, sI_1, true_and, false_and, i_0, i_1, i_2, i_3, i_4, i_5, i_6, i_7, i_8, i_9, i_10, i_11, i_12, i_14, i_15, i_16, i_24, i_30, i_31, i_32, i_48, i_60, i_64, i_80, i_99, i_100, i_m1, iN_of, iN_add, iN_mul, iN_sub, iN_01, iM_1, iN_div, iN_lt, iN_le, iN_eq, iN_cl, iM_lt, iM_gt, iM_le, iM_ge, iM_eq, iM_eq2, iN_64, jN_32, if_pos, if_neg, if_true, if_false, true_or, or_true, false_or, or_false, not_true_eq_false, not_false_eq_true, Option.bind_some, Nat.reduceEqDiff] <;> rfl
theorem L_bis16 {N : Nat} {M : gS} {n T G V : Nat} {F : List Nat} {t : Int64} (hN : 100 ≤ N) (h : LF M n T G V) (hF : ∀ c ∈ F, c < n) : ∀ (f g b : Nat) (σ : gS) (N' : Nat), lawOf σ = M → dHas σ F → g ≤ b → b ≤ F.length → b - g ≤ f → f + 1 < N' → σ.1 181 0 = iN g → σ.1 181 1 = iN b → σ.1 181 2 = iM →
    ∃ σ' : gS, lp (fL_bisects_16 N t) N' σ = some σ' ∧ lawOf σ' = M ∧ σ'.2 = σ.2 ∧ (∀ k, k ≠ 181 → σ'.1 k = σ.1 k) ∧ σ'.1 181 0 = iN (bisB (vdF M T G V t F) (wtF M F) f g b).1 ∧ σ'.1 181 1 = iN (bisB (vdF M T G V t F) (wtF M F) f g b).2.1 ∧ σ'.1 181 2 = iO (bisB (vdF M T G V t F) (wtF M F) f g b).2.2 := by
  intro f
  induction f with
  | zero =>
    intro g b σ N' hM hd hg hb hf hN' h0 h1 h2
    have hd1 := hd.1
    obtain ⟨N', rfl⟩ : ∃ k, N' = k + 1 := ⟨N' - 1, by omega⟩
    refine ⟨σ, ?_, hM, rfl, fun _ _ => rfl, h0, h1, h2⟩
    rw [lp_1]
    simp (disch := omega) only [fL_bisects_16, fL_bisects_238, h0, h1, i_0, i_1, i_2, i_3, i_4, i_5, i_6, i_7, i_8, i_9, i_10, i_11, i_12, i_14, i_15, i_16, i_24, i_30, i_31, i_32, i_48, i_60, i_64, i_80, i_99, i_100, i_m1, iN_of, iN_add, iN_mul, iN_sub, iN_01, iM_1, iN_div, iN_lt, iN_le, iN_eq, iN_cl, iM_lt, iM_gt, iM_le, iM_ge, iM_eq, iM_eq2, iN_64, jN_32, if_pos, if_neg, if_true, if_false, true_or, or_true, false_or, or_false, not_true_eq_false, not_false_eq_true, Option.bind_some]
  | succ f ih =>
    intro g b σ N' hM hd hg hb hf hN' h0 h1 h2
    have hd1 := hd.1
    obtain ⟨N', rfl⟩ : ∃ k, N' = k + 1 := ⟨N' - 1, by omega⟩
    rw [lp_1]
    by_cases e : b - g ≤ 1
    · rw [show bisB (vdF M T G V t F) (wtF M F) (f + 1) g b = (g, b, none) by unfold bisB; rw [if_pos e]]
      refine ⟨σ, ?_, hM, rfl, fun _ _ => rfl, h0, h1, h2⟩
      simp (disch := omega) only [fL_bisects_16, fL_bisects_238, h0, h1, i_0, i_1, i_2, i_3, i_4, i_5, i_6, i_7, i_8, i_9, i_10, i_11, i_12, i_14, i_15, i_16, i_24, i_30, i_31, i_32, i_48, i_60, i_64, i_80, i_99, i_100, i_m1, iN_of, iN_add, iN_mul, iN_sub, iN_01, iM_1, iN_div, iN_lt, iN_le, iN_eq, iN_cl, iM_lt, iM_gt, iM_le, iM_ge, iM_eq, iM_eq2, iN_64, jN_32, if_pos, if_neg, if_true, if_false, true_or, or_true, false_or, or_false, not_true_eq_false, not_false_eq_true, Option.bind_some]
    · have hbd := nxB_bd (w := wtF M F) (g := g) (b := b) (by omega)
      have e16 : fL_bisects_16 N t (lp (fL_bisects_16 N t) N') σ = fL_bisects_144 N (lp (fL_bisects_16 N t) N') σ t (iN (nxB (wtF M F) g b)) := by
        simp (disch := omega) only [fL_bisects_16, h0, h1, h2, i_0, i_1, i_2, i_3, i_4, i_5, i_6, i_7, i_8, i_9, i_10, i_11, i_12, i_14, i_15, i_16, i_24, i_30, i_31, i_32, i_48, i_60, i_64, i_80, i_99, i_100, i_m1, iN_of, iN_add, iN_mul, iN_sub, iN_01, iM_1, iN_div, iN_lt, iN_le, iN_eq, iN_cl, iM_lt, iM_gt, iM_le, iM_ge, iM_eq, iM_eq2, iN_64, jN_32, if_pos, if_neg, if_true, if_false, true_or, or_true, false_or, or_false, not_true_eq_false, not_false_eq_true, Option.bind_some]
        rw [L_bis45 hN hM h hd hF hb hg h0 h1]
        obtain ⟨N1, rfl⟩ : ∃ k, N = k + 1 := ⟨N - 1, by omega⟩
        rw [lp_1]
        have hc := hF _ (gD_mem (show g < F.length by omega))
        have hn := h.1.2.1
        have ha := h.2.2.2.1 _ hc
        have hu := h.2.2.2.2.2 _ ha.2
        have := L_bis89 (N := N1 + 1) (rec16 := lp (fL_bisects_16 (N1 + 1) t) N') (t := t) hM h hd hF hb (by omega) h0 h1 b (g + 1) N1 (Nat.le_refl _) (by omega) (by omega) (by omega)
        rw [wtF_step (show g < F.length by omega), Nat.add_sub_cancel_left] at this
        unfold wtA at this
        simp (disch := omega) only [fL_bisects_89, fL_bisects_118, h0, h1, hd.2 _ (show g < F.length by omega), lw1 hM, ha.1, hu.1, i_0, i_1, i_2, i_3, i_4, i_5, i_6, i_7, i_8, i_9, i_10, i_11, i_12, i_14, i_15, i_16, i_24, i_30, i_31, i_32, i_48, i_60, i_64, i_80, i_99, i_100, i_m1, iN_of, iN_add, iN_mul, iN_sub, iN_01, iM_1, iN_div, iN_lt, iN_le, iN_eq, iN_cl, iM_lt, iM_gt, iM_le, iM_ge, iM_eq, iM_eq2, iN_64, jN_32, if_pos, if_neg, if_true, if_false, true_or, or_true, false_or, or_false, not_true_eq_false, not_false_eq_true, Option.bind_some, Nat.zero_add]
        exact this
      rw [e16, L_bis144 hN hM h hd hF (by omega) h0 h1]
      have eb : bisB (vdF M T G V t F) (wtF M F) (f + 1) g b = if vdF M T G V t F (nxB (wtF M F) g b) = 0 then (g, b, some (nxB (wtF M F) g b)) else if vdF M T G V t F (nxB (wtF M F) g b) = 1 then bisB (vdF M T G V t F) (wtF M F) f (nxB (wtF M F) g b) b else bisB (vdF M T G V t F) (wtF M F) f g (nxB (wtF M F) g b) := by
        conv => { lhs; unfold bisB }
        rw [if_neg e]
      rw [eb]
      generalize nxB (wtF M F) g b = k at hbd ⊢
      have hM2 : ∀ x y z, lawOf (sI (sI (sI σ 181 0 x) 181 1 y) 181 2 z) = M := fun x y z => (lawOf_sI (by omega)).trans ((lawOf_sI (by omega)).trans ((lawOf_sI (by omega)).trans hM))
      have hd2 : ∀ x y z, dHas (sI (sI (sI σ 181 0 x) 181 1 y) 181 2 z) F := fun x y z => hd
      have hfr : ∀ x y z k', k' ≠ 181 → (sI (sI (sI σ 181 0 x) 181 1 y) 181 2 z).1 k' = σ.1 k' := fun x y z k' hk' => by
        funext j
        simp only [sI_1, hk', false_and, if_false]
      have hv : vdF M T G V t F k = 0 ∨ vdF M T G V t F k = 1 ∨ vdF M T G V t F k = 2 := sTog3 _ _ _
      rcases hv with e0 | e0 | e0
      · simp only [e0, Nat.reduceEqDiff, if_true, if_false]
        refine ⟨_, ?_, hM2 (iN g) (iN b) (iN k), rfl, hfr _ _ _, ?_, ?_, ?_⟩
        · obtain ⟨N2, rfl⟩ : ∃ k, N' = k + 1 := ⟨N' - 1, by omega⟩
          rw [lp_1]
          simp (disch := omega) only [fL_bisects_16, fL_bisects_238, sI_1, true_and, Nat.reduceEqDiff, i_0, i_1, i_2, i_3, i_4, i_5, i_6, i_7, i_8, i_9, i_10, i_11, i_12, i_14, i_15, i_16, i_24, i_30, i_31, i_32, i_48, i_60, i_64, i_80, i_99, i_100, i_m1, iN_of, iN_add, iN_mul, iN_sub, iN_01, iM_1, iN_div, iN_lt, iN_le, iN_eq, iN_cl, iM_lt, iM_gt, iM_le, iM_ge, iM_eq, iM_eq2, iN_64, jN_32, if_pos, if_neg, if_true, if_false, true_or, or_true, false_or, or_false, not_true_eq_false, not_false_eq_true, Option.bind_some]
        · simp only [sI_1, true_and, Nat.reduceEqDiff, if_true, if_false]
        · simp only [sI_1, true_and, Nat.reduceEqDiff, if_true, if_false]
        · simp only [sI_1, true_and, Nat.reduceEqDiff, if_true, if_false]; rfl
      · simp only [e0, Nat.reduceEqDiff, if_true, if_false]
        obtain ⟨σ', w1, w2, w3, w4, w5, w6, w7⟩ := ih k b (sI (sI (sI σ 181 0 (iN k)) 181 1 (iN b)) 181 2 iM) N' (hM2 _ _ _) (hd2 _ _ _) (by omega) hb (by omega) (by omega) (by simp only [sI_1, true_and, Nat.reduceEqDiff, if_true, if_false]) (by simp only [sI_1, true_and, Nat.reduceEqDiff, if_true, if_false]) (by simp only [sI_1, true_and, Nat.reduceEqDiff, if_true, if_false])
        exact ⟨σ', w1, w2, w3, fun k' hk' => (w4 k' hk').trans (hfr _ _ _ k' hk'), w5, w6, w7⟩
      · simp only [e0, Nat.reduceEqDiff, if_true, if_false]
        obtain ⟨σ', w1, w2, w3, w4, w5, w6, w7⟩ := ih g k (sI (sI (sI σ 181 0 (iN g)) 181 1 (iN k)) 181 2 iM) N' (hM2 _ _ _) (hd2 _ _ _) (by omega) (by omega) (by omega) (by omega) (by simp only [sI_1, true_and, Nat.reduceEqDiff, if_true, if_false]) (by simp only [sI_1, true_and, Nat.reduceEqDiff, if_true, if_false]) (by simp only [sI_1, true_and, Nat.reduceEqDiff, if_true, if_false])
        exact ⟨σ', w1, w2, w3, fun k' hk' => (w4 k' hk').trans (hfr _ _ _ k' hk'), w5, w6, w7⟩
/-- where the first batch's search stands -/
def bisM (M : gS) (T G V : Nat) (t : Int64) (F : List Nat) : Nat × Nat × Option Nat := bisB (vdF M T G V t F) (wtF M F) F.length 0 F.length
theorem L_bisects {N : Nat} {σ M : gS} {n T G V : Nat} {F : List Nat} {t : Int64} (hN : 100 ≤ N) (hM : lawOf σ = M) (h : LF M n T G V) (hd : dHas σ F) (hF : ∀ c ∈ F, c < n) :
    ∃ σ' : gS, fL_bisects N σ (iN F.length) t = some σ' ∧ lawOf σ' = M ∧ σ'.2 = σ.2 ∧ (∀ k, k ≠ 181 → σ'.1 k = σ.1 k) ∧ σ'.1 181 0 = iN (bisM M T G V t F).1 ∧ σ'.1 181 1 = iN (bisM M T G V t F).2.1 ∧ σ'.1 181 2 = iO (bisM M T G V t F).2.2 := by
  have hd1 := hd.1
  obtain ⟨σ', w1, w2, w3, w4, w5, w6, w7⟩ := L_bis16 (t := t) hN h hF F.length 0 F.length (sI (sI (sI σ 181 0 (iN 0)) 181 1 (iN F.length)) 181 2 iM) N ((lawOf_sI (by omega)).trans ((lawOf_sI (by omega)).trans ((lawOf_sI (by omega)).trans hM))) hd (by omega) (Nat.le_refl _) (by omega) (by omega) (by simp only [sI_1, true_and, Nat.reduceEqDiff, if_true, if_false]) (by simp only [sI_1, true_and, Nat.reduceEqDiff, if_true, if_false]) (by simp only [sI_1, true_and, Nat.reduceEqDiff, if_true, if_false])
  refine ⟨σ', w1, w2, w3, fun k' hk' => (w4 k' hk').trans ?_, w5, w6, w7⟩
  funext j
  simp only [sI_1, hk', false_and, if_false]
theorem bisB_bd {vd w : Nat → Nat} : ∀ (f g b : Nat), g < b → (bisB vd w f g b).1 < (bisB vd w f g b).2.1 ∧ g ≤ (bisB vd w f g b).1 ∧ (bisB vd w f g b).2.1 ≤ b ∧ ∀ k, (bisB vd w f g b).2.2 = some k → k < b
  | 0, g, b, h => ⟨h, Nat.le_refl _, Nat.le_refl _, fun k q => (nomatch q)⟩
  | f + 1, g, b, h => by
    unfold bisB
    by_cases e : b - g ≤ 1
    · rw [if_pos e]; exact ⟨h, Nat.le_refl _, Nat.le_refl _, fun k q => (nomatch q)⟩
    · rw [if_neg e]
      have hbd := nxB_bd (w := w) (g := g) (b := b) (by omega)
      by_cases e0 : vd (nxB w g b) = 0
      · rw [if_pos e0]; exact ⟨h, Nat.le_refl _, Nat.le_refl _, fun k q => by cases q; omega⟩
      · rw [if_neg e0]
        by_cases e1 : vd (nxB w g b) = 1
        · rw [if_pos e1]
          obtain ⟨h1, h2, h3, h4⟩ := bisB_bd (vd := vd) (w := w) f (nxB w g b) b (by omega)
          exact ⟨h1, by omega, h3, h4⟩
        · rw [if_neg e1]
          obtain ⟨h1, h2, h3, h4⟩ := bisB_bd (vd := vd) (w := w) f g (nxB w g b) (by omega)
          exact ⟨h1, h2, by omega, fun k q => by have := h4 k q; omega⟩
/-! the tests that failed -/
def orT (p : Nat → Bool) : Nat → Int32
  | 0 => iN 0
  | q + 1 => if p q = true then orT p q ||| (iN 1 <<< (iN q &&& iN 31)) else orT p q
theorem orT_t {p : Nat → Bool} {q : Nat} (h : p q = true) : orT p (q + 1) = orT p q ||| (iN 1 <<< (iN q &&& iN 31)) := if_pos h
theorem orT_f {p : Nat → Bool} {q : Nat} (h : p q = false) : orT p (q + 1) = orT p q := if_neg (by rw [h]; exact Bool.false_ne_true)
theorem tb_orT {p : Nat → Bool} : ∀ (T j : Nat), T ≤ 32 → j < 32 → tb (orT p T) j = (decide (j < T) && p j)
  | 0, j, _, _ => by
    show tb (iN 0) j = _
    rw [tb_z]; simp
  | T + 1, j, hT, hj => by
    have h := tb_orT (p := p) T j (by omega) hj
    cases hp : p T with
    | true =>
      rw [orT_t hp, tb_or, tb_one (by omega), h]
      by_cases e : j = T
      · subst e; rw [hp]; simp
      · rw [decide_eq_false e, show decide (j < T + 1) = decide (j < T) by rw [decide_eq_decide]; omega]; simp
    | false =>
      rw [orT_f hp, h]
      by_cases e : j = T
      · subst e; rw [hp]; simp
      · rw [show decide (j < T + 1) = decide (j < T) by rw [decide_eq_decide]; omega]
/-- of the tests required for the first b, those that fail behind b and say v behind g (v = 3: whatever they say there) -/
def flB (M : gS) (T G V : Nat) (t : Int64) (F : List Nat) (g b v q : Nat) : Bool := tb (rqL M T G (F.take b)) q && (sVer M V q (treeL M t (F.take b)) == 2) && ((v == 3) || (sVer M V q (treeL M t (F.take g)) == v))
theorem or_z (x : Int32) : x ||| iN 0 = x := by
  apply Int32.toBitVec_inj.mp
  rw [Int32.toBitVec_or]
  show x.toBitVec ||| 0#32 = _
  simp
theorem sVer3 (M : gS) (V q : Nat) (t : Int64) : sVer M V q t < 4 := by
  unfold sVer
  split <;> omega
theorem L_failed {N : Nat} {σ M : gS} {n T G V g b v : Nat} {F : List Nat} {t : Int64} (hN : 100 ≤ N) (hM : lawOf σ = M) (h : LF M n T G V) (hd : dHas σ F) (hF : ∀ c ∈ F, c < n) (hb : b ≤ F.length) (hg : g ≤ F.length) (h0 : σ.1 181 0 = iN g) (h1 : σ.1 181 1 = iN b) (hv : v < 4) : fL_failed N σ t (iN v) = some (orT (flB M T G V t F g b v) T) := by
  have hreq := L_requiredOf hN hM h hd hF hb
  have hT := h.2.1.2
  rw [i_0] at hreq
  unfold fL_failed
  simp only [h1, i_0, i_1, i_2, i_3, i_4, i_5, i_6, i_7, i_8, i_9, i_10, i_11, i_12, i_14, i_15, i_16, i_24, i_30, i_31, i_32, i_48, i_60, i_64, i_80, i_99, i_100, i_m1, iN_of, iN_add, iN_mul, iN_sub, iN_01, iM_1, iN_div, iN_lt, iN_le, iN_eq, iN_cl, iM_lt, iM_gt, iM_le, iM_ge, iM_eq, iM_eq2, iN_64, jN_32]
  rw [hreq, Option.bind_some]
  refine lp_run (fun q => (orT (flB M T G V t F g b v) q, iN q)) T (fun q hq rec => ?_) (fun rec => ?_) N (by omega)
  · have hq32 : q < 32 := by omega
    have hs1 := sVer3 M V q (treeL M t (F.take b))
    have hs2 := sVer3 M V q (treeL M t (F.take g))
    have hbb := L_beginning (t := t) hN hM h.1.2.1 hd hF hb
    have hgg := L_beginning (t := t) hN hM h.1.2.1 hd hF hg
    by_cases c1 : tb (rqL M T G (F.take b)) q = true
    · by_cases c2 : sVer M V q (treeL M t (F.take b)) = 2
      · by_cases c3 : v = 3
        · have e : flB M T G V t F g b v q = true := by unfold flB; simp [c1, c2, c3]
          rw [orT_t e]
          simp (disch := omega) only [fL_failed_25, fL_failed_78, fL_failed_123, fL_failed_131, lw1 hM, h.2.1.1, tb_sh1 _ hq32, c1, c2, c3, h0, h1, hbb, hgg, L_ver hN hM h (show q < 4 by omega), Nat.reduceEqDiff, i_0, i_1, i_2, i_3, i_4, i_5, i_6, i_7, i_8, i_9, i_10, i_11, i_12, i_14, i_15, i_16, i_24, i_30, i_31, i_32, i_48, i_60, i_64, i_80, i_99, i_100, i_m1, iN_of, iN_add, iN_mul, iN_sub, iN_01, iM_1, iN_div, iN_lt, iN_le, iN_eq, iN_cl, iM_lt, iM_gt, iM_le, iM_ge, iM_eq, iM_eq2, iN_64, jN_32, if_pos, if_neg, if_true, if_false, true_or, or_true, false_or, or_false, not_true_eq_false, not_false_eq_true, Option.bind_some]
        · by_cases c4 : sVer M V q (treeL M t (F.take g)) = v
          · have e : flB M T G V t F g b v q = true := by unfold flB; simp [c1, c2, c4]
            rw [orT_t e]
            simp (disch := omega) only [fL_failed_25, fL_failed_78, fL_failed_123, fL_failed_131, lw1 hM, h.2.1.1, tb_sh1 _ hq32, c1, c2, c3, c4, h0, h1, hbb, hgg, L_ver hN hM h (show q < 4 by omega), Nat.reduceEqDiff, i_0, i_1, i_2, i_3, i_4, i_5, i_6, i_7, i_8, i_9, i_10, i_11, i_12, i_14, i_15, i_16, i_24, i_30, i_31, i_32, i_48, i_60, i_64, i_80, i_99, i_100, i_m1, iN_of, iN_add, iN_mul, iN_sub, iN_01, iM_1, iN_div, iN_lt, iN_le, iN_eq, iN_cl, iM_lt, iM_gt, iM_le, iM_ge, iM_eq, iM_eq2, iN_64, jN_32, if_pos, if_neg, if_true, if_false, true_or, or_true, false_or, or_false, not_true_eq_false, not_false_eq_true, Option.bind_some]
          · have e : flB M T G V t F g b v q = false := by unfold flB; simp [c1, c2, c3, c4]
            rw [orT_f e]
            simp (disch := omega) only [fL_failed_25, fL_failed_78, fL_failed_130, fL_failed_131, lw1 hM, h.2.1.1, tb_sh1 _ hq32, c1, c2, c3, c4, h0, h1, hbb, hgg, L_ver hN hM h (show q < 4 by omega), or_z, Nat.reduceEqDiff, i_0, i_1, i_2, i_3, i_4, i_5, i_6, i_7, i_8, i_9, i_10, i_11, i_12, i_14, i_15, i_16, i_24, i_30, i_31, i_32, i_48, i_60, i_64, i_80, i_99, i_100, i_m1, iN_of, iN_add, iN_mul, iN_sub, iN_01, iM_1, iN_div, iN_lt, iN_le, iN_eq, iN_cl, iM_lt, iM_gt, iM_le, iM_ge, iM_eq, iM_eq2, iN_64, jN_32, if_pos, if_neg, if_true, if_false, true_or, or_true, false_or, or_false, not_true_eq_false, not_false_eq_true, Option.bind_some]
      · have e : flB M T G V t F g b v q = false := by unfold flB; simp [c2]
        rw [orT_f e]
        simp (disch := omega) only [fL_failed_25, fL_failed_77, fL_failed_78, fL_failed_130, fL_failed_131, lw1 hM, h.2.1.1, tb_sh1 _ hq32, c1, c2, h0, h1, hbb, hgg, L_ver hN hM h (show q < 4 by omega), or_z, Nat.reduceEqDiff, i_0, i_1, i_2, i_3, i_4, i_5, i_6, i_7, i_8, i_9, i_10, i_11, i_12, i_14, i_15, i_16, i_24, i_30, i_31, i_32, i_48, i_60, i_64, i_80, i_99, i_100, i_m1, iN_of, iN_add, iN_mul, iN_sub, iN_01, iM_1, iN_div, iN_lt, iN_le, iN_eq, iN_cl, iM_lt, iM_gt, iM_le, iM_ge, iM_eq, iM_eq2, iN_64, jN_32, if_pos, if_neg, if_true, if_false, true_or, or_true, false_or, or_false, not_true_eq_false, not_false_eq_true, Option.bind_some]
    · have e : flB M T G V t F g b v q = false := by unfold flB; simp [c1]
      rw [orT_f e]
      simp (disch := omega) only [fL_failed_25, fL_failed_77, fL_failed_78, fL_failed_130, fL_failed_131, lw1 hM, h.2.1.1, tb_sh1 _ hq32, c1, or_z, Bool.false_eq_true, Nat.reduceEqDiff, i_0, i_1, i_2, i_3, i_4, i_5, i_6, i_7, i_8, i_9, i_10, i_11, i_12, i_14, i_15, i_16, i_24, i_30, i_31, i_32, i_48, i_60, i_64, i_80, i_99, i_100, i_m1, iN_of, iN_add, iN_mul, iN_sub, iN_01, iM_1, iN_div, iN_lt, iN_le, iN_eq, iN_cl, iM_lt, iM_gt, iM_le, iM_ge, iM_eq, iM_eq2, iN_64, jN_32, if_pos, if_neg, if_true, if_false, true_or, or_true, false_or, or_false, not_true_eq_false, not_false_eq_true, Option.bind_some]
  · simp (disch := omega) only [fL_failed_25, lw1 hM, h.2.1.1, i_0, i_1, i_2, i_3, i_4, i_5, i_6, i_7, i_8, i_9, i_10, i_11, i_12, i_14, i_15, i_16, i_24, i_30, i_31, i_32, i_48, i_60, i_64, i_80, i_99, i_100, i_m1, iN_of, iN_add, iN_mul, iN_sub, iN_01, iM_1, iN_div, iN_lt, iN_le, iN_eq, iN_cl, iM_lt, iM_gt, iM_le, iM_ge, iM_eq, iM_eq2, iN_64, jN_32, if_pos, if_neg, if_true, if_false, true_or, or_true, false_or, or_false, not_true_eq_false, not_false_eq_true, Option.bind_some]
