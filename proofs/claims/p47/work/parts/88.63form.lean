/-! the class forms its batches: the whole relation stays -/
theorem XI.enq {σ M : gS} {n T G d : Nat} {pc pl : Int32} (x : XI σ M n T G) (hn : n ≤ 20) (hT : T ≤ 4) (hd : d < n) : XI (eqC σ d pc) (eqM M d pl) n T G := by
  obtain ⟨⟨z1, z2, z3, z4⟩, ⟨y2, y2q⟩, y3, y4, y5, y6⟩ := x
  have cv := eqC_v (σ := σ) (pc := pc) (show d < 60 by omega)
  have mv := eqM_v (M := M) (d := d) (pl := pl)
  have cI : ∀ k i, ¬ (k = 5 + d ∧ (i = 3 ∨ i = 10 ∨ i = 11)) → ¬ (k = 109 ∧ (i = 2 ∨ i = 3)) → ¬ (k = 0 ∧ i = 18) → (eqC σ d pc).1 k i = σ.1 k i := fun k i => eqC_I k i
  have mI : ∀ k x, ¬ (164 ≤ k ∧ k ≤ 166 ∧ x = d) → ¬ (k = 161 ∧ x = 7) → (eqM M d pl).1 k x = M.1 k x := fun k x => eqM_I k x
  refine ⟨⟨(cI 1 3 (by omega) (by omega) (by omega)).trans z1, by rw [cv.2.2.2.1, mv.2.2.2, z2], (cI 72 1 (by omega) (by omega) (by omega)).trans z3, (cI 74 1 (by omega) (by omega) (by omega)).trans z4⟩, ⟨y2, fun c hc e => ?_⟩, fun c h1 h2 => ?_, fun c h1 h2 => ?_, fun q h1 h2 => ?_, fun q h1 h2 => ?_⟩
  · by_cases ed : c = d
    · rw [ed, mv.1] at e; exact absurd e (by decide)
    · rw [cI _ 12 (by omega) (by omega) (by omega)]
      exact y2q c hc (by rw [← mI 164 c (by omega) (by omega)]; exact e)
  · have := y3 c h1 h2
    rw [cI _ 0 (by omega) (by omega) (by omega), cI _ 3 (by omega) (by omega) (by omega), cI _ 4 (by omega) (by omega) (by omega), cI _ 10 (by omega) (by omega) (by omega), cI _ 11 (by omega) (by omega) (by omega), cI _ 12 (by omega) (by omega) (by omega), cI _ 2 (by omega) (by omega) (by omega)]; exact this
  · rw [mI 164 c (by omega) (by omega), mI 165 c (by omega) (by omega), mI 166 c (by omega) (by omega)]; exact y4 c h1 h2
  · have := y5 q h1 h2
    rw [cI _ 0 (by omega) (by omega) (by omega), cI _ 6 (by omega) (by omega) (by omega), cI _ 7 (by omega) (by omega) (by omega), cI _ 8 (by omega) (by omega) (by omega), cI _ 9 (by omega) (by omega) (by omega), cI _ 1 (by omega) (by omega) (by omega)]; exact this
  · rw [mI 172 _ (by omega) (by omega), mI 172 _ (by omega) (by omega), mI 172 _ (by omega) (by omega), mI 172 _ (by omega) (by omega)]; exact y6 q h1 h2
theorem GI.form {N : Nat} {σ M : gS} {n T G V U h sz dp B : Nat} {ag : Nat → Nat} (hN : 100 ≤ N) (g : GI σ M n T G V U h sz dp B ag) (x : XI σ M n T G) : ∃ σ', fX11_formBatches N σ = some σ' ∧ SmF σ σ' ∧ σ'.1 109 3 = iN 1 ∧ Fm σ' M n T G sz dp (trT M h) ∧ GI σ' M n T G V U h sz dp B ag ∧ XI σ' M n T G ∧ lawOf σ' = lawOf σ := by
  obtain ⟨σ', w1, w2, w3, w4, w5⟩ := C_form hN g.1
  have f := FrD.smF (n := n) w2
  have hn := g.1.1.1.1.2.1
  have hT := g.2.1.1
  have cI : ∀ k i, ¬ (5 ≤ k ∧ k < 65 ∧ i = 13) → ¬ (109 ≤ k ∧ k < 125) → σ'.1 k i = σ.1 k i := fun k i e1 e2 => w2.2.1 k i (by omega) (by omega)
  have cJ : ∀ k, ¬ (109 ≤ k ∧ k < 125) → σ'.2.1 k = σ.2.1 k := fun k e1 => w2.2.2.1 k (by omega)
  refine ⟨σ', w1, w2, w3, w4, ⟨w5, g.2.1.same (Nat.le_refl B) (fun k hk => funext (fun i => cI k i (by omega) (by omega))) (fun k hk => cJ k (by omega)) w2.1 rfl (fun _ _ => rfl) (fun _ _ => rfl), g.2.2.1, g.2.2.2.1.same (fun k hk => cJ k (by omega)) (fun _ _ => rfl) (fun _ _ => rfl), g.2.2.2.2.1.same (fun i hi => cI 0 i (by omega) (by omega)) (fun _ _ => rfl), ?_, g.2.2.2.2.2.2⟩, x.move hn (fun k i hk => ?_) (cJ 154 (by omega)) (fun _ _ _ => rfl), lawOf_ext (fun k h1 h2 => ⟨funext (fun i => cI k i (by omega) (by omega)), cJ k (by omega)⟩)⟩
  · have st := g.2.2.2.2.2.1
    unfold ST at st ⊢
    rw [cI 0 18 (by omega) (by omega)]; exact st
  · by_cases e : k = 109
    · subst e; exact w2.2.2.2 i (by omega)
    · exact cI k i (by omega) (by omega)
