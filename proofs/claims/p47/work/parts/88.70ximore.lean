/-! one change more: what is fresh -/
theorem XI.more {σ σ' M M' : gS} {n T G : Nat} (x : XI σ M n T G) (hn : n < 20) (hT : T ≤ 4)
    (hI : ∀ k i, k < 161 → k ≠ 5 + n → ¬ (k = 1 ∧ (i = 3 ∨ i = 4)) → k ≠ 4 → ¬ (k = 109 ∧ (i = 2 ∨ i = 3)) → ¬ (k = 0 ∧ i = 18) → σ'.1 k i = σ.1 k i)
    (hJ : σ'.2.1 154 = σ.2.1 154)
    (mI : ∀ k y, ¬ (162 ≤ k ∧ k ≤ 168 ∧ y = n) → ¬ (k = 161 ∧ (y = 0 ∨ y = 7)) → M'.1 k y = M.1 k y)
    (h13 : σ'.1 1 3 = iN 0) (h7 : σ'.1 109 2 = M'.1 161 7) (hq : M'.1 164 n = iN 0 → σ'.1 (5 + n) 12 = iN 0) : XI σ' M' (n + 1) T G := by
  obtain ⟨⟨z1, z2, z3, z4⟩, ⟨y2, y2q⟩, y3, y4, y5, y6⟩ := x
  have cI : ∀ k i, k < 161 → k ≠ 5 + n → ¬ (k = 1 ∧ (i = 3 ∨ i = 4)) → k ≠ 4 → k ≠ 109 → k ≠ 0 → σ'.1 k i = σ.1 k i := fun k i e1 e2 e3 e4 e5 e6 => hI k i e1 e2 e3 e4 (by omega) (by omega)
  refine ⟨⟨h13, h7, (cI 72 1 (by omega) (by omega) (by omega) (by omega) (by omega) (by omega)).trans z3, (cI 74 1 (by omega) (by omega) (by omega) (by omega) (by omega) (by omega)).trans z4⟩, ⟨fun f hf => by rw [hJ]; exact y2 f hf, fun c hc e => ?_⟩, fun c h1 h2 => ?_, fun c h1 h2 => ?_, fun q h1 h2 => ?_, fun q h1 h2 => ?_⟩
  · by_cases ec : c = n
    · rw [ec] at e ⊢; exact hq e
    · rw [cI _ 12 (by omega) (by omega) (by omega) (by omega) (by omega) (by omega)]
      exact y2q c (by omega) (by rw [← mI 164 c (by omega) (by omega)]; exact e)
  · have := y3 c (by omega) h2
    have s' : ∀ i, σ'.1 (5 + c) i = σ.1 (5 + c) i := fun i => cI _ i (by omega) (by omega) (by omega) (by omega) (by omega) (by omega)
    rw [s', s', s', s', s', s', s']; exact this
  · rw [mI 164 c (by omega) (by omega), mI 165 c (by omega) (by omega), mI 166 c (by omega) (by omega)]; exact y4 c (by omega) h2
  · have := y5 q h1 h2
    have s' : ∀ i, σ'.1 (76 + 3 * q) i = σ.1 (76 + 3 * q) i := fun i => cI _ i (by omega) (by omega) (by omega) (by omega) (by omega) (by omega)
    rw [s', s', s', s', s', cI _ 1 (by omega) (by omega) (by omega) (by omega) (by omega) (by omega)]; exact this
  · rw [mI 172 _ (by omega) (by omega), mI 172 _ (by omega) (by omega), mI 172 _ (by omega) (by omega), mI 172 _ (by omega) (by omega)]; exact y6 q h1 h2
