/-! the machines' ticks, all of them -/
def QM (M M' : gS) : Prop := M'.2.1 = M.2.1 ∧ ∀ k x, ¬ (k = 176 ∧ x - x / 6 * 6 = 1) → M'.1 k x = M.1 k x
theorem QM.trans {M M1 M2 : gS} (h1 : QM M M1) (h2 : QM M1 M2) : QM M M2 := ⟨h2.1.trans h1.1, fun k x h => (h2.2 k x h).trans (h1.2 k x h)⟩
theorem J_tells {N : Nat} {σ M : gS} {T V U B : Nat} {ag : Nat → Nat} (hN : 5000 ≤ N) (h : TI σ M T V U B ag) (hV : V < 62) (hU : U < 1000) (hB : B < 990) (hag : ∀ q, q < T → ag q < 1000) :
    ∃ (σ' M' : gS) (V' U' : Nat), (∀ s : gS, lawOf s = M → ∃ s', fL_tells N s = some s' ∧ lawOf s' = M' ∧ SmL s s') ∧ lp (fX11_passTick_12 N) N (σ, 0) = (if σ'.1 0 18 = 0 then lp (fX11_passTick_52 N) N (σ', 0) else some σ') ∧ TI σ' M' T V' U' (B + 3) ag ∧ V ≤ V' ∧ V' ≤ V + 3 ∧ U' ≤ U + 3 ∧ FrC T σ σ' ∧ FrM T M M' ∧ (σ'.1 0 18 = iN 0 ∨ (σ'.1 0 18 = σ.1 0 18 ∧ QM M M')) := by
  obtain ⟨k, rfl⟩ : ∃ k, N = k + 7 := ⟨N - 7, by omega⟩
  obtain ⟨σ1, M1, V1, U1, a1, a2, a3, a4, a5, a6, a7, a8, a9⟩ := J_tell1 (j := 0) hN (by omega) h (by omega) (by omega) (by omega) hag
  obtain ⟨σ2, M2, V2, U2, b1, b2, b3, b4, b5, b6, b7, b8, b9⟩ := J_tell1 (j := 1) hN (by omega) a3 (by omega) (by omega) (by omega) hag
  obtain ⟨σ3, M3, V3, U3, c1, c2, c3, c4, c5, c6, c7, c8, c9⟩ := J_tell1 (j := 2) hN (by omega) b3 (by omega) (by omega) (by omega) hag
  obtain ⟨-, -, -, -, -, -, -, hoth⟩ := id c3
  refine ⟨σ3, M3, V3, U3, fun s hs => ?_, ?_, c3, by omega, by omega, by omega, a7.trans (b7.trans c7), a8.trans (b8.trans c8), ?_⟩
  · obtain ⟨s1, p1, p2, p3⟩ := a1 s (lp (fL_tells_3 (k + 7)) (k + 6)) hs
    obtain ⟨s2, q1, q2, q3⟩ := b1 s1 (lp (fL_tells_3 (k + 7)) (k + 5)) p2
    obtain ⟨s3, r1, r2, r3⟩ := c1 s2 (lp (fL_tells_3 (k + 7)) (k + 4)) q2
    refine ⟨s3, ?_, r2, p3.trans (q3.trans r3)⟩
    unfold fL_tells
    rw [i_0, lp_1, p1, lp_1, q1, lp_1, r1, lp_1]
    unfold fL_tells_3
    dsimp only
    rw [if_pos (show (3 : Int32) ≤ iN (2 + 1) by decide)]
  · have d3 := X_p12i (N := k + 7) (rec := lp (fX11_passTick_12 (k + 7)) (k + 3)) (σ := σ3) (j := 3) (by omega) (hoth 3 (by omega) (by omega)).2
    have d4 := X_p12i (N := k + 7) (rec := lp (fX11_passTick_12 (k + 7)) (k + 2)) (σ := σ3) (j := 4) (by omega) (hoth 4 (by omega) (by omega)).2
    have d5 := X_p12i (N := k + 7) (rec := lp (fX11_passTick_12 (k + 7)) (k + 1)) (σ := σ3) (j := 5) (by omega) (hoth 5 (by omega) (by omega)).2
    rw [i_0, lp_1, a2, lp_1, b2, lp_1, c2, lp_1, d3, lp_1, d4, lp_1, d5, lp_1]
    generalize hR : lp (fX11_passTick_52 (k + 7)) (k + 7) = R
    unfold fX11_passTick_12
    dsimp only
    rw [if_pos (show (6 : Int32) ≤ iN (5 + 1) by decide), hR]
    rfl
  · have st : ∀ {x y z : gS} {A B : Prop}, (y.1 0 18 = iN 0 ∨ (y.1 0 18 = x.1 0 18 ∧ A)) → (z.1 0 18 = iN 0 ∨ (z.1 0 18 = y.1 0 18 ∧ B)) → (z.1 0 18 = iN 0 ∨ (z.1 0 18 = x.1 0 18 ∧ A ∧ B)) := fun h1 h2 => by
      rcases h2 with e | ⟨e, hb⟩
      · exact Or.inl e
      · rcases h1 with e1 | ⟨e1, ha⟩
        · exact Or.inl (e.trans e1)
        · exact Or.inr ⟨e.trans e1, ha, hb⟩
    rcases st (st a9 b9) c9 with e | ⟨e, ⟨hA, hB'⟩, hC⟩
    · exact Or.inl e
    · exact Or.inr ⟨e, (QM.trans hA hB').trans hC⟩
