/-! a tick on both sides: the full run -/
theorem J_full {N : Nat} {σ M : gS} {n T G V U h sz dp B : Nat} {ag : Nat → Nat} (hN : 5000 ≤ N) (d : DI σ M n T G V U h sz dp ag) (ti : TI σ M T V U B ag) (hsc : SC σ M) :
    ∃ (σ3 M3 : gS), fX11_endFullRun N σ = some σ3 ∧ (∀ s : gS, lawOf s = M → ∃ s', (∀ (xs : Nat → Int32) (Lx : Nat) (rec221 : (gS × Int32 × Int32) → Option Int32) (rec2429 : (gS × Int32) → Option Int32) (x21 x24 x28 x29 x30 : Int32), (if s.1 161 8 = 1 then lp (fL_law_2510 N xs Lx rec221 rec2429 x21 x24 (trT M h) x28 x29 x30) N (s, 0, 0, 0) else fL_law_2603 N xs Lx rec221 rec2429 s x21 x24 (trT M h) x28 x29 x30) = fL_law_2603 N xs Lx rec221 rec2429 s' x21 x24 (trT M h) x28 x29 x30) ∧ lawOf s' = M3 ∧ SmL s s') ∧ ((∀ k i, ¬ (k = 0 ∧ (i = 16 ∨ i = 17)) → σ3.1 k i = σ.1 k i) ∧ σ3.2 = σ.2) ∧ ((∀ k x, ¬ (k = 161 ∧ (x = 8 ∨ x = 9)) → M3.1 k x = M.1 k x) ∧ M3.2.1 = M.2.1) ∧ SC σ3 M3 ∧ (M3.1 161 8 = iN 0 ∨ opC M3 T V (trT M3 h) ≠ 0) := by
  have hs0 := hsc
  obtain ⟨s1, s2, s3, s4⟩ := hsc
  have hver := verS_of hN d.2.2.2.1.1.1 ti.1 ti.2.2.2.2.2.2.1 (fun q hq => (ti.2.2.2.1 q hq).1) (fun j hj => (ti.2.2.1.lt j hj).2)
  have hLF := d.1.1
  have ht := d.2.2.2.2.1
  rcases s2 with e | e
  · refine ⟨σ, M, X_full0 (s1.trans e), fun s hs => ⟨s, fun xs Lx rec221 rec2429 x21 x24 x28 x29 x30 => ?_, hs, SmL.refl s⟩, ⟨fun _ _ _ => rfl, rfl⟩, ⟨fun _ _ _ => rfl, rfl⟩, hs0, Or.inl e⟩
    rw [if_neg (show ¬ s.1 161 8 = (1 : Int32) by rw [lw1 hs (by omega), e]; decide)]
  · have xf := X_full (N := N) (by omega) hver ht (s1.trans e)
    have lf : ∀ s : gS, lawOf s = M → ∃ s', (∀ (xs : Nat → Int32) (Lx : Nat) (rec221 : (gS × Int32 × Int32) → Option Int32) (rec2429 : (gS × Int32) → Option Int32) (x21 x24 x28 x29 x30 : Int32), (if s.1 161 8 = 1 then lp (fL_law_2510 N xs Lx rec221 rec2429 x21 x24 (trT M h) x28 x29 x30) N (s, 0, 0, 0) else fL_law_2603 N xs Lx rec221 rec2429 s x21 x24 (trT M h) x28 x29 x30) = fL_law_2603 N xs Lx rec221 rec2429 s' x21 x24 (trT M h) x28 x29 x30) ∧ lawOf s' = (if opC M T V (trT M h) = 0 then sI (sI M 161 8 (iN 0)) 161 9 (iN (faC M T V (trT M h))) else M) ∧ SmL s s' := fun s hs => by
      refine ⟨fuS s M T V (trT M h), fun xs Lx rec221 rec2429 x21 x24 x28 x29 x30 => ?_, (L_full (N := N) (xs := fun _ => 0) (Lx := 0) (rec221 := fun _ => none) (rec2429 := fun _ => none) (x21 := 0) (x24 := 0) (x28 := 0) (x29 := 0) (x30 := 0) (by omega) hs hLF e).2⟩
      rw [if_pos (show s.1 161 8 = (1 : Int32) by rw [lw1 hs (by omega), e]; rfl)]
      exact (L_full (by omega) hs hLF e).1
    by_cases c : opC M T V (trT M h) = 0
    · rw [if_pos c] at xf
      refine ⟨_, sI (sI M 161 8 (iN 0)) 161 9 (iN (faC M T V (trT M h))), xf, fun s hs => ?_, ⟨fun k i hk => by rw [sI_1, if_neg (by omega), sI_1, if_neg (by omega)], rfl⟩, ⟨fun k i hk => by rw [sI_1, if_neg (by omega), sI_1, if_neg (by omega)], rfl⟩, ⟨?_, ?_, ?_, ?_⟩, Or.inl ?_⟩
      · obtain ⟨s', v1, v2, v3⟩ := lf s hs
        rw [if_pos c] at v2
        exact ⟨s', v1, v2, v3⟩
      · simp [sI_1]
      · simp [sI_1]
      · simp [sI_1]
      · simp only [sI_1]; simpa using s4
      · simp [sI_1]
    · rw [if_neg c] at xf
      refine ⟨σ, M, xf, fun s hs => ?_, ⟨fun _ _ _ => rfl, rfl⟩, ⟨fun _ _ _ => rfl, rfl⟩, hs0, Or.inr c⟩
      obtain ⟨s', v1, v2, v3⟩ := lf s hs
      rw [if_neg c] at v2
      exact ⟨s', v1, v2, v3⟩
