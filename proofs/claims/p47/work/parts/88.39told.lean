/-! a tick on both sides: what is told -/
theorem FrC.i {T : Nat} {σ σ' : gS} (h : FrC T σ σ') (k i : Nat) (h1 : ¬ (106 ≤ k ∧ k < 109)) (h2 : ¬ (144 ≤ k ∧ k < 147)) (h3 : k < 161) (h4 : ¬ (k = 0 ∧ i = 18)) (h5 : ¬ (76 ≤ k ∧ k < 76 + 3 * T ∧ (i = 8 ∨ i = 9))) : σ'.1 k i = σ.1 k i := h.1 k i h1 h2 (by omega) h4 h5
theorem GI.told {N : Nat} {σ M : gS} {n T G V U h sz dp B : Nat} {ag : Nat → Nat} (hN : 5000 ≤ N) (g : GI σ M n T G V U h sz dp B ag) (hx : XI σ M n T G) (hV : V < 62) (hU : U < 1000) (hB : B < 900) :
    ∃ (σ1 M1 : gS) (V1 U1 : Nat), (∀ s : gS, lawOf s = M → ∃ s', fL_tells N (sI s 161 10 (s.1 161 10 + 1)) = some s' ∧ lawOf s' = M1 ∧ SmL s s') ∧ fX11_passTick N σ = (if σ1.1 0 18 = 0 then lp (fX11_passTick_52 N) N (σ1, 0) else some σ1) ∧ (DI σ1 M1 n T G V1 U1 h sz dp ag ∧ TI σ1 M1 T V1 U1 (B + 3) ag) ∧ (V1 ≤ V + 3 ∧ U1 ≤ U + 3) ∧ (DG M1 n h ∧ UO σ1 M1 (3 * B) ∧ SC σ1 M1 ∧ XI σ1 M1 n T G) ∧ ST σ1 M1 n T G V1 h sz dp ∧ lawOf σ1 = lawOf σ := by
  obtain ⟨d0, t0⟩ := g.clk
  obtain ⟨d, ti, hdg, ⟨u1, u2, u3⟩, ⟨s1, s2, s3, s4⟩, hst, hag⟩ := g
  obtain ⟨σ1, M1, V1, U1, a1, a2, a3, a4, a5, a6, a7, a8, a9⟩ := J_tells hN t0 hV hU (by omega) hag
  have hLD := d.1
  have hT := ti.1
  have m8 : ∀ k x, ¬ (k = 161 ∧ (x = 4 ∨ x = 10)) → k ≠ 172 → k ≠ 175 → k ≠ 176 → M1.1 k x = M.1 k x := fun k x e1 e2 e3 e4 => by
    rw [a8.1 k x (by omega) e2 e3 e4, sI_1, if_neg (by omega)]
  have m172 : ∀ x, ¬ (x < 12 * T ∧ (x - x / 12 * 12 = 5 ∨ x - x / 12 * 12 = 6)) → M1.1 172 x = M.1 172 x := fun x e => by
    rw [a8.2.1 x e, sI_1, if_neg (by omega)]
  have mJ : ∀ k, k ≠ 174 → M1.2.1 k = M.2.1 k := fun k e => a8.2.2.2 k e
  have mI : ∀ k x, ((162 ≤ k ∧ k ≤ 168) ∨ k = 173 ∨ (k = 178 ∧ 6 ≤ x) ∨ (k = 161 ∧ (x < 4 ∨ x = 5 ∨ x = 6)) ∨ (k = 172 ∧ x - x / 12 * 12 = 0)) → M1.1 k x = M.1 k x := fun k x hk => by
    by_cases e : k = 172
    · subst e; exact m172 x (by omega)
    · exact m8 k x (by omega) e (by omega) (by omega)
  have hI : ∀ k i, ¬ (106 ≤ k ∧ k < 109) → ¬ (144 ≤ k ∧ k < 147) → k < 161 → ¬ (k = 0 ∧ (i = 18 ∨ i = 14)) → ¬ (76 ≤ k ∧ k < 76 + 3 * T ∧ (i = 8 ∨ i = 9)) → σ1.1 k i = σ.1 k i := fun k i e1 e2 e3 e4 e5 => by
    rw [a7.i k i e1 e2 e3 (by omega) e5, sI_1, if_neg (by omega)]
  have hJ : ∀ k, k ≠ 107 → k ≠ 182 → σ1.2.1 k = σ.2.1 k := fun k e1 e2 => a7.2 k e1 e2
  have hV64 : M1.1 161 4 = iN V1 ∧ V1 ≤ 64 ∧ ∀ j, j < V1 → M1.1 175 j = iN (vN M1 175 j) ∧ vN M1 175 j < 100000 := ⟨a3.2.1, by omega, a3.2.2.1.lt⟩
  refine ⟨σ1, M1, V1, U1, fun s hs => ?_, ?_, ⟨?_, a3⟩, ⟨a5, a6⟩, ⟨hdg.same' (fun k hk => mJ k (by omega)) (funext (fun x => m8 168 x (by omega) (by omega) (by omega) (by omega))), ⟨⟨fun a ha => ?_, fun a ha => ?_⟩, fun a ha => ?_, fun j hj => ?_⟩, ⟨?_, ?_, ?_, ?_⟩, hx.move d.1.1.1.2.1 (fun k i hk => ?_) (hJ 154 (by omega) (by omega)) (fun k x hk => ?_)⟩, ?_, lawOf_ext (fun k h1 h2 => ⟨?_, hJ k (by omega) (by omega)⟩)⟩
  · obtain ⟨s', v1, v2, v3⟩ := a1 (sI s 161 10 (s.1 161 10 + 1)) (by rw [lawOf_in (by omega), hs, lw1 hs (by omega)])
    exact ⟨s', v1, v2, (SmL.sI (by omega)).trans v3⟩
  · unfold fX11_passTick; exact a2
  · refine d.move (fun k i hk => ?_) (fun k hk => hJ k (by omega) (by omega)) mI (fun k hk => mJ k (by omega)) hV64 a3.2.2.2.2.2.2.1 (fun q hq => (a3.2.2.2.1 q hq).1) (d.2.2.2.2.2.2.2.1.move hLD.1.1.2.1 hLD.1.1.2.2 (hI _ _ (by omega) (by omega) (by omega) (by omega) (by omega)) (fun k i hk => hI k i (by omega) (by omega) (by omega) (by omega) (by omega)) (fun k hk => hJ k (by omega) (by omega)) (d.cg mI (fun k hk => mJ k (by omega))) (by unfold trT; rw [mJ 171 (by omega)]))
    exact hI k i (by omega) (by omega) (by omega) (by omega) (by omega)
  · have := u1.1 a ha
    unfold vN at this ⊢
    rw [m8 178 a (by omega) (by omega) (by omega) (by omega)]; exact this
  · have := u1.2 a ha
    unfold vN at this ⊢
    rw [m8 178 (3 + a) (by omega) (by omega) (by omega) (by omega)]; exact this
  · have := u2 a ha
    unfold vN at this ⊢
    rw [hJ 158 (by omega) (by omega), hJ 156 (by omega) (by omega), m8 178 a (by omega) (by omega) (by omega) (by omega), m8 178 (3 + a) (by omega) (by omega) (by omega) (by omega)]; exact this
  · rw [a8.2.2.1 (6 * j + 2) (by omega) (by omega), sI_1, if_neg (by omega)]; exact u3 j hj
  · rw [hI 0 17 (by omega) (by omega) (by omega) (by omega) (by omega), m8 161 8 (by omega) (by omega) (by omega) (by omega)]; exact s1
  · rw [m8 161 8 (by omega) (by omega) (by omega) (by omega)]; exact s2
  · rw [hI 0 16 (by omega) (by omega) (by omega) (by omega) (by omega), m8 161 9 (by omega) (by omega) (by omega) (by omega)]; exact s3
  · rw [a7.i 0 14 (by omega) (by omega) (by omega) (by omega) (by omega), a8.1 161 10 (by omega) (by omega) (by omega) (by omega), sI_1, sI_1, if_pos ⟨rfl, rfl⟩, if_pos ⟨rfl, rfl⟩, s4]
  · exact hI k i (by omega) (by omega) (by omega) (by omega) (by omega)
  · by_cases e : k = 172
    · subst e; exact m172 x (by omega)
    · exact m8 k x (by omega) e (by omega) (by omega)
  · rcases a9 with e | ⟨e, q1, q2⟩
    · exact Or.inl e
    · have e18 : σ1.1 0 18 = σ.1 0 18 := by rw [e, sI_1, if_neg (by omega)]
      rcases hst with hst | ⟨hst, hset⟩
      · exact Or.inl (e18.trans hst)
      · have hq : Qs M M1 := ⟨fun k x h1 h2 => by rw [q2 k x h1, sI_1, if_neg (by omega)], q1⟩
        have eV : V1 = V := by
          have h1 := a3.2.1
          rw [q2 161 4 (by omega), sI_1, if_neg (by omega), ti.2.1] at h1
          exact ((iN_eq (by omega) (by omega)).mp h1).symm
        rw [eV]
        exact Or.inr ⟨e18.trans hst, hset.qs hq hT hLD (m8 161 8 (by omega) (by omega) (by omega) (by omega))⟩
  · funext i
    rw [a7.1 k i (by omega) (by omega) (by omega) (by omega) (by omega), sI_1, if_neg (by omega)]
