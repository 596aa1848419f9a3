/-! a tick on both sides: deciding, the full run, taking -/
theorem FrU.cg {M M' : gS} {n T G V : Nat} (h : FrU M M') : Cg M M' n T G V := ⟨fun c _ => ⟨⟨h.1 162 c (by omega) (by omega), h.1 163 c (by omega) (by omega), h.1 164 c (by omega) (by omega), h.1 165 c (by omega) (by omega), h.1 166 c (by omega) (by omega), h.1 168 c (by omega) (by omega)⟩, by rw [h.2 169 (by omega)], by rw [h.2 170 (by omega)]⟩, fun q _ => h.1 172 _ (by omega) (by omega), fun k _ => h.1 173 k (by omega) (by omega), fun j _ => ⟨by rw [h.2 174 (by omega)], h.1 175 j (by omega) (by omega)⟩, fun a _ => h.1 178 _ (by omega) (by omega)⟩
theorem cg_op {M M' : gS} {n T G V : Nat} (h : Cg M M' n T G V) (t : Int64) : opC M' T V t = opC M T V t := by
  unfold opC
  exact sCnt_congr T (fun q hq => by rw [cg_ver h hq])
theorem J_acts {N : Nat} {σ M : gS} {n T G V U h sz dp B Bu : Nat} {ag : Nat → Nat} (hN : 5000 ≤ N) (d : DI σ M n T G V U h sz dp ag) (ti : TI σ M T V U B ag) (hdg : DG M n h) (hu : UO σ M Bu) (hB : Bu < 8000) (hsc : SC σ M) (hx : XI σ M n T G) (hag : ∀ q, q < T → ag q < 1000) :
    ∃ (σ' M' : gS) (h' : Nat), (∀ s : gS, lawOf s = M → ∃ s', (∀ (xs : Nat → Int32) (Lx : Nat) (rec221 : (gS × Int32 × Int32) → Option Int32) (rec2429 : (gS × Int32) → Option Int32) (x21 x24 x28 x29 x30 : Int32), ((fL_decides N s).bind fun r_4 => if (r_4.2.1 161 8) = 1 then (lp (fL_law_2510 N xs Lx rec221 rec2429 x21 x24 r_4.1 x28 x29 x30) N (r_4.2, 0, 0, 0)) else (fL_law_2603 N xs Lx rec221 rec2429 r_4.2 x21 x24 r_4.1 x28 x29 x30)) = rec2429 (s', x30 + 1)) ∧ lawOf s' = M' ∧ SmL s s') ∧ lp (fX11_passTick_52 N) N (σ, 0) = some σ' ∧ (DI σ' M' n T G V U h' sz dp ag ∧ TI σ' M' T V U B ag) ∧ (DG M' n h' ∧ UO σ' M' (Bu + 9) ∧ SC σ' M' ∧ XI σ' M' n T G) ∧ (σ'.1 0 18 = iN 1 ∧ Settled M' n T G V h' sz dp) ∧ lawOf σ' = lawOf σ := by
  obtain ⟨⟨u1, u2⟩, u3, u4⟩ := hu
  obtain ⟨s1, s2, s3, s4⟩ := hsc
  obtain ⟨σ2, M2, h2, k1, k2, k3, k4, k5, k6, k7, k8, k9⟩ := J_decides hN d
  have cI : ∀ k i, ¬ (5 ≤ k ∧ k < 65 ∧ (((i = 3 ∨ i = 4) ∧ k < 5 + n) ∨ i = 13)) → ¬ (109 ≤ k ∧ k < 125) → ¬ (k = 0 ∧ (i = 15 ∨ i = 18)) → ¬ (k = 151 ∧ i = 1) → σ2.1 k i = σ.1 k i := k5.1
  have cJ : ∀ k, ¬ (109 ≤ k ∧ k < 125) → k ≠ 152 → k ≠ 160 → σ2.2.1 k = σ.2.1 k := k5.2.2.1
  have T2 : TI σ2 M2 T V U B ag := ti.same (Nat.le_refl _) (fun k hk => funext (fun i => cI k i (by omega) (by omega) (by omega) (by omega))) (fun k hk => cJ k (by omega) (by omega) (by omega)) k5.2.2.2 (k6.1 161 4 (by omega) (by omega) (by omega) (by omega)) (fun k hk => funext (fun i => k6.1 k i (by omega) (by omega) (by omega) (by omega))) (fun k hk => k6.2.1 k (by omega))
  have SC2 : SC σ2 M2 := by
    refine ⟨?_, ?_, ?_, ?_⟩
    · rw [cI 0 17 (by omega) (by omega) (by omega) (by omega), k6.1 161 8 (by omega) (by omega) (by omega) (by omega)]; exact s1
    · rw [k6.1 161 8 (by omega) (by omega) (by omega) (by omega)]; exact s2
    · rw [cI 0 16 (by omega) (by omega) (by omega) (by omega), k6.1 161 9 (by omega) (by omega) (by omega) (by omega)]; exact s3
    · rw [cI 0 14 (by omega) (by omega) (by omega) (by omega), k6.1 161 10 (by omega) (by omega) (by omega) (by omega)]; exact s4
  have hn := k2.1.1.1.2.1
  have hpo := k2.1.1.1.2.2
  have hT := ti.1
  obtain ⟨σ3, M3, f1, f2, ⟨f3, f3J⟩, ⟨f4, f4J⟩, f5, f6⟩ := J_full hN k2 T2 SC2
  have Q3 : Qs M2 M3 := ⟨fun k x _ e => f4 k x (by omega), f4J⟩
  have FO3 : FO σ3 M3 n T G sz dp h2 := FO.move (show FO σ2 M2 n T G sz dp h2 from Or.inr ⟨k3, k4⟩) hn hpo (f3 109 3 (by omega)) (fun k i hk => f3 k i (by omega)) (fun k _ => by rw [f3J]) Q3.cg (qs_tr Q3 h2)
  have T3 : TI σ3 M3 T V U B ag := T2.same (Nat.le_refl _) (fun k hk => funext (fun i => f3 k i (by omega))) (fun k _ => by rw [f3J]) (by rw [f3J]) (f4 161 4 (by omega)) (fun k hk => funext (fun i => f4 k i (by omega))) (fun k _ => by rw [f4J])
  have D3 : DI σ3 M3 n T G V U h2 sz dp ag := k2.move (fun k i hk => f3 k i (by omega)) (fun k _ => by rw [f3J]) (fun k x hk => f4 k x (by omega)) (fun k _ => by rw [f4J]) ⟨T3.2.1, k2.1.1.2.2.2.2.1.2.1, T3.2.2.1.lt⟩ T3.2.2.2.2.2.2.1 (fun q hq => (T3.2.2.2.1 q hq).1) FO3
  have h93 : σ3.1 109 3 = iN 1 := (f3 109 3 (by omega)).trans k3
  have hFm : Fm σ3 M3 n T G sz dp (trT M3 h2) := by
    rcases FO3 with e | ⟨_, e⟩
    · rw [h93] at e; exact absurd e (by decide)
    · exact e
  have m3 : ∀ k x, ¬ (k = 164 ∧ x < n) → ¬ (k = 167 ∧ x < n) → ¬ (k = 161 ∧ (x = 1 ∨ x = 8 ∨ x = 9)) → ¬ (k = 178 ∧ 6 ≤ x) → M3.1 k x = M.1 k x := fun k x e1 e2 e3 e4 => by
    rw [f4 k x (by omega), k6.1 k x e1 e2 (by omega) e4]
  obtain ⟨σa, σ4, M4, cd, O, v1, v2, v3, v4, v5, v6, ⟨v7, v7b⟩, v8, v9, v10, v11⟩ := J_takes hN D3 h93 hFm (WC.of D3 T3 hag) f5.1 f5.2.1 T3.2.2.2.2.2.1 (Bu := Bu) (fun a ha => by
      have := u1 a ha
      unfold vN at this ⊢
      rw [m3 178 a (by omega) (by omega) (by omega) (by omega)]; exact this) (fun a ha => by
      have := u2 a ha
      unfold vN at this ⊢
      rw [m3 178 (3 + a) (by omega) (by omega) (by omega) (by omega)]; exact this) (fun j hj => by
      rw [m3 176 _ (by omega) (by omega) (by omega) (by omega)]; exact u4 j hj) (fun a ha => by
      have := u3 a ha
      unfold vN at this ⊢
      rw [f3J, cJ 158 (by omega) (by omega) (by omega), cJ 156 (by omega) (by omega) (by omega), m3 178 a (by omega) (by omega) (by omega) (by omega), m3 178 (3 + a) (by omega) (by omega) (by omega) (by omega)]; exact this) T3.tm (fun j w1 w2 => (T3.2.2.2.2.2.2.2 j w1 w2).1) hB
  have gI : ∀ k i, ¬ (118 ≤ k ∧ k < 134) → ¬ (144 ≤ k ∧ k < 147) → ¬ (k = 0 ∧ i = 18) → (sI σ4 0 18 1).1 k i = σ3.1 k i := fun k i e1 e2 e3 => by
    rw [sI_1, if_neg e3, v4.1 k e2, (v3.1 k (by omega)).1]
  have gJ : ∀ k, ¬ (118 ≤ k ∧ k < 134) → ¬ (144 ≤ k ∧ k < 147) → k ≠ 158 → (sI σ4 0 18 1).2.1 k = σ3.2.1 k := fun k e1 e2 e3 => by
    rw [sI_2, v4.2.1 k e2 (by omega) e3, (v3.1 k (by omega)).2]
  have m4 : ∀ k x, k ≠ 176 → ¬ (k = 178 ∧ x < 3) → M4.1 k x = M3.1 k x := v5.1
  have m4J : ∀ k, k ≠ 177 → M4.2.1 k = M3.2.1 k := v5.2
  have C4 : ∀ V, Cg M3 M4 n T G V := fun V => v5.cg
  have hl4 : (sI σ4 0 18 1).2.2 = σ4.2.2 := rfl
  have ne0 : ∀ k, k ≠ 0 → (sI σ4 0 18 1).1 k = σ4.1 k := fun k hk => gU_ne _ _ _ hk
  obtain ⟨w1, ⟨w2, w2b⟩, w3, w4, w5⟩ := v11
  have e172 : M4.1 172 = M3.1 172 := funext (fun x => m4 172 x (by omega) (by omega))
  have e175 : M4.1 175 = M3.1 175 := funext (fun x => m4 175 x (by omega) (by omega))
  have rv : RCv (sI σ4 0 18 1) M4 T V U ag := w2.places hl4 (ne0 _ (by omega)) rfl (ne0 _ (by omega))
  have ck : ∀ q, q < T → CK (sI σ4 0 18 1) M4 V B ag q := fun q hq => (T3.2.2.2.1 q hq).fr (funext (fun i => gI _ i (by omega) (by omega) (by omega))) (gI _ _ (by omega) (by omega) (by omega)) (gJ _ (by omega) (by omega) (by omega)) (gJ _ (by omega) (by omega) (by omega)) (fun x _ _ => by rw [e172]) (sumR_congr V (fun i _ => ⟨by rw [m4J 174 (by omega)], by rw [e175]⟩)) (Nat.le_refl _)
  have en : EN M4 T V := fun i hi => by
    obtain ⟨x1, x2, q, t, x3, x4⟩ := T3.2.2.1 i hi
    refine ⟨?_, ?_, q, t, x3, ?_⟩
    · unfold vN at x1 ⊢; rw [e175]; exact x1
    · unfold vN at x2 ⊢; rw [e175]; exact x2
    · rw [m4J 174 (by omega), gKey_same (M := M3) (M' := M4) (by rw [e172])]; exact x4
  have T4 : TI (sI σ4 0 18 1) M4 T V U B ag := ⟨hT, (m4 161 4 (by omega) (by omega)).trans T3.2.1, en, ck, fun j hj => (w4 j hj).fr (ne0 _ (by omega)) rfl (fun _ _ _ => rfl) rfl (fun _ _ => rfl) (fun _ _ _ _ hz => hz), v7b, rv, fun j z1 z2 => by
    have := T3.2.2.2.2.2.2.2 j z1 z2
    rw [gI _ _ (by omega) (by omega) (by omega), gI _ _ (by omega) (by omega) (by omega)]; exact this⟩
  have FO4 : FO (sI σ4 0 18 1) M4 n T G sz dp h2 := FO3.move hn D3.1.1.1.2.2 (gI 109 3 (by omega) (by omega) (by omega)) (fun k i hk => gI k i (by omega) (by omega) (by omega)) (fun k hk => gJ k (by omega) (by omega) (by omega)) (C4 0) (tr_fr v5)
  have D4 : DI (sI σ4 0 18 1) M4 n T G V U h2 sz dp ag := D3.move (fun k i hk => gI k i (by omega) (by omega) (by omega)) (fun k hk => gJ k (by omega) (by omega) (by omega)) (fun k x hk => m4 k x (by omega) (by omega)) (fun k hk => m4J k (by omega)) ⟨T4.2.1, D3.1.1.2.2.2.2.1.2.1, en.lt⟩ rv (fun q hq => (ck q hq).1) FO4
  have e8 : M4.1 161 8 = M3.1 161 8 := m4 161 8 (by omega) (by omega)
  refine ⟨sI σ4 0 18 1, M4, h2, fun s hs => ?_, ?_, ⟨D4, T4⟩, ⟨((k7 hdg).same' (fun k _ => by rw [f4J]) (funext (fun x => f4 168 x (by omega)))).same' (fun k hk => m4J k (by omega)) (funext (fun x => m4 168 x (by omega) (by omega))), ⟨v8, v10, v9⟩, ⟨?_, ?_, ?_, ?_⟩, ((hx.moveQ hn (fun k i hk => ?_) (cJ 154 (by omega) (by omega) (by omega)) (fun k x hk => k6.1 k x (by omega) (by omega) (by omega) (by omega)) k6.2.2 : XI σ2 M2 n T G).move hn (fun k i hk => f3 k i (by omega)) (by rw [f3J]) (fun k x hk => f4 k x (by omega)) : XI σ3 M3 n T G).move hn (fun k i hk => gI k i (by omega) (by omega) (by omega)) (gJ 154 (by omega) (by omega) (by omega)) (fun k x hk => m4 k x (by omega) (by omega))⟩, ⟨?_, cg_stop (C4 V) D3.1 (tr_fr v5) (cg_stop Q3.cg k2.1 (qs_tr Q3 h2) k1), ?_, v6⟩, lawOf_ext (fun k z1 z2 => ⟨?_, ?_⟩)⟩
  · obtain ⟨sa, p1, p2, p3⟩ := k8 s hs
    obtain ⟨sb, q1, q2, q3⟩ := f2 sa p2
    obtain ⟨sc, r1, r2, r3⟩ := v1 sb q2
    refine ⟨sc, fun xs Lx rec221 rec2429 x21 x24 x28 x29 x30 => ?_, r2, p3.trans (q3.trans r3)⟩
    rw [p1, Option.bind_some]
    dsimp only
    rw [q1 xs Lx rec221 rec2429 x21 x24 x28 x29 x30]
    unfold fL_law_2603
    rw [qs_tr Q3] at r1
    rw [r1]; rfl
  · rw [k9]
    unfold fX11_passTick_74
    rw [f1, Option.bind_some]
    exact v2
  · rw [gI 0 17 (by omega) (by omega) (by omega), e8]; exact f5.1
  · rw [e8]; exact f5.2.1
  · rw [gI 0 16 (by omega) (by omega) (by omega), m4 161 9 (by omega) (by omega)]; exact f5.2.2.1
  · rw [gI 0 14 (by omega) (by omega) (by omega), m4 161 10 (by omega) (by omega)]; exact f5.2.2.2
  · by_cases e : k = 109
    · subst e; exact k5.2.1 i (by omega)
    · exact cI k i (by omega) (by omega) (by omega) (by omega)
  · rw [sI_1, if_pos ⟨rfl, rfl⟩]; rfl
  · rw [e8, cg_op (C4 V), tr_fr v5]; exact f6
  · funext i
    rw [gI k i (by omega) (by omega) (by omega), f3 k i (by omega), cI k i (by omega) (by omega) (by omega) (by omega)]
  · rw [gJ k (by omega) (by omega) (by omega), f3J, cJ k (by omega) (by omega) (by omega)]
