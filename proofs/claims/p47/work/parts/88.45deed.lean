/-! what the class does and the law writes down: the simple ones -/
def AI (s : gS) (V U B A : Nat) : Prop := ∃ (n T G h sz dp : Nat) (ag : Nat → Nat), GI s (lawOf s) n T G V U h sz dp B ag ∧ XI s (lawOf s) n T G ∧ ∀ q, ag q ≤ A
def DR (s : gS) (V U B A : Nat) : Prop := ∃ V' U', AI s V' U' (B + 9) (A + 1) ∧ V' ≤ V + 9 ∧ U' ≤ U + 9
theorem GI.mono {σ M : gS} {n T G V U h sz dp B B' : Nat} {ag : Nat → Nat} (g : GI σ M n T G V U h sz dp B ag) (hb : B ≤ B') : GI σ M n T G V U h sz dp B' ag := by
  obtain ⟨z1, z2, z3, z4, z5, z6, z7⟩ := g
  exact ⟨z1, z2.same hb (fun _ _ => rfl) (fun _ _ => rfl) rfl rfl (fun _ _ => rfl) (fun _ _ => rfl), z3, z4.mono (by omega), z5, z6, z7⟩
theorem DR.of {s : gS} {V U B A : Nat} (h : AI s V U B A) : DR s V U B A := by
  obtain ⟨n, T, G, hh, sz, dp, ag, g, x, hA⟩ := h
  exact ⟨V, U, ⟨n, T, G, hh, sz, dp, ag, g.mono (by omega), x, fun q => by have := hA q; omega⟩, by omega, by omega⟩
theorem X_stir {N : Nat} {σ : gS} : fX11_stir N σ = some (sI (sI σ 109 3 (iN 0)) 0 18 (iN 0)) := rfl
/-- what is stirred keeps the relation, where only places of little weight change -/
theorem GI.stir {σ σ' M M' : gS} {n T G V U h sz dp B : Nat} {ag : Nat → Nat} (g : GI σ M n T G V U h sz dp B ag)
    (h93 : σ'.1 109 3 = iN 0) (h18 : σ'.1 0 18 = iN 0)
    (hI : ∀ k i, (k = 1 ∨ (5 ≤ k ∧ k < 65 ∧ i ≠ 13) ∨ k = 65 ∨ k = 70 ∨ (76 ≤ k ∧ k < 106 ∧ i = 2) ∨ k = 151 ∨ (k = 109 ∧ i < 3) ∨ (k = 0 ∧ i = 15)) → σ'.1 k i = σ.1 k i)
    (hJ : ∀ k, ((5 ≤ k ∧ k < 65) ∨ k = 71 ∨ k = 73 ∨ k = 75 ∨ k = 152 ∨ k = 160) → σ'.2.1 k = σ.2.1 k)
    (mI : ∀ k x, ((162 ≤ k ∧ k ≤ 168) ∨ k = 173 ∨ (k = 178 ∧ 6 ≤ x) ∨ (k = 161 ∧ (x < 4 ∨ x = 5 ∨ x = 6)) ∨ (k = 172 ∧ x - x / 12 * 12 = 0)) → M'.1 k x = M.1 k x) (mJ : ∀ k, 169 ≤ k ∧ k ≤ 171 → M'.2.1 k = M.2.1 k)
    (t : TI σ' M' T V U B ag) (u : UO σ' M' (3 * B)) (sc : SC σ' M') : GI σ' M' n T G V U h sz dp B ag :=
  ⟨g.1.move hI hJ mI mJ ⟨t.2.1, g.1.1.1.2.2.2.2.1.2.1, t.2.2.1.lt⟩ t.2.2.2.2.2.2.1 (fun q hq => (t.2.2.2.1 q hq).1) (Or.inl h93), t, g.2.2.1.same' mJ (funext (fun x => mI 168 x (by omega))), u, sc, Or.inl h18, g.2.2.2.2.2.2⟩
theorem SC.same {σ σ' M M' : gS} (s : SC σ M) (h : ∀ i, 14 ≤ i ∧ i ≤ 17 → σ'.1 0 i = σ.1 0 i) (m : ∀ x, 8 ≤ x ∧ x ≤ 10 → M'.1 161 x = M.1 161 x) : SC σ' M' := by
  unfold SC at s ⊢
  rw [h 17 (by omega), h 16 (by omega), h 14 (by omega), m 8 (by omega), m 9 (by omega), m 10 (by omega)]
  exact s
theorem UO.same {σ σ' M M' : gS} {B : Nat} (u : UO σ M B) (h : ∀ k, k = 156 ∨ k = 158 → σ'.2.1 k = σ.2.1 k) (m : ∀ x, x < 6 → M'.1 178 x = M.1 178 x) (m2 : ∀ j, j < 3 → M'.1 176 (6 * j + 2) = M.1 176 (6 * j + 2)) : UO σ' M' B := by
  obtain ⟨⟨u1, u2⟩, u3, u4⟩ := u
  refine ⟨⟨fun a ha => ?_, fun a ha => ?_⟩, fun a ha => ?_, fun j hj => by rw [m2 j hj]; exact u4 j hj⟩
  · have := u1 a ha
    unfold vN at this ⊢
    rw [m a (by omega)]; exact this
  · have := u2 a ha
    unfold vN at this ⊢
    rw [m (3 + a) (by omega)]; exact this
  · have := u3 a ha
    unfold vN at this ⊢
    rw [h 158 (by omega), h 156 (by omega), m a (by omega), m (3 + a) (by omega)]; exact this
theorem lw0 (s : gS) {k i : Nat} (h : 161 ≤ k ∧ k < 179) : (lawOf s).1 k i = s.1 k i := (congrFun (lw1 (σ := s) (M := lawOf s) rfl h) i).symm
theorem lw0J (s : gS) {k i : Nat} (h : 161 ≤ k ∧ k < 179) : (lawOf s).2.1 k i = s.2.1 k i := (congrFun (lw2 (σ := s) (M := lawOf s) rfl h) i).symm
section DD
variable {N : Nat} {xs : Nat → Int32} {Lx : Nat} {rec221 : (gS × Int32 × Int32) → Option Int32} {x21 x27 : Int32} {x25 : Int64} {s : gS} {c V U B A : Nat}
/-- a full run is asked for -/
theorem D_full (a : AI s V U B A) : ∃ s', fL_law_2266 N xs Lx rec221 s x21 (iN 20) (iN c) x27 = fL_law_2698 N xs Lx rec221 s' 1 x21 (iN c) ∧ DR s' V U B A := by
  obtain ⟨n, T, G, h, sz, dp, ag, g, x, hA⟩ := a
  have hn := g.1.1.1.1.2.1
  have hT := g.1.1.1.2.1.2
  obtain ⟨s1, s2, s3, s4⟩ := id g.2.2.2.2.1
  have e8 : (lawOf s).1 161 8 = s.1 161 8 := lw0 s (by omega)
  let σ1 := sI (sI (sI s 0 17 (iN 1)) 109 3 (iN 0)) 0 18 (iN 0)
  have hl : lawOf (sI σ1 161 8 (iN 1)) = sI (lawOf s) 161 8 (iN 1) := by
    show lawOf (sI (sI (sI (sI s 0 17 (iN 1)) 109 3 (iN 0)) 0 18 (iN 0)) 161 8 (iN 1)) = _
    rw [lawOf_in (by omega), lawOf_sI (by omega), lawOf_sI (by omega), lawOf_sI (by omega)]
  have hI : ∀ k i, ¬ (k = 0 ∧ (i = 17 ∨ i = 18)) → ¬ (k = 109 ∧ i = 3) → k < 161 → (sI σ1 161 8 (iN 1)).1 k i = s.1 k i := fun k i e1 e2 e3 => by
    rw [sI_1, if_neg (by omega), sI_1, if_neg (by omega), sI_1, if_neg (by omega), sI_1, if_neg (by omega)]
  have mI : ∀ k i, ¬ (k = 161 ∧ i = 8) → (sI (lawOf s) 161 8 (iN 1)).1 k i = (lawOf s).1 k i := fun k i e => by rw [sI_1, if_neg e]
  refine ⟨sI σ1 161 8 (iN 1), ?_, DR.of ⟨n, T, G, h, sz, dp, ag, ?_, ?_, hA⟩⟩
  · unfold fL_law_2266
    rw [if_pos (show iN 20 = (20 : Int32) from rfl)]
    have e1 : fX11_fullRun N s = some ((if s.1 161 8 = iN 0 then 1 else 0), σ1) := by
      unfold fX11_fullRun
      rw [show fX11_stir N (sI s 0 17 1) = some σ1 from rfl, Option.bind_some, s1, ← e8.symm.symm, e8]
      by_cases c0 : s.1 161 8 = iN 0
      · rw [if_pos (show s.1 161 8 = (0 : Int32) from c0), if_pos c0]; rfl
      · rw [if_neg (show ¬ s.1 161 8 = (0 : Int32) from c0), if_neg c0]; rfl
    have e2 : σ1.1 161 8 = s.1 161 8 := by simp [σ1, sI_1]
    rw [e1, Option.bind_some]
    dsimp only
    rw [e2]
    by_cases c0 : s.1 161 8 = iN 0
    · rw [if_pos (show s.1 161 8 = (0 : Int32) from c0), if_pos c0]; rfl
    · rw [if_neg (show ¬ s.1 161 8 = (0 : Int32) from c0), if_neg c0]; rfl
  · rw [hl]
    refine g.stir ?_ ?_ (fun k i hk => hI k i (by omega) (by omega) (by omega)) (fun _ _ => rfl) (fun k i hk => mI k i (by omega)) (fun _ _ => rfl) (g.2.1.same (Nat.le_refl _) (fun k hk => funext (fun i => hI k i (by omega) (by omega) (by omega))) (fun _ _ => rfl) rfl (mI 161 4 (by omega)) (fun k hk => funext (fun i => mI k i (by omega))) (fun _ _ => rfl)) (g.2.2.2.1.same (fun _ _ => rfl) (fun i _ => mI 178 i (by omega)) (fun j _ => mI 176 _ (by omega))) ⟨?_, ?_, ?_, ?_⟩
    · simp [σ1, sI_1]
    · simp [σ1, sI_1]
    · simp [σ1, sI_1]
    · simp [sI_1]
    · rw [hI 0 16 (by omega) (by omega) (by omega), mI 161 9 (by omega)]; exact s3
    · rw [hI 0 14 (by omega) (by omega) (by omega), mI 161 10 (by omega)]; exact s4
  · rw [hl]
    exact x.move hn (fun k i hk => hI k i (by omega) (by omega) (by omega)) rfl (fun k i hk => mI k i (by omega))
end DD
