/-! some ticks on both sides -/
theorem LT1.det {N : Nat} {s a b : gS} (h1 : LT1 N s a) (h2 : LT1 N s b) : a = b := by
  have e1 : a.1 = b.1 := funext (fun k => funext (fun i => by
    have p := h1.1 (fun _ => 0) 0 (fun _ => none) (fun p => some (p.1.1 k i)) 0 0 1 0 0 (by decide)
    have q := h2.1 (fun _ => 0) 0 (fun _ => none) (fun p => some (p.1.1 k i)) 0 0 1 0 0 (by decide)
    exact Option.some.inj (p.symm.trans q)))
  have e2 : a.2.1 = b.2.1 := funext (fun k => funext (fun i => by
    have p := h1.1 (fun _ => 0) 0 (fun _ => none) (fun p => if p.1.2.1 k i = a.2.1 k i then some 1 else some 0) 0 0 1 0 0 (by decide)
    have q := h2.1 (fun _ => 0) 0 (fun _ => none) (fun p => if p.1.2.1 k i = a.2.1 k i then some 1 else some 0) 0 0 1 0 0 (by decide)
    have r := p.symm.trans q
    dsimp only at r
    rw [if_pos rfl] at r
    by_cases c : b.2.1 k i = a.2.1 k i
    · exact c.symm
    · rw [if_neg c] at r; exact absurd (Option.some.inj r) (by decide)))
  exact Prod.ext e1 (Prod.ext e2 (h1.2.2.trans h2.2.2.symm))
def LTn (N : Nat) : Nat → gS → gS → Prop
  | 0, s, s' => s' = s
  | k + 1, s, s' => ∃ s1, LT1 N s s1 ∧ LTn N k s1 s'
def CTn (N : Nat) : Nat → gS → gS → Prop
  | 0, s, s' => s' = s
  | k + 1, s, s' => ∃ s1, fX11_passTick N s = some s1 ∧ CTn N k s1 s'
theorem LTn.det {N : Nat} : ∀ {k : Nat} {s a b : gS}, LTn N k s a → LTn N k s b → a = b
  | 0, _, _, _, h1, h2 => h1.trans h2.symm
  | k + 1, _, _, _, ⟨s1, p1, p2⟩, ⟨s2, q1, q2⟩ => by
    obtain rfl := LT1.det p1 q1
    exact LTn.det p2 q2
theorem LTn.sml {N : Nat} : ∀ {k : Nat} {s a : gS}, LTn N k s a → SmL s a
  | 0, s, a, h => by rw [show a = s from h]; exact SmL.refl s
  | k + 1, _, _, ⟨_, p1, p2⟩ => p1.2.trans (LTn.sml p2)
theorem LTn.run {N : Nat} {xs : Nat → Int32} {Lx : Nat} {rec221 : (gS × Int32 × Int32) → Option Int32} {x21 x24 x29 : Int32} {K : Nat} (hK : K < 100) : ∀ {k : Nat} {s a : gS} (i m : Nat), LTn N k s a → i + k = K → lp (fL_law_2429 N xs Lx rec221 x21 x24 (iN K) x29) (m + k) (s, iN i) = lp (fL_law_2429 N xs Lx rec221 x21 x24 (iN K) x29) m (a, iN K)
  | 0, s, a, i, m, h, e => by
    rw [show a = s from h, show i = K by omega]; rfl
  | k + 1, s, a, i, m, ⟨s1, p1, p2⟩, e => by
    rw [show m + (k + 1) = (m + k) + 1 by omega, lp_1, p1.1 _ _ _ _ _ _ _ _ _ (show ¬ iN K ≤ iN i by rw [iN_le (by omega) (by omega)]; omega), i_1, iN_add]
    exact LTn.run hK (i + 1) m p2 (by omega)
theorem CTn.run {N : Nat} {x2 : Int32} {K : Nat} (hK : K < 100) : ∀ {k : Nat} {s a : gS} (i m : Nat), CTn N k s a → i + k = K → lp (fX11_tick_14 N (iN K) x2) (m + k) (s, iN i) = lp (fX11_tick_14 N (iN K) x2) m (a, iN K)
  | 0, s, a, i, m, h, e => by
    rw [show a = s from h, show i = K by omega]; rfl
  | k + 1, s, a, i, m, ⟨s1, p1, p2⟩, e => by
    rw [show m + (k + 1) = (m + k) + 1 by omega, lp_1, ← CTn.run (x2 := x2) hK (i + 1) m p2 (by omega)]
    generalize lp (fX11_tick_14 N (iN K) x2) (m + k) = R
    unfold fX11_tick_14
    dsimp only
    rw [if_neg (show ¬ iN K ≤ iN i by rw [iN_le (by omega) (by omega)]; omega), p1, Option.bind_some, i_1, iN_add]
theorem J_ticks {N n T G sz dp : Nat} {ag : Nat → Nat} (hN : 5000 ≤ N) : ∀ (k : Nat) (σ M : gS) (V U h B : Nat), GI σ M n T G V U h sz dp B ag → XI σ M n T G → V + 3 * k < 65 → U + 3 * k < 1003 → B + 3 * k < 903 →
    ∃ (σ' M' : gS) (V' U' h' : Nat), (∀ s : gS, lawOf s = M → ∃ s', LTn N k s s' ∧ lawOf s' = M') ∧ CTn N k σ σ' ∧ GI σ' M' n T G V' U' h' sz dp (B + 3 * k) ag ∧ XI σ' M' n T G ∧ (V' ≤ V + 3 * k ∧ U' ≤ U + 3 * k) ∧ lawOf σ' = lawOf σ
  | 0, σ, M, V, U, h, B, g, hx, _, _, _ => ⟨σ, M, V, U, h, fun s hs => ⟨s, rfl, hs⟩, rfl, g, hx, ⟨Nat.le_refl _, Nat.le_refl _⟩, rfl⟩
  | k + 1, σ, M, V, U, h, B, g, hx, hV, hU, hB => by
    obtain ⟨σ1, M1, V1, U1, h1, a1, a2, a3, a4, a5, a6⟩ := J_tick1 hN g hx (by omega) (by omega) (by omega)
    obtain ⟨σ', M', V', U', h', b1, b2, b3, b4, b5, b6⟩ := J_ticks hN k σ1 M1 V1 U1 h1 (B + 3) a3 a4 (by omega) (by omega) (by omega)
    refine ⟨σ', M', V', U', h', fun s hs => ?_, ⟨σ1, a2, b2⟩, ?_, b4, ⟨by omega, by omega⟩, b6.trans a6⟩
    · obtain ⟨s1, p1, p2⟩ := a1 s hs
      obtain ⟨s2, q1, q2⟩ := b1 s1 p2
      exact ⟨s2, ⟨s1, p1, q1⟩, q2⟩
    · rw [show B + 3 * (k + 1) = B + 3 + 3 * k by omega]; exact b3
theorem UO.smL {σ σ' M : gS} {B : Nat} (h : UO σ M B) (hs : SmL σ σ') : UO σ' M B := ⟨h.1, fun a ha => by rw [(hs.1 158 (by omega)).2, (hs.1 156 (by omega)).2]; exact h.2.1 a ha, h.2.2⟩
theorem GI.smL {σ σ' M : gS} {n T G V U h sz dp B : Nat} {ag : Nat → Nat} (g : GI σ M n T G V U h sz dp B ag) (hs : SmL σ σ') : GI σ' M n T G V U h sz dp B ag := by
  obtain ⟨d, t, g1, u, s, st, hag⟩ := g
  have t' : TI σ' M T V U B ag := t.same (Nat.le_refl _) (fun k hk => (hs.1 k (by omega)).1) (fun k hk => (hs.1 k (by omega)).2) hs.2 rfl (fun _ _ => rfl) (fun _ _ => rfl)
  refine ⟨d.move (fun k i hk => by rw [(hs.1 k (by omega)).1]) (fun k hk => (hs.1 k (by omega)).2) (fun _ _ _ => rfl) (fun _ _ => rfl) ⟨t.2.1, d.1.1.2.2.2.2.1.2.1, t.2.2.1.lt⟩ t'.2.2.2.2.2.2.1 (fun q hq => (t'.2.2.2.1 q hq).1) (d.2.2.2.2.2.2.2.1.move d.1.1.1.2.1 d.1.1.1.2.2 (by rw [(hs.1 109 (by omega)).1]) (fun k i hk => by rw [(hs.1 k (by omega)).1]) (fun k hk => (hs.1 k (by omega)).2) (d.cg (fun _ _ _ => rfl) (fun _ _ => rfl)) rfl), t', g1, u.smL hs, ?_, ?_, hag⟩
  · unfold SC at s ⊢
    rw [(hs.1 0 (by omega)).1]; exact s
  · unfold ST at st ⊢
    rw [(hs.1 0 (by omega)).1]; exact st
theorem XI.smL {σ σ' M : gS} {n T G : Nat} (h : XI σ M n T G) (hn : n ≤ 20) (hT : T ≤ 4) (hs : SmL σ σ') : XI σ' M n T G := h.move hn (fun k i hk => by rw [(hs.1 k (by omega)).1]) (hs.1 154 (by omega)).2 (fun _ _ _ => rfl)
