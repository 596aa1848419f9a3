/-! the whole relation of the class to the law -/
def SC (σ M : gS) : Prop := σ.1 0 17 = M.1 161 8 ∧ (M.1 161 8 = iN 0 ∨ M.1 161 8 = iN 1) ∧ σ.1 0 16 = M.1 161 9 ∧ σ.1 0 14 = M.1 161 10
def UO (σ M : gS) (Bu : Nat) : Prop := ((∀ a, a < 3 → M.1 178 a = iN (vN M 178 a) ∧ vN M 178 a ≤ Bu) ∧ ∀ a, a < 3 → M.1 178 (3 + a) = iN (vN M 178 (3 + a)) ∧ 1 ≤ vN M 178 (3 + a) ∧ vN M 178 (3 + a) ≤ 10) ∧ US σ M ∧ ∀ j, j < 3 → M.1 176 (6 * j + 2) = iN 0 ∨ M.1 176 (6 * j + 2) = iN 1
def ST (σ M : gS) (n T G V h sz dp : Nat) : Prop := σ.1 0 18 = iN 0 ∨ (σ.1 0 18 = iN 1 ∧ Settled M n T G V h sz dp)
def GI (σ M : gS) (n T G V U h sz dp B : Nat) (ag : Nat → Nat) : Prop := DI σ M n T G V U h sz dp ag ∧ TI σ M T V U B ag ∧ DG M n h ∧ UO σ M (3 * B) ∧ SC σ M ∧ ST σ M n T G V h sz dp ∧ ∀ q, q < T → ag q < 1000
def XI (σ M : gS) (n T G : Nat) : Prop := (σ.1 1 3 = iN 0 ∧ σ.1 109 2 = M.1 161 7 ∧ σ.1 72 1 = iN G ∧ σ.1 74 1 = iN G) ∧ ((∀ f, f < 12 → σ.2.1 154 f = -1) ∧ ∀ c, c < n → M.1 164 c = iN 0 → σ.1 (5 + c) 12 = iN 0) ∧ (∀ c, n ≤ c → c < 60 → σ.1 (5 + c) 0 = iN c ∧ σ.1 (5 + c) 3 = iN 0 ∧ σ.1 (5 + c) 4 = iM ∧ σ.1 (5 + c) 10 = iN 0 ∧ σ.1 (5 + c) 11 = iN 0 ∧ σ.1 (5 + c) 12 = iN 0 ∧ σ.1 (5 + c) 2 = iM) ∧ (∀ c, n ≤ c → c < 24 → M.1 164 c = iN 0 ∧ M.1 165 c = iN 0 ∧ M.1 166 c = iN 0) ∧ (∀ q, T ≤ q → q < 10 → (σ.1 (76 + 3 * q) 0 = iN q ∧ σ.1 (76 + 3 * q) 6 = iN 0 ∧ σ.1 (76 + 3 * q) 7 = iN 0) ∧ σ.1 (76 + 3 * q) 8 = iN 0 ∧ σ.1 (76 + 3 * q) 9 = iN 0 ∧ σ.1 (76 + 3 * q + 1) 1 = iN 0) ∧ ∀ q, T ≤ q → q < 4 → M.1 172 (12 * q + 3) = iN 0 ∧ M.1 172 (12 * q + 4) = iN 0 ∧ M.1 172 (12 * q + 5) = iN 0 ∧ M.1 172 (12 * q + 6) = iN 0
theorem XI.moveQ {σ σ' M M' : gS} {n T G : Nat} (h : XI σ M n T G) (hn : n ≤ 20) (hI : ∀ k i, (k = 1 ∨ (k = 109 ∧ i = 2) ∨ k = 72 ∨ k = 74 ∨ (5 + n ≤ k ∧ k < 65 ∧ i ≠ 13) ∨ (76 + 3 * T ≤ k ∧ k < 106) ∨ (5 ≤ k ∧ k < 65 ∧ i = 12)) → σ'.1 k i = σ.1 k i) (hJ : σ'.2.1 154 = σ.2.1 154) (mI : ∀ k x, ((k = 161 ∧ x = 7) ∨ (164 ≤ k ∧ k ≤ 166 ∧ n ≤ x) ∨ (k = 172 ∧ 12 * T ≤ x)) → M'.1 k x = M.1 k x) (hq : ∀ c, M'.1 164 c = iN 0 → M.1 164 c = iN 0) : XI σ' M' n T G := by
  obtain ⟨⟨a1, a2, a3, a4⟩, b, c, d, e, f⟩ := h
  refine ⟨⟨(hI 1 3 (by omega)).trans a1, by rw [hI 109 2 (by omega), mI 161 7 (by omega)]; exact a2, (hI 72 1 (by omega)).trans a3, (hI 74 1 (by omega)).trans a4⟩, ⟨fun x hx => by rw [hJ]; exact b.1 x hx, fun c hc e => by rw [hI _ 12 (by omega)]; exact b.2 c hc (hq c e)⟩, fun x h1 h2 => ?_, fun x h1 h2 => ?_, fun q h1 h2 => ?_, fun q h1 h2 => ?_⟩
  · rw [hI _ 0 (by omega), hI _ 3 (by omega), hI _ 4 (by omega), hI _ 10 (by omega), hI _ 11 (by omega), hI _ 12 (by omega), hI _ 2 (by omega)]; exact c x h1 h2
  · rw [mI 164 x (by omega), mI 165 x (by omega), mI 166 x (by omega)]; exact d x h1 h2
  · rw [hI _ 0 (by omega), hI _ 6 (by omega), hI _ 7 (by omega), hI _ 8 (by omega), hI _ 9 (by omega), hI _ 1 (by omega)]; exact e q h1 h2
  · rw [mI 172 _ (by omega), mI 172 _ (by omega), mI 172 _ (by omega), mI 172 _ (by omega)]; exact f q h1 h2
theorem XI.move {σ σ' M M' : gS} {n T G : Nat} (h : XI σ M n T G) (hn : n ≤ 20) (hI : ∀ k i, (k = 1 ∨ (k = 109 ∧ i = 2) ∨ k = 72 ∨ k = 74 ∨ (5 + n ≤ k ∧ k < 65 ∧ i ≠ 13) ∨ (76 + 3 * T ≤ k ∧ k < 106) ∨ (5 ≤ k ∧ k < 65 ∧ i = 12)) → σ'.1 k i = σ.1 k i) (hJ : σ'.2.1 154 = σ.2.1 154) (mI : ∀ k x, ((k = 161 ∧ x = 7) ∨ k = 164 ∨ (165 ≤ k ∧ k ≤ 166 ∧ n ≤ x) ∨ (k = 172 ∧ 12 * T ≤ x)) → M'.1 k x = M.1 k x) : XI σ' M' n T G :=
  h.moveQ hn hI hJ (fun k x hk => mI k x (by omega)) (fun c e => by rw [← mI 164 c (by omega)]; exact e)
theorem EN.lt {M : gS} {T V : Nat} (h : EN M T V) (j : Nat) (hj : j < V) : M.1 175 j = iN (vN M 175 j) ∧ vN M 175 j < 100000 := ⟨(h j hj).1, by have := (h j hj).2.1.lt; omega⟩
/-- the class counts its ticks -/
theorem GI.clk {σ M : gS} {n T G V U h sz dp B : Nat} {ag : Nat → Nat} (g : GI σ M n T G V U h sz dp B ag) : DI (sI σ 0 14 (σ.1 0 14 + 1)) (sI M 161 10 (M.1 161 10 + 1)) n T G V U h sz dp ag ∧ TI (sI σ 0 14 (σ.1 0 14 + 1)) (sI M 161 10 (M.1 161 10 + 1)) T V U B ag := by
  obtain ⟨d, ti, _⟩ := g
  have hs : ∀ k i, k ≠ 0 → (sI σ 0 14 (σ.1 0 14 + 1)).1 k i = σ.1 k i := fun k i hk => by rw [sI_1, if_neg (by omega)]
  have hm : ∀ k i, ¬ (k = 161 ∧ i = 10) → (sI M 161 10 (M.1 161 10 + 1)).1 k i = M.1 k i := fun k i hk => by rw [sI_1, if_neg hk]
  have t0 : TI (sI σ 0 14 (σ.1 0 14 + 1)) (sI M 161 10 (M.1 161 10 + 1)) T V U B ag := ti.same (Nat.le_refl _) (fun k hk => funext (fun i => hs k i (by omega))) (fun _ _ => rfl) rfl (hm 161 4 (by omega)) (fun k hk => funext (fun i => hm k i (by omega))) (fun _ _ => rfl)
  have hLD := d.1
  refine ⟨d.move (fun k i hk => ?_) (fun _ _ => rfl) (fun k x hk => hm k x (by omega)) (fun _ _ => rfl) ⟨t0.2.1, hLD.1.2.2.2.2.1.2.1, t0.2.2.1.lt⟩ t0.2.2.2.2.2.2.1 (fun q hq => (t0.2.2.2.1 q hq).1) (d.2.2.2.2.2.2.2.1.move hLD.1.1.2.1 hLD.1.1.2.2 (hs _ _ (by omega)) (fun k i hk => hs k i (by omega)) (fun _ _ => rfl) (d.cg (fun k x hk => hm k x (by omega)) (fun _ _ => rfl)) rfl), t0⟩
  by_cases e : k = 0
  · subst e; rw [sI_1, if_neg (by omega)]
  · exact hs k i e
/-- what the class needs when it lists what is wanted -/
theorem WC.of {σ M : gS} {n T G V U h sz dp B : Nat} {ag : Nat → Nat} (d : DI σ M n T G V U h sz dp ag) (t : TI σ M T V U B ag) (hag : ∀ q, q < T → ag q < 1000) : WC σ M T V U ag :=
  ⟨⟨t.1, d.2.2.2.1.1.1⟩, ⟨t.2.2.2.2.2.2.1, fun j hj => (t.2.2.1.lt j hj).2⟩, fun q hq => ⟨(t.2.2.2.1 q hq).1, hag q hq⟩, t.2.2.2.2.1, fun j h1 h2 => (t.2.2.2.2.2.2.2 j h1 h2).2⟩
theorem TI.tm {σ M : gS} {T V U B : Nat} {ag : Nat → Nat} (t : TI σ M T V U B ag) (q : Nat) (hq : q < T) : σ.1 (76 + 3 * q) 4 = M.1 172 (12 * q + 1) ∧ M.1 172 (12 * q + 1) = iN (vN M 172 (12 * q + 1)) ∧ 1 ≤ vN M 172 (12 * q + 1) ∧ vN M 172 (12 * q + 1) ≤ 3 := by
  obtain ⟨_, _, _, e4, _, _, tm, e1, h1, h3⟩ := t.2.2.2.1 q hq
  have e : vN M 172 (12 * q + 1) = tm := by unfold vN; rw [e1]; exact iN_cl (by omega)
  rw [e]
  exact ⟨e4, e1, h1, h3⟩
/-- machines that take nothing -/
theorem TI.hmc {σ M : gS} {T V U B : Nat} {ag : Nat → Nat} (t : TI σ M T V U B ag) (j : Nat) (hj : j < 3) : (M.1 176 (6 * j + 4) = iN 0 ∨ (M.1 176 (6 * j + 4) = iN 1 ∧ ∃ q, q < 4 ∧ M.1 176 (6 * j) = iN q)) ∨ idB M j := by
  have hT := t.1
  obtain ⟨_, m1, _, m3⟩ := t.2.2.2.2.1 j hj
  rcases m1 with e | e
  · exact Or.inl (Or.inl e)
  · rcases m3 with ⟨a, _⟩ | ⟨q, l, hq, _, a, _⟩
    · exact Or.inr ⟨e, a⟩
    · exact Or.inl (Or.inr ⟨e, q, by omega, a⟩)
theorem DG.same' {M M' : gS} {n h : Nat} (hg : DG M n h) (h1 : ∀ k, 169 ≤ k ∧ k ≤ 171 → M'.2.1 k = M.2.1 k) (h8 : M'.1 168 = M.1 168) : DG M' n h := by
  unfold DG at hg ⊢
  rw [h1 171 (by omega), h1 169 (by omega), h1 170 (by omega), h8]; exact hg
