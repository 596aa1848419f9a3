/-! deeds: the queue's batches, a test let back -/
theorem DI.gen {σ σ' M M' : gS} {n T G V U T' G' V' U' h sz dp sz' dp' : Nat} {ag ag' : Nat → Nat} (hd : DI σ M n T G V U h sz dp ag)
    (hI : ∀ k i, (k = 1 ∨ (5 ≤ k ∧ k < 65 ∧ i ≠ 13) ∨ k = 151 ∨ (k = 0 ∧ i = 15)) → σ'.1 k i = σ.1 k i)
    (hJ : ∀ k, ((5 ≤ k ∧ k < 65) ∨ k = 152 ∨ k = 160) → σ'.2.1 k = σ.2.1 k)
    (mI : ∀ k x, ((162 ≤ k ∧ k ≤ 168) ∨ (k = 178 ∧ 6 ≤ x) ∨ (k = 161 ∧ x = 1)) → M'.1 k x = M.1 k x) (mJ : ∀ k, 169 ≤ k ∧ k ≤ 171 → M'.2.1 k = M.2.1 k)
    (hLF : LF M' n T' G' V') (hp : RCp σ' M' T' G') (h5 : M'.1 161 5 = iN sz' ∧ 1 ≤ sz' ∧ sz' ≤ 4) (h6 : M'.1 161 6 = iN dp' ∧ 1 ≤ dp' ∧ dp' ≤ 4) (h9 : σ'.1 109 0 = iN sz' ∧ σ'.1 109 1 = iN dp') (hrv : RCv σ' M' T' V' U' ag') (hrk : ∀ q, q < T' → RCk σ' M' ag' q) (hF : FO σ' M' n T' G' sz' dp' h) : DI σ' M' n T' G' V' U' h sz' dp' ag' := by
  obtain ⟨⟨⟨⟨a1, a2, a3⟩, ⟨b1, b2⟩, ⟨c1, c2, c3⟩, d, g, e178⟩, hh, -, -⟩, ⟨q1, q2, q3, q4⟩, ⟨ch1, ch2⟩, -, ⟨t1, t2, t3, t4, t5⟩, a6, a7, a8, a9, a10, a11⟩ := hd
  have e162 : M'.1 162 = M.1 162 := funext (fun x => mI 162 x (by omega))
  have e163 : M'.1 163 = M.1 163 := funext (fun x => mI 163 x (by omega))
  have e164 : M'.1 164 = M.1 164 := funext (fun x => mI 164 x (by omega))
  have e165 : M'.1 165 = M.1 165 := funext (fun x => mI 165 x (by omega))
  have e166 : M'.1 166 = M.1 166 := funext (fun x => mI 166 x (by omega))
  have e167 : M'.1 167 = M.1 167 := funext (fun x => mI 167 x (by omega))
  have e168 : M'.1 168 = M.1 168 := funext (fun x => mI 168 x (by omega))
  have ecn : ∀ v, cnS M' n v = cnS M n v := fun v => by unfold cnS; rw [e164]
  have epar : ∀ c, par M' c = par M c := fun c => par_fr (by rw [e163])
  have v8 : ∀ a, vN M' 178 (6 + a) = vN M 178 (6 + a) := fun a => by unfold vN; rw [mI 178 (6 + a) (by omega)]
  refine ⟨⟨hLF, ⟨(mI 161 1 (by omega)).trans hh.1, hh.2⟩, h5, h6⟩, ⟨fun c hc => ?_, fun c hc h1 q hq => ?_, by rw [ecn]; exact q3, fun a ha => by rw [ecn, v8]; exact q4 a ha⟩, ⟨(hI 1 4 (by omega)).trans ch1, fun c hc => ?_⟩, hp, ⟨(mI 161 1 (by omega)).trans t1, t2, t3, (hI 151 1 (by omega)).trans t4, fun j hj => ?_⟩, fun a ha => ?_, h9, hF, ?_, hrv, hrk⟩
  · rw [e164]; exact q1 c hc
  · rw [e164] at h1 ⊢; rw [epar] at hq; exact q2 c hc h1 q hq
  · obtain ⟨r1, r2, r3⟩ := ch2 c hc
    refine ⟨?_, (hI _ 0 (by omega)).trans r2, by rw [hI _ 4 (by omega), e167]; exact r3⟩
    unfold RCh chB chOK vN at r1 ⊢
    rw [hI _ 1 (by omega), hI _ 2 (by omega), hI _ 3 (by omega), hI _ 5 (by omega), hI _ 10 (by omega), hI _ 11 (by omega), hI _ 12 (by omega), hJ _ (by omega), e162, e163, e164, e165, e166, e168, mJ 169 (by omega), mJ 170 (by omega)]
    exact r1
  · rw [hJ 152 (by omega), mJ 171 (by omega)]; exact t5 j hj
  · rw [hJ 160 (by omega), v8]; exact a6 a ha
  · rw [hI 0 15 (by omega), ecn]; exact a9
theorem LF.rows {M M' : gS} {n T G V : Nat} (h : LF M n T G V) (mI : ∀ k x, ((162 ≤ k ∧ k ≤ 168) ∨ k = 173 ∨ k = 175 ∨ (k = 178 ∧ 6 ≤ x) ∨ (k = 161 ∧ x < 5)) → M'.1 k x = M.1 k x) : LF M' n T G V := by
  obtain ⟨⟨a1, a2, a3⟩, ⟨b1, b2⟩, ⟨c1, c2, c3⟩, d, ⟨g1, g2, g3⟩, e178⟩ := h
  refine ⟨⟨(mI 161 0 (by omega)).trans a1, a2, a3.fr (fun c _ => mI 163 c (by omega))⟩, ⟨(mI 161 2 (by omega)).trans b1, b2⟩, ⟨(mI 161 3 (by omega)).trans c1, c2, fun k hk => ?_⟩, fun c hc => ?_, ⟨(mI 161 4 (by omega)).trans g1, g2, fun j hj => ?_⟩, fun a ha => ?_⟩
  · have := c3 k hk
    unfold vN at this ⊢; rw [mI 173 k (by omega)]; exact this
  · have := d c hc
    unfold vN at this ⊢; rw [mI 162 c (by omega)]; exact this
  · have := g3 j hj
    unfold vN at this ⊢; rw [mI 175 j (by omega)]; exact this
  · have := e178 a ha
    unfold vN at this ⊢; rw [mI 178 (6 + a) (by omega)]; exact this
theorem RCp.rows {σ σ' M M' : gS} {T G : Nat} (h : RCp σ M T G) (hI : ∀ k i, (k = 65 ∨ k = 70 ∨ (76 ≤ k ∧ k < 106 ∧ i = 2)) → σ'.1 k i = σ.1 k i) (hJ : ∀ k, (k = 71 ∨ k = 73 ∨ k = 75) → σ'.2.1 k = σ.2.1 k) (m2 : ∀ j, j < T → M'.1 172 (12 * j) = M.1 172 (12 * j)) (m3 : M'.1 173 = M.1 173) : RCp σ' M' T G := by
  obtain ⟨p1, p2, p3, p4⟩ := h
  refine ⟨⟨(hI 65 5 (by omega)).trans p1.1, p1.2⟩, ⟨(hI 70 1 (by omega)).trans p2.1, p2.2⟩, fun j hj => ?_, fun k hk => ?_⟩
  · rw [hI _ 2 (by have := p1.2; omega), m2 j hj]; exact p3 j hj
  · have := p4 k hk
    unfold vN at this ⊢
    rw [hJ 71 (by omega), hJ 73 (by omega), hJ 75 (by omega), m3]; exact this
section DD
variable {N : Nat} {xs : Nat → Int32} {Lx : Nat} {rec221 : (gS × Int32 × Int32) → Option Int32} {x21 x24 x27 : Int32} {x25 : Int64} {s : gS} {c V U B A : Nat}
theorem D_batches (hc : c < 100000000) (a0 : AI s V U B A) : ∃ s', fL_law_1642 N xs Lx rec221 s x21 (iN 16) (iN c) x25 x27 = fL_law_2698 N xs Lx rec221 s' 1 x21 (iN c) ∧ DR s' V U B A := by
  obtain ⟨n, T, G, h, sz, dp, ag, g, x, hA⟩ := a0
  have hn := g.1.1.1.1.2.1
  have hT := g.1.1.1.2.1.2
  obtain ⟨a, ha, hae⟩ : ∃ a, 1 ≤ a ∧ 1 + (c - c / 4 * 4) = a := ⟨_, by omega, rfl⟩
  obtain ⟨w, hw, hwe⟩ : ∃ w, 1 ≤ w ∧ 1 + (c / 4 - c / 4 / 4 * 4) = w := ⟨_, by omega, rfl⟩
  have ea : (1 : Int32) + (iN c - iN c / (4 : Int32) * 4) = iN a := by
    rw [← hae, show iN c - iN c / (4 : Int32) * 4 = iN (c - c / 4 * 4) from iN_rem (k := 4) (by omega) (by omega), i_1, iN_add]
  have ew : (1 : Int32) + (iN c / 4 - iN c / 4 / 4 * 4) = iN w := by
    rw [← hwe, show iN c / (4 : Int32) = iN (c / 4) from iN_div (b := 4) (by omega) (by omega), show iN (c / 4) - iN (c / 4) / (4 : Int32) * 4 = iN (c / 4 - c / 4 / 4 * 4) from iN_rem (k := 4) (by omega) (by omega), i_1, iN_add]
  obtain ⟨⟨hF, hh, h5, h6⟩, -⟩ := id g.1
  have h9 := g.1.2.2.2.2.2.2.1
  have hl : lawOf (sI (sI (sI (sI (sI (sI s 109 0 (iN a)) 109 1 (iN w)) 109 3 (iN 0)) 0 18 (iN 0)) 161 5 (iN a)) 161 6 (iN w)) = sI (sI (lawOf s) 161 5 (iN a)) 161 6 (iN w) := by
    rw [lawOf_in (by omega), lawOf_in (by omega), lawOf_sI (by omega), lawOf_sI (by omega), lawOf_sI (by omega), lawOf_sI (by omega)]
  have hI : ∀ k i, ¬ (k = 0 ∧ i = 18) → ¬ (k = 109 ∧ (i < 2 ∨ i = 3)) → k < 161 → (sI (sI (sI (sI (sI (sI s 109 0 (iN a)) 109 1 (iN w)) 109 3 (iN 0)) 0 18 (iN 0)) 161 5 (iN a)) 161 6 (iN w)).1 k i = s.1 k i := fun k i e1 e2 e3 => by
    rw [sI_1, if_neg (by omega), sI_1, if_neg (by omega), sI_1, if_neg (by omega), sI_1, if_neg (by omega), sI_1, if_neg (by omega), sI_1, if_neg (by omega)]
  have mI : ∀ k i, ¬ (k = 161 ∧ (i = 5 ∨ i = 6)) → (sI (sI (lawOf s) 161 5 (iN a)) 161 6 (iN w)).1 k i = (lawOf s).1 k i := fun k i e => by rw [sI_1, if_neg (by omega), sI_1, if_neg (by omega)]
  refine ⟨sI (sI (sI (sI (sI (sI s 109 0 (iN a)) 109 1 (iN w)) 109 3 (iN 0)) 0 18 (iN 0)) 161 5 (iN a)) 161 6 (iN w), ?_, DR.of ⟨n, T, G, h, a, w, ag, ?_, ?_, hA⟩⟩
  · have e1 : fX11_batches N s (iN a) (iN w) = some (iN (10 * sz + dp), sI (sI (sI (sI s 109 0 (iN a)) 109 1 (iN w)) 109 3 (iN 0)) 0 18 (iN 0)) := by
      unfold fX11_batches
      rw [show fX11_needRange N s (iN a) (1 : Int32) (8 : Int32) = some () from X_range (lo := 1) (hi := 8) ha (by omega) (by omega), Option.bind_some, show fX11_needRange N s (iN w) (1 : Int32) (4 : Int32) = some () from X_range (lo := 1) (hi := 4) hw (by omega) (by omega), Option.bind_some, show fX11_stir N (sI (sI s 109 0 (iN a)) 109 1 (iN w)) = some (sI (sI (sI (sI s 109 0 (iN a)) 109 1 (iN w)) 109 3 (iN 0)) 0 18 (iN 0)) from rfl, Option.bind_some, h9.1, h9.2, show (10 : Int32) * iN sz = iN (10 * sz) from iN_mul 10 sz, iN_add]
    have e2 : ∀ i, (sI (sI (sI (sI s 109 0 (iN a)) 109 1 (iN w)) 109 3 (iN 0)) 0 18 (iN 0)).1 161 i = s.1 161 i := fun i => by
      rw [sI_1, if_neg (by omega), sI_1, if_neg (by omega), sI_1, if_neg (by omega), sI_1, if_neg (by omega)]
    have k5 : s.1 161 5 = iN sz := (lw0 s (by omega)).symm.trans h5.1
    have k6 : s.1 161 6 = iN dp := (lw0 s (by omega)).symm.trans h6.1
    unfold fL_law_1642
    rw [if_pos (show iN 16 = (16 : Int32) from rfl), ea, ew, e1, Option.bind_some]
    dsimp only
    rw [e2, e2, k5, k6, show (10 : Int32) * iN sz = iN (10 * sz) from iN_mul 10 sz, iN_add, if_pos rfl]
    rfl
  · rw [hl]
    have t := g.2.1.same (σ' := sI (sI (sI (sI (sI (sI s 109 0 (iN a)) 109 1 (iN w)) 109 3 (iN 0)) 0 18 (iN 0)) 161 5 (iN a)) 161 6 (iN w)) (M' := sI (sI (lawOf s) 161 5 (iN a)) 161 6 (iN w)) (Nat.le_refl B) (fun k hk => funext (fun i => hI k i (by omega) (by omega) (by omega))) (fun _ _ => rfl) rfl (mI 161 4 (by omega)) (fun k hk => funext (fun i => mI k i (by omega))) (fun _ _ => rfl)
    refine ⟨g.1.gen (fun k i hk => hI k i (by omega) (by omega) (by omega)) (fun _ _ => rfl) (fun k x hk => mI k x (by omega)) (fun _ _ => rfl) (hF.rows (fun k x hk => mI k x (by omega))) (g.1.2.2.2.1.rows (fun k i hk => hI k i (by omega) (by omega) (by omega)) (fun _ _ => rfl) (fun j _ => mI 172 _ (by omega)) (funext (fun x => mI 173 x (by omega)))) ⟨?_, ha, by omega⟩ ⟨?_, hw, by omega⟩ ⟨?_, ?_⟩ t.2.2.2.2.2.2.1 (fun q hq => (t.2.2.2.1 q hq).1) (Or.inl ?_), t, g.2.2.1.same' (fun _ _ => rfl) (funext (fun x => mI 168 x (by omega))), g.2.2.2.1.same (fun _ _ => rfl) (fun i _ => mI 178 i (by omega)) (fun j' _ => mI 176 _ (by omega)), g.2.2.2.2.1.same (fun i hi => hI 0 i (by omega) (by omega) (by omega)) (fun i hi => mI 161 i (by omega)), Or.inl ?_, g.2.2.2.2.2.2⟩
    · simp [sI_1]
    · simp [sI_1]
    · simp [sI_1]
    · simp [sI_1]
    · simp [sI_1]
    · simp [sI_1]
  · rw [hl]
    exact x.move hn (fun k i hk => hI k i (by omega) (by omega) (by omega)) rfl (fun k i hk => mI k i (by omega))
end DD
