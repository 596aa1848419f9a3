/-! the relations carried over what touches little of them -/
theorem FO.move {σ σ' M M' : gS} {n T G sz dp h : Nat} (hF : FO σ M n T G sz dp h) (hn : n ≤ 20) (hp : parOK M n) (h93 : σ'.1 109 3 = σ.1 109 3) (hI : ∀ k i, ((5 ≤ k ∧ k < 65 ∧ i = 13) ∨ (110 ≤ k ∧ k < 118)) → σ'.1 k i = σ.1 k i) (hJ : ∀ k, (110 ≤ k ∧ k < 118) → σ'.2.1 k = σ.2.1 k) (hc : Cg M M' n T G 0) (ht : trT M' h = trT M h) : FO σ' M' n T G sz dp h := by
  rcases hF with e | ⟨e, e2⟩
  · exact Or.inl (h93.trans e)
  · refine Or.inr ⟨h93.trans e, ?_⟩
    obtain ⟨⟨o1, o2⟩, f, h3⟩ := e2.fr hn hI hJ
    refine ⟨⟨by rw [cg_ordM hc hp]; exact o1, fun j hj => ?_⟩, ?_, fun c hcn => ?_⟩
    · rw [cg_ordM hc hp] at hj ⊢; exact o2 j hj
    · rw [ht, cg_bat hc hp]
      obtain ⟨f1, f2, f3, f4, f5, f6⟩ := f
      refine ⟨f1, f2, f3, f4, f5, fun j hj => ?_⟩
      rw [cg_tree hc _ _ (fun c hcm => ?_)]
      · exact f6 j hj
      · obtain ⟨l, hl, hcl⟩ := List.mem_flatten.mp hcm
        exact (ordM_mem c (((batL_ok _ _ _).2 l (List.mem_of_mem_take hl)).2.2 c hcl)).1
    · intro e
      rw [cg_rqG hc hcn G (Nat.le_refl _)]; exact h3 c hcn ((hc.1 c hcn).1.2.2.1.symm.trans e)
theorem DI.cg {σ M M' : gS} {n T G V U h sz dp : Nat} {ag : Nat → Nat} (hd : DI σ M n T G V U h sz dp ag) (mI : ∀ k x, ((162 ≤ k ∧ k ≤ 168) ∨ k = 173 ∨ (k = 178 ∧ 6 ≤ x) ∨ (k = 161 ∧ (x < 4 ∨ x = 5 ∨ x = 6)) ∨ (k = 172 ∧ x - x / 12 * 12 = 0)) → M'.1 k x = M.1 k x) (mJ : ∀ k, 169 ≤ k ∧ k ≤ 171 → M'.2.1 k = M.2.1 k) : Cg M M' n T G 0 := ⟨fun c _ => ⟨⟨mI 162 c (by omega), mI 163 c (by omega), mI 164 c (by omega), mI 165 c (by omega), mI 166 c (by omega), mI 168 c (by omega)⟩, by rw [mJ 169 (by omega)], by rw [mJ 170 (by omega)]⟩, fun q _ => mI 172 _ (by omega), fun k _ => mI 173 k (by omega), fun j hj => absurd hj (Nat.not_lt_zero j), fun a _ => mI 178 _ (by omega)⟩
theorem DI.move {σ σ' M M' : gS} {n T G V U V' U' h sz dp : Nat} {ag ag' : Nat → Nat} (hd : DI σ M n T G V U h sz dp ag)
    (hI : ∀ k i, (k = 1 ∨ (5 ≤ k ∧ k < 65 ∧ i ≠ 13) ∨ k = 65 ∨ k = 70 ∨ (76 ≤ k ∧ k < 106 ∧ i = 2) ∨ k = 151 ∨ (k = 109 ∧ i < 3) ∨ (k = 0 ∧ i = 15)) → σ'.1 k i = σ.1 k i)
    (hJ : ∀ k, ((5 ≤ k ∧ k < 65) ∨ k = 71 ∨ k = 73 ∨ k = 75 ∨ k = 152 ∨ k = 160) → σ'.2.1 k = σ.2.1 k)
    (mI : ∀ k x, ((162 ≤ k ∧ k ≤ 168) ∨ k = 173 ∨ (k = 178 ∧ 6 ≤ x) ∨ (k = 161 ∧ (x < 4 ∨ x = 5 ∨ x = 6)) ∨ (k = 172 ∧ x - x / 12 * 12 = 0)) → M'.1 k x = M.1 k x) (mJ : ∀ k, 169 ≤ k ∧ k ≤ 171 → M'.2.1 k = M.2.1 k)
    (hV : M'.1 161 4 = iN V' ∧ V' ≤ 64 ∧ ∀ j, j < V' → M'.1 175 j = iN (vN M' 175 j) ∧ vN M' 175 j < 100000) (hrv : RCv σ' M' T V' U' ag') (hrk : ∀ q, q < T → RCk σ' M' ag' q) (hF : FO σ' M' n T G sz dp h) : DI σ' M' n T G V' U' h sz dp ag' := by
  obtain ⟨⟨⟨⟨a1, a2, a3⟩, ⟨b1, b2⟩, ⟨c1, c2, c3⟩, d, g, e178⟩, hh, h5, h6⟩, ⟨q1, q2, q3, q4⟩, ⟨ch1, ch2⟩, ⟨p1, p2, p3, p4⟩, ⟨t1, t2, t3, t4, t5⟩, a6, a7, a8, a9, a10, a11⟩ := hd
  have e162 : M'.1 162 = M.1 162 := funext (fun x => mI 162 x (by omega))
  have e163 : M'.1 163 = M.1 163 := funext (fun x => mI 163 x (by omega))
  have e164 : M'.1 164 = M.1 164 := funext (fun x => mI 164 x (by omega))
  have e165 : M'.1 165 = M.1 165 := funext (fun x => mI 165 x (by omega))
  have e166 : M'.1 166 = M.1 166 := funext (fun x => mI 166 x (by omega))
  have e167 : M'.1 167 = M.1 167 := funext (fun x => mI 167 x (by omega))
  have e168 : M'.1 168 = M.1 168 := funext (fun x => mI 168 x (by omega))
  have e173 : M'.1 173 = M.1 173 := funext (fun x => mI 173 x (by omega))
  have ecn : ∀ v, cnS M' n v = cnS M n v := fun v => by unfold cnS; rw [e164]
  have epar : ∀ c, par M' c = par M c := fun c => par_fr (by rw [e163])
  have v8 : ∀ a, vN M' 178 (6 + a) = vN M 178 (6 + a) := fun a => by unfold vN; rw [mI 178 (6 + a) (by omega)]
  refine ⟨⟨⟨⟨(mI 161 0 (by omega)).trans a1, a2, a3.fr (fun c _ => by rw [e163])⟩, ⟨(mI 161 2 (by omega)).trans b1, b2⟩, ⟨(mI 161 3 (by omega)).trans c1, c2, fun k hk => ?_⟩, fun c hc => ?_, hV, fun a ha => ?_⟩, ⟨(mI 161 1 (by omega)).trans hh.1, hh.2⟩, ⟨(mI 161 5 (by omega)).trans h5.1, h5.2⟩, ⟨(mI 161 6 (by omega)).trans h6.1, h6.2⟩⟩, ⟨fun c hc => ?_, fun c hc h1 q hq => ?_, by rw [ecn]; exact q3, fun a ha => by rw [ecn, v8]; exact q4 a ha⟩, ⟨(hI 1 4 (by omega)).trans ch1, fun c hc => ?_⟩, ⟨⟨(hI 65 5 (by omega)).trans p1.1, p1.2⟩, ⟨(hI 70 1 (by omega)).trans p2.1, p2.2⟩, fun j hj => ?_, fun k hk => ?_⟩, ⟨(mI 161 1 (by omega)).trans t1, t2, t3, (hI 151 1 (by omega)).trans t4, fun j hj => ?_⟩, fun a ha => ?_, ⟨(hI 109 0 (by omega)).trans a7.1, (hI 109 1 (by omega)).trans a7.2⟩, hF, ?_, hrv, hrk⟩
  · have := c3 k hk
    unfold vN at this ⊢; rw [e173]; exact this
  · have := d c hc
    unfold vN at this ⊢; rw [e162]; exact this
  · rw [v8, mI 178 (6 + a) (by omega)]; exact e178 a ha
  · rw [e164]; exact q1 c hc
  · rw [e164] at h1 ⊢; rw [epar] at hq; exact q2 c hc h1 q hq
  · obtain ⟨r1, r2, r3⟩ := ch2 c hc
    refine ⟨?_, (hI _ 0 (by omega)).trans r2, by rw [hI _ 4 (by omega), e167]; exact r3⟩
    unfold RCh chB chOK vN at r1 ⊢
    rw [hI _ 1 (by omega), hI _ 2 (by omega), hI _ 3 (by omega), hI _ 5 (by omega), hI _ 10 (by omega), hI _ 11 (by omega), hI _ 12 (by omega), hJ _ (by omega), e162, e163, e164, e165, e166, e168, mJ 169 (by omega), mJ 170 (by omega)]
    exact r1
  · rw [hI _ 2 (by omega), mI 172 (12 * j) (by omega)]; exact p3 j hj
  · have := p4 k hk
    unfold vN at this ⊢
    rw [hJ 71 (by omega), hJ 73 (by omega), hJ 75 (by omega), e173]; exact this
  · rw [hJ 152 (by omega), mJ 171 (by omega)]; exact t5 j hj
  · rw [hJ 160 (by omega), v8]; exact a6 a ha
  · rw [hI 0 15 (by omega), ecn]; exact a9
/-- runs told, carried over what touches nothing of them -/
theorem TI.same {σ σ' M M' : gS} {T V U B B' : Nat} {ag : Nat → Nat} (h : TI σ M T V U B ag) (hb : B ≤ B') (hI : ∀ k, ((76 ≤ k ∧ k < 109) ∨ (144 ≤ k ∧ k < 150)) → σ'.1 k = σ.1 k) (hJ : ∀ k, ((76 ≤ k ∧ k < 109) ∨ (144 ≤ k ∧ k < 150)) → σ'.2.1 k = σ.2.1 k) (hl : σ'.2.2 = σ.2.2) (m4 : M'.1 161 4 = M.1 161 4) (mI : ∀ k, k = 172 ∨ k = 175 ∨ k = 176 → M'.1 k = M.1 k) (mJ : ∀ k, k = 174 ∨ k = 177 → M'.2.1 k = M.2.1 k) : TI σ' M' T V U B' ag := by
  obtain ⟨hT, hVM, hen, hck, hmc, hlu, hrv, hoth⟩ := h
  have e172 := mI 172 (by omega)
  have e175 := mI 175 (by omega)
  have e176 := mI 176 (by omega)
  have e174 := mJ 174 (by omega)
  have e177 := mJ 177 (by omega)
  have ek : ∀ q t, gKey M' q t = gKey M q t := fun q t => gKey_same (by rw [e172])
  have ev : ∀ q t, sVer M' V q t = sVer M V q t := fun q t => by
    rw [sVer_ev, sVer_ev, ek]
    unfold ev vN
    rw [sEnt_congr e174 V, e175]
  refine ⟨hT, m4.trans hVM, fun i hi => ?_, fun q hq => (hck q hq).fr (hI _ (by omega)) (by rw [hI _ (by omega)]) (hJ _ (by omega)) (hJ _ (by omega)) (fun x _ _ => by rw [e172]) (sumR_congr V (fun i _ => ⟨by rw [e174], by rw [e175]⟩)) hb, fun j hj => (hmc j hj).fr (hI _ (by omega)) (by rw [hJ _ (by omega)]) (fun x _ _ => by rw [e176]) (by rw [e177]) (fun q _ => by rw [e172]) (fun q _ _ _ hz => by rw [ev]; exact hz), fun j1 j2 w1 w2 w3 q w4 w5 w6 w7 w8 => ?_, (hrv.places hl (hI 106 (by omega)) (hJ 107 (by omega)) (hI 108 (by omega))).fr2 (fun q _ => by rw [e172]) (fun j _ => by rw [e174]) (fun j _ => by rw [e175]), fun j w1 w2 => by rw [hI _ (by omega)]; exact hoth j w1 w2⟩
  · obtain ⟨x1, x2, q, t, x3, x4⟩ := hen i hi
    refine ⟨?_, ?_, q, t, x3, ?_⟩
    · unfold vN at x1 ⊢; rw [e175]; exact x1
    · unfold vN at x2 ⊢; rw [e175]; exact x2
    · rw [e174, ek]; exact x4
  · rw [e176] at w5 w6 w7 w8
    rw [ek, ek, e177]
    exact hlu j1 j2 w1 w2 w3 q w4 w5 w6 w7 w8
