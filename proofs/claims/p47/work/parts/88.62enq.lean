/-! a change is queued, on both sides -/
def eqC (σ : gS) (d : Nat) (pc : Int32) : gS := sI (sI (sI (sI (sI (sI σ (5 + d) 3 (iN 1)) (5 + d) 10 pc) (5 + d) 11 (σ.1 109 2)) 109 2 (σ.1 109 2 + iN 1)) 109 3 (iN 0)) 0 18 (iN 0)
def eqM (M : gS) (d : Nat) (pl : Int32) : gS := sI (sI (sI (sI M 164 d (iN 1)) 165 d pl) 166 d (M.1 161 7)) 161 7 (M.1 161 7 + iN 1)
theorem eqC_I {σ : gS} {d : Nat} {pc : Int32} (k i : Nat) (h1 : ¬ (k = 5 + d ∧ (i = 3 ∨ i = 10 ∨ i = 11))) (h2 : ¬ (k = 109 ∧ (i = 2 ∨ i = 3))) (h3 : ¬ (k = 0 ∧ i = 18)) : (eqC σ d pc).1 k i = σ.1 k i := by
  unfold eqC
  rw [sI_1, if_neg (by omega), sI_1, if_neg (by omega), sI_1, if_neg (by omega), sI_1, if_neg (by omega), sI_1, if_neg (by omega), sI_1, if_neg (by omega)]
theorem eqC_v {σ : gS} {d : Nat} {pc : Int32} (hd : d < 60) : (eqC σ d pc).1 (5 + d) 3 = iN 1 ∧ (eqC σ d pc).1 (5 + d) 10 = pc ∧ (eqC σ d pc).1 (5 + d) 11 = σ.1 109 2 ∧ (eqC σ d pc).1 109 2 = σ.1 109 2 + iN 1 ∧ (eqC σ d pc).1 109 3 = iN 0 ∧ (eqC σ d pc).1 0 18 = iN 0 := by
  unfold eqC
  refine ⟨?_, ?_, ?_, ?_, ?_, ?_⟩
  · rw [sI_1, if_neg (by omega), sI_1, if_neg (by omega), sI_1, if_neg (by omega), sI_1, if_neg (by omega), sI_1, if_neg (by omega), sI_1, if_pos ⟨rfl, rfl⟩]
  · rw [sI_1, if_neg (by omega), sI_1, if_neg (by omega), sI_1, if_neg (by omega), sI_1, if_neg (by omega), sI_1, if_pos ⟨rfl, rfl⟩]
  · rw [sI_1, if_neg (by omega), sI_1, if_neg (by omega), sI_1, if_neg (by omega), sI_1, if_pos ⟨rfl, rfl⟩]
  · rw [sI_1, if_neg (by omega), sI_1, if_neg (by omega), sI_1, if_pos ⟨rfl, rfl⟩]
  · rw [sI_1, if_neg (by omega), sI_1, if_pos ⟨rfl, rfl⟩]
  · rw [sI_1, if_pos ⟨rfl, rfl⟩]
theorem eqM_I {M : gS} {d : Nat} {pl : Int32} (k x : Nat) (h1 : ¬ (164 ≤ k ∧ k ≤ 166 ∧ x = d)) (h2 : ¬ (k = 161 ∧ x = 7)) : (eqM M d pl).1 k x = M.1 k x := by
  unfold eqM
  rw [sI_1, if_neg (by omega), sI_1, if_neg (by omega), sI_1, if_neg (by omega), sI_1, if_neg (by omega)]
theorem eqM_v {M : gS} {d : Nat} {pl : Int32} : (eqM M d pl).1 164 d = iN 1 ∧ (eqM M d pl).1 165 d = pl ∧ (eqM M d pl).1 166 d = M.1 161 7 ∧ (eqM M d pl).1 161 7 = M.1 161 7 + iN 1 := by
  unfold eqM
  refine ⟨?_, ?_, ?_, ?_⟩
  · rw [sI_1, if_neg (by omega), sI_1, if_neg (by omega), sI_1, if_neg (by omega), sI_1, if_pos ⟨rfl, rfl⟩]
  · rw [sI_1, if_neg (by omega), sI_1, if_neg (by omega), sI_1, if_pos ⟨rfl, rfl⟩]
  · rw [sI_1, if_neg (by omega), sI_1, if_pos ⟨rfl, rfl⟩]
  · rw [sI_1, if_pos ⟨rfl, rfl⟩]
theorem GI.enq {σ M : gS} {n T G V U h sz dp B d : Nat} {ag : Nat → Nat} {pc pl : Int32} (g : GI σ M n T G V U h sz dp B ag) (hd : d < n) (h0 : M.1 164 d = iN 0) (hpar : ∀ q, par M d = some q → M.1 164 q = iN 1 ∨ M.1 164 q = iN 2) (ht : σ.1 109 2 = M.1 161 7) (hpr : (σ.1 (5 + d) 12 = iN 1 ∧ pl = iN 4 ∧ pc = iN 0) ∨ (σ.1 (5 + d) 12 = iN 0 ∧ pl = pc ∧ pc < iN 4)) : GI (eqC σ d pc) (eqM M d pl) n T G V U h sz dp B ag := by
  obtain ⟨⟨⟨hF, hh, h5, h6⟩, ⟨q1, q2, q3, q4⟩, ⟨ch1, ch2⟩, a4, ⟨t1, t2, t3, t4, t5⟩, a6, a7, a8, a9, a10, a11⟩, ti, hdg, uo, sc, st, hag⟩ := g
  have hn := hF.1.2.1
  have hT := ti.1
  have cv := eqC_v (σ := σ) (pc := pc) (show d < 60 by omega)
  have mv := eqM_v (M := M) (d := d) (pl := pl)
  have cI : ∀ k i, ¬ (k = 5 + d ∧ (i = 3 ∨ i = 10 ∨ i = 11)) → ¬ (k = 109 ∧ (i = 2 ∨ i = 3)) → ¬ (k = 0 ∧ i = 18) → (eqC σ d pc).1 k i = σ.1 k i := fun k i => eqC_I k i
  have mI : ∀ k x, ¬ (164 ≤ k ∧ k ≤ 166 ∧ x = d) → ¬ (k = 161 ∧ x = 7) → (eqM M d pl).1 k x = M.1 k x := fun k x => eqM_I k x
  have t' : TI (eqC σ d pc) (eqM M d pl) T V U B ag := ti.same (Nat.le_refl B) (fun k hk => funext (fun i => cI k i (by omega) (by omega) (by omega))) (fun _ _ => rfl) rfl (mI 161 4 (by omega) (by omega)) (fun k hk => funext (fun i => mI k i (by omega) (by omega))) (fun _ _ => rfl)
  have m164 : ∀ c, c ≠ d → (eqM M d pl).1 164 c = M.1 164 c := fun c hc => mI 164 c (by omega) (by omega)
  have ecn : ∀ v, 2 ≤ v ∧ v ≤ 5 → cnS (eqM M d pl) n v = cnS M n v := fun v hv => by
    unfold cnS
    refine sCnt_congr n (fun c hc => ?_)
    by_cases e : c = d
    · rw [e, mv.1, h0, decide_eq_false (show ¬ iN 1 = iN v by rw [iN_eq (by omega) (by omega)]; omega), decide_eq_false (show ¬ iN 0 = iN v by rw [iN_eq (by omega) (by omega)]; omega)]
    · rw [m164 c e]
  have epar : ∀ c, par (eqM M d pl) c = par M c := fun c => par_fr (mI 163 c (by omega) (by omega))
  have v178 : ∀ a, vN (eqM M d pl) 178 a = vN M 178 a := fun a => by unfold vN; rw [mI 178 a (by omega) (by omega)]
  refine ⟨⟨⟨hF.fr (mI 161 0 (by omega) (by omega)) (mI 161 2 (by omega) (by omega)) (mI 161 3 (by omega) (by omega)) (mI 161 4 (by omega) (by omega)) (fun c _ => mI 163 c (by omega) (by omega)) (fun c _ => mI 162 c (by omega) (by omega)) (fun k _ => mI 173 k (by omega) (by omega)) (fun j _ => mI 175 j (by omega) (by omega)) (fun a ha => by rw [v178, mI 178 (6 + a) (by omega) (by omega)]; exact hF.2.2.2.2.2 a ha), ⟨(mI 161 1 (by omega) (by omega)).trans hh.1, hh.2⟩, ⟨(mI 161 5 (by omega) (by omega)).trans h5.1, h5.2⟩, ⟨(mI 161 6 (by omega) (by omega)).trans h6.1, h6.2⟩⟩, ⟨fun c hc => ?_, fun c hc e1 q hq => ?_, by rw [ecn 2 (by omega)]; exact q3, fun a ha => by rw [ecn 3 (by omega), v178]; exact q4 a ha⟩, ⟨(cI 1 4 (by omega) (by omega) (by omega)).trans ch1, fun c hc => ?_⟩, a4.rows (fun k i hk => cI k i (by omega) (by omega) (by omega)) (fun _ _ => rfl) (fun j _ => mI 172 _ (by omega) (by omega)) (funext (fun y => mI 173 y (by omega) (by omega))), ⟨(mI 161 1 (by omega) (by omega)).trans t1, t2, t3, (cI 151 1 (by omega) (by omega) (by omega)).trans t4, t5⟩, fun a ha => by rw [v178]; exact a6 a ha, ⟨(cI 109 0 (by omega) (by omega) (by omega)).trans a7.1, (cI 109 1 (by omega) (by omega) (by omega)).trans a7.2⟩, Or.inl cv.2.2.2.2.1, by rw [cI 0 15 (by omega) (by omega) (by omega), ecn 2 (by omega)]; exact a9, t'.2.2.2.2.2.2.1, fun q hq => (t'.2.2.2.1 q hq).1⟩, t', hdg.same rfl (funext (fun y => mI 168 y (by omega) (by omega))), uo.same (fun _ _ => rfl) (fun y _ => mI 178 y (by omega) (by omega)) (fun j _ => mI 176 _ (by omega) (by omega)), sc.same (fun i hi => cI 0 i (by omega) (by omega) (by omega)) (fun y hy => mI 161 y (by omega) (by omega)), Or.inl cv.2.2.2.2.2, hag⟩
  · by_cases e : c = d
    · exact ⟨1, by omega, by rw [e]; exact mv.1⟩
    · rw [m164 c e]; exact q1 c hc
  · rw [epar] at hq
    have hqd : q ≠ d → (M.1 164 q = iN 1 ∨ M.1 164 q = iN 2) → ((eqM M d pl).1 164 q = iN 1 ∨ (eqM M d pl).1 164 q = iN 2) := fun hne hh => by rw [m164 q hne]; exact hh
    by_cases eq : q = d
    · rw [eq]; exact Or.inl mv.1
    · refine hqd eq ?_
      by_cases e : c = d
      · rw [e] at hq; exact hpar q hq
      · rw [m164 c e] at e1; exact q2 c hc e1 q hq
  · obtain ⟨r1, r2, r3⟩ := ch2 c hc
    by_cases e : c = d
    · subst e
      refine ⟨?_, (cI _ 0 (by omega) (by omega) (by omega)).trans r2, by rw [cI _ 4 (by omega) (by omega) (by omega), mI 167 c (by omega) (by omega)]; exact r3⟩
      obtain ⟨⟨w1, w2, w3⟩, w4, w5, ⟨w6, w7, w8, w9⟩, x1, x2, x3, x4⟩ := r1
      have e162 : vN (eqM M c pl) 162 c = vN M 162 c := by unfold vN; rw [mI 162 c (by omega) (by omega)]
      refine ⟨⟨?_, by rw [e162]; exact w2, by rw [e162, mI 162 c (by omega) (by omega)]; exact w3⟩, cv.1.trans mv.1.symm, ?_, ⟨?_, w7, w8, ?_⟩, ?_, ?_, ?_, ?_⟩
      · rw [e162, cI _ 1 (by omega) (by omega) (by omega)]; exact w1
      · rw [cI _ 5 (by omega) (by omega) (by omega), mI 168 c (by omega) (by omega)]; exact w5
      · rw [mI 168 c (by omega) (by omega)]; exact w6
      · rw [cI _ 2 (by omega) (by omega) (by omega), mI 163 c (by omega) (by omega)]; exact w9
      · rw [cI _ 2 (by omega) (by omega) (by omega), mI 163 c (by omega) (by omega)]; exact x1
      · rw [cI _ 12 (by omega) (by omega) (by omega)]; exact x2
      · rw [cv.2.2.1, mv.2.2.1]; exact ht
      · rw [cI _ 12 (by omega) (by omega) (by omega), mv.2.1, cv.2.1]
        exact hpr
    · refine ⟨?_, (cI _ 0 (by omega) (by omega) (by omega)).trans r2, by rw [cI _ 4 (by omega) (by omega) (by omega), mI 167 c (by omega) (by omega)]; exact r3⟩
      unfold RCh chB chOK vN at r1 ⊢
      rw [cI _ 1 (by omega) (by omega) (by omega), cI _ 2 (by omega) (by omega) (by omega), cI _ 3 (by omega) (by omega) (by omega), cI _ 5 (by omega) (by omega) (by omega), cI _ 10 (by omega) (by omega) (by omega), cI _ 11 (by omega) (by omega) (by omega), cI _ 12 (by omega) (by omega) (by omega), mI 162 c (by omega) (by omega), mI 163 c (by omega) (by omega), mI 164 c (by omega) (by omega), mI 165 c (by omega) (by omega), mI 166 c (by omega) (by omega), mI 168 c (by omega) (by omega)]
      exact r1
