/-! one change more -/
theorem GI.more {σ σ' M M' : gS} {n T G V U h sz dp B : Nat} {ag : Nat → Nat} (g : GI σ M n T G V U h sz dp B ag) (hn : n < 20)
    (hI : ∀ k i, k < 161 → k ≠ 5 + n → ¬ (k = 1 ∧ (i = 3 ∨ i = 4)) → k ≠ 4 → σ'.1 k i = σ.1 k i)
    (hJ : ∀ k, k < 161 → k ≠ 5 + n → k ≠ 4 → σ'.2.1 k = σ.2.1 k) (hl : σ'.2.2 = σ.2.2)
    (mI : ∀ k x, ¬ (162 ≤ k ∧ k ≤ 168 ∧ x = n) → ¬ (k = 161 ∧ x = 0) → M'.1 k x = M.1 k x)
    (mJ : ∀ k x, ¬ ((k = 169 ∨ k = 170) ∧ x = n) → M'.2.1 k x = M.2.1 k x)
    (h14 : σ'.1 1 4 = iN (n + 1)) (m0 : M'.1 161 0 = iN (n + 1)) (hch : RCh σ' M' n ∧ σ'.1 (5 + n) 0 = iN n ∧ σ'.1 (5 + n) 4 = M'.1 167 n)
    (hpar : M'.1 163 n = iO (par M' n) ∧ ∀ q, par M' n = some q → q < n) (h164 : M'.1 164 n = iN 0)
    (hdg : d9 (M'.2.1 169 n) ∧ d9 (M'.2.1 170 n) ∧ M'.2.1 170 n &&& gMask (M'.1 168 n) = M'.2.1 170 n)
    (hF : FO σ' M' (n + 1) T G sz dp h) (hST : ST σ' M' (n + 1) T G V h sz dp) : GI σ' M' (n + 1) T G V U h sz dp B ag := by
  obtain ⟨⟨⟨⟨⟨a1, a2, a3⟩, ⟨b1, b2⟩, ⟨c1, c2, c3⟩, d, ⟨g1, g2, g3⟩, e178⟩, hh, h5, h6⟩, ⟨q1, q2, q3, q4⟩, ⟨ch1, ch2⟩, a4, ⟨t1, t2, t3, t4, t5⟩, a6, a7, a8, a9, a10, a11⟩, ti, dg, uo, sc, st, hag⟩ := g
  have hT := ti.1
  have k178 : ∀ a, M'.1 178 a = M.1 178 a := fun a => mI 178 a (by omega) (by omega)
  have v178 : ∀ a, vN M' 178 a = vN M 178 a := fun a => by unfold vN; rw [k178]
  have t' : TI σ' M' T V U B ag := ti.same (Nat.le_refl B) (fun k hk => funext (fun i => hI k i (by omega) (by omega) (by omega) (by omega))) (fun k hk => hJ k (by omega) (by omega) (by omega)) hl (mI 161 4 (by omega) (by omega)) (fun k hk => funext (fun i => mI k i (by omega) (by omega))) (fun k hk => funext (fun i => mJ k i (by omega)))
  have ecn : ∀ v, 2 ≤ v ∧ v ≤ 5 → cnS M' (n + 1) v = cnS M n v := fun v hv => by
    have e1 : cnS M' (n + 1) v = cnS M' n v + (if decide (M'.1 164 n = iN v) = true then 1 else 0) := rfl
    have e2 : cnS M' n v = cnS M n v := sCnt_congr n (fun c hc => by rw [mI 164 c (by omega) (by omega)])
    rw [e1, h164, decide_eq_false (show ¬ iN 0 = iN v by rw [iN_eq (by omega) (by omega)]; omega), e2]
    rfl
  have epar : ∀ c, c < n → par M' c = par M c := fun c hc => par_fr (mI 163 c (by omega) (by omega))
  have hpo : parOK M' (n + 1) := fun c hc => by
    by_cases e : c = n
    · rw [e]; exact hpar
    · rw [epar c (by omega), mI 163 c (by omega) (by omega)]; exact a3 c (by omega)
  have hLF : LF M' (n + 1) T G V := by
    refine ⟨⟨m0, by omega, hpo⟩, ⟨(mI 161 2 (by omega) (by omega)).trans b1, b2⟩, ⟨(mI 161 3 (by omega) (by omega)).trans c1, c2, fun k hk => ?_⟩, fun c hc => ?_, ⟨(mI 161 4 (by omega) (by omega)).trans g1, g2, fun j hj => ?_⟩, fun a ha => by rw [v178, k178]; exact e178 a ha⟩
    · have := c3 k hk
      unfold vN at this ⊢; rw [mI 173 k (by omega) (by omega)]; exact this
    · by_cases e : c = n
      · rw [e]; exact ⟨hch.1.1.2.2, hch.1.1.2.1⟩
      · have := d c (by omega)
        unfold vN at this ⊢; rw [mI 162 c (by omega) (by omega)]; exact this
    · have := g3 j hj
      unfold vN at this ⊢; rw [mI 175 j (by omega) (by omega)]; exact this
  refine ⟨⟨⟨hLF, ⟨(mI 161 1 (by omega) (by omega)).trans hh.1, hh.2⟩, ⟨(mI 161 5 (by omega) (by omega)).trans h5.1, h5.2⟩, ⟨(mI 161 6 (by omega) (by omega)).trans h6.1, h6.2⟩⟩, ⟨fun c hc => ?_, fun c hc e1 q hq => ?_, by rw [ecn 2 (by omega)]; exact q3, fun a ha => by rw [ecn 3 (by omega), v178]; exact q4 a ha⟩, ⟨h14, fun c hc => ?_⟩, a4.rows (fun k i hk => hI k i (by omega) (by omega) (by omega) (by omega)) (fun k hk => hJ k (by omega) (by omega) (by omega)) (fun j _ => mI 172 _ (by omega) (by omega)) (funext (fun y => mI 173 y (by omega) (by omega))), ⟨(mI 161 1 (by omega) (by omega)).trans t1, t2, t3, (hI 151 1 (by omega) (by omega) (by omega) (by omega)).trans t4, fun j hj => ?_⟩, fun a ha => by rw [v178, hJ 160 (by omega) (by omega) (by omega)]; exact a6 a ha, ⟨(hI 109 0 (by omega) (by omega) (by omega) (by omega)).trans a7.1, (hI 109 1 (by omega) (by omega) (by omega) (by omega)).trans a7.2⟩, hF, by rw [hI 0 15 (by omega) (by omega) (by omega) (by omega), ecn 2 (by omega)]; exact a9, t'.2.2.2.2.2.2.1, fun q hq => (t'.2.2.2.1 q hq).1⟩, t', ⟨fun j hj => ?_, fun c hc => ?_⟩, uo.same (fun k hk => hJ k (by omega) (by omega) (by omega)) (fun y _ => k178 y) (fun j _ => mI 176 _ (by omega) (by omega)), sc.same (fun i hi => hI 0 i (by omega) (by omega) (by omega) (by omega)) (fun y hy => mI 161 y (by omega) (by omega)), hST, hag⟩
  · by_cases e : c = n
    · exact ⟨0, by omega, by rw [e]; exact h164⟩
    · rw [mI 164 c (by omega) (by omega)]; exact q1 c (by omega)
  · by_cases e : c = n
    · rw [e, h164] at e1; exact absurd e1 (by decide)
    · rw [mI 164 c (by omega) (by omega)] at e1
      rw [epar c (by omega)] at hq
      have hqc := (a3 c (by omega)).2 q hq
      rw [mI 164 q (by omega) (by omega)]
      exact q2 c (by omega) e1 q hq
  · by_cases e : c = n
    · rw [e]; exact hch
    · obtain ⟨r1, r2, r3⟩ := ch2 c (by omega)
      have sI' : ∀ i, σ'.1 (5 + c) i = σ.1 (5 + c) i := fun i => hI _ i (by omega) (by omega) (by omega) (by omega)
      refine ⟨?_, (sI' 0).trans r2, by rw [sI' 4, mI 167 c (by omega) (by omega)]; exact r3⟩
      unfold RCh chB chOK vN at r1 ⊢
      rw [sI' 1, sI' 2, sI' 3, sI' 5, sI' 10, sI' 11, sI' 12, hJ _ (by omega) (by omega) (by omega), mI 162 c (by omega) (by omega), mI 163 c (by omega) (by omega), mI 164 c (by omega) (by omega), mI 165 c (by omega) (by omega), mI 166 c (by omega) (by omega), mI 168 c (by omega) (by omega), mJ 169 c (by omega), mJ 170 c (by omega)]
      exact r1
  · rw [hJ 152 (by omega) (by omega) (by omega), mJ 171 j (by omega)]; exact t5 j hj
  · rw [mJ 171 j (by omega)]; exact dg.1 j hj
  · by_cases e : c = n
    · rw [e]; exact hdg
    · rw [mJ 169 c (by omega), mJ 170 c (by omega), mI 168 c (by omega) (by omega)]; exact dg.2 c (by omega)
