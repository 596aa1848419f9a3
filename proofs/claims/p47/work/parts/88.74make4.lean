/-! deeds: a change is made -/
section DD
variable {N : Nat} {xs : Nat → Int32} {Lx : Nat} {rec221 : (gS × Int32 × Int32) → Option Int32} {x20 x21 x24 x27 x28 x29 : Int32} {x25 x30 : Int64} {s : gS} {c V U B A : Nat}
theorem sI0 {σ : gS} {k j : Nat} {v : Int32} (h : k ≠ 161) : (sI σ k j v).1 161 0 = σ.1 161 0 := by rw [sI_1, if_neg (by omega)]
theorem sJ0 {σ : gS} {k j : Nat} {v : Int64} : (sJ σ k j v).1 161 0 = σ.1 161 0 := rfl
theorem L_580 {n f g v w : Nat} {xs0 : Int32} (h0 : s.1 161 0 = iN n) (hn : n < 20) (hf : f < 4) (hg : g < 4) : fL_law_580 N xs Lx rec221 s x21 x24 x28 x29 x30 (iN f) (iN g) (iN v) (iN w) xs0 = fL_law_672 N xs Lx rec221 (sJ (sJ (sI (sI (sI s 162 n x28) 163 n x29) 168 n (mk1 f g)) 169 n x30) 170 n (e1k f v ||| e1k g w)) xs0 x21 x24 x29 (ek1 f g v w) (iN n) := by
  have hc : (iN n < (0 : Int32) ∨ 24 ≤ n) = False := eq_false (gj (show n < 24 by omega) (by decide))
  have hcl : (iN n).toNatClampNeg = n := iN_cl (by omega)
  have e170 : ∀ (σ : gS) (x : Int64), (sJ σ 170 n x).2.1 170 n = x := fun σ x => by rw [sJ_2, if_pos ⟨rfl, rfl⟩]
  unfold fL_law_580
  simp (disch := decide) only [sI0, sJ0, h0, hc, if_false, hcl]
  by_cases e : f = g
  · rw [if_pos (show iN f = iN g by rw [e])]
    unfold ek1
    rw [if_pos e]
    rfl
  · rw [if_neg (show ¬ iN f = iN g by rw [iN_eq (by omega) (by omega)]; exact e), e170]
    unfold ek1
    rw [if_neg e]
    rfl
theorem L_672 {n a f g v w : Nat} {p : Option Nat} {t : Int64} (h0 : s.1 161 0 = iN n) (hn : n < 20) : fL_law_672 N xs Lx rec221 (sJ (sJ (sI (sI (sI s 162 n (iN a)) 163 n (iO p)) 168 n (mk1 f g)) 169 n t) 170 n (e1k f v ||| e1k g w)) 1 x21 x24 (iO p) (ek1 f g v w) (iN n) = (if (x24 - x24 / 5 * 5) ≤ 0 then fL_law_2698 N xs Lx rec221 (mkM s n a (iO p) (mk1 f g) t (ek1 f g v w)) 1 x21 x24 else if iO p < 0 then fL_law_713 N xs Lx rec221 (mkM s n a (iO p) (mk1 f g) t (ek1 f g v w)) x21 x24 else if iO p < 0 ∨ 24 ≤ (iO p).toNatClampNeg then none else if (mkM s n a (iO p) (mk1 f g) t (ek1 f g v w)).1 164 (iO p).toNatClampNeg = 1 then fL_law_713 N xs Lx rec221 (mkM s n a (iO p) (mk1 f g) t (ek1 f g v w)) x21 x24 else fL_law_2698 N xs Lx rec221 (mkM s n a (iO p) (mk1 f g) t (ek1 f g v w)) 1 x21 x24) := by
  have hc : (iN n < (0 : Int32) ∨ 24 ≤ n) = False := eq_false (gj (show n < 24 by omega) (by decide))
  have hcl : (iN n).toNatClampNeg = n := iN_cl (by omega)
  have e1 : iN n + (1 : Int32) = iN (n + 1) := iN_add _ 1
  unfold fL_law_672 fL_law_801
  have h10 : ((1 : Int32) = 0) = False := eq_false (by decide)
  have em : sI (sI (sJ (sJ (sI (sI (sI s 162 n (iN a)) 163 n (iO p)) 168 n (mk1 f g)) 169 n t) 170 n (ek1 f g v w)) 167 n (-1)) 161 0 (iN (n + 1)) = mkM s n a (iO p) (mk1 f g) t (ek1 f g v w) := rfl
  simp (disch := decide) only [hcl, sJ_sJ, sI0, sJ0, h0, hc, if_false, h10, e1, em]
theorem L_713 {n c p : Nat} {M : gS} (h0 : s.1 161 0 = iN (n + 1)) (hn : n < 20) (hc : c < 100000000) (hp : c / 5 - c / 5 / 4 * 4 = p) : fL_law_713 N xs Lx rec221 s x21 (iN c) = ((fL_does N (eqM s n (iN p)) 4 (iN n) (iN p) 0).bind fun r => if r.1 < 0 then fL_law_2698 N xs Lx rec221 r.2 0 x21 (iN c) else fL_law_2698 N xs Lx rec221 r.2 1 x21 (iN c)) := by
  have hp3 : p ≤ 3 := by omega
  have ep : (iN c / (5 : Int32)) - (iN c / (5 : Int32)) / 4 * 4 = iN p := by
    rw [← hp, show iN c / (5 : Int32) = iN (c / 5) from iN_div (b := 5) (by omega) (by omega)]
    exact iN_rem (k := 4) (by omega) (by omega)
  have en : iN (n + 1) - (1 : Int32) = iN n := iN_sub (b := 1) (by omega) (by omega)
  have hcf : (iN n < (0 : Int32) ∨ 24 ≤ n) = False := eq_false (gj (show n < 24 by omega) (by decide))
  have hcl : (iN n).toNatClampNeg = n := iN_cl (by omega)
  have hle : (iN p ≤ (3 : Int32)) = True := eq_true (by rw [show (3 : Int32) = iN 3 from rfl, iN_le (by omega) (by omega)]; omega)
  have ep0 : iN p - (0 : Int32) = iN p := iN_sub (b := 0) (by omega) (by omega)
  have e7 : ∀ (σ : gS) (k : Nat) (v : Int32), k ≠ 161 → (sI σ k n v).1 161 7 = σ.1 161 7 := fun σ k v h => by rw [sI_1, if_neg (by omega)]
  have e70 : ∀ (σ : gS) (v : Int32), (sI σ 161 7 v).1 161 0 = σ.1 161 0 := fun σ v => by rw [sI_1, if_neg (by omega)]
  have e165 : ∀ (σ : gS) (u w : Int32), (sI (sI (sI σ 165 n (iN p)) 166 n u) 161 7 w).1 165 n = iN p := fun σ u w => by rw [sI_1, if_neg (by omega), sI_1, if_neg (by omega), sI_1, if_pos ⟨rfl, rfl⟩]
  unfold fL_law_713 fL_law_750 fL_law_799 fL_law_801
  simp (disch := decide) only [sI0, h0, en, hcf, if_false, hcl, ep, hle, if_true, ep0, e7, e70, e165]
  rfl
/-- the calls are through: the law writes the change down -/
theorem D_made {n T G h sz dp a f g v w : Nat} {p : Option Nat} {t : Int64} {ag : Nat → Nat} (hN : 100 ≤ N) (hc : c < 100000000) (gi0 : GI s (lawOf s) n T G V U h sz dp B ag) (x : XI s (lawOf s) n T G) (hA : ∀ q, ag q ≤ A) (hn : n < 20) (ha : a < 8) (hf : f < 4) (hg : g < 4) (hv : v < 10) (hw : w < 10) (hfg : f = g → v = w) (hp : ∀ q, p = some q → q < n) (ht : d9 t) :
    ∃ s', fL_law_580 N xs Lx rec221 (mkS s n a f g v w (iO p) t) x21 (iN c) (iN a) (iO p) t (iN f) (iN g) (iN v) (iN w) 1 = fL_law_2698 N xs Lx rec221 s' 1 x21 (iN c) ∧ DR s' V U B A := by
  have hl4 : lawOf (mkS s n a f g v w (iO p) t) = lawOf s := mkS_law hn
  obtain ⟨g1, x1⟩ := gi0.made (M := lawOf s) x hn ha hf hg hv hw hfg hp ht
  have h04 : (mkS s n a f g v w (iO p) t).1 161 0 = iN n := by
    rw [mkS_I 161 0 (by omega) (by omega) (by omega), ← lw0 s (by omega)]; exact gi0.1.1.1.1.1
  have hT := g1.2.1.1
  generalize mkS s n a f g v w (iO p) t = s4 at *
  have hl5 : lawOf (mkM s4 n a (iO p) (mk1 f g) t (ek1 f g v w)) = mkM (lawOf s) n a (iO p) (mk1 f g) t (ek1 f g v w) := by rw [mkM_law, hl4]
  have mv := mkM_v (M := lawOf s) (n := n) (a := a) (p := iO p) (m := mk1 f g) (t := t) (e := ek1 f g v w)
  have h164 : (mkM (lawOf s) n a (iO p) (mk1 f g) t (ek1 f g v w)).1 164 n = iN 0 := by
    rw [mkM_I2 164 n (by omega)]; exact (x.2.2.2.1 n (Nat.le_refl n) (by omega)).1
  have hpar : par (mkM (lawOf s) n a (iO p) (mk1 f g) t (ek1 f g v w)) n = p := par_iO mv.2.2.1 (fun q hq => by have := hp q hq; omega)
  have h05 : (mkM s4 n a (iO p) (mk1 f g) t (ek1 f g v w)).1 161 0 = iN (n + 1) := mkM_v.1
  have sm : SmL s4 (mkM s4 n a (iO p) (mk1 f g) t (ek1 f g v w)) := mkM_sm
  rw [L_580 h04 hn hf hg, L_672 h04 hn]
  generalize mkM s4 n a (iO p) (mk1 f g) t (ek1 f g v w) = s5 at *
  generalize mkM (lawOf s) n a (iO p) (mk1 f g) t (ek1 f g v w) = M' at *
  have g2 := g1.smL sm
  have x2 := x1.smL (by omega) hT sm
  have done : DR s5 V U B A := DR.of ⟨n + 1, T, G, h, sz, dp, ag, by rw [hl5]; exact g2, by rw [hl5]; exact x2, hA⟩
  have e5 : iN c - iN c / (5 : Int32) * 5 = iN (c - c / 5 * 5) := iN_rem (k := 5) (by omega) (by omega)
  rw [e5]
  by_cases c5 : c - c / 5 * 5 = 0
  · rw [if_pos (by rw [c5]; decide)]
    exact ⟨s5, rfl, done⟩
  rw [if_neg (show ¬ iN (c - c / 5 * 5) ≤ (0 : Int32) by rw [show (0 : Int32) = iN 0 from rfl, iN_le (by omega) (by omega)]; omega)]
  obtain ⟨pr, hpr⟩ : ∃ pr, c / 5 - c / 5 / 4 * 4 = pr := ⟨_, rfl⟩
  have hpr3 : pr ≤ 3 := by omega
  -- queued at once
  have fin : (∀ q, par M' n = some q → M'.1 164 q = iN 1 ∨ M'.1 164 q = iN 2) → ∃ s', fL_law_713 N xs Lx rec221 s5 x21 (iN c) = fL_law_2698 N xs Lx rec221 s' 1 x21 (iN c) ∧ DR s' V U B A := fun hq => by
    have sm6 : SmL s5 (eqM s5 n (iN pr)) := SmL.eqM
    obtain ⟨j, σ', hj, e1, g3, x3⟩ := Q_ok2 (N := N) (s := eqM s5 n (iN pr)) (M := M') hN (show n < n + 1 by omega) hpr3 (by rw [eqM_law, hl5]) (g2.smL sm6) (x2.smL (by omega) hT sm6) h164 hq
    rw [L_713 (M := M') h05 hn hc hpr, e1, Option.bind_some]
    dsimp only
    rw [if_neg (show ¬ iN j < (0 : Int32) by rw [i_0, iN_lt (by omega) (by omega)]; omega)]
    exact ⟨σ', rfl, DR.of ⟨n + 1, T, G, h, sz, dp, ag, g3, x3, hA⟩⟩
  cases p with
  | none =>
    rw [if_pos (show iO none < (0 : Int32) by decide)]
    exact fin (fun q hq => by rw [hpar] at hq; exact (nomatch hq))
  | some q =>
    have hq := hp q rfl
    have e4 : s5.1 164 q = M'.1 164 q := by rw [← hl5]; exact (lw0 s5 (by omega)).symm
    rw [show iO (some q) = iN q from rfl, if_neg (show ¬ iN q < (0 : Int32) by rw [i_0, iN_lt (by omega) (by omega)]; omega), if_neg (gi (show q < 24 by omega) (by decide)), iN_cl (show q < 2147483648 by omega), e4]
    by_cases c1 : M'.1 164 q = iN 1
    · rw [if_pos (show M'.1 164 q = (1 : Int32) from c1)]
      exact fin (fun q' hq' => by rw [hpar] at hq'; cases hq'; exact Or.inl c1)
    · rw [if_neg (show ¬ M'.1 164 q = (1 : Int32) from c1)]
      exact ⟨s5, rfl, done⟩
/-- a change is made: a deed -/
theorem D_make {n T G h sz dp a : Nat} {p : Option Nat} {ag : Nat → Nat} (hN : 100 ≤ N) (hc : c < 100000000) (gi0 : GI s (lawOf s) n T G V U h sz dp B ag) (x : XI s (lawOf s) n T G) (hA : ∀ q, ag q ≤ A) (hn : n < 20) (ha : a < 8) (hp : ∀ q, p = some q → q < n ∧ ((lawOf s).1 164 q = iN 0 ∨ (lawOf s).1 164 q = iN 1)) (ht : x25 = trT (lawOf s) h) : ∃ s', fL_law_398 N xs Lx rec221 s x21 (iN c) x25 (iN a) (iO p) = fL_law_2698 N xs Lx rec221 s' 1 x21 (iN c) ∧ DR s' V U B A := by
  obtain ⟨⟨hF, hh, h5, h6⟩, ⟨q1, q2, q3, q4⟩, ⟨ch1, ch2⟩, -, hRt, -⟩ := id gi0.1
  have dg := gi0.2.2.1
  have d0 : d9 (trT (lawOf s) h) := dg.1 _ (by omega)
  -- the base
  obtain ⟨t, ht9, e398, hbase⟩ : ∃ t, d9 t ∧ fL_law_398 N xs Lx rec221 s x21 (iN c) x25 (iN a) (iO p) = fL_law_424 N xs Lx rec221 s x21 (iN c) (iN a) (iO p) t ∧ ((iO p = iM ∧ t = trT (lawOf s) h) ∨ ∃ q, q < n ∧ iO p = iN q ∧ (s.1 (5 + q) 3 = iN 0 ∨ s.1 (5 + q) 3 = iN 1) ∧ fX1_onto N s (5 + q) (s.2.1 (5 + q) 7) = some t) := by
    cases p with
    | none =>
      refine ⟨x25, by rw [ht]; exact d0, ?_, Or.inl ⟨rfl, ht⟩⟩
      unfold fL_law_398
      rw [if_neg (show ¬ (0 : Int32) ≤ iO none by decide)]
    | some q =>
      obtain ⟨hq, hq4⟩ := hp q rfl
      obtain ⟨r1, r2, r3⟩ := ch2 q hq
      have e7 : s.2.1 (5 + q) 7 = (lawOf s).2.1 169 q := r1.2.2.2.1.2.1
      refine ⟨gOnto ((lawOf s).1 168 q) ((lawOf s).2.1 170 q) ((lawOf s).2.1 169 q), d9_onto (dg.2 q hq).1 (dg.2 q hq).2.1 (dg.2 q hq).2.2, ?_, Or.inr ⟨q, hq, rfl, by rw [r1.2.1]; exact hq4, ?_⟩⟩
      · unfold fL_law_398
        rw [show iO (some q) = iN q from rfl, if_pos (show (0 : Int32) ≤ iN q by rw [i_0, iN_le (by omega) (by omega)]; omega), if_neg (gi (show q < 24 by omega) (by decide)), iN_cl (show q < 2147483648 by omega), L_onto hN rfl (show q < 24 by omega), Option.bind_some, ← lw0J s (k := 169) (i := q) (by omega)]
      · rw [X_ontoC r1.2.2.2.1, e7]; rfl
  rw [e398]
  -- the two files
  obtain ⟨f, hfe⟩ : ∃ f, c / 24 - c / 24 / 4 * 4 = f := ⟨_, rfl⟩
  have hf : f < 4 := by omega
  have ef : (iN c / (24 : Int32)) - (iN c / (24 : Int32)) / 4 * 4 = iN f := by
    rw [← hfe, show iN c / (24 : Int32) = iN (c / 24) from iN_div (b := 24) (by omega) (by omega)]
    exact iN_rem (k := 4) (by omega) (by omega)
  obtain ⟨g, hg, e424⟩ : ∃ g, g < 4 ∧ fL_law_424 N xs Lx rec221 s x21 (iN c) (iN a) (iO p) t = fL_law_465 N xs Lx rec221 s x21 (iN c) (iN a) (iO p) t (iN f) (iN g) := by
    unfold fL_law_424
    rw [ef]
    by_cases c96 : (iN c / (96 : Int32)) - (iN c / (96 : Int32)) / 3 * 3 = 0
    · rw [if_pos c96]; exact ⟨f, hf, rfl⟩
    · rw [if_neg c96]
      refine ⟨(f + 1 + (c / 288 - c / 288 / 3 * 3)) - (f + 1 + (c / 288 - c / 288 / 3 * 3)) / 4 * 4, by omega, ?_⟩
      rw [show iN c / (288 : Int32) = iN (c / 288) from iN_div (b := 288) (by omega) (by omega), show iN (c / 288) - iN (c / 288) / (3 : Int32) * 3 = iN (c / 288 - c / 288 / 3 * 3) from iN_rem (k := 3) (by omega) (by omega), show iN f + (1 : Int32) = iN (f + 1) from iN_add _ 1, iN_add, show iN (f + 1 + (c / 288 - c / 288 / 3 * 3)) - iN (f + 1 + (c / 288 - c / 288 / 3 * 3)) / (4 : Int32) * 4 = iN ((f + 1 + (c / 288 - c / 288 / 3 * 3)) - (f + 1 + (c / 288 - c / 288 / 3 * 3)) / 4 * 4) from iN_rem (k := 4) (by omega) (by omega)]
  rw [e424]
  -- the digits
  obtain ⟨to, hto⟩ : ∃ to, c / 24 - c / 24 / 9 * 9 + 1 = to := ⟨_, rfl⟩
  have eto : (iN c / (24 : Int32)) - (iN c / (24 : Int32)) / 9 * 9 + 1 = iN to := by
    rw [← hto, show iN c / (24 : Int32) = iN (c / 24) from iN_div (b := 24) (by omega) (by omega), show iN (c / 24) - iN (c / 24) / (9 : Int32) * 9 = iN (c / 24 - c / 24 / 9 * 9) from iN_rem (k := 9) (by omega) (by omega)]
    exact iN_add _ 1
  have dig : ∀ y, y < 4 → ∃ u v, gAt t y = iN u ∧ u ≤ 9 ∧ v < 10 ∧ v = u + to - (u + to) / 10 * 10 ∧ u ≠ v := fun y hy => by
    obtain ⟨u, hu, e⟩ := ht9 y (by omega)
    exact ⟨u, u + to - (u + to) / 10 * 10, e, hu, by omega, rfl, by omega⟩
  have edg : ∀ u, u ≤ 9 → iN u + iN to - (iN u + iN to) / 10 * 10 = iN (u + to - (u + to) / 10 * 10) := fun u hu => by
    rw [iN_add]; exact iN_rem (k := 10) (by omega) (by omega)
  obtain ⟨u1, v, e1, hu1, hv, hve, huv⟩ := dig f hf
  obtain ⟨u2, w, e2, hu2, hw, hwe, huw⟩ := dig g hg
  have hfg : f = g → v = w := fun e => by
    rw [e, e2] at e1
    have := iN_inj (by omega) (by omega) e1
    omega
  obtain ⟨k0, k1, k2, k3⟩ := mk_calls (N := N) (s := s) (n := n) (a := a) (f := f) (g := g) (v := v) (w := w) (p := iO p) (t := t) (tr := trT (lawOf s) h) hN hn ha hf hg hv hw hfg x.1.1 ch1 (fun s' hI hl => X_trunk (by
    obtain ⟨t1, t2, t3, t4, t5⟩ := hRt
    refine ⟨t1, t2, t3, by rw [(hI 151 (by omega) (by omega)).1]; exact t4, fun j hj => by rw [(hI 152 (by omega) (by omega)).2]; exact t5 j hj⟩)) hbase (by rw [e1, ne_eq, iN_eq (by omega) (by omega)]; exact huv) (by rw [e2, ne_eq, iN_eq (by omega) (by omega)]; exact huw)
  have h0 : (mkS s n a f g v w (iO p) t).1 161 0 = iN n := by
    rw [mkS_I 161 0 (by omega) (by omega) (by omega), ← lw0 s (by omega)]; exact hF.1.1
  obtain ⟨s', d1, d2⟩ := D_made (N := N) (xs := xs) (Lx := Lx) (rec221 := rec221) (x21 := x21) hN hc gi0 x hA hn ha hf hg hv hw hfg (fun q hq => (hp q hq).1) ht9
  refine ⟨s', ?_, d2⟩
  rw [← d1]
  unfold fL_law_465
  rw [L_at (show f < 16 by omega), Option.bind_some, L_at (show g < 16 by omega), Option.bind_some, e1, e2, eto, edg u1 hu1, edg u2 hu2, ← hve, ← hwe, k0, Option.bind_some]
  dsimp only
  rw [if_pos rfl, k1, Option.bind_some]
  dsimp only
  rw [if_pos rfl, k2, Option.bind_some]
  dsimp only
  have fin : fL_law_558 N xs Lx rec221 (edS (edS (bgS s (iN a) (iO p)) f v) g w) x21 (iN c) (iN a) (iO p) t (iN f) (iN g) (iN v) (iN w) (if f = g then 1 else 2) (if f = g then 1 else 2) = fL_law_580 N xs Lx rec221 (mkS s n a f g v w (iO p) t) x21 (iN c) (iN a) (iO p) t (iN f) (iN g) (iN v) (iN w) 1 := by
    unfold fL_law_558
    rw [if_pos rfl, k3, Option.bind_some]
    dsimp only
    rw [if_pos h0.symm]
  by_cases e : f = g
  · rw [if_pos (show iN f = iN g by rw [e])]
    simp only [e, if_true] at fin ⊢
    exact fin
  · rw [if_neg (show ¬ iN f = iN g by rw [iN_eq (by omega) (by omega)]; exact e)]
    simp only [e, if_false] at fin ⊢
    exact fin
end DD
