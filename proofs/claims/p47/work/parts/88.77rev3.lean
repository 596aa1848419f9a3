/-! a commit is reverted: both sides hold it -/
theorem GI.revd {s : gS} {n T G V U h sz dp B a : Nat} {t t1 : Int64} {m : Int32} {ag : Nat → Nat} {M : gS} (gi : GI s M n T G V U h sz dp B ag) (x : XI s M n T G) (hn : n < 20) (ha : a < 8) (ht : d9 t) (h1 : d9 t1) :
    GI (eqC (rvS s n a t m t1) n (iN 0)) (eqM (sI (mkM M n a iM m t (t1 &&& gMask m)) 165 n (iN 4)) n (iN 4)) (n + 1) T G V U h sz dp B ag ∧ XI (eqC (rvS s n a t m t1) n (iN 0)) (eqM (sI (mkM M n a iM m t (t1 &&& gMask m)) 165 n (iN 4)) n (iN 4)) (n + 1) T G := by
  have sv := rvS_v (s := s) (n := n) (a := a) (tr := t) (t1 := t1) (m := m)
  have mv := mkM_v (M := M) (n := n) (a := a) (p := iM) (m := m) (t := t) (e := t1 &&& gMask m)
  have cI := rvS_I (s := s) (n := n) (a := a) (tr := t) (t1 := t1) (m := m)
  have cJ := rvS_J (s := s) (n := n) (a := a) (tr := t) (t1 := t1) (m := m)
  have cl : (rvS s n a t m t1).2.2 = s.2.2 := rfl
  have mI := mkM_I (M := M) (n := n) (a := a) (p := iM) (m := m) (t := t) (e := t1 &&& gMask m)
  have mI2 := mkM_I2 (M := M) (n := n) (a := a) (p := iM) (m := m) (t := t) (e := t1 &&& gMask m)
  have mJ := mkM_J (M := M) (n := n) (a := a) (p := iM) (m := m) (t := t) (e := t1 &&& gMask m)
  generalize rvS s n a t m t1 = σ' at *
  generalize mkM M n a iM m t (t1 &&& gMask m) = M1 at *
  have nI : ∀ k y, ¬ (162 ≤ k ∧ k ≤ 168 ∧ y = n) → ¬ (k = 161 ∧ y = 0) → (sI M1 165 n (iN 4)).1 k y = M.1 k y := fun k y e1 e2 => by
    rw [sI_1, if_neg (by omega)]; exact mI k y e1 e2
  have n5 : (sI M1 165 n (iN 4)).1 165 n = iN 4 := by rw [sI_1, if_pos ⟨rfl, rfl⟩]
  have nN : ∀ k, k ≠ 165 → (sI M1 165 n (iN 4)).1 k n = M1.1 k n := fun k e => by rw [sI_1, if_neg (by omega)]
  have nJ : (sI M1 165 n (iN 4)).2.1 = M1.2.1 := rfl
  have n0 : (sI M1 165 n (iN 4)).1 161 0 = iN (n + 1) := by rw [sI_1, if_neg (by omega)]; exact mv.1
  generalize sI M1 165 n (iN 4) = M' at *
  have hT := gi.2.1.1
  have hpo : parOK M n := gi.1.1.1.1.2.2
  obtain ⟨⟨z1, z2, z3, z4⟩, ⟨y2, y2q⟩, y3, y4, y5, y6⟩ := id x
  obtain ⟨f0, f3, f4, f10, f11, f12, f2⟩ := y3 n (Nat.le_refl n) (by omega)
  obtain ⟨l4, l5, l6⟩ := y4 n (Nat.le_refl n) (by omega)
  have h164 : M'.1 164 n = iN 0 := by rw [nN 164 (by omega), mI2 164 n (by omega)]; exact l4
  have h166 : M'.1 166 n = iN 0 := by rw [nN 166 (by omega), mI2 166 n (by omega)]; exact l6
  have h163 : M'.1 163 n = iM := (nN 163 (by omega)).trans mv.2.2.1
  have h162 : M'.1 162 n = iN a := (nN 162 (by omega)).trans mv.2.1
  have h168 : M'.1 168 n = m := (nN 168 (by omega)).trans mv.2.2.2.1
  have h167 : M'.1 167 n = iM := (nN 167 (by omega)).trans mv.2.2.2.2.1
  have j169 : M'.2.1 169 n = t := by rw [nJ]; exact mv.2.2.2.2.2.1
  have j170 : M'.2.1 170 n = t1 &&& gMask m := by rw [nJ]; exact mv.2.2.2.2.2.2
  have mJ' : ∀ k y, ¬ ((k = 169 ∨ k = 170) ∧ y = n) → M'.2.1 k y = M.2.1 k y := fun k y e => by rw [nJ]; exact mJ k y e
  have h161 : ∀ y, y ≠ 0 → M'.1 161 y = M.1 161 y := fun y hy => nI 161 y (by omega) (by omega)
  have hc : ∀ Vx, Cg M M' n T G Vx := fun Vx => ⟨fun c hcn => ⟨⟨nI 162 c (by omega) (by omega), nI 163 c (by omega) (by omega), nI 164 c (by omega) (by omega), nI 165 c (by omega) (by omega), nI 166 c (by omega) (by omega), nI 168 c (by omega) (by omega)⟩, mJ' 169 c (by omega), mJ' 170 c (by omega)⟩, fun q _ => nI 172 _ (by omega) (by omega), fun k _ => nI 173 k (by omega) (by omega), fun j _ => ⟨mJ' 174 j (by omega), nI 175 j (by omega) (by omega)⟩, fun c _ => nI 178 _ (by omega) (by omega)⟩
  have htr : trT M' h = trT M h := mJ' 171 _ (by omega)
  have hpar : par M' n = none := par_iO (p := none) h163 (fun q hq => (nomatch hq))
  have hpo' : parOK M' n := fun c hcn => by
    rw [par_fr (nI 163 c (by omega) (by omega)), nI 163 c (by omega) (by omega)]; exact hpo c hcn
  have ev : vN M' 162 n = a := by unfold vN; rw [h162]; exact iN_cl (by omega)
  have g1 : GI σ' M' (n + 1) T G V U h sz dp B ag := by
    refine gi.more hn (fun k i e1 e2 e3 e4 => cI k i (by omega) (by omega)) (fun k e1 e2 e3 => cJ k e2) cl nI mJ' sv.1.1 n0 ⟨⟨⟨?_, ?_, ?_⟩, ?_, ?_, ⟨?_, ?_, ?_, ?_⟩, ?_, ?_, ?_, ?_⟩, ?_, ?_⟩ ⟨?_, ?_⟩ h164 ⟨?_, ?_, ?_⟩ ?_ ?_
    · rw [ev]; exact sv.1.2.1
    · rw [ev]; exact ha
    · rw [ev]; exact h162
    · rw [cI (5 + n) 3 (by omega) (by omega), f3, h164]
    · rw [sv.1.2.2.2, h168]
    · rw [sv.2.1, h168]
    · rw [sv.2.2.1, j169]
    · rw [sv.2.2.2, j170]
    · rw [cI (5 + n) 2 (by omega) (by omega), f2, h163]
    · rw [cI (5 + n) 2 (by omega) (by omega), f2, h163]
    · exact Or.inr sv.1.2.2.1
    · rw [cI (5 + n) 11 (by omega) (by omega), f11, h166]
    · exact Or.inl ⟨sv.1.2.2.1, n5, (cI (5 + n) 10 (by omega) (by omega)).trans f10⟩
    · exact (cI (5 + n) 0 (by omega) (by omega)).trans f0
    · rw [cI (5 + n) 4 (by omega) (by omega), f4, h167]
    · rw [hpar]; exact h163
    · rw [hpar]; exact fun q hq => (nomatch hq)
    · rw [j169]; exact ht
    · rw [j170]; exact d9_mask h1
    · rw [j170, h168]; exact mask_2
    · exact FO.more gi.1.2.2.2.2.2.2.2.1 hn hpo (cI 109 3 (by omega) (by omega)) (fun k i hk => cI k i (by omega) (by omega)) (fun k hk => cJ k (by omega)) (hc 0) h164 htr
    · rcases gi.2.2.2.2.2.1 with e | ⟨e, st⟩
      · exact Or.inl ((cI 0 18 (by omega) (by omega)).trans e)
      · refine Or.inr ⟨(cI 0 18 (by omega) (by omega)).trans e, Settled.n1 (st.qr ⟨fun k y hk => nI k y (by omega) (by omega), fun k hk => funext (fun y => mJ' k y (by omega))⟩ (hc V) hT gi.1.1 htr (h161 8 (by omega))) hpo' h164⟩
  have h17 : σ'.1 109 2 = M'.1 161 7 := by rw [cI 109 2 (by omega) (by omega), h161 7 (by omega)]; exact z2
  have cv := eqC_v (σ := σ') (pc := iN 0) (show n < 60 by omega)
  have ev2 := eqM_v (M := M') (d := n) (pl := iN 4)
  refine ⟨g1.enq (by omega) h164 (fun q hq => by rw [hpar] at hq; exact (nomatch hq)) h17 (Or.inl ⟨sv.1.2.2.1, rfl, rfl⟩), x.more hn hT (fun k i e1 e2 e3 e4 e5 e6 => ?_) (cJ 154 (by omega)) (fun k y e1 e2 => ?_) ?_ ?_ (fun e => ?_)⟩
  · rw [eqC_I k i (by omega) (by omega) (by omega)]; exact cI k i (by omega) (by omega)
  · rw [eqM_I k y (by omega) (by omega)]; exact nI k y (by omega) (by omega)
  · rw [eqC_I 1 3 (by omega) (by omega) (by omega), cI 1 3 (by omega) (by omega)]; exact z1
  · rw [cv.2.2.2.1, ev2.2.2.2, h17]
  · rw [ev2.1] at e; exact absurd e (by decide)
theorem rvS_law {s : gS} {n a : Nat} {t t1 : Int64} {m : Int32} (hn : n < 20) : lawOf (rvS s n a t m t1) = lawOf s := lawOf_ext (fun k h1 h2 => ⟨funext (fun i => rvS_I k i (by omega) (by omega)), rvS_J k (by omega)⟩)
/-- what the law writes down of it -/
def rvL (σ : gS) (n a : Nat) (m : Int32) (t e : Int64) : gS := sI (sI (sJ (sJ (sI (sI (sI (sI (sI (sI (sI σ 162 n (iN a)) 163 n (-1)) 164 n 1) 165 n 4) 166 n (σ.1 161 7)) 167 n (-1)) 168 n m) 169 n t) 170 n e) 161 7 (σ.1 161 7 + 1)) 161 0 (iN (n + 1))
theorem rvL_eq {σ : gS} {n a : Nat} {m : Int32} {t e : Int64} : rvL σ n a m t e = eqM (sI (mkM σ n a iM m t e) 165 n (iN 4)) n (iN 4) := by
  have e7 : (sI (mkM σ n a iM m t e) 165 n (iN 4)).1 161 7 = σ.1 161 7 := by rw [sI_1, if_neg (by omega)]; exact mkM_I 161 7 (by omega) (by omega)
  refine Prod.ext ?_ (Prod.ext ?_ rfl)
  · funext k y
    show (rvL σ n a m t e).1 k y = (eqM (sI (mkM σ n a iM m t e) 165 n (iN 4)) n (iN 4)).1 k y
    unfold eqM
    rw [e7]
    unfold rvL mkM
    simp only [sI_1, sJ_1]
    by_cases hy : y = n
    · by_cases c1 : k = 161
      · subst c1; simp
        repeat' split
        all_goals first | rfl | omega
      · subst hy
        simp only [c1, false_and, if_false, and_true]
        by_cases c2 : k = 162
        · subst c2; rfl
        by_cases c3 : k = 163
        · subst c3; rfl
        by_cases c4 : k = 164
        · subst c4; rfl
        by_cases c5 : k = 165
        · subst c5; rfl
        by_cases c6 : k = 166
        · subst c6; rfl
        by_cases c7 : k = 167
        · subst c7; rfl
        by_cases c8 : k = 168
        · subst c8; rfl
        simp only [c2, c3, c4, c5, c6, c7, c8, if_false]
    · simp only [hy, and_false, if_false]
      by_cases c1 : k = 161
      · subst c1
        repeat' split
        all_goals first | rfl | omega
      · simp only [c1, false_and, if_false]
  · rfl
