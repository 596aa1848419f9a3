/-! a change is made: what both sides hold then -/
def mkM (M : gS) (n a : Nat) (p m : Int32) (t e : Int64) : gS := sI (sI (sJ (sJ (sI (sI (sI M 162 n (iN a)) 163 n p) 168 n m) 169 n t) 170 n e) 167 n iM) 161 0 (iN (n + 1))
theorem mkM_I {M : gS} {n a : Nat} {p m : Int32} {t e : Int64} (k x : Nat) (h1 : ¬ (162 ≤ k ∧ k ≤ 168 ∧ x = n)) (h2 : ¬ (k = 161 ∧ x = 0)) : (mkM M n a p m t e).1 k x = M.1 k x := by
  unfold mkM
  rw [sI_1, if_neg (by omega), sI_1, if_neg (by omega), sJ_1, sJ_1, sI_1, if_neg (by omega), sI_1, if_neg (by omega), sI_1, if_neg (by omega)]
theorem mkM_I2 {M : gS} {n a : Nat} {p m : Int32} {t e : Int64} (k x : Nat) (h1 : 164 ≤ k ∧ k ≤ 166) : (mkM M n a p m t e).1 k x = M.1 k x := by
  unfold mkM
  rw [sI_1, if_neg (by omega), sI_1, if_neg (by omega), sJ_1, sJ_1, sI_1, if_neg (by omega), sI_1, if_neg (by omega), sI_1, if_neg (by omega)]
theorem mkM_J {M : gS} {n a : Nat} {p m : Int32} {t e : Int64} (k x : Nat) (h : ¬ ((k = 169 ∨ k = 170) ∧ x = n)) : (mkM M n a p m t e).2.1 k x = M.2.1 k x := by
  show (if k = 170 ∧ x = n then _ else if k = 169 ∧ x = n then _ else M.2.1 k x) = _
  rw [if_neg (by omega), if_neg (by omega)]
theorem mkM_v {M : gS} {n a : Nat} {p m : Int32} {t e : Int64} : (mkM M n a p m t e).1 161 0 = iN (n + 1) ∧ (mkM M n a p m t e).1 162 n = iN a ∧ (mkM M n a p m t e).1 163 n = p ∧ (mkM M n a p m t e).1 168 n = m ∧ (mkM M n a p m t e).1 167 n = iM ∧ (mkM M n a p m t e).2.1 169 n = t ∧ (mkM M n a p m t e).2.1 170 n = e := by
  unfold mkM
  refine ⟨?_, ?_, ?_, ?_, ?_, ?_, ?_⟩
  · rw [sI_1, if_pos ⟨rfl, rfl⟩]
  · rw [sI_1, if_neg (by omega), sI_1, if_neg (by omega), sJ_1, sJ_1, sI_1, if_neg (by omega), sI_1, if_neg (by omega), sI_1, if_pos ⟨rfl, rfl⟩]
  · rw [sI_1, if_neg (by omega), sI_1, if_neg (by omega), sJ_1, sJ_1, sI_1, if_neg (by omega), sI_1, if_pos ⟨rfl, rfl⟩]
  · rw [sI_1, if_neg (by omega), sI_1, if_neg (by omega), sJ_1, sJ_1, sI_1, if_pos ⟨rfl, rfl⟩]
  · rw [sI_1, if_neg (by omega), sI_1, if_pos ⟨rfl, rfl⟩]
  · rw [sI_2, sI_2, sJ_2, if_neg (by omega), sJ_2, if_pos ⟨rfl, rfl⟩]
  · rw [sI_2, sI_2, sJ_2, if_pos ⟨rfl, rfl⟩]
theorem mkM_law {s : gS} {n a : Nat} {p m : Int32} {t e : Int64} : lawOf (mkM s n a p m t e) = mkM (lawOf s) n a p m t e := by
  unfold mkM
  rw [lawOf_in (by omega), lawOf_in (by omega), lawOf_inJ (by omega), lawOf_inJ (by omega), lawOf_in (by omega), lawOf_in (by omega), lawOf_in (by omega)]
theorem mkM_sm {s : gS} {n a : Nat} {p m : Int32} {t e : Int64} : SmL s (mkM s n a p m t e) := by
  refine ⟨fun k hk => ⟨funext (fun i => mkM_I k i (by omega) (by omega)), funext (fun i => mkM_J k i (by omega))⟩, rfl⟩
theorem sJ_sJ {s : gS} {k j : Nat} {v w : Int64} : sJ (sJ s k j v) k j w = sJ s k j w := by
  refine Prod.ext rfl (Prod.ext ?_ rfl)
  funext k' j'
  show (sJ (sJ s k j v) k j w).2.1 k' j' = (sJ s k j w).2.1 k' j'
  rw [sJ_2, sJ_2, sJ_2]
  by_cases c : k' = k ∧ j' = j
  · rw [if_pos c, if_pos c]
  · rw [if_neg c, if_neg c, if_neg c]
theorem mkS_I {s : gS} {n a f g v w : Nat} {p : Int32} {t : Int64} (k i : Nat) (h1 : k ≠ 5 + n) (h2 : ¬ (k = 1 ∧ (i = 3 ∨ i = 4))) (h3 : k ≠ 4) : (mkS s n a f g v w p t).1 k i = s.1 k i := by
  unfold mkS adS
  rw [sI_1, if_neg (by omega), sI_1, if_neg (by omega), sJ_1, sJ_1, sJ_1, sI_1, if_neg (by omega), sI_1, if_neg (by omega), sI_1, if_neg (by omega), edS_I (by omega), edS_I (by omega)]
  show (if k = 1 ∧ i = 3 then _ else if k = 4 ∧ i = 5 then _ else if k = 4 ∧ i = 2 then _ else if k = 4 ∧ i = 1 then _ else s.1 k i) = _
  rw [if_neg (by omega), if_neg (by omega), if_neg (by omega), if_neg (by omega)]
theorem mkS_n {s : gS} {n a f g v w : Nat} {p : Int32} {t : Int64} (i : Nat) (h : i ≠ 1 ∧ i ≠ 2 ∧ i ≠ 5) : (mkS s n a f g v w p t).1 (5 + n) i = s.1 (5 + n) i := by
  unfold mkS adS
  rw [sI_1, if_neg (by omega), sI_1, if_neg (by omega), sJ_1, sJ_1, sJ_1, sI_1, if_neg (by omega), sI_1, if_neg (by omega), sI_1, if_neg (by omega), edS_I (by omega), edS_I (by omega)]
  show (if 5 + n = 1 ∧ i = 3 then _ else if 5 + n = 4 ∧ i = 5 then _ else if 5 + n = 4 ∧ i = 2 then _ else if 5 + n = 4 ∧ i = 1 then _ else s.1 (5 + n) i) = _
  rw [if_neg (by omega), if_neg (by omega), if_neg (by omega), if_neg (by omega)]
theorem mkS_J {s : gS} {n a f g v w : Nat} {p : Int32} {t : Int64} (k : Nat) (h1 : k ≠ 5 + n) (h3 : k ≠ 4) : (mkS s n a f g v w p t).2.1 k = s.2.1 k := by
  funext i
  unfold mkS adS
  show (if k = 5 + n ∧ i = 7 then _ else if k = 5 + n ∧ i = 8 then _ else if k = 5 + n ∧ i = 6 then _ else (edS (edS (bgS s (iN a) p) f v) g w).2.1 k i) = _
  rw [if_neg (by omega), if_neg (by omega), if_neg (by omega), edS_J h3, edS_J h3]
  show (if k = 4 ∧ i = 8 then _ else if k = 4 ∧ i = 6 then _ else s.2.1 k i) = _
  rw [if_neg (by omega), if_neg (by omega)]
theorem mkS_v {s : gS} {n a f g v w : Nat} {p : Int32} {t : Int64} (hf : f < 4) (hg : g < 4) (hv : v < 10) (hw : w < 10) (hfg : f = g → v = w) : ((mkS s n a f g v w p t).1 1 3 = iN 0 ∧ (mkS s n a f g v w p t).1 1 4 = iN (n + 1)) ∧ ((mkS s n a f g v w p t).1 (5 + n) 1 = iN a ∧ (mkS s n a f g v w p t).1 (5 + n) 2 = p ∧ (mkS s n a f g v w p t).1 (5 + n) 5 = mk1 f g) ∧ (mkS s n a f g v w p t).2.1 (5 + n) 6 = gMask (mk1 f g) ∧ (mkS s n a f g v w p t).2.1 (5 + n) 7 = t ∧ (mkS s n a f g v w p t).2.1 (5 + n) 8 = ek1 f g v w := by
  obtain ⟨q1, q2⟩ := mk_set f hf g hg
  obtain ⟨v1, v2, v3, v4⟩ := ek_vw f hf g hg v hv w hw hfg
  have s41 : (edS (edS (bgS s (iN a) p) f v) g w).1 4 1 = iN a := rfl
  have s42 : (edS (edS (bgS s (iN a) p) f v) g w).1 4 2 = p := rfl
  have s45 : (edS (edS (bgS s (iN a) p) f v) g w).1 4 5 = mk1 f g := q1
  have s46 : (edS (edS (bgS s (iN a) p) f v) g w).2.1 4 6 = gMask (mk1 f g) := q2
  have s48 : (edS (edS (bgS s (iN a) p) f v) g w).2.1 4 8 = ek1 f g v w := v1
  unfold mkS adS
  rw [s41, s42, s45, s46, s48]
  generalize edS (edS (bgS s (iN a) p) f v) g w = σ
  refine ⟨⟨?_, ?_⟩, ⟨?_, ?_, ?_⟩, ?_, ?_, ?_⟩
  · rw [sI_1, if_neg (by omega), sI_1, if_pos ⟨rfl, rfl⟩]; rfl
  · rw [sI_1, if_pos ⟨rfl, rfl⟩]
  · rw [sI_1, if_neg (by omega), sI_1, if_neg (by omega), sJ_1, sJ_1, sJ_1, sI_1, if_neg (by omega), sI_1, if_neg (by omega), sI_1, if_pos ⟨rfl, rfl⟩]
  · rw [sI_1, if_neg (by omega), sI_1, if_neg (by omega), sJ_1, sJ_1, sJ_1, sI_1, if_neg (by omega), sI_1, if_pos ⟨rfl, rfl⟩]
  · rw [sI_1, if_neg (by omega), sI_1, if_neg (by omega), sJ_1, sJ_1, sJ_1, sI_1, if_pos ⟨rfl, rfl⟩]
  · rw [sI_2, sI_2, sJ_2, if_neg (by omega), sJ_2, if_neg (by omega), sJ_2, if_pos ⟨rfl, rfl⟩]
  · rw [sI_2, sI_2, sJ_2, if_pos ⟨rfl, rfl⟩]
  · rw [sI_2, sI_2, sJ_2, if_neg (by omega), sJ_2, if_pos ⟨rfl, rfl⟩]
theorem mkS_l {s : gS} {n a f g v w : Nat} {p : Int32} {t : Int64} : (mkS s n a f g v w p t).2.2 = s.2.2 := rfl
theorem mkS_law {s : gS} {n a f g v w : Nat} {p : Int32} {t : Int64} (hn : n < 20) : lawOf (mkS s n a f g v w p t) = lawOf s := lawOf_ext (fun k h1 h2 => ⟨funext (fun i => mkS_I k i (by omega) (by omega) (by omega)), mkS_J k (by omega) (by omega)⟩)
theorem par_iO {M : gS} {n : Nat} {p : Option Nat} (h : M.1 163 n = iO p) (hp : ∀ q, p = some q → q < 2147483648) : par M n = p := by
  unfold par vN
  cases p with
  | none => rw [if_pos (show M.1 163 n = iM from h)]
  | some q =>
    have hq := hp q rfl
    have e : M.1 163 n = iN q := h
    rw [if_neg (by rw [e]; exact iM_ne hq), e, iN_cl hq]
/-- both sides have made a change -/
theorem GI.made {s : gS} {n T G V U h sz dp B a f g v w : Nat} {p : Option Nat} {t : Int64} {ag : Nat → Nat} {M : gS} (gi : GI s M n T G V U h sz dp B ag) (x : XI s M n T G) (hn : n < 20) (ha : a < 8) (hf : f < 4) (hg : g < 4) (hv : v < 10) (hw : w < 10) (hfg : f = g → v = w) (hp : ∀ q, p = some q → q < n) (ht : d9 t) :
    GI (mkS s n a f g v w (iO p) t) (mkM M n a (iO p) (mk1 f g) t (ek1 f g v w)) (n + 1) T G V U h sz dp B ag ∧ XI (mkS s n a f g v w (iO p) t) (mkM M n a (iO p) (mk1 f g) t (ek1 f g v w)) (n + 1) T G := by
  obtain ⟨v1, v2, v3, v4⟩ := ek_vw f hf g hg v hv w hw hfg
  have sv := mkS_v (s := s) (n := n) (a := a) (p := iO p) (t := t) hf hg hv hw hfg
  have mv := mkM_v (M := M) (n := n) (a := a) (p := iO p) (m := mk1 f g) (t := t) (e := ek1 f g v w)
  have cI := mkS_I (s := s) (n := n) (a := a) (f := f) (g := g) (v := v) (w := w) (p := iO p) (t := t)
  have cN := mkS_n (s := s) (n := n) (a := a) (f := f) (g := g) (v := v) (w := w) (p := iO p) (t := t)
  have cJ := mkS_J (s := s) (n := n) (a := a) (f := f) (g := g) (v := v) (w := w) (p := iO p) (t := t)
  have cl := mkS_l (s := s) (n := n) (a := a) (f := f) (g := g) (v := v) (w := w) (p := iO p) (t := t)
  have mI := mkM_I (M := M) (n := n) (a := a) (p := iO p) (m := mk1 f g) (t := t) (e := ek1 f g v w)
  have mI2 := mkM_I2 (M := M) (n := n) (a := a) (p := iO p) (m := mk1 f g) (t := t) (e := ek1 f g v w)
  have mJ := mkM_J (M := M) (n := n) (a := a) (p := iO p) (m := mk1 f g) (t := t) (e := ek1 f g v w)
  generalize mkS s n a f g v w (iO p) t = σ' at *
  generalize mkM M n a (iO p) (mk1 f g) t (ek1 f g v w) = M' at *
  have hT := gi.2.1.1
  have hpo : parOK M n := gi.1.1.1.1.2.2
  obtain ⟨⟨z1, z2, z3, z4⟩, ⟨y2, y2q⟩, y3, y4, y5, y6⟩ := id x
  obtain ⟨f0, f3, f4, f10, f11, f12, f2⟩ := y3 n (Nat.le_refl n) (by omega)
  obtain ⟨l4, l5, l6⟩ := y4 n (Nat.le_refl n) (by omega)
  have h164 : M'.1 164 n = iN 0 := (mI2 164 n (by omega)).trans l4
  have h161 : ∀ y, y ≠ 0 → M'.1 161 y = M.1 161 y := fun y hy => mI 161 y (by omega) (by omega)
  have hc : ∀ Vx, Cg M M' n T G Vx := fun Vx => ⟨fun c hcn => ⟨⟨mI 162 c (by omega) (by omega), mI 163 c (by omega) (by omega), mI 164 c (by omega) (by omega), mI 165 c (by omega) (by omega), mI 166 c (by omega) (by omega), mI 168 c (by omega) (by omega)⟩, mJ 169 c (by omega), mJ 170 c (by omega)⟩, fun q _ => mI 172 _ (by omega) (by omega), fun k _ => mI 173 k (by omega) (by omega), fun j _ => ⟨mJ 174 j (by omega), mI 175 j (by omega) (by omega)⟩, fun c _ => mI 178 _ (by omega) (by omega)⟩
  have htr : trT M' h = trT M h := mJ 171 _ (by omega)
  have hpar : par M' n = p := par_iO mv.2.2.1 (fun q hq => by have := hp q hq; omega)
  have hpo' : parOK M' n := fun c hcn => by
    rw [par_fr (mI 163 c (by omega) (by omega)), mI 163 c (by omega) (by omega)]; exact hpo c hcn
  have ev : vN M' 162 n = a := by unfold vN; rw [mv.2.1]; exact iN_cl (by omega)
  refine ⟨gi.more hn (fun k i e1 e2 e3 e4 => cI k i e2 e3 e4) (fun k e1 e2 e3 => cJ k e2 e3) cl mI mJ sv.1.2 mv.1 ⟨⟨⟨?_, ?_, ?_⟩, ?_, ?_, ⟨?_, ?_, ?_, ?_⟩, ?_, ?_, ?_, ?_⟩, ?_, ?_⟩ ⟨?_, ?_⟩ h164 ⟨?_, ?_, ?_⟩ ?_ ?_, x.more hn hT (fun k i e1 e2 e3 e4 e5 e6 => cI k i e2 e3 e4) (cJ 154 (by omega) (by omega)) (fun k y e1 e2 => mI k y e1 (by omega)) sv.1.1 ?_ (fun _ => (cN 12 (by omega)).trans f12)⟩
  · rw [ev]; exact sv.2.1.1
  · rw [ev]; exact ha
  · rw [ev]; exact mv.2.1
  · rw [cN 3 (by omega), f3, h164]
  · rw [sv.2.1.2.2, mv.2.2.2.1]
  · rw [sv.2.2.1, mv.2.2.2.1]
  · rw [sv.2.2.2.1, mv.2.2.2.2.2.1]
  · rw [sv.2.2.2.2, mv.2.2.2.2.2.2]
  · rw [sv.2.1.2.1, mv.2.2.1]
  · rw [sv.2.1.2.1, mv.2.2.1]
  · exact Or.inl ((cN 12 (by omega)).trans f12)
  · rw [cN 11 (by omega), f11, mI2 166 n (by omega), l6]
  · exact Or.inr ⟨(cN 12 (by omega)).trans f12, by rw [mI2 165 n (by omega), cN 10 (by omega), f10, l5], by rw [cN 10 (by omega), f10]; decide⟩
  · exact (cN 0 (by omega)).trans f0
  · rw [cN 4 (by omega), f4, mv.2.2.2.2.1]
  · rw [hpar]; exact mv.2.2.1
  · rw [hpar]; exact hp
  · rw [mv.2.2.2.2.2.1]; exact ht
  · rw [mv.2.2.2.2.2.2]
    intro y hy
    by_cases c1 : y = f
    · rw [c1]; exact ⟨v, by omega, v3⟩
    · by_cases c2 : y = g
      · rw [c2]; exact ⟨w, by omega, v4⟩
      · exact ⟨0, by omega, ek_0 f hf g hg v hv w hw y hy c1 c2⟩
  · rw [mv.2.2.2.2.2.2, mv.2.2.2.1]; exact v2
  · exact FO.more gi.1.2.2.2.2.2.2.2.1 hn hpo (cI 109 3 (by omega) (by omega) (by omega)) (fun k i hk => cI k i (by omega) (by omega) (by omega)) (fun k hk => cJ k (by omega) (by omega)) (hc 0) h164 htr
  · rcases gi.2.2.2.2.2.1 with e | ⟨e, st⟩
    · exact Or.inl ((cI 0 18 (by omega) (by omega) (by omega)).trans e)
    · refine Or.inr ⟨(cI 0 18 (by omega) (by omega) (by omega)).trans e, Settled.n1 (st.qr ⟨fun k y hk => mI k y (by omega) (by omega), fun k hk => funext (fun y => mJ k y (by omega))⟩ (hc V) hT gi.1.1 htr (h161 8 (by omega))) hpo' h164⟩
  · rw [cI 109 2 (by omega) (by omega) (by omega), h161 7 (by omega)]; exact z2
