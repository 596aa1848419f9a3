/-! deeds: a commit is reverted -/
section DD
variable {N : Nat} {xs : Nat → Int32} {Lx : Nat} {rec221 : (gS × Int32 × Int32) → Option Int32} {x20 x21 x24 x27 x28 x29 : Int32} {x25 x30 : Int64} {s : gS} {c V U B A : Nat}
theorem i_or0 (x : Int32) : x ||| 0 = x := by simp
theorem j_or0 (x : Int64) : x ||| 0 = x := by simp
theorem L_rev1 {cm j : Nat} (rec1998 : (gS × Int32 × Int64 × Int32 × Int32) → Option Int32) (hj : j < 12) (h1 : 1 ≤ cm) (h2 : cm < 25) : fL_law_1998 N xs Lx rec221 x21 x24 x25 (iN cm) rec1998 (s, rvM (s.2.1 171 cm) (s.2.1 171 (cm - 1)) j, rvW (s.2.1 171 cm) (s.2.1 171 (cm - 1)) j, iB (rvC (s.2.1 171 cm) (s.2.1 171 (cm - 1)) x25 j), iN j) = rec1998 (s, rvM (s.2.1 171 cm) (s.2.1 171 (cm - 1)) (j + 1), rvW (s.2.1 171 cm) (s.2.1 171 (cm - 1)) (j + 1), iB (rvC (s.2.1 171 cm) (s.2.1 171 (cm - 1)) x25 (j + 1)), iN (j + 1)) := by
  have ec : iN cm - (1 : Int32) = iN (cm - 1) := iN_sub (b := 1) h1 (by omega)
  have eM : rvM (s.2.1 171 cm) (s.2.1 171 (cm - 1)) (j + 1) = if gAt (s.2.1 171 cm) j = gAt (s.2.1 171 (cm - 1)) j then rvM (s.2.1 171 cm) (s.2.1 171 (cm - 1)) j else rvM (s.2.1 171 cm) (s.2.1 171 (cm - 1)) j ||| ((1 : Int32) <<< (iN j &&& 31)) := rfl
  have eW : rvW (s.2.1 171 cm) (s.2.1 171 (cm - 1)) (j + 1) = if gAt (s.2.1 171 cm) j = gAt (s.2.1 171 (cm - 1)) j then rvW (s.2.1 171 cm) (s.2.1 171 (cm - 1)) j else rvW (s.2.1 171 cm) (s.2.1 171 (cm - 1)) j ||| ((gAt (s.2.1 171 (cm - 1)) j).toInt64 <<< ((4 * iN j).toInt64 &&& 63)) := rfl
  have eC : rvC (s.2.1 171 cm) (s.2.1 171 (cm - 1)) x25 (j + 1) = (rvC (s.2.1 171 cm) (s.2.1 171 (cm - 1)) x25 j && (decide (gAt (s.2.1 171 cm) j = gAt (s.2.1 171 (cm - 1)) j) || decide (gAt x25 j = gAt (s.2.1 171 cm) j))) := rfl
  have ej : iN j + (1 : Int32) = iN (j + 1) := iN_add _ 1
  have g1 := gi (show cm < 26 by omega) (by decide)
  have g2 := gi (show cm - 1 < 26 by omega) (by decide)
  have c1 : (iN cm).toNatClampNeg = cm := iN_cl (by omega)
  have c2 : (iN (cm - 1)).toNatClampNeg = cm - 1 := iN_cl (by omega)
  rw [eM, eW, eC]
  generalize rvM (s.2.1 171 cm) (s.2.1 171 (cm - 1)) j = m
  generalize rvW (s.2.1 171 cm) (s.2.1 171 (cm - 1)) j = w
  generalize rvC (s.2.1 171 cm) (s.2.1 171 (cm - 1)) x25 j = b
  unfold fL_law_1998
  dsimp only
  rw [if_neg (show ¬ (12 : Int32) ≤ iN j by rw [show (12 : Int32) = iN 12 from rfl, iN_le (by omega) (by omega)]; omega), if_neg g1, c1, L_at (show j < 16 by omega), Option.bind_some, ec, if_neg g2, c2, L_at (show j < 16 by omega), Option.bind_some]
  by_cases e : gAt (s.2.1 171 cm) j = gAt (s.2.1 171 (cm - 1)) j
  · rw [if_pos e, if_pos e, if_pos e, decide_eq_true e, Bool.true_or, Bool.and_true]
    unfold fL_law_2035
    rw [if_pos rfl]
    unfold fL_law_2052
    rw [if_pos rfl, i_or0]
    unfold fL_law_2084
    rw [j_or0]
    unfold fL_law_2121 fL_law_2117 fL_law_2122
    rw [ej]
    cases b with
    | false => rw [if_pos (show iB false = (0 : Int32) from rfl)]; rfl
    | true => rw [if_neg (show ¬ iB true = (0 : Int32) by decide), if_pos rfl]; rfl
  · rw [if_neg e, if_neg e, if_neg e, decide_eq_false e, Bool.false_or]
    unfold fL_law_2035
    rw [if_neg (show ¬ (1 : Int32) = 0 by decide)]
    unfold fL_law_2052
    rw [if_neg (show ¬ (1 : Int32) = 0 by decide), ec, if_neg g2, c2, L_at (show j < 16 by omega), Option.bind_some]
    unfold fL_law_2084
    rw [if_neg (show ¬ (1 : Int32) = 0 by decide), L_at (show j < 16 by omega), Option.bind_some, if_neg g1, c1, L_at (show j < 16 by omega), Option.bind_some]
    unfold fL_law_2121 fL_law_2117 fL_law_2122
    rw [ej]
    cases b with
    | false => rw [if_pos (show iB false = (0 : Int32) from rfl), Bool.false_and]; rfl
    | true =>
      rw [if_neg (show ¬ iB true = (0 : Int32) by decide), Bool.true_and]
      by_cases e2 : gAt x25 j = gAt (s.2.1 171 cm) j
      · rw [if_pos e2, decide_eq_true e2]; rfl
      · rw [if_neg e2, decide_eq_false e2]; rfl
theorem L_revL {cm : Nat} (hN : 100 ≤ N) (h1 : 1 ≤ cm) (h2 : cm < 25) : lp (fL_law_1998 N xs Lx rec221 x21 x24 x25 (iN cm)) N (s, 0, 0, 1, 0) = ((fL_does N s (6 : Int32) (iN cm) ((x24 / 5) - (x24 / 5) / 8 * 8) (0 : Int32)).bind fun r => if iB (rvC (s.2.1 171 cm) (s.2.1 171 (cm - 1)) x25 12) = 0 then (fL_law_2159 N xs Lx rec221 r.2 x21 x24 x25 (rvM (s.2.1 171 cm) (s.2.1 171 (cm - 1)) 12) (rvW (s.2.1 171 cm) (s.2.1 171 (cm - 1)) 12) (iB (rvC (s.2.1 171 cm) (s.2.1 171 (cm - 1)) x25 12)) (-13) r.1) else (fL_law_2159 N xs Lx rec221 r.2 x21 x24 x25 (rvM (s.2.1 171 cm) (s.2.1 171 (cm - 1)) 12) (rvW (s.2.1 171 cm) (s.2.1 171 (cm - 1)) 12) (iB (rvC (s.2.1 171 cm) (s.2.1 171 (cm - 1)) x25 12)) (r.2.1 161 0) r.1)) := by
  refine lp_run (F := fL_law_1998 N xs Lx rec221 x21 x24 x25 (iN cm)) (fun j => (s, rvM (s.2.1 171 cm) (s.2.1 171 (cm - 1)) j, rvW (s.2.1 171 cm) (s.2.1 171 (cm - 1)) j, iB (rvC (s.2.1 171 cm) (s.2.1 171 (cm - 1)) x25 j), iN j)) 12 (fun j hj rec => L_rev1 rec hj h1 h2) (fun rec => ?_) N (by omega)
  generalize rvM (s.2.1 171 cm) (s.2.1 171 (cm - 1)) 12 = m
  generalize rvW (s.2.1 171 cm) (s.2.1 171 (cm - 1)) 12 = w
  generalize iB (rvC (s.2.1 171 cm) (s.2.1 171 (cm - 1)) x25 12) = b
  unfold fL_law_1998
  dsimp only
  rw [if_pos (show (12 : Int32) ≤ iN 12 by decide)]
theorem L_2167 {n a : Nat} (h0 : s.1 161 0 = iN n) (hn : n < 20) (ha : (x24 / 5) - (x24 / 5) / 8 * 8 = iN a) : fL_law_2167 N xs Lx rec221 s x21 x24 x25 x29 x30 1 1 = fL_law_2698 N xs Lx rec221 (rvL s n a x29 x25 x30) 1 x21 x24 := by
  have hc : (iN n < (0 : Int32) ∨ 24 ≤ n) = False := eq_false (gj (show n < 24 by omega) (by decide))
  have hcl : (iN n).toNatClampNeg = n := iN_cl (by omega)
  have h10 : ((1 : Int32) = 0) = False := eq_false (by decide)
  have e7 : ∀ (σ : gS) (k : Nat) (v : Int32), k ≠ 161 → (sI σ k n v).1 161 7 = σ.1 161 7 := fun σ k v h => by rw [sI_1, if_neg (by omega)]
  have e7J : ∀ (σ : gS) (k : Nat) (v : Int64), (sJ σ k n v).1 161 7 = σ.1 161 7 := fun σ k v => rfl
  have e70 : ∀ (σ : gS) (v : Int32), (sI σ 161 7 v).1 161 0 = σ.1 161 0 := fun σ v => by rw [sI_1, if_neg (by omega)]
  have e1 : iN n + (1 : Int32) = iN (n + 1) := iN_add _ 1
  unfold fL_law_2167 fL_law_2263
  simp (maxSteps := 3000000) (disch := decide) only [ha, sI0, sJ0, h0, hc, if_false, hcl, h10, e7, e7J, e70, e1]
  rfl
/-- a commit is reverted, or can't be -/
theorem D_rev {n T G h sz dp cm : Nat} {ag : Nat → Nat} (hN : 100 ≤ N) (hc : c < 100000000) (g : GI s (lawOf s) n T G V U h sz dp B ag) (x : XI s (lawOf s) n T G) (hA : ∀ q, ag q ≤ A) (hn : n < 20) (h1 : 1 ≤ cm) (h2 : cm < h) (ht : x25 = trT (lawOf s) h) : ∃ s', lp (fL_law_1998 N xs Lx rec221 x21 (iN c) x25 (iN cm)) N (s, 0, 0, 1, 0) = fL_law_2698 N xs Lx rec221 s' 1 x21 (iN c) ∧ DR s' V U B A := by
  obtain ⟨⟨hF, hh, h5, h6⟩, ⟨q1, q2, q3, q4⟩, ⟨ch1, ch2⟩, -, hRt, -⟩ := id g.1
  have dg := g.2.2.1
  have hT := g.2.1.1
  obtain ⟨a, hae⟩ : ∃ a, c / 5 - c / 5 / 8 * 8 = a := ⟨_, rfl⟩
  have ha : a < 8 := by omega
  have ea : (iN c / (5 : Int32)) - (iN c / (5 : Int32)) / 8 * 8 = iN a := by
    rw [← hae, show iN c / (5 : Int32) = iN (c / 5) from iN_div (b := 5) (by omega) (by omega)]
    exact iN_rem (k := 8) (by omega) (by omega)
  have f0 := (x.2.2.1 n (Nat.le_refl n) (by omega)).1
  have er := X_revert (N := N) (s := s) (M := lawOf s) (n := n) (a := a) (cm := cm) (h := h) hN (by omega) ha ch1 f0 hRt h1 h2
  have j0 : (lawOf s).2.1 171 cm = s.2.1 171 cm := lw0J s (by omega)
  have j1 : (lawOf s).2.1 171 (cm - 1) = s.2.1 171 (cm - 1) := lw0J s (by omega)
  have d1 : d9 (s.2.1 171 (cm - 1)) := by rw [← j1]; exact dg.1 _ (by omega)
  have dt : d9 x25 := by rw [ht]; exact dg.1 _ (by omega)
  have e0 : s.1 161 0 = iN n := by rw [← lw0 s (by omega)]; exact hF.1.1
  rw [j0, j1, ← ht] at er
  rw [L_revL hN h1 (by omega), ea, er]
  generalize hm : rvM (s.2.1 171 cm) (s.2.1 171 (cm - 1)) 12 = m
  have hw : rvW (s.2.1 171 cm) (s.2.1 171 (cm - 1)) 12 = s.2.1 171 (cm - 1) &&& gMask m := by rw [rvW_mask d1, hm]
  rw [hw]
  cases cc : rvC (s.2.1 171 cm) (s.2.1 171 (cm - 1)) x25 12 with
  | false =>
    rw [if_neg (show ¬ false = true by decide), Option.bind_some]
    dsimp only
    rw [if_pos (show iB false = (0 : Int32) from rfl)]
    unfold fL_law_2159
    rw [if_pos rfl]
    unfold fL_law_2167 fL_law_2263
    rw [if_pos (show iB false = (0 : Int32) from rfl)]
    exact ⟨s, rfl, DR.of ⟨n, T, G, h, sz, dp, ag, g, x, hA⟩⟩
  | true =>
    obtain ⟨g1, x1⟩ := g.revd (M := lawOf s) (a := a) (t := x25) (t1 := s.2.1 171 (cm - 1)) (m := m) x hn ha dt d1
    rw [if_pos rfl, Option.bind_some]
    dsimp only
    have hl4 : lawOf (eqC (rvS s n a x25 m (s.2.1 171 (cm - 1))) n (iN 0)) = lawOf s := (eqC_law (by omega)).trans (rvS_law hn)
    generalize s.2.1 171 (cm - 1) = t1 at *
    generalize eqC (rvS s n a x25 m t1) n (iN 0) = σ4 at *
    have h04 : σ4.1 161 0 = iN n := by rw [← lw0 σ4 (by omega), hl4]; exact hF.1.1
    rw [if_neg (show ¬ iB true = (0 : Int32) by decide)]
    unfold fL_law_2159
    rw [if_pos h04.symm, show iB true = (1 : Int32) from rfl, L_2167 h04 hn ea]
    have hl5 : lawOf (rvL σ4 n a m x25 (t1 &&& gMask m)) = eqM (sI (mkM (lawOf s) n a iM m x25 (t1 &&& gMask m)) 165 n (iN 4)) n (iN 4) := by
      rw [rvL_eq, eqM_law, lawOf_in (by omega), mkM_law, hl4]
    have sm : SmL σ4 (rvL σ4 n a m x25 (t1 &&& gMask m)) := by
      rw [rvL_eq]
      exact (mkM_sm.trans (SmL.sI (by omega))).trans SmL.eqM
    exact ⟨_, rfl, DR.of ⟨n + 1, T, G, h, sz, dp, ag, by rw [hl5]; exact g1.smL sm, by rw [hl5]; exact x1.smL (by omega) hT sm, hA⟩⟩
end DD
