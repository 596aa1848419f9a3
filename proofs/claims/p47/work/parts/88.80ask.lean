/-! what is asked: is the first batch broken -/
def QA (s M : gS) (n T G V U h sz dp B : Nat) (ag : Nat → Nat) : Prop := GI s M n T G V U h sz dp B ag ∧ XI s M n T G ∧ lawOf s = M
def Q1 (r : Option (Int32 × gS)) (M : gS) (n T G V U h sz dp B : Nat) (ag : Nat → Nat) : Prop := ∃ s', r = some (1, s') ∧ QA s' M n T G V U h sz dp B ag
theorem QA.smL {s s' M : gS} {n T G V U h sz dp B : Nat} {ag : Nat → Nat} (q : QA s M n T G V U h sz dp B ag) (hs : SmL s s') (hl : lawOf s' = M) : QA s' M n T G V U h sz dp B ag := ⟨q.1.smL hs, q.2.1.smL q.1.1.1.1.1.2.1 q.1.2.1.1 hs, hl⟩
/-- the class looks at its first batch: the whole relation stays -/
theorem GI.look {N : Nat} {σ M : gS} {n T G V U h sz dp B : Nat} {ag : Nat → Nat} (hN : 5000 ≤ N) (g : GI σ M n T G V U h sz dp B ag) (x : XI σ M n T G) (h93 : σ.1 109 3 = iN 1) (hf : Fm σ M n T G sz dp (trT M h)) : ∃ σ', fX11_lookAtFirstBatch N σ = some σ' ∧ Sm σ σ' 118 125 ∧ Lk σ' M T G V (trT M h) (FF M n sz dp (trT M h)) ∧ GI σ' M n T G V U h sz dp B ag ∧ XI σ' M n T G ∧ lawOf σ' = lawOf σ := by
  obtain ⟨σ', w1, w2, w3, w4, w5, w6⟩ := C_look hN g.1 h93 hf
  have hn := g.1.1.1.1.2.1
  have cI : ∀ k i, ¬ (118 ≤ k ∧ k < 125) → σ'.1 k i = σ.1 k i := fun k i e => by rw [(w2.1 k (by omega)).1]
  have cJ : ∀ k, ¬ (118 ≤ k ∧ k < 125) → σ'.2.1 k = σ.2.1 k := fun k e => (w2.1 k (by omega)).2
  refine ⟨σ', w1, w2, w3, ⟨w6, g.2.1.same (Nat.le_refl B) (fun k hk => funext (fun i => cI k i (by omega))) (fun k hk => cJ k (by omega)) w2.2 rfl (fun _ _ => rfl) (fun _ _ => rfl), g.2.2.1, g.2.2.2.1.same (fun k hk => cJ k (by omega)) (fun _ _ => rfl) (fun _ _ => rfl), g.2.2.2.2.1.same (fun i hi => cI 0 i (by omega)) (fun _ _ => rfl), ?_, g.2.2.2.2.2.2⟩, x.move hn (fun k i hk => cI k i (by omega)) (cJ 154 (by omega)) (fun _ _ _ => rfl), lawOf_ext (fun k h1 h2 => ⟨funext (fun i => cI k i (by omega)), cJ k (by omega)⟩)⟩
  have st := g.2.2.2.2.2.1
  unfold ST at st ⊢
  rw [cI 0 18 (by omega)]; exact st
theorem sVer2 {M : gS} {T V : Nat} (h : EN M T V) (q : Nat) (t : Int64) : sVer M V q t ≤ 2 := by
  rw [sVer_ev]
  cases c : sEnt M (gKey M q t) V with
  | none => rw [ev_none c]; omega
  | some i =>
    obtain ⟨w, r, f, e, h1, _⟩ := (h i (sEnt_lt c).1).2.1
    rw [ev_some c]; omega
theorem orT_eq {p p' : Nat → Bool} {T : Nat} (hT : T ≤ 32) : (orT p T = orT p' T) ↔ ∀ q, q < T → p q = p' q := by
  refine ⟨fun h q hq => ?_, fun h => orT_congr T h⟩
  have a := tb_orT (p := p) T q hT (by omega)
  have b := tb_orT (p := p') T q hT (by omega)
  rw [h, b, decide_eq_true hq, Bool.true_and, Bool.true_and] at a
  exact a.symm
/-- whether it is, by the law's rows -/
def brkM (M : gS) (n T G V h sz dp : Nat) : Bool := decide (fvd M n T G V h sz dp = 2) && (decide ((fbs M n T G V h sz dp).2.2 = none) && decide (ffl M n T G V h sz dp 2 = ffl M n T G V h sz dp 3))
theorem vbG_2 {M : gS} {n T G V h sz dp : Nat} (hE : EN M T V) (hT : T ≤ 32) : (vbG (ffl M n T G V h sz dp 3) (fun q => sVer M V q (treeL M (trT M h) ((FF M n sz dp (trT M h)).take (fbs M n T G V h sz dp).1))) T = 2) ↔ ffl M n T G V h sz dp 2 = ffl M n T G V h sz dp 3 := by
  have v1 := vbG_1 (M := M) (T := T) (G := G) (V := V) (g := (fbs M n T G V h sz dp).1) (b := (fbs M n T G V h sz dp).2.1) (v := 1) (t := trT M h) (F := FF M n sz dp (trT M h)) hT (by omega)
  have v0 := vbG_1 (M := M) (T := T) (G := G) (V := V) (g := (fbs M n T G V h sz dp).1) (b := (fbs M n T G V h sz dp).2.1) (v := 0) (t := trT M h) (F := FF M n sz dp (trT M h)) hT (by omega)
  have e3 : ffl M n T G V h sz dp 3 = orT (flB M T G V (trT M h) (FF M n sz dp (trT M h)) (fbs M n T G V h sz dp).1 (fbs M n T G V h sz dp).2.1 3) T := rfl
  have e2 : ffl M n T G V h sz dp 2 = orT (flB M T G V (trT M h) (FF M n sz dp (trT M h)) (fbs M n T G V h sz dp).1 (fbs M n T G V h sz dp).2.1 2) T := rfl
  rw [e2, e3, orT_eq hT]
  unfold vbG
  rw [v1, v0]
  have key : ∀ q v, v < 3 → flB M T G V (trT M h) (FF M n sz dp (trT M h)) (fbs M n T G V h sz dp).1 (fbs M n T G V h sz dp).2.1 v q = (flB M T G V (trT M h) (FF M n sz dp (trT M h)) (fbs M n T G V h sz dp).1 (fbs M n T G V h sz dp).2.1 3 q && (sVer M V q (treeL M (trT M h) ((FF M n sz dp (trT M h)).take (fbs M n T G V h sz dp).1)) == v)) := fun q v hv => by
    unfold flB
    rw [show (v == 3) = false by simp; omega]
    simp
  generalize hf3 : flB M T G V (trT M h) (FF M n sz dp (trT M h)) (fbs M n T G V h sz dp).1 (fbs M n T G V h sz dp).2.1 3 = f3 at *
  generalize hf2 : flB M T G V (trT M h) (FF M n sz dp (trT M h)) (fbs M n T G V h sz dp).1 (fbs M n T G V h sz dp).2.1 2 = f2 at *
  constructor
  · intro hh q hq
    by_cases c1 : sAny (flB M T G V (trT M h) (FF M n sz dp (trT M h)) (fbs M n T G V h sz dp).1 (fbs M n T G V h sz dp).2.1 1) T = true
    · rw [if_pos c1] at hh; exact absurd hh (by decide)
    · rw [if_neg c1] at hh
      by_cases c0 : sAny (flB M T G V (trT M h) (FF M n sz dp (trT M h)) (fbs M n T G V h sz dp).1 (fbs M n T G V h sz dp).2.1 0) T = true
      · rw [if_pos c0] at hh; exact absurd hh (by decide)
      · have n1 := sAny_false.mp (Bool.eq_false_iff.mpr c1) q hq
        have n0 := sAny_false.mp (Bool.eq_false_iff.mpr c0) q hq
        rw [key q 1 (by omega)] at n1
        rw [key q 0 (by omega)] at n0
        rw [← hf2, key q 2 (by omega)]
        have := sVer2 hE q (treeL M (trT M h) ((FF M n sz dp (trT M h)).take (fbs M n T G V h sz dp).1))
        generalize sVer M V q (treeL M (trT M h) ((FF M n sz dp (trT M h)).take (fbs M n T G V h sz dp).1)) = w at *
        cases hf : f3 q with
        | false => rfl
        | true =>
          rw [hf, Bool.true_and] at n1 n0
          rw [Bool.true_and]
          simp at n1 n0 ⊢
          omega
  · intro hq
    have c : ∀ v, v < 2 → ¬ sAny (flB M T G V (trT M h) (FF M n sz dp (trT M h)) (fbs M n T G V h sz dp).1 (fbs M n T G V h sz dp).2.1 v) T = true := fun v hv hs => by
      obtain ⟨q, h1, h2⟩ := sAny_iff.mp hs
      rw [key q v (by omega)] at h2
      have h3 := hq q h1
      rw [← hf2, key q 2 (by omega)] at h3
      rw [Bool.and_eq_true] at h2
      rw [h2.1, Bool.true_and] at h3
      have a1 := h2.2
      simp at a1 h3
      omega
    rw [if_neg (c 1 (by omega)), if_neg (c 0 (by omega))]
theorem X_broken {N : Nat} {σ M : gS} {n T G V U h sz dp B : Nat} {ag : Nat → Nat} (hN : 5000 ≤ N) (qa : QA σ M n T G V U h sz dp B ag) : ∃ σ', fX11_isBroken N σ = some (iB (brkM M n T G V h sz dp), σ') ∧ QA σ' M n T G V U h sz dp B ag := by
  obtain ⟨g, x, hl⟩ := qa
  obtain ⟨σ1, w1, w2, w3, w4, g1, x1, l1⟩ := g.form (show 100 ≤ N by omega) x
  obtain ⟨σ2, u1, u2, u3, g2, x2, l2⟩ := g1.look hN x1 w3 w4
  refine ⟨σ2, ?_, g2, x2, by rw [l2, l1, hl]⟩
  have hD := g2.1.1
  obtain ⟨hF, hh, h5, h6⟩ := id hD
  have hE := g2.2.1.2.2.1
  have hT := g2.2.1.1
  have hFF := FF_ok (M := M) (n := n) (sz := sz) (dp := dp) (t := trT M h) hF.1.2.1 h5.2.2 h6.2.2
  have hF8 : (FF M n sz dp (trT M h)).length ≤ 8 := by have := hFF.1; have := h5.2.2; omega
  have hnar := X_narrowed (N := N) u3 hF8
  have hfin : ∀ b : Bool, fX11_isBroken_31 N σ2 (iB b) = some (iB b, σ2) := fun b => by
    unfold fX11_isBroken_31
    rw [if_neg (by cases b <;> decide)]
  obtain ⟨k1, k2, k3, k4⟩ := id u3
  unfold fX11_isBroken
  rw [w1, Option.bind_some, u1, Option.bind_some, hnar, Option.bind_some]
  by_cases ev : fvd M n T G V h sz dp = 2
  · have ev2 : vdF M T G V (trT M h) (FF M n sz dp (trT M h)) (FF M n sz dp (trT M h)).length = 2 := ev
    have hpos := vd_pos ev2
    obtain ⟨m4, m5, m6⟩ := k4 ev2
    have hbd := bisB_bd (vd := vdF M T G V (trT M h) (FF M n sz dp (trT M h))) (w := wtF M (FF M n sz dp (trT M h))) (FF M n sz dp (trT M h)).length 0 (FF M n sz dp (trT M h)).length hpos
    have hb1 : (fbs M n T G V h sz dp).1 < (fbs M n T G V h sz dp).2.1 := hbd.1
    have hb2 : (fbs M n T G V h sz dp).2.1 ≤ (FF M n sz dp (trT M h)).length := hbd.2.2.1
    have hnb : ((fbs M n T G V h sz dp).2.2 = none ∧ (fbs M n T G V h sz dp).2.1 - (fbs M n T G V h sz dp).1 = 1) ∨ (∃ k, (fbs M n T G V h sz dp).2.2 = some k ∧ (fbs M n T G V h sz dp).1 < k ∧ k < (fbs M n T G V h sz dp).2.1) := bisB_nar (vd := vdF M T G V (trT M h) (FF M n sz dp (trT M h))) (w := wtF M (FF M n sz dp (trT M h))) (FF M n sz dp (trT M h)).length 0 (FF M n sz dp (trT M h)).length hpos (by omega)
    rcases hnb with ⟨b1, b2⟩ | ⟨k, b1, b2, b3⟩
    · have en : narB M T G V (trT M h) (FF M n sz dp (trT M h)) = true := by
        unfold narB
        rw [decide_eq_true ev2, decide_eq_true (show (bisM M T G V (trT M h) (FF M n sz dp (trT M h))).2.1 - (bisM M T G V (trT M h) (FF M n sz dp (trT M h))).1 = 1 from b2)]; rfl
      have hver : verS N σ2 M T V := by
        obtain ⟨z1, z2, z3, z4, z5, z6, z7, z8, z9, z10, z11⟩ := id g2.1
        exact verS_of hN z4.1.1 z4.1.2 z10 z11 (fun j hj => (hF.2.2.2.2.1.2.2 j hj).2)
      have hvbg : fX11_verdictBehindGood N σ2 = some (iN (vbG (ffl M n T G V h sz dp 3) (fun q => sVer M V q (treeL M (trT M h) ((FF M n sz dp (trT M h)).take (fbs M n T G V h sz dp).1))) T)) := X_vbg (N := N) (g := (fbs M n T G V h sz dp).1) (b := (fbs M n T G V h sz dp).2.1) (show 100 ≤ N by omega) hver k1 hb2 (by omega) hF8 m4 m5
      have hiff := vbG_2 (M := M) (n := n) (T := T) (G := G) (V := V) (h := h) (sz := sz) (dp := dp) hE (by omega)
      have hv3 : vbG (ffl M n T G V h sz dp 3) (fun q => sVer M V q (treeL M (trT M h) ((FF M n sz dp (trT M h)).take (fbs M n T G V h sz dp).1))) T < 3 := by
        unfold vbG
        split
        · omega
        · split <;> omega
      rw [en, if_neg (show ¬ iB true = (0 : Int32) by decide), hvbg, Option.bind_some]
      generalize vbG (ffl M n T G V h sz dp 3) (fun q => sVer M V q (treeL M (trT M h) ((FF M n sz dp (trT M h)).take (fbs M n T G V h sz dp).1))) T = w at hiff hv3
      have eb : brkM M n T G V h sz dp = decide (ffl M n T G V h sz dp 2 = ffl M n T G V h sz dp 3) := by
        unfold brkM
        rw [decide_eq_true ev, b1, decide_eq_true rfl, Bool.true_and, Bool.true_and]
      rw [eb]
      by_cases c : w = 2
      · rw [if_pos (show iN w = (2 : Int32) by rw [c]; rfl), decide_eq_true (hiff.mp c)]
        exact hfin true
      · rw [if_neg (show ¬ iN w = (2 : Int32) by rw [show (2 : Int32) = iN 2 from rfl, iN_eq (by omega) (by omega)]; exact c), decide_eq_false (fun y => c (hiff.mpr y))]
        exact hfin false
    · have en : narB M T G V (trT M h) (FF M n sz dp (trT M h)) = false := by
        unfold narB
        rw [decide_eq_false (show ¬ (bisM M T G V (trT M h) (FF M n sz dp (trT M h))).2.1 - (bisM M T G V (trT M h) (FF M n sz dp (trT M h))).1 = 1 from fun x => by
          have : (fbs M n T G V h sz dp).2.1 - (fbs M n T G V h sz dp).1 = 1 := x
          omega)]
        simp
      have eb : brkM M n T G V h sz dp = false := by
        unfold brkM
        rw [b1, decide_eq_false (show ¬ some k = none from fun y => (nomatch y))]
        simp
      rw [en, if_pos (show iB false = (0 : Int32) from rfl), eb]
      exact hfin false
  · have en : narB M T G V (trT M h) (FF M n sz dp (trT M h)) = false := by
      unfold narB
      rw [decide_eq_false (show ¬ vdF M T G V (trT M h) (FF M n sz dp (trT M h)) (FF M n sz dp (trT M h)).length = 2 from ev)]; rfl
    have eb : brkM M n T G V h sz dp = false := by
      unfold brkM
      rw [decide_eq_false ev]; rfl
    rw [en, if_pos (show iB false = (0 : Int32) from rfl), eb]
    exact hfin false
