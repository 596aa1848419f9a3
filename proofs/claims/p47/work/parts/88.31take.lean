/-! the law's choice is the class's -/
def hasO (M : gS) (V : Nat) (cd : Nat → Option wEn) (K o : Nat) : Bool := (lo (pkK M V cd 1 (fun tm => decide (tm = o))) K).isSome
def pkC (M : gS) (V : Nat) (cd : Nat → Option wEn) (K : Nat) : Option Nat := match lo (pkK M V cd 0 (fun _ => true)) K with
  | some k => some k
  | none => match tiS M (hasO M V cd K) 3 with
    | none => lo (pkK M V cd 2 (fun _ => true)) K
    | some l => lo (pkK M V cd 1 (fun tm => decide (tm = l))) K
theorem foS_none {M : gS} {w : Nat → Option (Nat × Nat)} : ∀ o, (foS M w o).2 = none → ∀ o', o' < o → w o' = none
  | 0, _, o', h => absurd h (Nat.not_lt_zero o')
  | o + 1, h, o', ho => by
    have ih := foS_none (M := M) (w := w) o
    cases e : w o with
    | none =>
      rw [foS_n e] at h
      by_cases c : o' = o
      · rw [c]; exact e
      · exact ih h o' (by omega)
    | some x =>
      exfalso
      cases e2 : (foS M w o).2 with
      | none => rw [foS_0 e e2] at h; cases h
      | some y =>
        rw [foS_1 e e2] at h
        split at h
        · cases h
        · rw [e2] at h; cases h
theorem tiS_no {M : gS} {has : Nat → Bool} : ∀ o, (∀ x, x < o → has x = false) → tiS M has o = none
  | 0, _ => rfl
  | o + 1, h => by
    rw [tiS_s, h o (by omega), if_neg (by decide)]
    exact tiS_no o (fun x hx => h x (by omega))
theorem pkK_x {M : gS} {V wh k : Nat} {cd : Nat → Option wEn} {f : Nat → Bool} (h : pkK M V cd wh f k = true) : ∃ x, cd k = some x ∧ frM M V x.1 x.2.1 = true ∧ x.2.2.2 = wh ∧ f x.2.2.1 = true ∧ dupK M cd k = false := by
  cases hx : cd k with
  | none => rw [pkK_none hx] at h; cases h
  | some x =>
    rw [pkK_some hx, Bool.and_eq_true, Bool.and_eq_true, Bool.and_eq_true] at h
    exact ⟨x, rfl, h.1, of_decide_eq_true h.2.2.1, h.2.2.2, by simpa using h.2.1⟩
theorem chM_pick {M : gS} {n T G V h sz dp : Nat} (hT : T ≤ 4) : chM M n T G V h sz dp = rsl (cdO M n T G V h sz dp) (pkC M V (cdO M n T G V h sz dp) (4 * (nBM M n T G V h sz dp + 1))) := by
  have h0 := pick0 (M := M) (n := n) (T := T) (G := G) (V := V) (h := h) (sz := sz) (dp := dp) hT
  unfold chM c0M pkC
  rw [h0]
  cases e0 : lo (fun q => tb (setM M n T G V h sz dp) q && frM M V q (onM M n T G V h sz dp)) T with
  | some q =>
    have hq := ((lo_some T).mp e0).1
    rw [e0] at h0
    obtain ⟨x, x1, x2, x3, x4, x5⟩ := pkK_x ((lo_some _).mp h0).2.1
    have hcd := cd_lo (M := M) (n := n) (T := T) (G := G) (V := V) (h := h) (sz := sz) (dp := dp) (b := 0) (q := q) (by omega)
    rw [show 4 * 0 + q = q by omega] at hcd
    dsimp only [orE]
    rw [rsl_some x1]
    rw [x1] at hcd
    by_cases ev : fvd M n T G V h sz dp = 2
    · rw [cdM_bad ev hq] at hcd
      split at hcd
      · have ex := Option.some.inj hcd
        rw [ex, if_pos ev]
      · cases hcd
    · by_cases hz : 0 < nBM M n T G V h sz dp
      · rw [cdM_good ev hq hz] at hcd
        split at hcd
        · have ex := Option.some.inj hcd
          rw [ex, if_neg ev]
          have hon : onM M n T G V h sz dp = oB M (trT M h) (batM M n sz dp (trT M h)) 0 := by
            unfold onM oB
            rw [if_neg ev, take1]; rfl
          rw [hon]; rfl
        · cases hcd
      · have hz0 : 0 = nBM M n T G V h sz dp := by omega
        rw [hz0, cdM_full hq] at hcd
        split at hcd
        · have ex := Option.some.inj hcd
          rw [ex] at x3
          exact absurd (show (2 : Nat) = 0 from x3) (by decide)
        · cases hcd
  | none =>
    rw [e0] at h0
    dsimp only [orE]
    by_cases ev : fvd M n T G V h sz dp = 2
    · rw [if_pos ev]
      have hno : ∀ o, o < 3 → hasO M V (cdO M n T G V h sz dp) (4 * (nBM M n T G V h sz dp + 1)) o = false := fun o _ => by
        unfold hasO
        rw [pick1b ev]; rfl
      rw [tiS_no 3 hno]
      exact pick2 hT h0 (fun o _ => pick1b ev)
    · rw [if_neg ev]
      have hp1 := fun o (ho : o < 3) => pick1 (M := M) (n := n) (T := T) (G := G) (V := V) (h := h) (sz := sz) (dp := dp) ev hT ho
      have hhas : ∀ o, o < 3 → hasO M V (cdO M n T G V h sz dp) (4 * (nBM M n T G V h sz dp + 1)) o = (wtO M T G V (trT M h) (batM M n sz dp (trT M h)) o).isSome := fun o ho => by
        unfold hasO
        rw [hp1 o ho]
        cases wtO M T G V (trT M h) (batM M n sz dp (trT M h)) o <;> rfl
      rw [tiS_foS hhas 3 (Nat.le_refl 3)]
      unfold c1M
      cases e1 : (foS M (wtO M T G V (trT M h) (batM M n sz dp (trT M h))) 3).2 with
      | none =>
        have hall := foS_none 3 e1
        exact pick2 hT h0 (fun o ho => by rw [hp1 o ho, hall o ho]; rfl)
      | some x =>
        obtain ⟨l1, l2⟩ := foS_in 3 e1
        show some (x.2, oB M (trT M h) (batM M n sz dp (trT M h)) x.1, (foS M (wtO M T G V (trT M h) (batM M n sz dp (trT M h))) 3).1) = rsl _ (lo (pkK M V (cdO M n T G V h sz dp) 1 (fun tm => decide (tm = (foS M (wtO M T G V (trT M h) (batM M n sz dp (trT M h))) 3).1))) (4 * (nBM M n T G V h sz dp + 1)))
        have hp := hp1 _ l1
        rw [l2] at hp
        rw [hp]
        show _ = rsl (cdO M n T G V h sz dp) (some (4 * x.1 + x.2))
        obtain ⟨y, y1, y2, y3, y4, y5⟩ := pkK_x ((lo_some _).mp hp).2.1
        have hw := w2_in _ _ l2
        rw [← good_nB ev] at hw
        rw [rsl_some y1]
        rw [cd_lo (by omega), cdM_good ev hw.2.2.1 (by omega)] at y1
        split at y1
        · have ey := Option.some.inj y1
          have y4' := of_decide_eq_true y4
          rw [← y4', ← ey]
        · cases y1
/-! the class takes what the law takes -/
def tkS (σ : gS) (j q v a : Nat) (w : Int64) : gS := sI (sI (sJ (sI σ (144 + j) 2 (iN q)) (144 + j) 3 w) (144 + j) 4 (iN a)) (144 + j) 5 (iN v)
theorem X_take6 {N : Nat} {σ M : gS} {j q : Nat} {ag : Nat → Nat} {w : Int64} (hj : j < 3) (hq : q < 4) (hrk : RCk σ M ag q) (h4 : σ.1 (76 + 3 * q) 4 = M.1 172 (12 * q + 1)) (h1 : σ.1 (144 + j) 1 = M.1 176 (6 * j + 3)) (ht : M.1 172 (12 * q + 1) = iN (vN M 172 (12 * q + 1))) (ht1 : 1 ≤ vN M 172 (12 * q + 1)) (ht3 : vN M 172 (12 * q + 1) ≤ 3) : fX6_take N σ (144 + j) (76 + 3 * q) w = some (iN (tmT M j q), tkS σ j q (tmT M j q) (ag q) w) := by
  have h32 : ∀ v, fX6_take_32 N σ (144 + j) (76 + 3 * q) w (iN v) = some (iN v, tkS σ j q v (ag q) w) := fun v => by
    unfold fX6_take_32 tkS
    rw [hrk.1, sJ_1, sI_1, if_neg (by omega), hrk.2.1]
  unfold fX6_take fX6_take_28
  rw [h1, hrk.1, h4, ht]
  unfold tmT
  by_cases c : M.1 176 (6 * j + 3) = iN q
  · rw [if_pos c, if_pos c]
    by_cases c2 : vN M 172 (12 * q + 1) ≤ 1
    · rw [if_pos (show iN (vN M 172 (12 * q + 1)) ≤ (1 : Int32) by rw [i_1, iN_le (by omega) (by omega)]; exact c2), h32, if_pos c2, show vN M 172 (12 * q + 1) = 1 by omega]
    · rw [if_neg (show ¬ iN (vN M 172 (12 * q + 1)) ≤ (1 : Int32) by rw [i_1, iN_le (by omega) (by omega)]; exact c2), if_neg c2, i_1, iN_sub (by omega) (by omega), h32]
  · rw [if_neg c, if_neg c, h32]
def tkF (σ : gS) (i j q v a tm u : Nat) (w : Int64) : gS := if tm = 3 then sJ (tkS σ j q v a w) 133 i 3 else sJ (sJ (tkS σ j q v a w) 158 tm (jN (u + v))) 133 i 3
theorem X_tw47 {N : Nat} {σ M : gS} {V i j : Nat} {cd : Nat → Option wEn} {O : List Nat} {ag : Nat → Nat} {x : wEn} (hj : j < 3) (hW : WT σ M V cd O) (hi : i < O.length) (hx : cd (O.getD i 0) = some x) (hrk : RCk σ M ag x.1) (h4 : σ.1 (76 + 3 * x.1) 4 = M.1 172 (12 * x.1 + 1)) (h1 : σ.1 (144 + j) 1 = M.1 176 (6 * j + 3)) (ht : M.1 172 (12 * x.1 + 1) = iN (vN M 172 (12 * x.1 + 1))) (ht1 : 1 ≤ vN M 172 (12 * x.1 + 1)) (ht3 : vN M 172 (12 * x.1 + 1) ≤ 3) (hU : US σ M) : fX11_takeWanted_47 N σ (144 + j) (iN i) = some (tkF σ i j x.1 (tmT M j x.1) (ag x.1) x.2.2.1 (vN M 178 x.2.2.1) (x.2.1 &&& gMask (M.1 172 (12 * x.1)))) := by
  obtain ⟨_, h20, hc⟩ := hW
  obtain ⟨y, y1, ⟨y2, y3, y4⟩, y5, y6, y7, y8⟩ := hc i hi
  have e : x = y := Option.some.inj (hx.symm.trans y1)
  subst e
  have g1 := X_whole (N := N) (σ := σ) (r := 130) (j := i) (len := 50) rfl (show i < 50 by omega) (show (50 : Nat) < 1000 by decide)
  rw [y7, Int32.toInt32_toInt64] at g1
  have g2 := X_whole (N := N) (σ := σ) (r := 126) (j := i) (len := 50) rfl (show i < 50 by omega) (show (50 : Nat) < 1000 by decide)
  rw [y5, jN_32 (by omega)] at g2
  have g3 := X_get (N := N) (σ := σ) (r := 128) (j := i) (len := 50) rfl (show i < 50 by omega) (show (50 : Nat) < 1000 by decide)
  rw [y6] at g3
  have htk := X_take6 (N := N) (w := x.2.1 &&& gMask (M.1 172 (12 * x.1))) hj y2 hrk h4 h1 ht ht1 ht3
  have h125 : ∀ s : gS, fX11_takeWanted_125 N s (iN i) = some (sJ s 133 i 3) := fun s => by
    have g4 := X_set (N := N) (σ := s) (r := 132) (j := i) (len := 50) (v := 3) rfl (show i < 50 by omega) (show (50 : Nat) < 1000 by decide)
    unfold fX11_takeWanted_125
    rw [g4]; rfl
  unfold fX11_takeWanted_47 tkF
  rw [if_neg (show ¬ iN i = (-1 : Int32) from iM_ne (by omega)), g1, Option.bind_some, g2, Option.bind_some, X7_at (show x.1 < 10 by omega), Option.bind_some, g3, Option.bind_some, htk, Option.bind_some]
  dsimp only
  by_cases c : x.2.2.1 = 3
  · rw [if_pos (show iT x.2.2.1 = (-1 : Int32) by rw [c]; rfl), h125, if_pos c]
  · have eT : iT x.2.2.1 = iN x.2.2.1 := by unfold iT; rw [if_neg c]
    have hu := (hU x.2.2.1 (by omega)).1
    have htm := tmT_bd (j := j) ht1 ht3
    have g5 := X_get (N := N) (σ := tkS σ j x.1 (tmT M j x.1) (ag x.1) (x.2.1 &&& gMask (M.1 172 (12 * x.1)))) (r := 157) (j := x.2.2.1) (len := 3) rfl (show x.2.2.1 < 3 by omega) (show (3 : Nat) < 1000 by decide)
    have e5 : (tkS σ j x.1 (tmT M j x.1) (ag x.1) (x.2.1 &&& gMask (M.1 172 (12 * x.1)))).2.1 (157 + 1) x.2.2.1 = jN (vN M 178 x.2.2.1) := by
      unfold tkS
      rw [sI_2, sI_2, sJ_2, if_neg (by omega)]; exact hu
    rw [e5] at g5
    have g6 := X_set (N := N) (σ := tkS σ j x.1 (tmT M j x.1) (ag x.1) (x.2.1 &&& gMask (M.1 172 (12 * x.1)))) (r := 157) (j := x.2.2.1) (len := 3) (v := jN (vN M 178 x.2.2.1 + tmT M j x.1)) rfl (show x.2.2.1 < 3 by omega) (show (3 : Nat) < 1000 by decide)
    rw [eT, if_neg (show ¬ iN x.2.2.1 = (-1 : Int32) from iM_ne (by omega)), g5, Option.bind_some, iN_64 (show tmT M j x.1 < 2147483648 by omega), jN_add, g6, Option.bind_some, h125, if_neg c]
theorem X_takeWanted {N : Nat} {σ M M0 : gS} {V K r1 : Nat} {cd : Nat → Option wEn} (hN : 100 ≤ N) (hW : WT σ M V cd (oLs M0 V cd K)) (hU : US σ M) (hu : UW M) (hk : ∀ q, q < 4 → M.1 172 (12 * q) = M0.1 172 (12 * q)) (hcd : ∀ k x, cd k = some x → x.1 < 4) (hle : frLe M M0 V) : (pkC M V cd K = none ∧ fX11_takeWanted N σ r1 = some σ) ∨ ∃ i k x, i < (oLs M0 V cd K).length ∧ (oLs M0 V cd K).getD i 0 = k ∧ pkC M V cd K = some k ∧ cd k = some x ∧ frM M V x.1 x.2.1 = true ∧ fX11_takeWanted N σ r1 = fX11_takeWanted_47 N σ r1 (iN i) := by
  have h47 : fX11_takeWanted_47 N σ r1 iM = some σ := if_pos rfl
  have hti := X_teamInTurn hN hW hU hu hk hcd hle
  have f0 := X_ff (wh := 0) (x2 := iM) (f := fun _ => true) hN hW (by omega) (Or.inl ⟨rfl, rfl⟩) hk hcd hle
  unfold pkC
  rcases f0 with ⟨a1, a2⟩ | ⟨i, k, a1, a2, a3, a4⟩
  · have ht2 : fX11_teamInTurn N σ = some (iO (tiS M (hasO M V cd K) 3)) := hti
    have e0 : fX11_takeWanted N σ r1 = (fX11_teamInTurn N σ).bind fun r_4 => if r_4 = (-1) then ((fX10_firstFor N σ (2 : Int32) ((-1) : Int32)).bind fun r_9 => fX11_takeWanted_46 N σ r1 r_9) else ((fX10_firstFor N σ (1 : Int32) r_4).bind fun r_7 => fX11_takeWanted_46 N σ r1 r_7) := by
      unfold fX11_takeWanted
      rw [show fX10_firstFor N σ (0 : Int32) ((-1) : Int32) = some iM from a2, Option.bind_some]
      exact if_pos rfl
    rw [a1, e0, ht2, Option.bind_some]
    cases et : tiS M (hasO M V cd K) 3 with
    | none =>
      have f2 := X_ff (wh := 2) (x2 := iM) (f := fun _ => true) hN hW (by omega) (Or.inl ⟨rfl, rfl⟩) hk hcd hle
      rw [if_pos (show iO none = (-1 : Int32) from rfl)]
      rcases f2 with ⟨b1, b2⟩ | ⟨i, k, b1, b2, b3, b4⟩
      · rw [show fX10_firstFor N σ (2 : Int32) ((-1) : Int32) = some iM from b2, Option.bind_some]
        exact Or.inl ⟨b1, h47⟩
      · rw [show fX10_firstFor N σ (2 : Int32) ((-1) : Int32) = some (iN i) from b4, Option.bind_some]
        obtain ⟨x, x1, x2, _⟩ := pkK_x ((lo_some _).mp b3).2.1
        exact Or.inr ⟨i, k, x, b1, b2, b3, x1, x2, rfl⟩
    | some l =>
      have hl := tiS_lt 3 et
      have f1 := X_ff (wh := 1) (x2 := iN l) (f := fun tm => decide (tm = l)) hN hW (by omega) (Or.inr ⟨l, hl.1, rfl, rfl⟩) hk hcd hle
      rw [if_neg (show ¬ iO (some l) = (-1 : Int32) from iM_ne (show l < 2147483648 by omega))]
      rcases f1 with ⟨b1, b2⟩ | ⟨i, k, b1, b2, b3, b4⟩
      · exfalso
        have := hl.2
        unfold hasO at this
        rw [b1] at this; cases this
      · rw [show fX10_firstFor N σ (1 : Int32) (iO (some l)) = some (iN i) from b4, Option.bind_some]
        obtain ⟨x, x1, x2, _⟩ := pkK_x ((lo_some _).mp b3).2.1
        exact Or.inr ⟨i, k, x, b1, b2, b3, x1, x2, rfl⟩
  · have hi20 : i < 20 := by have := hW.2.1; omega
    obtain ⟨x, x1, x2, _⟩ := pkK_x ((lo_some _).mp a3).2.1
    refine Or.inr ⟨i, k, x, a1, a2, by rw [a3], x1, x2, ?_⟩
    unfold fX11_takeWanted
    rw [show fX10_firstFor N σ (0 : Int32) ((-1) : Int32) = some (iN i) from a4, Option.bind_some]
    exact if_neg (show ¬ iN i = (-1 : Int32) from iM_ne (by omega))
