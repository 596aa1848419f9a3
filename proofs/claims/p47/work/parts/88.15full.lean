/-! full runs on both sides -/
theorem sI_same {M : gS} {k j : Nat} {v : Int32} (h : M.1 k j = v) : sI M k j v = M := by
  refine Prod.ext ?_ rfl
  funext k' j'
  rw [sI_1]
  by_cases e : k' = k ∧ j' = j
  · rw [if_pos e, e.1, e.2]; exact h.symm
  · rw [if_neg e]
def opC (M : gS) (T V : Nat) (t : Int64) : Nat := sCnt (fun q => sVer M V q t == 0) T
def faC (M : gS) (T V : Nat) (t : Int64) : Nat := sCnt (fun q => sVer M V q t == 2) T
def fuS (s M : gS) (T V : Nat) (t : Int64) : gS := if opC M T V t = 0 then sI (sI s 161 8 (iN 0)) 161 9 (iN (faC M T V t)) else sI (sI s 161 8 (iN 1)) 161 9 (s.1 161 9)
theorem L_full {N : Nat} {xs : Nat → Int32} {Lx : Nat} {rec221 : (gS × Int32 × Int32) → Option Int32} {rec2429 : (gS × Int32) → Option Int32} {s M : gS} {n T G V : Nat} {t : Int64} {x21 x24 x28 x29 x30 : Int32} (hN : 100 ≤ N) (hM : lawOf s = M) (h : LF M n T G V) (h8 : M.1 161 8 = iN 1) : lp (fL_law_2510 N xs Lx rec221 rec2429 x21 x24 t x28 x29 x30) N (s, 0, 0, 0) = fL_law_2603 N xs Lx rec221 rec2429 (fuS s M T V t) x21 x24 t x28 x29 x30 ∧ lawOf (fuS s M T V t) = (if opC M T V t = 0 then sI (sI M 161 8 (iN 0)) 161 9 (iN (faC M T V t)) else M) ∧ SmL s (fuS s M T V t) := by
  have hT : s.1 161 2 = iN T := by rw [lw1 hM (by omega)]; exact h.2.1.1
  have h9 : s.1 161 9 = M.1 161 9 := by rw [lw1 hM (by omega)]
  have hT4 := h.2.1.2
  have ho : opC M T V t ≤ T := sCnt_le T
  have hf : faC M T V t ≤ T := sCnt_le T
  have key : ∀ s' : gS, fL_law_2510 N xs Lx rec221 rec2429 x21 x24 t x28 x29 x30 (fun _ => none) (s, iN (opC M T V t), iN (faC M T V t), iN T) = fL_law_2603 N xs Lx rec221 rec2429 s' x21 x24 t x28 x29 x30 → lp (fL_law_2510 N xs Lx rec221 rec2429 x21 x24 t x28 x29 x30) N (s, 0, 0, 0) = fL_law_2603 N xs Lx rec221 rec2429 s' x21 x24 t x28 x29 x30 := fun s' hs' => by
    refine lp_run (F := fL_law_2510 N xs Lx rec221 rec2429 x21 x24 t x28 x29 x30) (fun j => (s, iN (sCnt (fun q => sVer M V q t == 0) j), iN (sCnt (fun q => sVer M V q t == 2) j), iN j)) T (fun j hj rec => ?_) (fun rec => ?_) N (by omega)
    · have hv := L_ver (N := N) (t := t) hN hM h (show j < 4 by omega)
      have h3 := sVer3 M V j t
      have s0 : sCnt (fun q => sVer M V q t == 0) (j + 1) = sCnt (fun q => sVer M V q t == 0) j + (if (sVer M V j t == 0) = true then 1 else 0) := rfl
      have s2 : sCnt (fun q => sVer M V q t == 2) (j + 1) = sCnt (fun q => sVer M V q t == 2) j + (if (sVer M V j t == 2) = true then 1 else 0) := rfl
      rw [s0, s2]
      unfold fL_law_2510 fL_law_2546 fL_law_2562
      dsimp only
      rw [hT, if_neg (show ¬ iN T ≤ iN j by rw [iN_le (by omega) (by omega)]; omega), hv, Option.bind_some]
      rcases (show sVer M V j t = 0 ∨ sVer M V j t = 1 ∨ sVer M V j t = 2 ∨ sVer M V j t = 3 by omega) with e | e | e | e
      · rw [e, if_pos (show iN 0 = (0 : Int32) from rfl), if_neg (show ¬ iN 0 = (2 : Int32) by decide), i_1, i_0, iN_add, iN_add, iN_add]; rfl
      · rw [e, if_neg (show ¬ iN 1 = (0 : Int32) by decide), if_neg (show ¬ iN 1 = (2 : Int32) by decide), i_1, i_0, iN_add, iN_add, iN_add]; rfl
      · rw [e, if_neg (show ¬ iN 2 = (0 : Int32) by decide), if_pos (show iN 2 = (2 : Int32) from rfl), i_1, i_0, iN_add, iN_add, iN_add]; rfl
      · rw [e, if_neg (show ¬ iN 3 = (0 : Int32) by decide), if_neg (show ¬ iN 3 = (2 : Int32) by decide), i_1, i_0, iN_add, iN_add, iN_add]; rfl
    · rw [← hs']
      unfold fL_law_2510
      dsimp only
      rw [hT, if_pos (show iN T ≤ iN T by rw [iN_le (by omega) (by omega)]; omega), if_pos (show iN T ≤ iN T by rw [iN_le (by omega) (by omega)]; omega)]
      rfl
  by_cases c : opC M T V t = 0
  · rw [show fuS s M T V t = sI (sI s 161 8 (iN 0)) 161 9 (iN (faC M T V t)) from if_pos c]
    refine ⟨key _ ?_, ?_, (SmL.sI (by omega)).trans (SmL.sI (by omega))⟩
    · unfold fL_law_2510
      dsimp only
      rw [hT, if_pos (show iN T ≤ iN T by rw [iN_le (by omega) (by omega)]; omega), c, if_pos (show iN 0 = (0 : Int32) from rfl)]
      unfold fL_law_2584 fL_law_2602
      rw [if_neg (show ¬ ((8 : Int32) < 0 ∨ 11 ≤ (8 : Int32).toNatClampNeg) by decide), if_pos (show iN 0 = (0 : Int32) from rfl), if_neg (show ¬ ((9 : Int32) < 0 ∨ 11 ≤ (9 : Int32).toNatClampNeg) by decide)]
      rfl
    · rw [if_pos c, lawOf_in (by omega), lawOf_in (by omega), hM]
  · rw [show fuS s M T V t = sI (sI s 161 8 (iN 1)) 161 9 (s.1 161 9) from if_neg c]
    refine ⟨key _ ?_, ?_, (SmL.sI (by omega)).trans (SmL.sI (by omega))⟩
    · unfold fL_law_2510
      dsimp only
      rw [hT, if_pos (show iN T ≤ iN T by rw [iN_le (by omega) (by omega)]; omega), if_neg (show ¬ iN (opC M T V t) = (0 : Int32) by rw [i_0, iN_eq (by omega) (by omega)]; exact c)]
      unfold fL_law_2584 fL_law_2602
      rw [if_neg (show ¬ ((8 : Int32) < 0 ∨ 11 ≤ (8 : Int32).toNatClampNeg) by decide), if_neg (show ¬ iN (opC M T V t) = (0 : Int32) by rw [i_0, iN_eq (by omega) (by omega)]; exact c), if_neg (show ¬ ((9 : Int32) < 0 ∨ 11 ≤ (9 : Int32).toNatClampNeg) by decide), sI_1, if_neg (by decide)]
      rfl
    · rw [if_neg c, lawOf_in (by omega), lawOf_in (by omega), hM, h9, sI_same h8, sI_same rfl]
/-- the class's -/
theorem X_full {N : Nat} {σ M : gS} {T V h : Nat} (hN : 100 ≤ N) (hv : verS N σ M T V) (ht : RCt σ M h) (h17 : σ.1 0 17 = iN 1) : fX11_endFullRun N σ = some (if opC M T V (trT M h) = 0 then sI (sI σ 0 16 (iN (faC M T V (trT M h)))) 0 17 (iN 0) else σ) := by
  obtain ⟨v1, v2, v3⟩ := hv
  have hstep : ∀ (j f : Nat) (rec : (gS × Int32 × Int32) → Option gS), j < T → fX11_endFullRun_12 N rec (σ, iN f, iN j) = if sVer M V j (trT M h) = 0 then some σ else rec (σ, iN (f + (if (sVer M V j (trT M h) == 2) = true then 1 else 0)), iN (j + 1)) := fun j f rec hj => by
    have h3 := sVer3 M V j (trT M h)
    unfold fX11_endFullRun_12 fX11_endFullRun_56
    dsimp only
    rw [v1, if_neg (show ¬ iN T ≤ iN j by rw [iN_le (by omega) (by omega)]; omega), X7_at (show j < 10 by omega), Option.bind_some, X_trunk ht, Option.bind_some, v3 j hj, Option.bind_some]
    rcases (show sVer M V j (trT M h) = 0 ∨ sVer M V j (trT M h) = 1 ∨ sVer M V j (trT M h) = 2 ∨ sVer M V j (trT M h) = 3 by omega) with e | e | e | e
    · rw [e, if_pos (show iN 0 = (0 : Int32) from rfl), if_pos rfl]
    · rw [e, if_neg (show ¬ iN 1 = (0 : Int32) by decide), if_neg (show ¬ iN 1 = (2 : Int32) by decide), if_neg (by decide), i_1, iN_add]; rfl
    · rw [e, if_neg (show ¬ iN 2 = (0 : Int32) by decide), if_pos (show iN 2 = (2 : Int32) from rfl), if_neg (by decide), i_1, iN_add, iN_add]; rfl
    · rw [e, if_neg (show ¬ iN 3 = (0 : Int32) by decide), if_neg (show ¬ iN 3 = (2 : Int32) by decide), if_neg (by decide), i_1, iN_add]; rfl
  have key : ∀ (m j N' : Nat), j + m = T → m < N' → (∀ i, i < j → (sVer M V i (trT M h) == 0) = false) → lp (fX11_endFullRun_12 N) N' (σ, iN (sCnt (fun q => sVer M V q (trT M h) == 2) j), iN j) = some (if opC M T V (trT M h) = 0 then sI (sI σ 0 16 (iN (faC M T V (trT M h)))) 0 17 (iN 0) else σ) := by
    intro m
    induction m with
    | zero =>
      intro j N' hj hN' hno
      obtain ⟨N', rfl⟩ : ∃ k, N' = k + 1 := ⟨N' - 1, by omega⟩
      have e : j = T := by omega
      subst e
      have e0 : opC M j V (trT M h) = 0 := by
        have := sCnt_congr (p := fun q => sVer M V q (trT M h) == 0) (q := fun _ => false) j hno
        rw [sCnt_f] at this; exact this
      rw [lp_1, if_pos e0]
      unfold fX11_endFullRun_12
      dsimp only
      rw [v1, if_pos (show iN j ≤ iN j by rw [iN_le (by omega) (by omega)]; omega)]
      rfl
    | succ m ih =>
      intro j N' hj hN' hno
      obtain ⟨N', rfl⟩ : ∃ k, N' = k + 1 := ⟨N' - 1, by omega⟩
      have hjT : j < T := by omega
      rw [lp_1, hstep j _ _ hjT]
      by_cases c : sVer M V j (trT M h) = 0
      · have hp : 0 < opC M T V (trT M h) := sCnt_pos.mpr (sAny_iff.mpr ⟨j, hjT, by simp [c]⟩)
        rw [if_pos c, if_neg (by omega)]
      · rw [if_neg c]
        exact ih (j + 1) N' (by omega) (by omega) (fun i hi => by
          by_cases e : i = j
          · rw [e]; simp [c]
          · exact hno i (by omega))
  unfold fX11_endFullRun
  rw [h17, if_neg (show ¬ iN 1 = (0 : Int32) by decide)]
  exact key T 0 N (by omega) (by omega) (fun i hi => absurd hi (Nat.not_lt_zero i))
theorem X_full0 {N : Nat} {σ : gS} (h17 : σ.1 0 17 = iN 0) : fX11_endFullRun N σ = some σ := by
  unfold fX11_endFullRun
  rw [h17]; exact if_pos rfl
