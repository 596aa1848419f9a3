/-! what the law's deciding makes of a turn -/
theorem par_fr {M M' : gS} {c : Nat} (h : M'.1 163 c = M.1 163 c) : par M' c = par M c := by
  unfold par vN; rw [h]
theorem parOK.fr {M M' : gS} {n : Nat} (hp : parOK M n) (h : ∀ c, c < n → M'.1 163 c = M.1 163 c) : parOK M' n := fun c hc => by
  rw [par_fr (h c hc), h c hc]; exact hp c hc
theorem qpOK.fr {M M' : gS} {n : Nat} (hq : qpOK M n) (hp : parOK M n) (h : ∀ c, c < n → M'.1 163 c = M.1 163 c) (h4 : ∀ c, c < n → M'.1 164 c = M.1 164 c) : qpOK M' n := fun c hc h1 q h2 => by
  rw [par_fr (h c hc)] at h2
  rw [h4 c hc] at h1
  have := (hp c hc).2 q h2
  rw [h4 q (by omega)]; exact hq c hc h1 q h2
theorem stOK.fr {M M' : gS} {n : Nat} (hs : stOK M n) (h4 : ∀ c, c < n → M'.1 164 c = M.1 164 c) : stOK M' n := fun c hc => by
  rw [h4 c hc]; exact hs c hc
theorem lvG_fr {M M' : gS} {c : Nat} (h3 : M'.1 163 = M.1 163) (h4 : M'.1 164 = M.1 164) : ∀ k, lvG M' c k = lvG M c k
  | 0 => rfl
  | k + 1 => by
    funext d
    rw [lvG_s, lvG_s, lvG_fr h3 h4 k, h4, par_fr (M := M) (M' := M') (c := k) (by rw [h3])]
theorem lvS_fr {M M' : gS} {c st k : Nat} (h3 : M'.1 163 = M.1 163) (h4 : M'.1 164 = M.1 164) : lvS M' c st k = lvS M c st k := by
  funext d
  unfold lvS
  rw [lvG_fr h3 h4, h4]
def LD (M : gS) (n T G V h sz dp : Nat) : Prop := LF M n T G V ∧ (M.1 161 1 = iN h ∧ 1 ≤ h ∧ h ≤ 25) ∧ (M.1 161 5 = iN sz ∧ 1 ≤ sz ∧ sz ≤ 4) ∧ (M.1 161 6 = iN dp ∧ 1 ≤ dp ∧ dp ≤ 4)
/-- of the first batch: its verdict; how far it is narrowed down; the one to blame -/
def fvd (M : gS) (n T G V h sz dp : Nat) : Nat := vdF M T G V (trT M h) (FF M n sz dp (trT M h)) (FF M n sz dp (trT M h)).length
def fbs (M : gS) (n T G V h sz dp : Nat) : Nat × Nat × Option Nat := bisM M T G V (trT M h) (FF M n sz dp (trT M h))
def ffl (M : gS) (n T G V h sz dp v : Nat) : Int32 := orT (flB M T G V (trT M h) (FF M n sz dp (trT M h)) (fbs M n T G V h sz dp).1 (fbs M n T G V h sz dp).2.1 v) T
def fred (M : gS) (n T G V h sz dp : Nat) : Nat := (FF M n sz dp (trT M h)).getD ((fbs M n T G V h sz dp).2.1 - 1) 0
theorem L_d92 {N : Nat} {rec3 : (gS × Int32) → Option (Int64 × gS)} {s M : gS} {n T G V h sz dp : Nat} (hN : 100 ≤ N) (hM : lawOf s = M) (hD : LD M n T G V h sz dp) :
    ∃ s1 : gS, fL_decides_92 N rec3 s 1 (trT M h) = (if fvd M n T G V h sz dp = 1 then lp (fL_decides_179 N rec3 (iN 1) (trT M h) (iN (FF M n sz dp (trT M h)).length) (iN (fvd M n T G V h sz dp))) N (s1, 0) else lp (fL_decides_179 N rec3 (iN 0) (trT M h) (iN (FF M n sz dp (trT M h)).length) (iN (fvd M n T G V h sz dp))) N (s1, 0)) ∧ lawOf s1 = M ∧ SmL s s1 ∧ dHas s1 (FF M n sz dp (trT M h)) ∧ s1.2.1 180 0 = treeL M (trT M h) (FF M n sz dp (trT M h)) := by
  obtain ⟨hF, ⟨hh, h1, h25⟩, ⟨h5, h51, h54⟩, h6, h61, h64⟩ := hD
  obtain ⟨s1, w1, w2, w3, w4, w5, w6, w7, w8, w9, w10⟩ := L_first (N := N) (t := trT M h) hN hM hF h5 h54 h6 ⟨h61, h64⟩
  have hFF := FF_ok (M := M) (n := n) (sz := sz) (dp := dp) (t := trT M h) hF.1.2.1 h54 h64
  have hrq := L_requiredOf (k := (FF M n sz dp (trT M h)).length) hN w2 hF w8 (fun c hc => (hFF.2 c hc).1) (Nat.le_refl _)
  rw [List.take_length] at hrq
  have hvs := L_vers (N := N) (σ := s1) (set := rqL M T G (FF M n sz dp (trT M h))) (t := treeL M (trT M h) (FF M n sz dp (trT M h))) hN w2 hF
  rw [← vdF_all] at hvs
  have h3 := sTog3 (rqL M T G ((FF M n sz dp (trT M h)).take (FF M n sz dp (trT M h)).length)) (fun q => sVer M V q (treeL M (trT M h) ((FF M n sz dp (trT M h)).take (FF M n sz dp (trT M h)).length))) T
  refine ⟨s1, ?_, w2, ⟨fun k hk => ⟨w4 k (by omega), w5 k (by omega)⟩, w3⟩, w8, w9⟩
  unfold fL_decides_92
  rw [if_neg (show ¬ (1 : Int32) = 0 by decide), w1, Option.bind_some]
  dsimp only
  have hvs2 : fL_verdicts N s1 (rqL M T G (FF M n sz dp (trT M h))) (treeL M (trT M h) (FF M n sz dp (trT M h))) = some (iN (fvd M n T G V h sz dp)) := hvs
  rw [w10 s1 rfl, Option.bind_some, hrq, Option.bind_some, w9, hvs2, Option.bind_some]
  unfold fL_decides_174
  have hv3 : fvd M n T G V h sz dp = 0 ∨ fvd M n T G V h sz dp = 1 ∨ fvd M n T G V h sz dp = 2 := h3
  by_cases c : fvd M n T G V h sz dp = 1
  · rw [if_pos c, if_pos (show iN (fvd M n T G V h sz dp) = (1 : Int32) by rw [c]; rfl)]; rfl
  · rw [if_neg c, if_neg (show ¬ iN (fvd M n T G V h sz dp) = (1 : Int32) by rw [i_1, iN_eq (by omega) (by omega)]; exact c)]
    rfl
theorem fvd3 (M : gS) (n T G V h sz dp : Nat) : fvd M n T G V h sz dp = 0 ∨ fvd M n T G V h sz dp = 1 ∨ fvd M n T G V h sz dp = 2 := sTog3 _ _ _
/-- a turn that decides nothing -/
def stopD (M : gS) (n T G V h sz dp : Nat) : Prop := nx M (Wl M (iN 0)) n = none ∨ ∃ c, nx M (Wl M (iN 0)) n = some c ∧ bFit (M.1 168 c) (M.2.1 169 c) (trT M h) = true ∧ (fvd M n T G V h sz dp = 0 ∨ (fvd M n T G V h sz dp = 2 ∧ ¬ ((fbs M n T G V h sz dp).2.2 = none ∧ ¬ ffl M n T G V h sz dp 1 = iN 0)))
theorem L_dec0 {N : Nat} {rec3 : (gS × Int32) → Option (Int64 × gS)} {s M : gS} {n T G V h sz dp : Nat} (hN : 100 ≤ N) (hM : lawOf s = M) (hD : LD M n T G V h sz dp) (hst : stopD M n T G V h sz dp) : ∃ s', fL_decides_3 N rec3 (s, iN 1) = rec3 (s', iN 0) ∧ lawOf s' = M ∧ SmL s s' := by
  have hD0 := hD
  obtain ⟨hF, ⟨hh, h1, h25⟩, ⟨h5, h51, h54⟩, h6, h61, h64⟩ := hD
  have hM2 : lawOf (scr s) = M := (scr_law s).trans hM
  rw [L_d3 hN hM hF.1.1 hF.1.2.1 hF.1.2.2 hh h1 h25]
  rcases hst with e | ⟨c, e, e2, e3⟩
  · rw [e]
    refine ⟨scr s, ?_, hM2, scr_sm s⟩
    dsimp only
    unfold fL_decides_57
    rw [if_pos rfl]
    unfold fL_decides_92
    rw [if_pos rfl]
    rfl
  · rw [e]
    have hc := (nx_lt e).1
    obtain ⟨s1, r1, r2, r3, r4, r5⟩ := L_d92 (rec3 := rec3) hN hM2 hD0
    have hFF := FF_ok (M := M) (n := n) (sz := sz) (dp := dp) (t := trT M h) hF.1.2.1 h54 h64
    have hn1 : ¬ fvd M n T G V h sz dp = 1 := by
      rcases e3 with e3 | ⟨e3, _⟩ <;> omega
    have hb3 : fvd M n T G V h sz dp < 2147483648 := by rcases fvd3 M n T G V h sz dp with e | e | e <;> omega
    rw [if_neg hn1, L_d179n hN (show ¬ iN (fvd M n T G V h sz dp) = (1 : Int32) by rw [i_1, iN_eq hb3 (by omega)]; exact hn1)] at r1
    have e57 : fL_decides_57 N rec3 (scr s) (trT M h) (iN c) 1 = fL_decides_92 N rec3 (scr s) 1 (trT M h) := by
      unfold fL_decides_57
      rw [if_neg (show ¬ (1 : Int32) = 0 by decide), L_fits hN hM2 (by have := hF.1.2.1; omega), Option.bind_some, e2, if_neg (show ¬ iB true = (0 : Int32) by decide)]
    dsimp only
    rw [e57, r1]
    unfold fL_decides_217
    rw [if_neg (show ¬ iN (fvd M n T G V h sz dp) = (1 : Int32) by rw [i_1, iN_eq hb3 (by omega)]; exact hn1)]
    unfold fL_decides_240
    rcases e3 with e3 | ⟨e3, e4⟩
    · rw [e3, if_neg (show ¬ iN 0 = (2 : Int32) by decide)]
      unfold fL_decides_314
      rw [if_neg (show ¬ iN 0 = (2 : Int32) by decide)]
      exact ⟨s1, rfl, r2, (scr_sm s).trans r3⟩
    · rw [e3, if_pos (show iN 2 = (2 : Int32) from rfl)]
      obtain ⟨s2, q1, q2, q3, q4, q5, q6, q7⟩ := L_bisects (t := trT M h) hN r2 hF r4 (fun c hc => (hFF.2 c hc).1)
      have hs2 : SmL s1 s2 := ⟨fun k hk => ⟨q4 k (by omega), by rw [q3]⟩, by rw [q3]⟩
      have hpos : 0 < (FF M n sz dp (trT M h)).length := vd_pos (show vdF M T G V (trT M h) (FF M n sz dp (trT M h)) (FF M n sz dp (trT M h)).length = 2 from e3)
      have hbd := bisB_bd (vd := vdF M T G V (trT M h) (FF M n sz dp (trT M h))) (w := wtF M (FF M n sz dp (trT M h))) (FF M n sz dp (trT M h)).length 0 (FF M n sz dp (trT M h)).length hpos
      rw [q1, Option.bind_some, q7]
      have h312 : fL_decides_311 N rec3 s2 (iN 2) = rec3 (s2, iN 0) := by
        unfold fL_decides_311 fL_decides_312 fL_decides_314
        rw [if_pos (show iN 2 = (2 : Int32) from rfl), if_pos rfl]
        rfl
      refine ⟨s2, ?_, q2, ((scr_sm s).trans r3).trans hs2⟩
      cases e5 : (bisM M T G V (trT M h) (FF M n sz dp (trT M h))).2.2 with
      | some k =>
        have hk := hbd.2.2.2 k e5
        rw [if_pos (show (0 : Int32) ≤ iO (some k) by show (0 : Int32) ≤ iN k; rw [i_0, iN_le (by omega) (by omega)]; omega)]
        exact h312
      | none =>
        rw [if_neg (show ¬ (0 : Int32) ≤ iO none by decide)]
        have hd2 : dHas s2 (FF M n sz dp (trT M h)) := ⟨r4.1, fun j hj => by rw [q4 179 (by omega)]; exact r4.2 j hj⟩
        have hfl := L_failed (v := 1) (t := trT M h) (g := (bisM M T G V (trT M h) (FF M n sz dp (trT M h))).1) (b := (bisM M T G V (trT M h) (FF M n sz dp (trT M h))).2.1) hN q2 hF hd2 (fun c hc => (hFF.2 c hc).1) hbd.2.2.1 (Nat.le_of_lt (Nat.lt_of_lt_of_le hbd.1 hbd.2.2.1)) q5 q6 (by omega)
        have hz : ffl M n T G V h sz dp 1 = iN 0 := by
          apply Classical.byContradiction
          intro hne
          exact e4 ⟨e5, hne⟩
        have hfl2 : fL_failed N s2 (trT M h) (iN 1) = some (ffl M n T G V h sz dp 1) := hfl
        rw [i_1, hfl2, Option.bind_some, if_pos (show ffl M n T G V h sz dp 1 = (0 : Int32) from hz)]
        exact h312
/-- it clashes -/
theorem L_dec1 {N : Nat} {rec3 : (gS × Int32) → Option (Int64 × gS)} {s M : gS} {n T G V h sz dp c : Nat} (hN : 100 ≤ N) (hM : lawOf s = M) (hD : LD M n T G V h sz dp) (hq : qpOK M n) (hst : stOK M n) (e : nx M (Wl M (iN 0)) n = some c) (e2 : bFit (M.1 168 c) (M.2.1 169 c) (trT M h) = false) : ∃ s', fL_decides_3 N rec3 (s, iN 1) = rec3 (s', iN 1) ∧ lawOf s' = row4 M (lvS M c 4 n) ∧ SmL s s' := by
  obtain ⟨hF, ⟨hh, h1, h25⟩, ⟨h5, h51, h54⟩, h6, h61, h64⟩ := hD
  have hM2 : lawOf (scr s) = M := (scr_law s).trans hM
  have hc := (nx_lt e).1
  rw [L_d3 hN hM hF.1.1 hF.1.2.1 hF.1.2.2 hh h1 h25, e]
  refine ⟨row4 (scr s) (lvS M c 4 n), ?_, by rw [lawOf_row4, hM2], (scr_sm s).trans (SmL.row4 _ _)⟩
  dsimp only
  unfold fL_decides_57
  rw [if_neg (show ¬ (1 : Int32) = 0 by decide), L_fits hN hM2 (by have := hF.1.2.1; omega), Option.bind_some, e2, if_pos (show iB false = (0 : Int32) from rfl), i_4, L_leaves hN hM2 hF.1.1 hF.1.2.1 hF.1.2.2 hq hst hc (by omega), Option.bind_some]
  rfl
/-- the first batch lands -/
theorem L_dec2 {N : Nat} {rec3 : (gS × Int32) → Option (Int64 × gS)} {s M : gS} {n T G V h sz dp c : Nat} (hN : 100 ≤ N) (hM : lawOf s = M) (hD : LD M n T G V h sz dp) (e : nx M (Wl M (iN 0)) n = some c) (e2 : bFit (M.1 168 c) (M.2.1 169 c) (trT M h) = true) (e3 : fvd M n T G V h sz dp = 1) : ∃ s', fL_decides_3 N rec3 (s, iN 1) = rec3 (s', iN 1) ∧ lawOf s' = landM M (FF M n sz dp (trT M h)) h (treeL M (trT M h) (FF M n sz dp (trT M h))) ∧ SmL s s' := by
  have hD0 := hD
  obtain ⟨hF, ⟨hh, h1, h25⟩, ⟨h5, h51, h54⟩, h6, h61, h64⟩ := hD
  have hM2 : lawOf (scr s) = M := (scr_law s).trans hM
  have hc := (nx_lt e).1
  rw [L_d3 hN hM hF.1.1 hF.1.2.1 hF.1.2.2 hh h1 h25, e]
  obtain ⟨s1, r1, r2, r3, r4, r5⟩ := L_d92 (rec3 := rec3) hN hM2 hD0
  have hFF := FF_ok (M := M) (n := n) (sz := sz) (dp := dp) (t := trT M h) hF.1.2.1 h54 h64
  have h161 : s1.1 161 1 = iN h := by rw [lw1 r2 (by omega)]; exact hh
  rw [if_pos e3, e3, L_d179 hN hF.1.2.1 r4 (fun c hc => (hFF.2 c hc).1) h161] at r1
  have e57 : fL_decides_57 N rec3 (scr s) (trT M h) (iN c) 1 = fL_decides_92 N rec3 (scr s) 1 (trT M h) := by
    unfold fL_decides_57
    rw [if_neg (show ¬ (1 : Int32) = 0 by decide), L_fits hN hM2 (by have := hF.1.2.1; omega), Option.bind_some, e2, if_neg (show ¬ iB true = (0 : Int32) by decide)]
  refine ⟨landM s1 (FF M n sz dp (trT M h)) h (treeL M (trT M h) (FF M n sz dp (trT M h))), ?_, by rw [lawOf_land, r2], ((scr_sm s).trans r3).trans SmL.land⟩
  dsimp only
  rw [e57, r1]
  have g1 : (lnS s1 (FF M n sz dp (trT M h)) h).1 161 1 = iN h := by rw [lnS_far _ _ _ (by omega) (by omega)]; exact h161
  have g2 : (lnS s1 (FF M n sz dp (trT M h)) h).2.1 180 0 = treeL M (trT M h) (FF M n sz dp (trT M h)) := r5
  unfold fL_decides_217
  rw [if_pos (show iN 1 = (1 : Int32) from rfl), g1, g2, if_neg (gi (show h < 26 by omega) (by decide)), iN_cl (show h < 2147483648 by omega), sJ_1, g1, i_1, iN_add]
  unfold fL_decides_240
  rw [if_neg (show ¬ iN 1 = (2 : Int32) by decide)]
  unfold fL_decides_314
  rw [if_neg (show ¬ iN 1 = (2 : Int32) by decide)]
  rfl
/-- one is to blame -/
theorem L_dec3 {N : Nat} {rec3 : (gS × Int32) → Option (Int64 × gS)} {s M : gS} {n T G V h sz dp c : Nat} (hN : 100 ≤ N) (hM : lawOf s = M) (hD : LD M n T G V h sz dp) (hq : qpOK M n) (hst : stOK M n) (e : nx M (Wl M (iN 0)) n = some c) (e2 : bFit (M.1 168 c) (M.2.1 169 c) (trT M h) = true) (e3 : fvd M n T G V h sz dp = 2) (e4 : (fbs M n T G V h sz dp).2.2 = none) (e5 : ¬ ffl M n T G V h sz dp 1 = iN 0) : ∃ s', fL_decides_3 N rec3 (s, iN 1) = rec3 (s', iN 1) ∧ lawOf s' = row4 (sI M 178 (6 + vN M 162 (fred M n T G V h sz dp)) (iN (vN M 178 (6 + vN M 162 (fred M n T G V h sz dp)) + 1))) (lvS M (fred M n T G V h sz dp) 3 n) ∧ SmL s s' := by
  have hD0 := hD
  obtain ⟨hF, ⟨hh, h1, h25⟩, ⟨h5, h51, h54⟩, h6, h61, h64⟩ := hD
  have hM2 : lawOf (scr s) = M := (scr_law s).trans hM
  have hc := (nx_lt e).1
  rw [L_d3 hN hM hF.1.1 hF.1.2.1 hF.1.2.2 hh h1 h25, e]
  obtain ⟨s1, r1, r2, r3, r4, r5⟩ := L_d92 (rec3 := rec3) hN hM2 hD0
  have hFF := FF_ok (M := M) (n := n) (sz := sz) (dp := dp) (t := trT M h) hF.1.2.1 h54 h64
  rw [if_neg (show ¬ fvd M n T G V h sz dp = 1 by omega), e3, L_d179n hN (show ¬ iN 2 = (1 : Int32) by decide)] at r1
  have e57 : fL_decides_57 N rec3 (scr s) (trT M h) (iN c) 1 = fL_decides_92 N rec3 (scr s) 1 (trT M h) := by
    unfold fL_decides_57
    rw [if_neg (show ¬ (1 : Int32) = 0 by decide), L_fits hN hM2 (by have := hF.1.2.1; omega), Option.bind_some, e2, if_neg (show ¬ iB true = (0 : Int32) by decide)]
  obtain ⟨s2, q1, q2, q3, q4, q5, q6, q7⟩ := L_bisects (t := trT M h) hN r2 hF r4 (fun c hc => (hFF.2 c hc).1)
  have hs2 : SmL s1 s2 := ⟨fun k hk => ⟨q4 k (by omega), by rw [q3]⟩, by rw [q3]⟩
  have hpos : 0 < (FF M n sz dp (trT M h)).length := vd_pos (show vdF M T G V (trT M h) (FF M n sz dp (trT M h)) (FF M n sz dp (trT M h)).length = 2 from e3)
  have hbd := bisB_bd (vd := vdF M T G V (trT M h) (FF M n sz dp (trT M h))) (w := wtF M (FF M n sz dp (trT M h))) (FF M n sz dp (trT M h)).length 0 (FF M n sz dp (trT M h)).length hpos
  have hd2 : dHas s2 (FF M n sz dp (trT M h)) := ⟨r4.1, fun j hj => by rw [q4 179 (by omega)]; exact r4.2 j hj⟩
  have hfl := L_failed (v := 1) (t := trT M h) (g := (bisM M T G V (trT M h) (FF M n sz dp (trT M h))).1) (b := (bisM M T G V (trT M h) (FF M n sz dp (trT M h))).2.1) hN q2 hF hd2 (fun c hc => (hFF.2 c hc).1) hbd.2.2.1 (Nat.le_of_lt (Nat.lt_of_lt_of_le hbd.1 hbd.2.2.1)) q5 q6 (by omega)
  have hfl2 : fL_failed N s2 (trT M h) (iN 1) = some (ffl M n T G V h sz dp 1) := hfl
  have hb1 : (bisM M T G V (trT M h) (FF M n sz dp (trT M h))).1 < (bisM M T G V (trT M h) (FF M n sz dp (trT M h))).2.1 := hbd.1
  have hb2 : (bisM M T G V (trT M h) (FF M n sz dp (trT M h))).2.1 ≤ (FF M n sz dp (trT M h)).length := hbd.2.2.1
  have hL4 := hFF.1
  have hred : s2.1 179 ((bisM M T G V (trT M h) (FF M n sz dp (trT M h))).2.1 - 1) = iN (fred M n T G V h sz dp) := hd2.2 _ (by omega)
  have hrm : fred M n T G V h sz dp < n := (hFF.2 _ (gD_mem (show (bisM M T G V (trT M h) (FF M n sz dp (trT M h))).2.1 - 1 < _ by omega))).1
  have ha := hF.2.2.2.1 _ hrm
  have hu := hF.2.2.2.2.2 _ ha.2
  have hn := hF.1.2.1
  have t162 : s2.1 162 = M.1 162 := lw1 q2 (by omega)
  have t178 : s2.1 178 = M.1 178 := lw1 q2 (by omega)
  generalize hR : fred M n T G V h sz dp = rd at hred hrm ha hu ⊢
  generalize hA : vN M 162 rd = a at ha hu ⊢
  generalize hU : vN M 178 (6 + a) = u at hu ⊢
  have g : ∀ k, k ≠ 178 → ∀ v, (sI s2 178 (6 + a) v).1 k = s2.1 k := fun k hk v => gU_ne _ _ _ hk
  have hM3 : lawOf (sI s2 178 (6 + a) (iN (u + 1))) = sI M 178 (6 + a) (iN (u + 1)) := by rw [lawOf_in (by omega), q2]
  have gm : ∀ k, k ≠ 178 → (sI M 178 (6 + a) (iN (u + 1))).1 k = M.1 k := fun k hk => gU_ne _ _ _ hk
  have hlv := L_leaves (N := N) (c := rd) (st := 3) hN hM3 (by rw [gm 161 (by omega)]; exact hF.1.1) hn (hF.1.2.2.fr (fun c _ => by rw [gm 163 (by omega)])) (hq.fr hF.1.2.2 (fun c _ => by rw [gm 163 (by omega)]) (fun c _ => by rw [gm 164 (by omega)])) (hst.fr (fun c _ => by rw [gm 164 (by omega)])) hrm (by omega)
  rw [lvS_fr (M := M) (gm 163 (by omega)) (gm 164 (by omega))] at hlv
  refine ⟨row4 (sI s2 178 (6 + a) (iN (u + 1))) (lvS M rd 3 n), ?_, by rw [lawOf_row4, hM3], ((((scr_sm s).trans r3).trans hs2).trans (SmL.sI (by omega))).trans (SmL.row4 _ _)⟩
  dsimp only
  rw [e57, r1]
  unfold fL_decides_217
  rw [if_neg (show ¬ iN 2 = (1 : Int32) by decide)]
  unfold fL_decides_240
  rw [if_pos (show iN 2 = (2 : Int32) from rfl), q1, Option.bind_some, q7, show (bisM M T G V (trT M h) (FF M n sz dp (trT M h))).2.2 = none from e4, if_neg (show ¬ (0 : Int32) ≤ iO none by decide), i_1, hfl2, Option.bind_some, if_neg (show ¬ ffl M n T G V h sz dp 1 = (0 : Int32) from e5)]
  have e181 : s2.1 181 1 - 1 = iN ((bisM M T G V (trT M h) (FF M n sz dp (trT M h))).2.1 - 1) := by rw [q6, i_1, iN_sub (by omega) (by omega)]
  have e181b : ∀ v, (sI s2 178 (6 + a) v).1 181 1 - 1 = iN ((bisM M T G V (trT M h) (FF M n sz dp (trT M h))).2.1 - 1) := fun v => by rw [g 181 (by omega)]; exact e181
  have hb32 : (bisM M T G V (trT M h) (FF M n sz dp (trT M h))).2.1 - 1 < 32 := by omega
  generalize (bisM M T G V (trT M h) (FF M n sz dp (trT M h))).2.1 - 1 = b1 at e181 e181b hred hb32
  unfold fL_decides_312 fL_decides_314
  rw [if_pos (show iN 2 = (2 : Int32) from rfl), if_neg (show ¬ iN 1 = (0 : Int32) by decide), e181, if_neg (gi hb32 (by decide)), iN_cl (show b1 < 2147483648 by omega), hred, if_neg (gi (show rd < 24 by omega) (by decide)), iN_cl (show rd < 2147483648 by omega), t162, ha.1, i_6, iN_add, if_neg (gi (show 6 + a < 14 by omega) (by decide)), iN_cl (show 6 + a < 2147483648 by omega), if_neg (gj (show 6 + a < 14 by omega) (by decide)), t178, hu.1, i_1, iN_add]
  rw [i_1] at e181b
  rw [e181b, if_neg (gi hb32 (by decide)), iN_cl (show b1 < 2147483648 by omega), g 179 (by omega), hred, i_3, hlv, Option.bind_some]
  rfl
