/-! a commit is reverted: the class's side -/
def rvS (s : gS) (n a : Nat) (tr : Int64) (m : Int32) (t1 : Int64) : gS := sI (sJ (sJ (sI (sJ (sI (sI s (5 + n) 1 (iN a)) (5 + n) 12 1) (5 + n) 7 tr) (5 + n) 5 m) (5 + n) 6 (gMask m)) (5 + n) 8 (t1 &&& gMask m)) 1 4 (iN (n + 1))
theorem X_addRevert {N : Nat} {s : gS} {n a : Nat} {tr t1 : Int64} {m : Int32} (hN : 100 ≤ N) (hn : n < 60) (h : s.1 1 4 = iN n) : fX2_addRevert N s (iN a) tr m t1 = some (5 + n, rvS s n a tr m t1) := by
  unfold fX2_addRevert
  rw [h, X2_at hn, Option.bind_some, X_maskOf hN, Option.bind_some]
  have e14 : (sJ (sJ (sI (sJ (sI (sI s (5 + n) 1 (iN a)) (5 + n) 12 1) (5 + n) 7 tr) (5 + n) 5 m) (5 + n) 6 (gMask m)) (5 + n) 8 (t1 &&& ((sJ (sI (sJ (sI (sI s (5 + n) 1 (iN a)) (5 + n) 12 1) (5 + n) 7 tr) (5 + n) 5 m) (5 + n) 6 (gMask m)).2.1 (5 + n) 6))).1 1 4 = iN n := by
    rw [sJ_1, sJ_1, sI_1, if_neg (by omega), sJ_1, sI_1, if_neg (by omega), sI_1, if_neg (by omega)]; exact h
  have e6 : (sJ (sI (sJ (sI (sI s (5 + n) 1 (iN a)) (5 + n) 12 1) (5 + n) 7 tr) (5 + n) 5 m) (5 + n) 6 (gMask m)).2.1 (5 + n) 6 = gMask m := by rw [sJ_2, if_pos ⟨rfl, rfl⟩]
  rw [e14, e6, show iN n + (1 : Int32) = iN (n + 1) from iN_add _ 1]
  rfl
theorem rvS_I {s : gS} {n a : Nat} {tr t1 : Int64} {m : Int32} (k i : Nat) (h1 : ¬ (k = 5 + n ∧ (i = 1 ∨ i = 12 ∨ i = 5))) (h2 : ¬ (k = 1 ∧ i = 4)) : (rvS s n a tr m t1).1 k i = s.1 k i := by
  unfold rvS
  rw [sI_1, if_neg (by omega), sJ_1, sJ_1, sI_1, if_neg (by omega), sJ_1, sI_1, if_neg (by omega), sI_1, if_neg (by omega)]
theorem rvS_J {s : gS} {n a : Nat} {tr t1 : Int64} {m : Int32} (k : Nat) (h1 : k ≠ 5 + n) : (rvS s n a tr m t1).2.1 k = s.2.1 k := by
  funext i
  unfold rvS
  rw [sI_2, sJ_2, if_neg (by omega), sJ_2, if_neg (by omega), sI_2, sJ_2, if_neg (by omega)]
  rfl
theorem rvS_v {s : gS} {n a : Nat} {tr t1 : Int64} {m : Int32} : ((rvS s n a tr m t1).1 1 4 = iN (n + 1) ∧ (rvS s n a tr m t1).1 (5 + n) 1 = iN a ∧ (rvS s n a tr m t1).1 (5 + n) 12 = iN 1 ∧ (rvS s n a tr m t1).1 (5 + n) 5 = m) ∧ (rvS s n a tr m t1).2.1 (5 + n) 6 = gMask m ∧ (rvS s n a tr m t1).2.1 (5 + n) 7 = tr ∧ (rvS s n a tr m t1).2.1 (5 + n) 8 = t1 &&& gMask m := by
  unfold rvS
  refine ⟨⟨?_, ?_, ?_, ?_⟩, ?_, ?_, ?_⟩
  · rw [sI_1, if_pos ⟨rfl, rfl⟩]
  · rw [sI_1, if_neg (by omega), sJ_1, sJ_1, sI_1, if_neg (by omega), sJ_1, sI_1, if_neg (by omega), sI_1, if_pos ⟨rfl, rfl⟩]
  · rw [sI_1, if_neg (by omega), sJ_1, sJ_1, sI_1, if_neg (by omega), sJ_1, sI_1, if_pos ⟨rfl, rfl⟩]; rfl
  · rw [sI_1, if_neg (by omega), sJ_1, sJ_1, sI_1, if_pos ⟨rfl, rfl⟩]
  · rw [sI_2, sJ_2, if_neg (by omega), sJ_2, if_pos ⟨rfl, rfl⟩]
  · rw [sI_2, sJ_2, if_neg (by omega), sJ_2, if_neg (by omega), sI_2, sJ_2, if_pos ⟨rfl, rfl⟩]
  · rw [sI_2, sJ_2, if_pos ⟨rfl, rfl⟩]
/-- one file of the class's loop -/
theorem X_rev1 {N : Nat} {s : gS} {a j : Nat} {t0 t1 tr : Int64} (hj : j < 12) (h : gAt t0 j = gAt t1 j ∨ gAt tr j = gAt t0 j) (rec77 : (gS × Int32 × Int32) → Option (Sum Int32 String × gS)) : fTX11_revert_77 N (iN a) t0 t1 tr rec77 (s, rvM t0 t1 j, iN j) = rec77 (s, rvM t0 t1 (j + 1), iN (j + 1)) := by
  unfold fTX11_revert_77 fTX11_revert_133
  dsimp only
  rw [if_neg (show ¬ (12 : Int32) ≤ iN j by rw [show (12 : Int32) = iN 12 from rfl, iN_le (by omega) (by omega)]; omega), X_cont hj, Option.bind_some, X_cont hj, Option.bind_some, X_cont hj, Option.bind_some, Option.bind_some, show iN j + (1 : Int32) = iN (j + 1) from iN_add _ 1]
  by_cases e : gAt t0 j = gAt t1 j
  · rw [if_pos e, show rvM t0 t1 (j + 1) = rvM t0 t1 j from if_pos e]
  · rw [if_neg e, if_pos (by rcases h with h | h; exact absurd h e; exact h), show rvM t0 t1 (j + 1) = rvM t0 t1 j ||| ((1 : Int32) <<< (iN j &&& 31)) from if_neg e]
    unfold fTX11_revert_121 fTX11_revert_133
    rw [show fX11_needState N s 1 = some () from rfl]
    dsimp only [g_tc]
    rw [show iN j + (1 : Int32) = iN (j + 1) from iN_add _ 1]
theorem X_rev0 {N : Nat} {s : gS} {a j : Nat} {t0 t1 tr : Int64} {m : Int32} (hj : j < 12) (h0 : gAt t0 j ≠ gAt t1 j) (h1 : gAt tr j ≠ gAt t0 j) (rec77 : (gS × Int32 × Int32) → Option (Sum Int32 String × gS)) : fTX11_revert_77 N (iN a) t0 t1 tr rec77 (s, m, iN j) = some (.inr "java/lang/IllegalStateException", s) := by
  unfold fTX11_revert_77
  dsimp only
  rw [if_neg (show ¬ (12 : Int32) ≤ iN j by rw [show (12 : Int32) = iN 12 from rfl, iN_le (by omega) (by omega)]; omega), X_cont hj, Option.bind_some, X_cont hj, Option.bind_some, X_cont hj, Option.bind_some, Option.bind_some, if_neg h0, if_neg h1]
  rfl
theorem X_revL {N : Nat} {s : gS} {n a : Nat} {t0 t1 tr : Int64} (hN : 100 ≤ N) (hn : n < 60) (h : s.1 1 4 = iN n) (h0 : s.1 (5 + n) 0 = iN n) : lp (fTX11_revert_77 N (iN a) t0 t1 tr) N (s, 0, 0) = if rvC t0 t1 tr 12 = true then some (.inl (iN n), eqC (rvS s n a tr (rvM t0 t1 12) t1) n (iN 0)) else some (.inr "java/lang/IllegalStateException", s) := by
  cases c : rvC t0 t1 tr 12 with
  | true =>
    rw [if_pos rfl]
    have hall := rvC_all 12 c
    refine lp_run (F := fTX11_revert_77 N (iN a) t0 t1 tr) (fun j => (s, rvM t0 t1 j, iN j)) 12 (fun j hj rec => X_rev1 hj (hall j hj) rec) (fun rec => ?_) N (by omega)
    unfold fTX11_revert_77
    dsimp only
    rw [if_pos (show (12 : Int32) ≤ iN 12 by decide), X_addRevert hN hn h, Option.bind_some]
    dsimp only
    rw [show (0 : Int32) = iN 0 from rfl, X_putIn hn, Option.bind_some, eqC_I (5 + n) 0 (by omega) (by omega) (by omega), rvS_I (5 + n) 0 (by omega) (by omega), h0]
  | false =>
    rw [if_neg (by decide)]
    obtain ⟨j0, hj0, h1, h2, h3⟩ := rvC_no 12 c
    have hall := rvC_all j0 h1
    refine lp_run (F := fTX11_revert_77 N (iN a) t0 t1 tr) (fun j => (s, rvM t0 t1 j, iN j)) j0 (fun j hj rec => X_rev1 (by omega) (hall j hj) rec) (fun rec => ?_) N (by omega)
    exact X_rev0 hj0 h2 h3 rec
theorem X_revert {N : Nat} {s M : gS} {n a cm h : Nat} (hN : 100 ≤ N) (hn : n < 60) (ha : a < 8) (h14 : s.1 1 4 = iN n) (h0 : s.1 (5 + n) 0 = iN n) (hR : RCt s M h) (h1 : 1 ≤ cm) (h2 : cm < h) : fL_does N s 6 (iN cm) (iN a) 0 = if rvC (M.2.1 171 cm) (M.2.1 171 (cm - 1)) (trT M h) 12 = true then some (iN n, eqC (rvS s n a (trT M h) (rvM (M.2.1 171 cm) (M.2.1 171 (cm - 1)) 12) (M.2.1 171 (cm - 1))) n (iN 0)) else some (-13, s) := by
  have hl : gle s.2.2 152 = 61 := rfl
  obtain ⟨t1, t2, t3, t4, t5⟩ := id hR
  have e41 : fTX11_revert N s (iN cm) (iN a) = lp (fTX11_revert_77 N (iN a) (M.2.1 171 cm) (M.2.1 171 (cm - 1)) (trT M h)) N (s, 0, 0) := by
    unfold fTX11_revert
    rw [t4, X_place (n := h) h2 (by omega)]
    dsimp only [g_tc]
    rw [show fX11_needPlace N s (iN a) (8 : Int32) = some () from X_place (n := 8) ha (by omega)]
    dsimp only [g_tc]
    rw [show fX11_needRange N s (iN cm) (1 : Int32) (60 : Int32) = some () from X_range (lo := 1) (hi := 60) h1 (by omega) (by omega)]
    dsimp only [g_tc]
    rw [h14, if_neg (show ¬ (60 : Int32) ≤ iN n by rw [show (60 : Int32) = iN 60 from rfl, iN_le (by omega) (by omega)]; omega)]
    unfold fTX11_revert_41
    rw [show fX11_needState N s 1 = some () from rfl]
    dsimp only [g_tc]
    rw [X_get (r := 151) hl (show cm < 61 by omega) (by omega), Option.bind_some, show iN cm - (1 : Int32) = iN (cm - 1) from iN_sub (b := 1) h1 (by omega), X_get (r := 151) hl (show cm - 1 < 61 by omega) (by omega), Option.bind_some, X_trunk hR, Option.bind_some, t5 cm h2, t5 (cm - 1) (by omega)]
  rw [does_6, e41, X_revL hN hn h14 h0]
  cases c : rvC (M.2.1 171 cm) (M.2.1 171 (cm - 1)) (trT M h) 12 with
  | true =>
    rw [if_pos rfl, if_pos rfl, Option.bind_some]
    rfl
  | false =>
    rw [if_neg (by decide), if_neg (by decide), Option.bind_some]
    dsimp only [g_sm]
    exact isE_state
