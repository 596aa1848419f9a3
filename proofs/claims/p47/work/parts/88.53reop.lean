/-! a test's verdicts are forgotten: the law's entries -/
theorem ev_s (M : gS) (V : Nat) (key : Int64) : ev M (V + 1) key = if M.2.1 174 V = key then vN M 175 V else ev M V key := by
  have hs : sEnt M key (V + 1) = if M.2.1 174 V = key then some V else sEnt M key V := rfl
  unfold ev
  rw [hs]
  by_cases c : M.2.1 174 V = key
  · rw [if_pos c, if_pos c]
  · rw [if_neg c, if_neg c]
theorem ev_pre {M M' : gS} {key : Int64} : ∀ V, (∀ i, i < V → M'.2.1 174 i = M.2.1 174 i ∧ M'.1 175 i = M.1 175 i) → ev M' V key = ev M V key
  | 0, _ => rfl
  | V + 1, h => by
    rw [ev_s, ev_s, ev_pre V (fun i hi => h i (by omega)), (h V (by omega)).1]
    unfold vN
    rw [(h V (by omega)).2]
def cnK (M : gS) (q : Nat) : Nat → Nat
  | 0 => 0
  | j + 1 => cnK M q j + (if kOf M j = jN q then 0 else 1)
def rpM (M : gS) (q : Nat) : Nat → gS
  | 0 => M
  | j + 1 => sI (sJ (rpM M q j) 174 (cnK M q j) (M.2.1 174 j)) 175 (cnK M q j) (M.1 175 j)
theorem cnK_s (M : gS) (q j : Nat) : cnK M q (j + 1) = cnK M q j + (if kOf M j = jN q then 0 else 1) := rfl
theorem rpM_s (M : gS) (q j : Nat) : rpM M q (j + 1) = sI (sJ (rpM M q j) 174 (cnK M q j) (M.2.1 174 j)) 175 (cnK M q j) (M.1 175 j) := rfl
theorem cnK_le (M : gS) (q : Nat) : ∀ j, cnK M q j ≤ j
  | 0 => Nat.le_refl _
  | j + 1 => by
    have := cnK_le M q j
    rw [cnK_s]
    split <;> omega
theorem rpM_I (M : gS) (q : Nat) : ∀ j k x, k ≠ 175 ∨ j ≤ x → (rpM M q j).1 k x = M.1 k x
  | 0, _, _, _ => rfl
  | j + 1, k, x, h => by
    have := cnK_le M q j
    rw [rpM_s, sI_1, if_neg (by omega), sJ_1]
    exact rpM_I M q j k x (by omega)
theorem rpM_J (M : gS) (q : Nat) : ∀ j k x, k ≠ 174 ∨ j ≤ x → (rpM M q j).2.1 k x = M.2.1 k x
  | 0, _, _, _ => rfl
  | j + 1, k, x, h => by
    have := cnK_le M q j
    rw [rpM_s, sI_2, sJ_2, if_neg (by omega)]
    exact rpM_J M q j k x (by omega)
theorem rpM_l (M : gS) (q : Nat) : ∀ j, (rpM M q j).2.2 = M.2.2
  | 0 => rfl
  | j + 1 => rpM_l M q j
theorem rpM_at (M : gS) (q j : Nat) : (rpM M q (j + 1)).2.1 174 (cnK M q j) = M.2.1 174 j ∧ (rpM M q (j + 1)).1 175 (cnK M q j) = M.1 175 j := by
  rw [rpM_s]
  exact ⟨by rw [sI_2, sJ_2, if_pos ⟨rfl, rfl⟩], by rw [sI_1, if_pos ⟨rfl, rfl⟩]⟩
theorem rpM_lo (M : gS) (q j i : Nat) (h : i < cnK M q j) : (rpM M q (j + 1)).2.1 174 i = (rpM M q j).2.1 174 i ∧ (rpM M q (j + 1)).1 175 i = (rpM M q j).1 175 i := by
  rw [rpM_s]
  exact ⟨by rw [sI_2, sJ_2, if_neg (by omega)], by rw [sI_1, if_neg (by omega), sJ_1]⟩
theorem rpM_ev (M : gS) (q : Nat) (key : Int64) (hk : key >>> ((50 : Int32).toInt64 &&& 63) ≠ jN q) : ∀ j, ev (rpM M q j) (cnK M q j) key = ev M j key
  | 0 => rfl
  | j + 1 => by
    have ih := rpM_ev M q key hk j
    have lo := ev_pre (key := key) (cnK M q j) (rpM_lo M q j)
    rw [cnK_s]
    by_cases c : kOf M j = jN q
    · rw [if_pos c, Nat.add_zero (cnK M q j), lo, ih, ev_s, if_neg]
      intro e
      unfold kOf at c
      rw [e] at c
      exact hk c
    · rw [if_neg c, ev_s, ev_s, (rpM_at M q j).1, lo, ih]
      unfold vN
      rw [(rpM_at M q j).2]
theorem rpM_en (M : gS) (q : Nat) : ∀ j i, i < cnK M q j → kOf (rpM M q j) i ≠ jN q ∧ ∃ i0, i0 < j ∧ (rpM M q j).2.1 174 i = M.2.1 174 i0 ∧ (rpM M q j).1 175 i = M.1 175 i0
  | 0, i, h => absurd h (Nat.not_lt_zero i)
  | j + 1, i, h => by
    have old : i < cnK M q j → kOf (rpM M q (j + 1)) i ≠ jN q ∧ ∃ i0, i0 < j + 1 ∧ (rpM M q (j + 1)).2.1 174 i = M.2.1 174 i0 ∧ (rpM M q (j + 1)).1 175 i = M.1 175 i0 := fun hi => by
      obtain ⟨h1, i0, h2, h3, h4⟩ := rpM_en M q j i hi
      have lo := rpM_lo M q j i hi
      unfold kOf at h1 ⊢
      rw [lo.1, lo.2]
      exact ⟨h1, i0, by omega, h3, h4⟩
    rw [cnK_s] at h
    by_cases c : kOf M j = jN q
    · rw [if_pos c] at h; exact old (by omega)
    · rw [if_neg c] at h
      by_cases e : i = cnK M q j
      · rw [e]
        refine ⟨?_, j, by omega, (rpM_at M q j).1, (rpM_at M q j).2⟩
        unfold kOf at c ⊢
        rw [(rpM_at M q j).1]; exact c
      · exact old (by omega)
theorem rpM_sum (M : gS) (q q' : Nat) (hq : jN q' ≠ jN q) : ∀ j, sumR (rpM M q j) q' (cnK M q j) = sumR M q' j
  | 0 => rfl
  | j + 1 => by
    have ih := rpM_sum M q q' hq j
    have lo := sumR_congr (q := q') (cnK M q j) (rpM_lo M q j)
    rw [cnK_s]
    by_cases c : kOf M j = jN q
    · rw [if_pos c, Nat.add_zero (cnK M q j), lo, ih, sumR_s, if_neg (by rw [c]; exact hq.symm), Nat.add_zero (sumR M q' j)]
    · rw [if_neg c, sumR_s, sumR_s, lo, ih]
      unfold kOf vN
      rw [(rpM_at M q j).1, (rpM_at M q j).2]
theorem rpM_law (M : gS) (q : Nat) : ∀ j, lawOf (rpM M q j) = rpM (lawOf M) q j ∧ cnK (lawOf M) q j = cnK M q j
  | 0 => ⟨rfl, rfl⟩
  | j + 1 => by
    obtain ⟨h1, h2⟩ := rpM_law M q j
    refine ⟨?_, ?_⟩
    · rw [rpM_s, rpM_s, lawOf_in (by omega), lawOf_inJ (by omega), h1, h2, lw0 M (by omega), lw0J M (by omega)]
    · rw [cnK_s, cnK_s, h2]
      unfold kOf
      rw [lw0J M (by omega)]
theorem SmL.rp (M : gS) (q : Nat) : ∀ j, SmL M (rpM M q j)
  | 0 => SmL.refl M
  | j + 1 => ((SmL.rp M q j).trans (SmL.sJ (by omega))).trans (SmL.sI (by omega))
/-! and its runs are stale -/
def stM (M : gS) (q : Nat) : Nat → gS
  | 0 => M
  | j + 1 => sI (stM M q j) 176 (6 * j + 2) (if M.1 176 (6 * j) = iN q then iN 1 else M.1 176 (6 * j + 2))
theorem stM_s (M : gS) (q j : Nat) : stM M q (j + 1) = sI (stM M q j) 176 (6 * j + 2) (if M.1 176 (6 * j) = iN q then iN 1 else M.1 176 (6 * j + 2)) := rfl
theorem stM_I (M : gS) (q : Nat) : ∀ j k x, ¬ (k = 176 ∧ x - x / 6 * 6 = 2 ∧ x < 6 * j) → (stM M q j).1 k x = M.1 k x
  | 0, _, _, _ => rfl
  | j + 1, k, x, h => by
    rw [stM_s, sI_1, if_neg (by omega)]
    exact stM_I M q j k x (by omega)
theorem stM_2 (M : gS) (q : Nat) : ∀ j i, i < j → (stM M q j).1 176 (6 * i + 2) = if M.1 176 (6 * i) = iN q then iN 1 else M.1 176 (6 * i + 2)
  | 0, i, h => absurd h (Nat.not_lt_zero i)
  | j + 1, i, h => by
    rw [stM_s, sI_1]
    by_cases e : i = j
    · rw [if_pos ⟨rfl, by omega⟩, e]
    · rw [if_neg (by omega)]; exact stM_2 M q j i (by omega)
theorem stM_J (M : gS) (q : Nat) : ∀ j, (stM M q j).2 = M.2
  | 0 => rfl
  | j + 1 => stM_J M q j
theorem stM_law (M : gS) (q : Nat) : ∀ j, lawOf (stM M q j) = stM (lawOf M) q j
  | 0 => rfl
  | j + 1 => by
    rw [stM_s, stM_s, lawOf_in (by omega), stM_law M q j, lw0 M (by omega), lw0 M (by omega)]
theorem SmL.st (M : gS) (q : Nat) : ∀ j, SmL M (stM M q j)
  | 0 => SmL.refl M
  | j + 1 => (SmL.st M q j).trans (SmL.sI (by omega))
def roM (M : gS) (q V : Nat) : gS := stM (sI (rpM M q V) 161 4 (iN (cnK M q V))) q 3
theorem roM_law (M : gS) (q V : Nat) : lawOf (roM M q V) = roM (lawOf M) q V := by
  unfold roM
  rw [stM_law, lawOf_in (by omega), (rpM_law M q V).1, (rpM_law M q V).2]
theorem L_reopens {N : Nat} {s : gS} {q V : Nat} (hN : 100 ≤ N) (hV : s.1 161 4 = iN V) (hV64 : V ≤ 64) (hq : q < 4) : fL_reopens N s (iN q) = some (roM s q V) := by
  unfold fL_reopens
  refine lp_run (F := fL_reopens_6 N (iN q)) (fun j => (rpM s q j, iN (cnK s q j), iN j)) V (fun j hj rec => ?_) (fun rec => ?_) N (by omega)
  · have hm := cnK_le s q j
    have e4 : (rpM s q j).1 161 4 = iN V := (rpM_I s q j 161 4 (by omega)).trans hV
    have eJ : (rpM s q j).2.1 174 j = s.2.1 174 j := rpM_J s q j 174 j (by omega)
    have eI : (rpM s q j).1 175 j = s.1 175 j := rpM_I s q j 175 j (by omega)
    unfold fL_reopens_6 fL_reopens_51
    dsimp only
    rw [e4, if_neg (show ¬ iN V ≤ iN j by rw [iN_le (by omega) (by omega)]; omega), if_neg (gi (show j < 64 by omega) (by decide)), if_neg (gi (show cnK s q j < 64 by omega) (by decide)), if_neg (gi (show j < 64 by omega) (by decide)), if_neg (gi (show cnK s q j < 64 by omega) (by decide)), if_neg (gi (show j < 64 by omega) (by decide)), iN_cl (show j < 2147483648 by omega), iN_cl (show cnK s q j < 2147483648 by omega), eJ, sJ_1, eI, ← rpM_s]
    have eJ2 : (rpM s q (j + 1)).2.1 174 j = s.2.1 174 j := by
      rw [rpM_s, sI_2, sJ_2]
      by_cases e : j = cnK s q j
      · rw [if_pos ⟨rfl, e⟩]
      · rw [if_neg (by omega)]; exact eJ
    rw [eJ2, iN_64 (by omega), cnK_s]
    have ec : (lg_cmp (s.2.1 174 j >>> ((50 : Int32).toInt64 &&& 63)) (jN q) = 0) = (kOf s j = jN q) := by
      unfold kOf; exact lgc0
    by_cases c : kOf s j = jN q
    · rw [if_pos (ec.mpr c), if_pos c, Nat.add_zero (cnK s q j), i_1, iN_add]
      rw [show iN (cnK s q j) + (0 : Int32) = iN (cnK s q j) from iN_add _ 0]
    · rw [if_neg (fun h => c (ec.mp h)), if_neg c, i_1, iN_add, iN_add]
  · have e4 : (rpM s q V).1 161 4 = iN V := (rpM_I s q V 161 4 (by omega)).trans hV
    unfold fL_reopens_6
    dsimp only
    rw [e4, if_pos (show iN V ≤ iN V by rw [iN_le (by omega) (by omega)]; omega)]
    generalize hX : sI (rpM s q V) 161 4 (iN (cnK s q V)) = X
    unfold roM
    rw [hX]
    refine lp_run (F := fL_reopens_68 N (iN q)) (fun j => (stM X q j, iN j)) 3 (fun j hj rec => ?_) (fun rec => ?_) N (by omega)
    · have e6 : (6 : Int32) * iN j = iN (6 * j) := iN_mul 6 j
      have e62 : iN (6 * j) + (2 : Int32) = iN (6 * j + 2) := iN_add _ 2
      have f0 : (stM X q j).1 176 (6 * j) = X.1 176 (6 * j) := stM_I X q j 176 _ (by omega)
      have f2 : (stM X q j).1 176 (6 * j + 2) = X.1 176 (6 * j + 2) := stM_I X q j 176 _ (by omega)
      unfold fL_reopens_68 fL_reopens_107
      dsimp only
      rw [if_neg (show ¬ (3 : Int32) ≤ iN j by rw [i_3, iN_le (by omega) (by omega)]; omega), e6, if_neg (gi (show 6 * j < 18 by omega) (by decide)), iN_cl (show 6 * j < 2147483648 by omega), e62, if_neg (gi (show 6 * j + 2 < 18 by omega) (by decide)), if_neg (gi (show 6 * j + 2 < 18 by omega) (by decide)), iN_cl (show 6 * j + 2 < 2147483648 by omega), f0, f2, i_1, iN_add, stM_s]
      by_cases c : X.1 176 (6 * j) = iN q
      · rw [if_pos c, if_pos c]
      · rw [if_neg c, if_neg c, if_neg (gj (show 6 * j + 2 < 18 by omega) (by decide))]
    · unfold fL_reopens_68
      dsimp only
      rw [if_pos (show (3 : Int32) ≤ iN 3 by decide)]
