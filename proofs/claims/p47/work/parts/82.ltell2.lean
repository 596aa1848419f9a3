/-! the law is told of a run, a machine's turn -/
theorem L_t125 {N : Nat} {rec : (gS × Int32) → Option gS} {σ : gS} {j i q f fk : Nat} {fb : Bool} (hj : j < 3) (hi : i < 64) (hq : q < 4) (hf : f ≤ 4) (hv : σ.1 175 i = iN (68 * f)) (h5 : σ.1 172 (12 * q + 5) = iN fk) (h6 : σ.1 172 (12 * q + 6) = iN (if fk < 2 then 0 else 1)) (hk : fk < 1000) (h2 : σ.1 176 (6 * j + 2) = iN 0) (hfail : fL_fails N σ (iN q) (σ.2.1 177 j) (iN f) = some (iB fb)) : fL_tells_125 N rec σ (iN j) (iN (6 * j)) (iN q) (iN i) = rec (tlW σ q i f fk fb, iN (j + 1)) := by
  have h174 := L_t174 (N := N) (rec := rec) (j := j) (fb := fb) hi hq hf hv h5 h6 hk
  have e1 : 68 * f / 4 - 68 * f / 4 / 16 * 16 = f := by omega
  have e2 : 68 * f / 64 = f := by omega
  unfold fL_tells_125
  rw [i_2, iN_add, if_neg (gi (show 6 * j + 2 < 18 by omega) (by decide)), iN_cl (show 6 * j + 2 < 2147483648 by omega), h2, if_pos (show iN 0 = (0 : Int32) from rfl), if_neg (gi hj (by decide)), if_neg (gi hi (by decide)), iN_cl (show j < 2147483648 by omega), iN_cl (show i < 2147483648 by omega), hv, i_4, i_16, i_64, iN_div (show 68 * f < 2147483648 by omega) (by omega), iN_div (show 68 * f / 4 < 2147483648 by omega) (by omega), iN_mul, iN_sub (by omega) (by omega), e1, hfail, Option.bind_some, if_neg (gj hi (by decide)), iN_div (show 68 * f < 2147483648 by omega) (by omega), e2]
  cases fb with
  | true => rw [if_neg (show ¬ iB true = (0 : Int32) by decide)]; exact h174
  | false => rw [if_pos (show iB false = (0 : Int32) from rfl)]; exact h174
theorem gKey_law (σ : gS) (q : Nat) (t : Int64) : gKey (lawOf σ) q t = gKey σ q t := gKey_same (M := σ) (M' := lawOf σ) rfl
theorem sEnt_law (σ : gS) (key : Int64) (V : Nat) : sEnt (lawOf σ) key V = sEnt σ key V := sEnt_congr (M := σ) (M' := lawOf σ) rfl V
theorem tlE_none {M : gS} {V : Nat} {key : Int64} (h : sEnt M key V = none) : tlE M V key = V := by
  unfold tlE; rw [h]
theorem tlE_some {M : gS} {V i : Nat} {key : Int64} (h : sEnt M key V = some i) : tlE M V key = i := by
  unfold tlE; rw [h]
theorem tlB_none {M : gS} {V : Nat} {key : Int64} (h : sEnt M key V = none) : tlB M V key = sI (sI (sJ M 174 V key) 175 V (iN 0)) 161 4 (iN (V + 1)) := by
  unfold tlB; rw [h]
theorem tlB_some {M : gS} {V i : Nat} {key : Int64} (h : sEnt M key V = some i) : tlB M V key = M := by
  unfold tlB; rw [h]
theorem L_t39 {N : Nat} {rec : (gS × Int32) → Option gS} {σ : gS} {j q f fk V : Nat} {fb : Bool} (hN : 100 ≤ N) (hj : j < 3) (hq : q < 4) (hf : f ≤ 4) (hV : σ.1 161 4 = iN V) (hV64 : V < 64) (hsn : sEnt σ (gKey σ q (σ.2.1 177 j)) V = none → f = 0) (hss : ∀ i, sEnt σ (gKey σ q (σ.2.1 177 j)) V = some i → σ.1 175 i = iN (68 * f)) (h5 : σ.1 172 (12 * q + 5) = iN fk) (h6 : σ.1 172 (12 * q + 6) = iN (if fk < 2 then 0 else 1)) (hk : fk < 1000) (h1 : σ.1 176 (6 * j + 1) = iN 0) (h2 : σ.1 176 (6 * j + 2) = iN 0) (hfail : ∀ s : gS, s.1 172 = σ.1 172 → fL_fails N s (iN q) (σ.2.1 177 j) (iN f) = some (iB fb)) : fL_tells_39 N rec σ (iN j) (iN (6 * j)) (iN q) = rec (tlM (sI σ 176 (6 * j) iM) V q f fk fb (gKey σ q (σ.2.1 177 j)), iN (j + 1)) := by
  have eM : (-1 : Int32) = iM := rfl
  have s4 : (sI σ 176 (6 * j) iM).1 161 4 = iN V := by rw [sI_1, if_neg (by omega)]; exact hV
  have s172 : (sI σ 176 (6 * j) iM).1 172 = σ.1 172 := by funext x; rw [sI_1, if_neg (by omega)]
  have s175 : (sI σ 176 (6 * j) iM).1 175 = σ.1 175 := by funext x; rw [sI_1, if_neg (by omega)]
  have sJJ : (sI σ 176 (6 * j) iM).2 = σ.2 := rfl
  have s2 : (sI σ 176 (6 * j) iM).1 176 (6 * j + 2) = iN 0 := by rw [sI_1, if_neg (by omega)]; exact h2
  unfold fL_tells_39
  rw [if_neg (show ¬ iN q < (0 : Int32) by rw [i_0, iN_lt (by omega) (by omega)]; omega), i_1, iN_add, if_neg (gi (show 6 * j + 1 < 18 by omega) (by decide)), iN_cl (show 6 * j + 1 < 2147483648 by omega), h1, if_pos (show iN 0 = (0 : Int32) from rfl), if_neg (gi (show 6 * j < 18 by omega) (by decide)), if_neg (gi hj (by decide)), iN_cl (show 6 * j < 2147483648 by omega), iN_cl (show j < 2147483648 by omega), i_m1]
  have hg : gKey σ q (σ.2.1 177 j) = gKey (sI σ 176 (6 * j) iM) q ((sI σ 176 (6 * j) iM).2.1 177 j) := (gKey_same (by rw [s172])).symm
  have hZ : (sI σ 176 (6 * j) iM).2.1 177 j = σ.2.1 177 j := rfl
  have hE : sEnt (sI σ 176 (6 * j) iM) (gKey σ q (σ.2.1 177 j)) V = sEnt σ (gKey σ q (σ.2.1 177 j)) V := sEnt_congr (M := σ) (M' := sI σ 176 (6 * j) iM) rfl V
  rw [← s172] at h5 h6
  rw [← s175] at hss
  rw [← s172] at hfail
  rw [← hE] at hss hsn
  rw [hg] at hss hsn ⊢
  rw [← hZ] at hfail
  clear hE hg hZ sJJ s175 s172 h2 h1 hV
  generalize sI σ 176 (6 * j) iM = s at *
  have hkey := L_key (t := s.2.1 177 j) hN (rfl : lawOf s = lawOf s) hq
  rw [gKey_law] at hkey
  have hent := L_entry (key := gKey s q (s.2.1 177 j)) hN (rfl : lawOf s = lawOf s) (show (lawOf s).1 161 4 = iN V from s4) (by omega)
  rw [sEnt_law] at hent
  rw [hkey, Option.bind_some, hent, Option.bind_some, i_2, iN_add, if_neg (gi (show 6 * j + 2 < 18 by omega) (by decide)), iN_cl (show 6 * j + 2 < 2147483648 by omega), s2, if_pos (show iN 0 = (0 : Int32) from rfl)]
  unfold tlM
  cases hs : sEnt s (gKey s q (s.2.1 177 j)) V with
  | none =>
    have hf0 := hsn hs
    subst hf0
    rw [tlE_none hs, tlB_none hs]
    have c1 : ¬ (0 : Int32) ≤ iO none := by decide
    have w1 : (sI (sJ s 174 V (gKey s q (s.2.1 177 j))) 175 V (iN 0)).1 161 4 = iN V := by rw [sI_1, if_neg (by omega), sJ_1]; exact s4
    rw [if_neg c1, if_neg (gj hj (by decide)), Option.bind_some, s4, if_neg (gi hV64 (by decide)), if_neg (gi hV64 (by decide)), iN_cl (show V < 2147483648 by omega), i_0, w1, iN_add]
    refine L_t125 hj hV64 hq (Nat.zero_le 4) ?_ ?_ ?_ hk ?_ (hfail _ ?_)
    · rw [sI_1, if_neg (by omega), sI_1, if_pos ⟨rfl, rfl⟩]
    · rw [sI_1, if_neg (by omega), sI_1, if_neg (by omega), sJ_1]; exact h5
    · rw [sI_1, if_neg (by omega), sI_1, if_neg (by omega), sJ_1]; exact h6
    · rw [sI_1, if_neg (by omega), sI_1, if_neg (by omega), sJ_1]; exact s2
    · funext x; rw [sI_1, if_neg (by omega), sI_1, if_neg (by omega), sJ_1]
  | some i =>
    have hi := (sEnt_lt hs).1
    rw [tlE_some hs, tlB_some hs]
    have c1 : (0 : Int32) ≤ iO (some i) := by
      show (0 : Int32) ≤ iN i
      rw [i_0, iN_le (by omega) (by omega)]; omega
    rw [if_pos c1]
    exact L_t125 hj (by omega) hq hf (hss i hs) h5 h6 hk s2 (hfail _ rfl)
/-- a machine's turn that nothing is told of -/
theorem L_t3i {N : Nat} {rec : (gS × Int32) → Option gS} {σ : gS} {j : Nat} (hj : j < 3) (h0 : σ.1 176 (6 * j) = iM) : fL_tells_3 N rec (σ, iN j) = rec (σ, iN (j + 1)) := by
  unfold fL_tells_3
  dsimp only
  rw [if_neg (show ¬ (3 : Int32) ≤ iN j by rw [i_3, iN_le (by omega) (by omega)]; omega), i_6, iN_mul, if_neg (gi (show 6 * j < 18 by omega) (by decide)), iN_cl (show 6 * j < 2147483648 by omega), h0, if_pos (show iM < (0 : Int32) by decide)]
  unfold fL_tells_39 fL_tells_324
  rw [if_pos (show iM < (0 : Int32) by decide), i_1, iN_add]
theorem L_t3r {N : Nat} {rec : (gS × Int32) → Option gS} {σ : gS} {j q l : Nat} (hj : j < 3) (hq : q < 4) (h0 : σ.1 176 (6 * j) = iN q) (h1 : σ.1 176 (6 * j + 1) = iN (l + 1)) (hl : l < 1000) (hl0 : l ≠ 0) : fL_tells_3 N rec (σ, iN j) = rec (sI σ 176 (6 * j + 1) (iN l), iN (j + 1)) := by
  have g1 : (sI σ 176 (6 * j + 1) (iN l)).1 176 (6 * j + 1) = iN l := by rw [sI_1, if_pos ⟨rfl, rfl⟩]
  unfold fL_tells_3
  dsimp only
  rw [if_neg (show ¬ (3 : Int32) ≤ iN j by rw [i_3, iN_le (by omega) (by omega)]; omega), i_6, iN_mul, if_neg (gi (show 6 * j < 18 by omega) (by decide)), iN_cl (show 6 * j < 2147483648 by omega), h0, if_neg (show ¬ iN q < (0 : Int32) by rw [i_0, iN_lt (by omega) (by omega)]; omega), i_1, iN_add, if_neg (gi (show 6 * j + 1 < 18 by omega) (by decide)), if_neg (gi (show 6 * j + 1 < 18 by omega) (by decide)), iN_cl (show 6 * j + 1 < 2147483648 by omega), h1, iN_sub (by omega) (by omega), Nat.add_sub_cancel]
  unfold fL_tells_39 fL_tells_324
  rw [if_neg (show ¬ iN q < (0 : Int32) by rw [i_0, iN_lt (by omega) (by omega)]; omega), i_1, iN_add, if_neg (gi (show 6 * j + 1 < 18 by omega) (by decide)), iN_cl (show 6 * j + 1 < 2147483648 by omega), g1, if_neg (show ¬ iN l = (0 : Int32) by rw [i_0, iN_eq (by omega) (by omega)]; exact hl0), iN_add]
theorem L_t3d {N : Nat} {rec : (gS × Int32) → Option gS} {σ : gS} {j q : Nat} (hj : j < 3) (hq : q < 4) (h0 : σ.1 176 (6 * j) = iN q) (h1 : σ.1 176 (6 * j + 1) = iN 1) : fL_tells_3 N rec (σ, iN j) = fL_tells_39 N rec (sI σ 176 (6 * j + 1) (iN 0)) (iN j) (iN (6 * j)) (iN q) := by
  unfold fL_tells_3
  dsimp only
  rw [if_neg (show ¬ (3 : Int32) ≤ iN j by rw [i_3, iN_le (by omega) (by omega)]; omega), i_6, iN_mul, if_neg (gi (show 6 * j < 18 by omega) (by decide)), iN_cl (show 6 * j < 2147483648 by omega), h0, if_neg (show ¬ iN q < (0 : Int32) by rw [i_0, iN_lt (by omega) (by omega)]; omega), i_1, iN_add, if_neg (gi (show 6 * j + 1 < 18 by omega) (by decide)), if_neg (gi (show 6 * j + 1 < 18 by omega) (by decide)), iN_cl (show 6 * j + 1 < 2147483648 by omega), h1, iN_sub (by omega) (by omega)]
/-- a run that counts no more -/
theorem L_t39s {N : Nat} {rec : (gS × Int32) → Option gS} {σ : gS} {j q V : Nat} (hN : 100 ≤ N) (hj : j < 3) (hq : q < 4) (hV : σ.1 161 4 = iN V) (hV64 : V < 64) (h1 : σ.1 176 (6 * j + 1) = iN 0) (h2 : σ.1 176 (6 * j + 2) = iN 1) : fL_tells_39 N rec σ (iN j) (iN (6 * j)) (iN q) = rec (sI σ 176 (6 * j) iM, iN (j + 1)) := by
  have s4 : (sI σ 176 (6 * j) iM).1 161 4 = iN V := by rw [sI_1, if_neg (by omega)]; exact hV
  have s2 : (sI σ 176 (6 * j) iM).1 176 (6 * j + 2) = iN 1 := by rw [sI_1, if_neg (by omega)]; exact h2
  unfold fL_tells_39
  rw [if_neg (show ¬ iN q < (0 : Int32) by rw [i_0, iN_lt (by omega) (by omega)]; omega), i_1, iN_add, if_neg (gi (show 6 * j + 1 < 18 by omega) (by decide)), iN_cl (show 6 * j + 1 < 2147483648 by omega), h1, if_pos (show iN 0 = (0 : Int32) from rfl), if_neg (gi (show 6 * j < 18 by omega) (by decide)), if_neg (gi hj (by decide)), iN_cl (show 6 * j < 2147483648 by omega), iN_cl (show j < 2147483648 by omega), i_m1]
  generalize sI σ 176 (6 * j) iM = s at *
  have hkey := L_key (t := s.2.1 177 j) hN (rfl : lawOf s = lawOf s) hq
  have hent := L_entry (key := gKey (lawOf s) q (s.2.1 177 j)) hN (rfl : lawOf s = lawOf s) (show (lawOf s).1 161 4 = iN V from s4) (by omega)
  rw [hkey, Option.bind_some, hent, Option.bind_some, i_2, iN_add, if_neg (gi (show 6 * j + 2 < 18 by omega) (by decide)), iN_cl (show 6 * j + 2 < 2147483648 by omega), s2, if_neg (show ¬ iN 1 = (0 : Int32) by decide)]
  unfold fL_tells_125
  rw [i_2, iN_add, if_neg (gi (show 6 * j + 2 < 18 by omega) (by decide)), iN_cl (show 6 * j + 2 < 2147483648 by omega), s2, if_neg (show ¬ iN 1 = (0 : Int32) by decide)]
  unfold fL_tells_324
  rw [i_1, iN_add]
