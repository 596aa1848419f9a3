/-! a machine takes a run: the law, from its end -/
def UW (M : gS) : Prop := ∀ a, a < 3 → (M.1 178 a = iN (vN M 178 a) ∧ vN M 178 a < 10000) ∧ M.1 178 (3 + a) = iN (vN M 178 (3 + a)) ∧ 1 ≤ vN M 178 (3 + a) ∧ vN M 178 (3 + a) ≤ 10
/-- a run's time -/
def tmT (M : gS) (j q : Nat) : Nat := if M.1 176 (6 * j + 3) = iN q then (if vN M 172 (12 * q + 1) ≤ 1 then 1 else vN M 172 (12 * q + 1) - 1) else vN M 172 (12 * q + 1)
def tkA (M : gS) (j q v : Nat) (t : Int64) : gS := sJ (sI (sI (sI (sI M 176 (6 * j) (iN q)) 176 (6 * j + 1) (iN v)) 176 (6 * j + 2) (iN 0)) 176 (6 * j + 3) (iN q)) 177 j t
def tkM (M : gS) (j q v : Nat) (t : Int64) (tm : Nat) : gS := if tm < 3 then sI (tkA M j q v t) 178 tm (iN (vN M 178 tm + v)) else tkA M j q v t
def tkR (M : gS) (j : Nat) : Option (Nat × Int64 × Nat) → gS
  | none => M
  | some x => tkM M j x.1 (tmT M j x.1) x.2.1 x.2.2
theorem tkA_178 (M : gS) (j q v : Nat) (t : Int64) (k : Nat) (h : k ≠ 176) : (tkA M j q v t).1 k = M.1 k := by
  funext i
  unfold tkA
  rw [sJ_1, sI_1, if_neg (by omega), sI_1, if_neg (by omega), sI_1, if_neg (by omega), sI_1, if_neg (by omega)]
theorem lawOf_tkA {σ : gS} {j q v : Nat} {t : Int64} : lawOf (tkA σ j q v t) = tkA (lawOf σ) j q v t := by
  unfold tkA
  rw [lawOf_inJ (by omega), lawOf_in (by omega), lawOf_in (by omega), lawOf_in (by omega), lawOf_in (by omega)]
theorem SmL.tkA {σ : gS} {j q v : Nat} {t : Int64} : SmL σ (tkA σ j q v t) := ((((SmL.sI (by omega)).trans (SmL.sI (by omega))).trans (SmL.sI (by omega))).trans (SmL.sI (by omega))).trans (SmL.sJ (by omega))
theorem L_k689 {N : Nat} {rec3 : (gS × Int32) → Option gS} {s : gS} {x9 : Int64} {j a u v : Nat} (ha : a < 14) : fL_takes_689 N rec3 s x9 (iN j) (iN v) (iN u) (iN a) = rec3 (sI s 178 a (iN (u + v)), iN (j + 1)) := by
  unfold fL_takes_689 fL_takes_691
  rw [if_neg (gi ha (by decide)), iN_cl (show a < 2147483648 by omega), iN_add, i_1, iN_add]
theorem L_k630 {N : Nat} {rec3 : (gS × Int32) → Option gS} {s : gS} {x9 t : Int64} {j q v tm : Nat} (hj : j < 3) (hv : v < 100) (htm : tm ≤ 3) (hu : ∀ a, a < 3 → s.1 178 a = iN (vN s 178 a)) : fL_takes_630 N rec3 (sI s 176 (6 * j) (iN q)) x9 (iN j) t (iN tm) (iN q) (iN v) (iN (6 * j + 1)) = rec3 (tkM s j q v t tm, iN (j + 1)) := by
  have em : (iN tm - iN tm / 3 * 3 : Int32) = iN (tm - tm / 3 * 3) := by rw [i_3, iN_div (by omega) (by omega), iN_mul, iN_sub (by omega) (by omega)]
  have e2 : (6 * iN j + 2 : Int32) = iN (6 * j + 2) := by rw [i_6, iN_mul, i_2, iN_add]
  have e3 : (6 * iN j + 3 : Int32) = iN (6 * j + 3) := by rw [i_6, iN_mul, i_3, iN_add]
  have e1 : (6 * iN j + 1 : Int32) = iN (6 * j + 1) := by rw [i_6, iN_mul, i_1, iN_add]
  unfold fL_takes_630
  rw [e2, e3, e1, em, if_neg (gi (show 6 * j + 1 < 18 by omega) (by decide)), if_neg (gi (show 6 * j + 2 < 18 by omega) (by decide)), if_neg (gi (show 6 * j + 3 < 18 by omega) (by decide)), if_neg (gi hj (by decide)), if_neg (gi (show tm - tm / 3 * 3 < 14 by omega) (by decide)), iN_cl (show 6 * j + 1 < 2147483648 by omega), iN_cl (show 6 * j + 2 < 2147483648 by omega), iN_cl (show 6 * j + 3 < 2147483648 by omega), iN_cl (show j < 2147483648 by omega), iN_cl (show tm - tm / 3 * 3 < 2147483648 by omega)]
  have hA : sJ (sI (sI (sI (sI s 176 (6 * j) (iN q)) 176 (6 * j + 1) (iN v)) 176 (6 * j + 2) 0) 176 (6 * j + 3) (iN q)) 177 j t = tkA s j q v t := rfl
  rw [hA]
  have h178 : ∀ a, (tkA s j q v t).1 178 a = s.1 178 a := fun a => by rw [tkA_178 _ _ _ _ _ _ (by omega)]
  have h1761 : (tkA s j q v t).1 176 (6 * j + 1) = iN v := by
    unfold tkA
    rw [sJ_1, sI_1, if_neg (by omega), sI_1, if_neg (by omega), sI_1, if_pos ⟨rfl, rfl⟩]
  unfold tkM
  by_cases c : tm < 3
  · have ed : tm - tm / 3 * 3 = tm := by omega
    rw [if_neg (show ¬ (3 : Int32) ≤ iN tm by rw [i_3, iN_le (by omega) (by omega)]; omega), if_neg (gj (show 6 * j + 1 < 18 by omega) (by decide)), ed, h178, hu tm c, h1761, L_k689 (by omega), if_pos c]
  · have ed : tm - tm / 3 * 3 = 0 := by omega
    rw [if_pos (show (3 : Int32) ≤ iN tm by rw [i_3, iN_le (by omega) (by omega)]; omega), ed, h178, hu 0 (by omega), i_0, L_k689 (by omega), if_neg c, Nat.add_zero]
    rw [sI_same (by rw [h178]; exact hu 0 (by omega))]
theorem tmT_bd {M : gS} {j q : Nat} (h1 : 1 ≤ vN M 172 (12 * q + 1)) (h3 : vN M 172 (12 * q + 1) ≤ 3) : 1 ≤ tmT M j q ∧ tmT M j q ≤ 3 := by
  unfold tmT
  split
  · split <;> omega
  · omega
theorem L_k561 {N : Nat} {rec3 : (gS × Int32) → Option gS} {s : gS} {x9 t : Int64} {j q tm : Nat} (hj : j < 3) (hq : q < 4) (htm : tm ≤ 3) (hu : ∀ a, a < 3 → s.1 178 a = iN (vN s 178 a)) (ht : s.1 172 (12 * q + 1) = iN (vN s 172 (12 * q + 1))) (h1 : 1 ≤ vN s 172 (12 * q + 1)) (h3 : vN s 172 (12 * q + 1) ≤ 3) : fL_takes_561 N rec3 s x9 (iN j) t (iN tm) (iN q) = rec3 (tkM s j q (tmT s j q) t tm, iN (j + 1)) := by
  have e3 : (6 * iN j + 3 : Int32) = iN (6 * j + 3) := by rw [i_6, iN_mul, i_3, iN_add]
  have e1 : (6 * iN j + 1 : Int32) = iN (6 * j + 1) := by rw [i_6, iN_mul, i_1, iN_add]
  have eq1 : (12 * iN q + 1 : Int32) = iN (12 * q + 1) := by rw [i_12, iN_mul, i_1, iN_add]
  have h596 : ∀ d, d ≤ 1 → fL_takes_596 N rec3 s x9 (iN j) t (iN tm) (iN q) (iN d) (iN (vN s 172 (12 * q + 1))) = rec3 (tkM s j q (if vN s 172 (12 * q + 1) ≤ d then 1 else vN s 172 (12 * q + 1) - d) t tm, iN (j + 1)) := fun d hd => by
    unfold fL_takes_596
    rw [e1, i_6, iN_mul, if_neg (gi (show 6 * j < 18 by omega) (by decide)), iN_cl (show 6 * j < 2147483648 by omega), iN_sub (by omega) (by omega)]
    by_cases c : vN s 172 (12 * q + 1) ≤ d
    · rw [if_neg (show ¬ (1 : Int32) ≤ iN (vN s 172 (12 * q + 1) - d) by rw [i_1, iN_le (by omega) (by omega)]; omega), if_pos c, i_1]
      exact L_k630 hj (by omega) htm hu
    · rw [if_pos (show (1 : Int32) ≤ iN (vN s 172 (12 * q + 1) - d) by rw [i_1, iN_le (by omega) (by omega)]; omega), if_neg c]
      exact L_k630 hj (by omega) htm hu
  unfold fL_takes_561
  rw [if_neg (show ¬ iN q < (0 : Int32) by rw [i_0, iN_lt (by omega) (by omega)]; omega), eq1, e3, if_neg (gi (show 12 * q + 1 < 48 by omega) (by decide)), if_neg (gi (show 6 * j + 3 < 18 by omega) (by decide)), iN_cl (show 6 * j + 3 < 2147483648 by omega), iN_cl (show 12 * q + 1 < 2147483648 by omega), ht]
  unfold tmT
  by_cases c : s.1 176 (6 * j + 3) = iN q
  · rw [if_pos c, if_pos c, i_1, h596 1 (by omega)]
  · rw [if_neg c, if_neg c, i_0, h596 0 (by omega), if_neg (show ¬ vN s 172 (12 * q + 1) ≤ 0 by omega), Nat.sub_zero]
theorem L_k561n {N : Nat} {rec3 : (gS × Int32) → Option gS} {s : gS} {x9 t : Int64} {j : Nat} {tm : Int32} : fL_takes_561 N rec3 s x9 (iN j) t tm iM = rec3 (s, iN (j + 1)) := by
  unfold fL_takes_561
  rw [if_pos (show iM < (0 : Int32) by decide)]
  unfold fL_takes_691
  rw [i_1, iN_add]
/-- for a full run -/
def c2M (M : gS) (T V : Nat) (t : Int64) : Option (Nat × Int64 × Nat) := if M.1 161 8 = iN 1 then (match lo (fun q => frM M V q t) T with
  | some q => some (q, t, 3)
  | none => none) else none
def iC : Option (Nat × Int64 × Nat) → Int32
  | none => iM
  | some x => iN x.1
theorem L_k521n {N : Nat} {rec3 : (gS × Int32) → Option gS} {s M : gS} {n T G V j : Nat} {t on : Int64} {tm : Int32} (hN : 100 ≤ N) (hM : lawOf s = M) (h : LF M n T G V) (hy : ∀ j, j < 3 → M.1 176 (6 * j + 2) = iN 0 ∨ M.1 176 (6 * j + 2) = iN 1) (hj : j < 3) (hu : ∀ a, a < 3 → M.1 178 a = iN (vN M 178 a)) (ht : ∀ q, q < T → M.1 172 (12 * q + 1) = iN (vN M 172 (12 * q + 1)) ∧ 1 ≤ vN M 172 (12 * q + 1) ∧ vN M 172 (12 * q + 1) ≤ 3) : fL_takes_521 N rec3 s t (iN j) on tm iM = rec3 (tkR s j (c2M M T V t), iN (j + 1)) := by
  have hT4 := h.2.1.2
  have h8 : s.1 161 8 = M.1 161 8 := by rw [lw1 hM (by omega)]
  unfold fL_takes_521
  rw [if_neg (show ¬ (0 : Int32) ≤ iM by decide), h8]
  unfold c2M
  by_cases c : M.1 161 8 = iN 1
  · rw [if_pos (show M.1 161 8 = (1 : Int32) from c), if_pos c, L_free hN hM h hy, Option.bind_some]
    have e : lo (fun q => tb (15 : Int32) q && frM M V q t) T = lo (fun q => frM M V q t) T := lo_congr T (fun q hq => by
      rw [(show ∀ q, q < 4 → tb (15 : Int32) q = true by decide +kernel) q (by omega)]; rfl)
    rw [e]
    cases el : lo (fun q => frM M V q t) T with
    | none => exact L_k561n
    | some q =>
      have hq := ((lo_some T).mp el).1
      have s178 : s.1 178 = M.1 178 := lw1 hM (by omega)
      have s172 : s.1 172 = M.1 172 := lw1 hM (by omega)
      have hv : vN s 172 (12 * q + 1) = vN M 172 (12 * q + 1) := by unfold vN; rw [s172]
      exact L_k561 (tm := 3) hj (by omega) (by omega) (fun a ha => by unfold vN; rw [s178]; exact hu a ha) (by rw [hv, s172]; exact (ht q hq).1) (by rw [hv]; exact (ht q hq).2.1) (by rw [hv]; exact (ht q hq).2.2)
  · rw [if_neg (show ¬ M.1 161 8 = (1 : Int32) from c), if_neg c]
    exact L_k561n
