/-! which tests a change requires; entries of the law's verdicts -/
def vN (σ : gS) (k j : Nat) : Nat := (σ.1 k j).toNatClampNeg
theorem iN_or0 (x : Int32) : x ||| iN 0 = x := Int32.or_zero
def rqT (M : gS) (c : Nat) : Nat → Int32
  | 0 => iN 0
  | j + 1 => if (M.1 172 (12 * j) &&& M.1 168 c) = iN 0 then rqT M c j else rqT M c j ||| (iN 1 <<< (iN j &&& iN 31))
def lnB (g a : Nat) (m : Int32) : Bool := if g / 4 - g / 4 / 4 * 4 = 0 then true else if g / 4 - g / 4 / 4 * 4 = 1 then tb m (g / 16) else decide (a - a / 3 * 3 = g / 16)
def rqG (M : gS) (c T : Nat) : Nat → Int32
  | 0 => rqT M c T
  | k + 1 => if lnB (vN M 173 k) (vN M 162 c) (M.1 168 c) = true then rqG M c T k ||| (iN 1 <<< (iN (vN M 173 k - vN M 173 k / 4 * 4) &&& iN 31)) else rqG M c T k
theorem L_required {N : Nat} {σ M : gS} {c T G : Nat} (hN : 100 ≤ N) (hM : lawOf σ = M) (hT : M.1 161 2 = iN T) (hT4 : T ≤ 4) (hG : M.1 161 3 = iN G) (hG12 : G ≤ 12) (hc : c < 24) (hg : ∀ k, k < G → M.1 173 k = iN (vN M 173 k) ∧ vN M 173 k < 200) (ha : M.1 162 c = iN (vN M 162 c)) (ha8 : vN M 162 c < 8) : fL_required N σ (iN c) = some (rqG M c T G) := by
  unfold fL_required
  refine lp_run (fun j => (rqT M c j, iN j)) T (fun j hj rec => ?_) (fun rec => ?_) N (by omega)
  · simp (disch := omega) only [fL_required_6, lw1 hM, fL_required_39, hT, i_0, i_1, i_2, i_3, i_4, i_5, i_6, i_7, i_8, i_9, i_10, i_11, i_12, i_14, i_15, i_16, i_24, i_30, i_31, i_32, i_48, i_60, i_64, i_80, i_99, i_100, i_m1, iN_of, iN_add, iN_mul, iN_sub, iN_01, iM_1, iN_div, iN_lt, iN_le, iN_eq, iN_cl, iM_lt, iM_gt, iM_le, iM_ge, iM_eq, iM_eq2, iN_64, jN_32, if_pos, if_neg, if_true, if_false, true_or, or_true, false_or, or_false, not_true_eq_false, not_false_eq_true, Option.bind_some]
    by_cases h : (M.1 172 (12 * j) &&& M.1 168 c) = iN 0
    · simp only [rqT, h, if_true, iN_or0]
    · simp only [rqT, h, if_false]
  · simp (disch := omega) only [fL_required_6, lw1 hM, hT, i_0, i_1, i_2, i_3, i_4, i_5, i_6, i_7, i_8, i_9, i_10, i_11, i_12, i_14, i_15, i_16, i_24, i_30, i_31, i_32, i_48, i_60, i_64, i_80, i_99, i_100, i_m1, iN_of, iN_add, iN_mul, iN_sub, iN_01, iM_1, iN_div, iN_lt, iN_le, iN_eq, iN_cl, iM_lt, iM_gt, iM_le, iM_ge, iM_eq, iM_eq2, iN_64, jN_32, if_pos, if_neg, if_true, if_false, true_or, or_true, false_or, or_false, not_true_eq_false, not_false_eq_true, Option.bind_some]
    refine lp_run (fun k => (rqG M c T k, iN k)) G (fun k hk rec => ?_) (fun rec => ?_) N (by omega)
    · obtain ⟨h1, h2⟩ := hg k hk
      simp (disch := omega) only [fL_required_51, lw1 hM, ha, h1, hG, fL_required_121, fL_required_125, fL_required_126, fL_required_148, i_0, i_1, i_2, i_3, i_4, i_5, i_6, i_7, i_8, i_9, i_10, i_11, i_12, i_14, i_15, i_16, i_24, i_30, i_31, i_32, i_48, i_60, i_64, i_80, i_99, i_100, i_m1, iN_of, iN_add, iN_mul, iN_sub, iN_01, iM_1, iN_div, iN_lt, iN_le, iN_eq, iN_cl, iM_lt, iM_gt, iM_le, iM_ge, iM_eq, iM_eq2, iN_64, jN_32, if_pos, if_neg, if_true, if_false, true_or, or_true, false_or, or_false, not_true_eq_false, not_false_eq_true, Option.bind_some]
      rw [show rqG M c T (k + 1) = if lnB (vN M 173 k) (vN M 162 c) (M.1 168 c) = true then rqG M c T k ||| (iN 1 <<< (iN (vN M 173 k - vN M 173 k / 4 * 4) &&& iN 31)) else rqG M c T k from rfl]
      simp (disch := omega) only [tb_sh1]
      unfold lnB
      by_cases q0 : vN M 173 k / 4 - vN M 173 k / 4 / 4 * 4 = 0
      · simp only [q0, if_true]
      · by_cases q1 : vN M 173 k / 4 - vN M 173 k / 4 / 4 * 4 = 1
        · cases q2 : tb (M.1 168 c) (vN M 173 k / 16) <;> simp [q1, iN_or0]
        · by_cases q2 : vN M 162 c - vN M 162 c / 3 * 3 = vN M 173 k / 16 <;> simp [q0, q1, q2, iN_or0]
    · simp (disch := omega) only [fL_required_51, lw1 hM, hG, i_0, i_1, i_2, i_3, i_4, i_5, i_6, i_7, i_8, i_9, i_10, i_11, i_12, i_14, i_15, i_16, i_24, i_30, i_31, i_32, i_48, i_60, i_64, i_80, i_99, i_100, i_m1, iN_of, iN_add, iN_mul, iN_sub, iN_01, iM_1, iN_div, iN_lt, iN_le, iN_eq, iN_cl, iM_lt, iM_gt, iM_le, iM_ge, iM_eq, iM_eq2, iN_64, jN_32, if_pos, if_neg, if_true, if_false, true_or, or_true, false_or, or_false, not_true_eq_false, not_false_eq_true, Option.bind_some]
theorem X_team {N : Nat} {σ : gS} {r a : Nat} (ha : σ.1 r 1 = iN a) (ha8 : a < 8) : fX1_team N σ r = some (iN (a - a / 3 * 3)) := by
  simp (disch := omega) only [fX1_team, ha, i_0, i_1, i_2, i_3, i_4, i_5, i_6, i_7, i_8, i_9, i_10, i_11, i_12, i_14, i_15, i_16, i_24, i_30, i_31, i_32, i_48, i_60, i_64, i_80, i_99, i_100, i_m1, iN_of, iN_add, iN_mul, iN_sub, iN_01, iM_1, iN_div, iN_lt, iN_le, iN_eq, iN_cl, iM_lt, iM_gt, iM_le, iM_ge, iM_eq, iM_eq2, iN_64, jN_32]
theorem X_requiredBy {N : Nat} {σ M : gS} {r c T G : Nat} (hN : 100 ≤ N) (hT : σ.1 65 5 = iN T) (hT4 : T ≤ 4) (hG : σ.1 70 1 = iN G) (hG12 : G ≤ 12) (hf : ∀ j, j < T → σ.1 (76 + 3 * j) 2 = M.1 172 (12 * j)) (hm : σ.1 r 5 = M.1 168 c) (ha : σ.1 r 1 = iN (vN M 162 c)) (ha8 : vN M 162 c < 8) (hg : ∀ k, k < G → vN M 173 k < 200 ∧ σ.2.1 71 k = jN (vN M 173 k - vN M 173 k / 4 * 4) ∧ σ.2.1 73 k = jN (vN M 173 k / 4 - vN M 173 k / 4 / 4 * 4) ∧ σ.2.1 75 k = jN (vN M 173 k / 16)) : fX7_requiredBy N σ r = some (rqG M c T G) := by
  unfold fX7_requiredBy
  refine lp_run (fun j => (rqT M c j, iN j)) T (fun j hj rec => ?_) (fun rec => ?_) N (by omega)
  · simp (disch := omega) only [fX7_requiredBy_4, fX7_requiredBy_34, hT, X7_at, hf, hm, i_0, i_1, i_2, i_3, i_4, i_5, i_6, i_7, i_8, i_9, i_10, i_11, i_12, i_14, i_15, i_16, i_24, i_30, i_31, i_32, i_48, i_60, i_64, i_80, i_99, i_100, i_m1, iN_of, iN_add, iN_mul, iN_sub, iN_01, iM_1, iN_div, iN_lt, iN_le, iN_eq, iN_cl, iM_lt, iM_gt, iM_le, iM_ge, iM_eq, iM_eq2, iN_64, jN_32, if_pos, if_neg, if_true, if_false, true_or, or_true, false_or, or_false, not_true_eq_false, not_false_eq_true, Option.bind_some]
    by_cases h : (M.1 172 (12 * j) &&& M.1 168 c) = iN 0
    · simp only [rqT, h, if_true]
    · simp only [rqT, h, if_false]
  · simp (disch := omega) only [fX7_requiredBy_4, hT, i_0, i_1, i_2, i_3, i_4, i_5, i_6, i_7, i_8, i_9, i_10, i_11, i_12, i_14, i_15, i_16, i_24, i_30, i_31, i_32, i_48, i_60, i_64, i_80, i_99, i_100, i_m1, iN_of, iN_add, iN_mul, iN_sub, iN_01, iM_1, iN_div, iN_lt, iN_le, iN_eq, iN_cl, iM_lt, iM_gt, iM_le, iM_ge, iM_eq, iM_eq2, iN_64, jN_32, if_pos, if_neg, if_true, if_false, true_or, or_true, false_or, or_false, not_true_eq_false, not_false_eq_true, Option.bind_some]
    refine lp_run (fun k => (rqG M c T k, iN k)) G (fun k hk rec => ?_) (fun rec => ?_) N (by omega)
    · obtain ⟨h1, h2, h3, h4⟩ := hg k hk
      simp (disch := omega) only [fX7_requiredBy_42, hG, X_whole (σ := σ) (r := 72) (len := 12) rfl, X_whole (σ := σ) (r := 74) (len := 12) rfl, X_whole (σ := σ) (r := 70) (len := 12) rfl, h2, h3, h4, i_0, i_1, i_2, i_3, i_4, i_5, i_6, i_7, i_8, i_9, i_10, i_11, i_12, i_14, i_15, i_16, i_24, i_30, i_31, i_32, i_48, i_60, i_64, i_80, i_99, i_100, i_m1, iN_of, iN_add, iN_mul, iN_sub, iN_01, iM_1, iN_div, iN_lt, iN_le, iN_eq, iN_cl, iM_lt, iM_gt, iM_le, iM_ge, iM_eq, iM_eq2, iN_64, jN_32, if_pos, if_neg, if_true, if_false, true_or, or_true, false_or, or_false, not_true_eq_false, not_false_eq_true, Option.bind_some]
      rw [show rqG M c T (k + 1) = if lnB (vN M 173 k) (vN M 162 c) (M.1 168 c) = true then rqG M c T k ||| (iN 1 <<< (iN (vN M 173 k - vN M 173 k / 4 * 4) &&& iN 31)) else rqG M c T k from rfl]
      simp (disch := omega) only [fX7_holds, fX7_holds_26, fX7_holds_31, fX7_requiredBy_89, X_hasBit, X_team ha ha8, hm, i_0, i_1, i_2, i_3, i_4, i_5, i_6, i_7, i_8, i_9, i_10, i_11, i_12, i_14, i_15, i_16, i_24, i_30, i_31, i_32, i_48, i_60, i_64, i_80, i_99, i_100, i_m1, iN_of, iN_add, iN_mul, iN_sub, iN_01, iM_1, iN_div, iN_lt, iN_le, iN_eq, iN_cl, iM_lt, iM_gt, iM_le, iM_ge, iM_eq, iM_eq2, iN_64, jN_32, if_pos, if_neg, if_true, if_false, true_or, or_true, false_or, or_false, not_true_eq_false, not_false_eq_true, Option.bind_some]
      unfold lnB
      by_cases q0 : vN M 173 k / 4 - vN M 173 k / 4 / 4 * 4 = 0
      · simp (disch := omega) [q0, iN_eq, i10]
      · by_cases q1 : vN M 173 k / 4 - vN M 173 k / 4 / 4 * 4 = 1
        · cases q2 : tb (M.1 168 c) (vN M 173 k / 16) <;> simp [q1, iB, i10]
        · by_cases q2 : vN M 162 c - vN M 162 c / 3 * 3 = vN M 173 k / 16 <;> simp [q0, q1, q2, i10]
    · simp (disch := omega) only [fX7_requiredBy_42, hG, i_0, i_1, i_2, i_3, i_4, i_5, i_6, i_7, i_8, i_9, i_10, i_11, i_12, i_14, i_15, i_16, i_24, i_30, i_31, i_32, i_48, i_60, i_64, i_80, i_99, i_100, i_m1, iN_of, iN_add, iN_mul, iN_sub, iN_01, iM_1, iN_div, iN_lt, iN_le, iN_eq, iN_cl, iM_lt, iM_gt, iM_le, iM_ge, iM_eq, iM_eq2, iN_64, jN_32, if_pos, if_neg, if_true, if_false, true_or, or_true, false_or, or_false, not_true_eq_false, not_false_eq_true, Option.bind_some]
/-! entries -/
def gKey (M : gS) (q : Nat) (t : Int64) : Int64 := (t &&& gMask (M.1 172 (12 * q))) ||| (jN q <<< ((50 : Int32).toInt64 &&& 63))
theorem L_key {N : Nat} {σ M : gS} {q : Nat} {t : Int64} (hN : 100 ≤ N) (hM : lawOf σ = M) (hq : q < 4) : fL_key N σ (iN q) t = some (gKey M q t) := by
  simp (disch := omega) only [fL_key, lw1 hM, L_bits, i_0, i_1, i_2, i_3, i_4, i_5, i_6, i_7, i_8, i_9, i_10, i_11, i_12, i_14, i_15, i_16, i_24, i_30, i_31, i_32, i_48, i_60, i_64, i_80, i_99, i_100, i_m1, iN_of, iN_add, iN_mul, iN_sub, iN_01, iM_1, iN_div, iN_lt, iN_le, iN_eq, iN_cl, iM_lt, iM_gt, iM_le, iM_ge, iM_eq, iM_eq2, iN_64, jN_32, if_pos, if_neg, if_true, if_false, true_or, or_true, false_or, or_false, not_true_eq_false, not_false_eq_true, Option.bind_some]; rfl
def iO : Option Nat → Int32
  | none => iM
  | some j => iN j
def sEnt (M : gS) (key : Int64) : Nat → Option Nat
  | 0 => none
  | j + 1 => if M.2.1 174 j = key then some j else sEnt M key j
theorem sEnt_lt {M : gS} {key : Int64} {V j : Nat} (h : sEnt M key V = some j) : j < V ∧ M.2.1 174 j = key := by
  induction V with
  | zero => cases h
  | succ V ih =>
    unfold sEnt at h
    by_cases q : M.2.1 174 V = key
    · rw [if_pos q] at h; cases h; exact ⟨by omega, q⟩
    · rw [if_neg q] at h; have := ih h; exact ⟨by omega, this.2⟩
theorem sEnt_none {M : gS} {key : Int64} {V : Nat} (h : sEnt M key V = none) : ∀ j, j < V → M.2.1 174 j ≠ key := by
  induction V with
  | zero => intro j hj; omega
  | succ V ih =>
    unfold sEnt at h
    by_cases q : M.2.1 174 V = key
    · rw [if_pos q] at h; cases h
    · rw [if_neg q] at h
      intro j hj
      by_cases e : j = V
      · subst e; exact q
      · exact ih h j (by omega)
theorem L_entry {N : Nat} {σ M : gS} {key : Int64} {V : Nat} (hN : 100 ≤ N) (hM : lawOf σ = M) (hV : M.1 161 4 = iN V) (hV64 : V ≤ 64) : fL_entry N σ key = some (iO (sEnt M key V)) := by
  unfold fL_entry
  refine lp_run (fun j => (iO (sEnt M key j), iN j)) V (fun j hj rec => ?_) (fun rec => ?_) N (by omega)
  · simp (disch := omega) only [fL_entry_6, lw1 hM, lw2 hM, fL_entry_30, hV, lgc0, i_0, i_1, i_2, i_3, i_4, i_5, i_6, i_7, i_8, i_9, i_10, i_11, i_12, i_14, i_15, i_16, i_24, i_30, i_31, i_32, i_48, i_60, i_64, i_80, i_99, i_100, i_m1, iN_of, iN_add, iN_mul, iN_sub, iN_01, iM_1, iN_div, iN_lt, iN_le, iN_eq, iN_cl, iM_lt, iM_gt, iM_le, iM_ge, iM_eq, iM_eq2, iN_64, jN_32, if_pos, if_neg, if_true, if_false, true_or, or_true, false_or, or_false, not_true_eq_false, not_false_eq_true, Option.bind_some]
    by_cases h : M.2.1 174 j = key <;> simp [sEnt, h, iO]
  · simp (disch := omega) only [fL_entry_6, lw1 hM, lw2 hM, hV, i_0, i_1, i_2, i_3, i_4, i_5, i_6, i_7, i_8, i_9, i_10, i_11, i_12, i_14, i_15, i_16, i_24, i_30, i_31, i_32, i_48, i_60, i_64, i_80, i_99, i_100, i_m1, iN_of, iN_add, iN_mul, iN_sub, iN_01, iM_1, iN_div, iN_lt, iN_le, iN_eq, iN_cl, iM_lt, iM_gt, iM_le, iM_ge, iM_eq, iM_eq2, iN_64, jN_32, if_pos, if_neg, if_true, if_false, true_or, or_true, false_or, or_false, not_true_eq_false, not_false_eq_true, Option.bind_some]
def sVer (M : gS) (V q : Nat) (t : Int64) : Nat := match sEnt M (gKey M q t) V with
  | none => 0
  | some j => vN M 175 j - vN M 175 j / 4 * 4
theorem L_verdict {N : Nat} {σ M : gS} {q V : Nat} {t : Int64} (hN : 100 ≤ N) (hM : lawOf σ = M) (hq : q < 4) (hV : M.1 161 4 = iN V) (hV64 : V ≤ 64) (hv : ∀ j, j < V → M.1 175 j = iN (vN M 175 j) ∧ vN M 175 j < 100000) : fL_verdict N σ (iN q) t = some (iN (sVer M V q t)) := by
  simp (disch := omega) only [fL_verdict, L_key hN hM, L_entry hN hM hV hV64, Option.bind_some]
  unfold sVer
  cases h : sEnt M (gKey M q t) V with
  | none => simp (disch := omega) only [iO, fL_verdict_30, i_0, i_1, i_2, i_3, i_4, i_5, i_6, i_7, i_8, i_9, i_10, i_11, i_12, i_14, i_15, i_16, i_24, i_30, i_31, i_32, i_48, i_60, i_64, i_80, i_99, i_100, i_m1, iN_of, iN_add, iN_mul, iN_sub, iN_01, iM_1, iN_div, iN_lt, iN_le, iN_eq, iN_cl, iM_lt, iM_gt, iM_le, iM_ge, iM_eq, iM_eq2, iN_64, jN_32, if_pos, if_neg, if_true, if_false, true_or, or_true, false_or, or_false, not_true_eq_false, not_false_eq_true, Option.bind_some]
  | some j =>
    obtain ⟨h1, h2⟩ := hv j (sEnt_lt h).1
    have h3 := (sEnt_lt h).1
    simp only [iO]
    simp (disch := omega) only [lw1 hM, i_0, i_1, i_2, i_3, i_4, i_5, i_6, i_7, i_8, i_9, i_10, i_11, i_12, i_14, i_15, i_16, i_24, i_30, i_31, i_32, i_48, i_60, i_64, i_80, i_99, i_100, i_m1, iN_of, iN_add, iN_mul, iN_sub, iN_01, iM_1, iN_div, iN_lt, iN_le, iN_eq, iN_cl, iM_lt, iM_gt, iM_le, iM_ge, iM_eq, iM_eq2, iN_64, jN_32, if_pos, if_neg, if_true, if_false, true_or, or_true, false_or, or_false, not_true_eq_false, not_false_eq_true, Option.bind_some, fL_verdict_30]
    rw [h1]
    simp (disch := omega) only [i_0, i_1, i_2, i_3, i_4, i_5, i_6, i_7, i_8, i_9, i_10, i_11, i_12, i_14, i_15, i_16, i_24, i_30, i_31, i_32, i_48, i_60, i_64, i_80, i_99, i_100, i_m1, iN_of, iN_add, iN_mul, iN_sub, iN_01, iM_1, iN_div, iN_lt, iN_le, iN_eq, iN_cl, iM_lt, iM_gt, iM_le, iM_ge, iM_eq, iM_eq2, iN_64, jN_32]
/-- whether one below n is so -/
def sAny (p : Nat → Bool) : Nat → Bool
  | 0 => false
  | n + 1 => sAny p n || p n
theorem sAny_iff {p : Nat → Bool} {n : Nat} : sAny p n = true ↔ ∃ j, j < n ∧ p j = true := by
  induction n with
  | zero => exact ⟨fun h => (nomatch h), fun ⟨j, h, _⟩ => absurd h (by omega)⟩
  | succ n ih =>
    unfold sAny
    rw [Bool.or_eq_true, ih]
    constructor
    · rintro (⟨j, h1, h2⟩ | h)
      · exact ⟨j, by omega, h2⟩
      · exact ⟨n, by omega, h⟩
    · rintro ⟨j, h1, h2⟩
      by_cases e : j = n
      · subst e; exact Or.inr h2
      · exact Or.inl ⟨j, by omega, h2⟩
theorem sAny_false {p : Nat → Bool} {n : Nat} : sAny p n = false ↔ ∀ j, j < n → p j = false := by
  rw [← Bool.not_eq_true, sAny_iff]
  constructor
  · intro h j hj
    cases q : p j with
    | false => rfl
    | true => exact absurd ⟨j, hj, q⟩ h
  · rintro h ⟨j, h1, h2⟩
    rw [h j h1] at h2; cases h2
/-- verdicts together: of the tests of a set, by what each has -/
def sTog (set : Int32) (ver : Nat → Nat) (T : Nat) : Nat := if sAny (fun q => tb set q && ver q == 2) T = true then 2 else if sAny (fun q => tb set q && ver q == 0) T = true then 0 else 1
def sCnt (p : Nat → Bool) : Nat → Nat
  | 0 => 0
  | n + 1 => sCnt p n + (if p n = true then 1 else 0)
theorem sCnt_le {p : Nat → Bool} : ∀ n, sCnt p n ≤ n
  | 0 => Nat.le_refl _
  | n + 1 => by
    unfold sCnt
    have := sCnt_le (p := p) n
    split <;> omega
theorem sCnt_pos {p : Nat → Bool} {n : Nat} : (0 < sCnt p n) ↔ sAny p n = true := by
  induction n with
  | zero => exact ⟨fun h => (Nat.lt_irrefl 0 h).elim, fun h => (nomatch h)⟩
  | succ n ih =>
    unfold sCnt sAny
    rw [Bool.or_eq_true, ← ih]
    cases p n <;> simp
theorem L_verdicts {N : Nat} {σ M : gS} {set : Int32} {t : Int64} {T V : Nat} (hN : 100 ≤ N) (hM : lawOf σ = M) (hT : M.1 161 2 = iN T) (hT4 : T ≤ 4) (hV : M.1 161 4 = iN V) (hV64 : V ≤ 64) (hv : ∀ j, j < V → M.1 175 j = iN (vN M 175 j) ∧ vN M 175 j < 100000) : fL_verdicts N σ set t = some (iN (sTog set (fun q => sVer M V q t) T)) := by
  unfold fL_verdicts
  refine lp_run (fun j => (iN (sCnt (fun q => tb set q && sVer M V q t == 0) j), iN (sCnt (fun q => tb set q && sVer M V q t == 2) j), iN j)) T (fun j hj rec => ?_) (fun rec => ?_) N (by omega)
  · have b1 : sVer M V j t < 4 := by
      unfold sVer; split
      · omega
      · rename_i k _; omega
    simp (disch := omega) only [fL_verdicts_9, lw1 hM, fL_verdicts_43, fL_verdicts_57, fL_verdicts_73, hT, tb_sh1, L_verdict hN hM (show j < 4 by omega) hV hV64 hv, i_0, i_1, i_2, i_3, i_4, i_5, i_6, i_7, i_8, i_9, i_10, i_11, i_12, i_14, i_15, i_16, i_24, i_30, i_31, i_32, i_48, i_60, i_64, i_80, i_99, i_100, i_m1, iN_of, iN_add, iN_mul, iN_sub, iN_01, iM_1, iN_div, iN_lt, iN_le, iN_eq, iN_cl, iM_lt, iM_gt, iM_le, iM_ge, iM_eq, iM_eq2, iN_64, jN_32, if_pos, if_neg, if_true, if_false, true_or, or_true, false_or, or_false, not_true_eq_false, not_false_eq_true, Option.bind_some]
    simp only [sCnt]
    by_cases h : tb set j = true
    · rcases (show sVer M V j t = 0 ∨ sVer M V j t = 1 ∨ sVer M V j t = 2 ∨ sVer M V j t = 3 by omega) with e | e | e | e <;> simp [e, h]
    · simp [h]
  · have c1 := sCnt_le (p := fun q => tb set q && sVer M V q t == 0) T
    have c2 := sCnt_le (p := fun q => tb set q && sVer M V q t == 2) T
    simp (disch := omega) only [fL_verdicts_9, lw1 hM, fL_verdicts_101, hT, i_0, i_1, i_2, i_3, i_4, i_5, i_6, i_7, i_8, i_9, i_10, i_11, i_12, i_14, i_15, i_16, i_24, i_30, i_31, i_32, i_48, i_60, i_64, i_80, i_99, i_100, i_m1, iN_of, iN_add, iN_mul, iN_sub, iN_01, iM_1, iN_div, iN_lt, iN_le, iN_eq, iN_cl, iM_lt, iM_gt, iM_le, iM_ge, iM_eq, iM_eq2, iN_64, jN_32, if_pos, if_neg, if_true, if_false, true_or, or_true, false_or, or_false, not_true_eq_false, not_false_eq_true, Option.bind_some]
    unfold sTog
    simp only [← sCnt_pos]
    generalize sCnt (fun q => tb set q && sVer M V q t == 0) T = x
    generalize sCnt (fun q => tb set q && sVer M V q t == 2) T = z
    by_cases h2 : z = 0
    · by_cases h1 : x = 0
      · simp [h1, h2]
      · simp [h1, h2, show 0 < x by omega]
    · simp [h2, show 0 < z by omega]
