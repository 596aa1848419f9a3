/-! masks, contents, rows -/
def iB (b : Bool) : Int32 := if b = true then iN 1 else iN 0
theorem iB0 {b : Bool} : (iB b = iN 0) = (b = false) := by cases b <;> simp [iB] <;> decide
theorem iB1 {b : Bool} : (iB b = iN 1) = (b = true) := by cases b <;> simp [iB] <;> decide
theorem iB01 {b : Bool} : (¬ (iB b = iN 0 ∨ iB b = iN 1)) = False := by rw [iB0, iB1]; cases b <;> simp
def gBits (x : Int32) : Nat → Int64
  | 0 => 0
  | j + 1 => if tb x j = true then gBits x j ||| ((15 : Int64) <<< (jN (4 * j) &&& 63)) else gBits x j
def gMask (x : Int32) : Int64 := gBits x 12
theorem L_bits {N : Nat} {σ : gS} {x : Int32} (hN : 100 ≤ N) : fL_bits N σ x = some (gMask x) := by
  unfold fL_bits
  refine lp_run (fun j => (gBits x j, iN j)) 12 (fun j hj rec => ?_) (fun rec => ?_) N (by omega)
  · simp (disch := omega) only [fL_bits_4, fL_bits_31, i_0, i_1, i_2, i_3, i_4, i_5, i_6, i_7, i_8, i_9, i_10, i_11, i_12, i_14, i_15, i_16, i_24, i_30, i_31, i_32, i_48, i_60, i_64, i_80, i_99, i_100, i_m1, iN_of, iN_add, iN_mul, iN_sub, iN_01, iM_1, iN_div, iN_lt, iN_le, iN_eq, iN_cl, iM_lt, iM_gt, iM_le, iM_ge, iM_eq, iM_eq2, iN_64, jN_32, if_pos, if_neg, if_true, if_false, true_or, or_true, false_or, or_false, not_true_eq_false, not_false_eq_true, Option.bind_some, tb_sh1]
    cases h : tb x j <;> simp [gBits, h]
  · simp (disch := omega) only [fL_bits_4, i_0, i_1, i_2, i_3, i_4, i_5, i_6, i_7, i_8, i_9, i_10, i_11, i_12, i_14, i_15, i_16, i_24, i_30, i_31, i_32, i_48, i_60, i_64, i_80, i_99, i_100, i_m1, iN_of, iN_add, iN_mul, iN_sub, iN_01, iM_1, iN_div, iN_lt, iN_le, iN_eq, iN_cl, iM_lt, iM_gt, iM_le, iM_ge, iM_eq, iM_eq2, iN_64, jN_32, if_pos, if_neg, if_true, if_false, true_or, or_true, false_or, or_false, not_true_eq_false, not_false_eq_true, Option.bind_some]
    rfl
theorem X_hasBit {N : Nat} {σ : gS} {x : Int32} {j : Nat} (hj : j < 32) : fX11_hasBit N σ x (iN j) = some (iB (tb x j)) := by
  simp (disch := omega) only [fX11_hasBit, fX11_hasBit_13, i_0, i_1, i_2, i_3, i_4, i_5, i_6, i_7, i_8, i_9, i_10, i_11, i_12, i_14, i_15, i_16, i_24, i_30, i_31, i_32, i_48, i_60, i_64, i_80, i_99, i_100, i_m1, iN_of, iN_add, iN_mul, iN_sub, iN_01, iM_1, iN_div, iN_lt, iN_le, iN_eq, iN_cl, iM_lt, iM_gt, iM_le, iM_ge, iM_eq, iM_eq2, iN_64, jN_32, if_pos, if_neg, if_true, if_false, true_or, or_true, false_or, or_false, not_true_eq_false, not_false_eq_true, Option.bind_some, tb_us0]
  cases h : tb x j <;> simp [iB]
theorem X_maskOf {N : Nat} {σ : gS} {x : Int32} (hN : 100 ≤ N) : fX11_maskOf N σ x = some (gMask x) := by
  unfold fX11_maskOf
  refine lp_run (fun j => (gBits x j, iN j)) 12 (fun j hj rec => ?_) (fun rec => ?_) N (by omega)
  · simp (disch := omega) only [fX11_maskOf_4, fX11_maskOf_28, i_0, i_1, i_2, i_3, i_4, i_5, i_6, i_7, i_8, i_9, i_10, i_11, i_12, i_14, i_15, i_16, i_24, i_30, i_31, i_32, i_48, i_60, i_64, i_80, i_99, i_100, i_m1, iN_of, iN_add, iN_mul, iN_sub, iN_01, iM_1, iN_div, iN_lt, iN_le, iN_eq, iN_cl, iM_lt, iM_gt, iM_le, iM_ge, iM_eq, iM_eq2, iN_64, jN_32, if_pos, if_neg, if_true, if_false, true_or, or_true, false_or, or_false, not_true_eq_false, not_false_eq_true, Option.bind_some, X_hasBit, iB0]
    cases h : tb x j <;> simp [gBits, h]
  · simp (disch := omega) only [fX11_maskOf_4, i_0, i_1, i_2, i_3, i_4, i_5, i_6, i_7, i_8, i_9, i_10, i_11, i_12, i_14, i_15, i_16, i_24, i_30, i_31, i_32, i_48, i_60, i_64, i_80, i_99, i_100, i_m1, iN_of, iN_add, iN_mul, iN_sub, iN_01, iM_1, iN_div, iN_lt, iN_le, iN_eq, iN_cl, iM_lt, iM_gt, iM_le, iM_ge, iM_eq, iM_eq2, iN_64, jN_32, if_pos, if_neg, if_true, if_false, true_or, or_true, false_or, or_false, not_true_eq_false, not_false_eq_true, Option.bind_some]
    rfl
/-- what a tree holds of a file -/
def gAt (t : Int64) (f : Nat) : Int32 := ((t >>> (jN (4 * f) &&& 63)) &&& 15).toInt32
theorem gAt_us {t : Int64} {f : Nat} (hf : f < 12) : ((t.toUInt64 >>> ((jN (4 * f)).toUInt64 &&& Int64.toUInt64 63)).toInt64 &&& 15) = ((t >>> (jN (4 * f) &&& 63)) &&& 15) := by
  have k1 : ((jN (4 * f)).toUInt64 &&& Int64.toUInt64 63).toBitVec % 64 = BitVec.ofNat 64 (4 * f) := (show ∀ f : Nat, f < 12 → ((Int64.ofNat (4 * f)).toUInt64 &&& Int64.toUInt64 63).toBitVec % 64 = BitVec.ofNat 64 (4 * f) by decide +kernel) f hf
  have k2 : (jN (4 * f) &&& 63).toBitVec.smod 64 = BitVec.ofNat 64 (4 * f) := (show ∀ f : Nat, f < 12 → (Int64.ofNat (4 * f) &&& 63).toBitVec.smod 64 = BitVec.ofNat 64 (4 * f) by decide +kernel) f hf
  apply Int64.toBitVec_inj.mp
  rw [Int64.toBitVec_and, Int64.toBitVec_and, Int64.toBitVec_shiftRight, k2]
  show (t.toUInt64 >>> ((jN (4 * f)).toUInt64 &&& Int64.toUInt64 63)).toBitVec &&& _ = _
  rw [UInt64.toBitVec_shiftRight, k1]
  have ht : t.toUInt64.toBitVec = t.toBitVec := rfl
  have h15 : (15 : Int64).toBitVec = 15#64 := rfl
  rw [ht, h15]
  apply BitVec.eq_of_getLsbD_eq
  intro i hi
  rw [BitVec.getLsbD_and, BitVec.getLsbD_and, (show ∀ i : Nat, i < 64 → (15#64).getLsbD i = decide (i < 4) by decide +kernel) i hi]
  by_cases h4 : i < 4
  · have e1 : 4 * f % 2 ^ 64 = 4 * f := Nat.mod_eq_of_lt (by omega)
    rw [decide_eq_true h4, Bool.and_true, Bool.and_true, BitVec.ushiftRight_eq', BitVec.toNat_ofNat, e1, BitVec.getLsbD_ushiftRight]
    show _ = (t.toBitVec.sshiftRight (BitVec.ofNat 64 (4 * f)).toNat).getLsbD i
    rw [BitVec.toNat_ofNat, e1, BitVec.getLsbD_sshiftRight, if_pos (show 4 * f + i < 64 by omega), decide_eq_false (show ¬ 64 ≤ i by omega)]
    rfl
  · simp [h4]
theorem L_at {N : Nat} {σ : gS} {t : Int64} {f : Nat} (hf : f < 16) : fL_at N σ t (iN f) = some (gAt t f) := by
  simp (disch := omega) only [fL_at, i_0, i_1, i_2, i_3, i_4, i_5, i_6, i_7, i_8, i_9, i_10, i_11, i_12, i_14, i_15, i_16, i_24, i_30, i_31, i_32, i_48, i_60, i_64, i_80, i_99, i_100, i_m1, iN_of, iN_add, iN_mul, iN_sub, iN_01, iM_1, iN_div, iN_lt, iN_le, iN_eq, iN_cl, iM_lt, iM_gt, iM_le, iM_ge, iM_eq, iM_eq2, iN_64, jN_32]; rfl
theorem X_cont {N : Nat} {σ : gS} {t : Int64} {f : Nat} (hf : f < 12) : fX11_contentIn N σ t (iN f) = some (gAt t f) := by
  simp (disch := omega) only [fX11_contentIn, i_0, i_1, i_2, i_3, i_4, i_5, i_6, i_7, i_8, i_9, i_10, i_11, i_12, i_14, i_15, i_16, i_24, i_30, i_31, i_32, i_48, i_60, i_64, i_80, i_99, i_100, i_m1, iN_of, iN_add, iN_mul, iN_sub, iN_01, iM_1, iN_div, iN_lt, iN_le, iN_eq, iN_cl, iM_lt, iM_gt, iM_le, iM_ge, iM_eq, iM_eq2, iN_64, jN_32]
  rw [gAt_us hf]; rfl
def bFit (m : Int32) (b t : Int64) : Bool := decide (((t ^^^ b) &&& gMask m) = 0)
def gOnto (m : Int32) (e t : Int64) : Int64 := (t &&& (gMask m ^^^ (-1))) ||| e
theorem L_fits {N : Nat} {σ M : gS} {c : Nat} {t : Int64} (hN : 100 ≤ N) (hM : lawOf σ = M) (hc : c < 24) : fL_fits N σ (iN c) t = some (iB (bFit (M.1 168 c) (M.2.1 169 c) t)) := by
  simp (disch := omega) only [fL_fits, fL_fits_22, lw1 hM, lw2 hM, i_0, i_1, i_2, i_3, i_4, i_5, i_6, i_7, i_8, i_9, i_10, i_11, i_12, i_14, i_15, i_16, i_24, i_30, i_31, i_32, i_48, i_60, i_64, i_80, i_99, i_100, i_m1, iN_of, iN_add, iN_mul, iN_sub, iN_01, iM_1, iN_div, iN_lt, iN_le, iN_eq, iN_cl, iM_lt, iM_gt, iM_le, iM_ge, iM_eq, iM_eq2, iN_64, jN_32, if_pos, if_neg, if_true, if_false, true_or, or_true, false_or, or_false, not_true_eq_false, not_false_eq_true, Option.bind_some, L_bits, lgc0]
  unfold bFit iB
  by_cases h : ((t ^^^ M.2.1 169 c) &&& gMask (M.1 168 c)) = 0 <;> simp [h]
theorem L_onto {N : Nat} {σ M : gS} {c : Nat} {t : Int64} (hN : 100 ≤ N) (hM : lawOf σ = M) (hc : c < 24) : fL_onto N σ (iN c) t = some (gOnto (M.1 168 c) (M.2.1 170 c) t) := by
  simp (disch := omega) only [fL_onto, lw1 hM, lw2 hM, i_0, i_1, i_2, i_3, i_4, i_5, i_6, i_7, i_8, i_9, i_10, i_11, i_12, i_14, i_15, i_16, i_24, i_30, i_31, i_32, i_48, i_60, i_64, i_80, i_99, i_100, i_m1, iN_of, iN_add, iN_mul, iN_sub, iN_01, iM_1, iN_div, iN_lt, iN_le, iN_eq, iN_cl, iM_lt, iM_gt, iM_le, iM_ge, iM_eq, iM_eq2, iN_64, jN_32, if_pos, if_neg, if_true, if_false, true_or, or_true, false_or, or_false, not_true_eq_false, not_false_eq_true, Option.bind_some, L_bits]
  rfl
theorem X_fits {N : Nat} {σ : gS} {r : Nat} {t : Int64} {m : Int32} (hm : σ.2.1 r 6 = gMask m) : fX1_fits N σ r t = some (iB (bFit m (σ.2.1 r 7) t)) := by
  simp (disch := omega) only [fX1_fits, fX1_fits_21, i_0, i_1, i_2, i_3, i_4, i_5, i_6, i_7, i_8, i_9, i_10, i_11, i_12, i_14, i_15, i_16, i_24, i_30, i_31, i_32, i_48, i_60, i_64, i_80, i_99, i_100, i_m1, iN_of, iN_add, iN_mul, iN_sub, iN_01, iM_1, iN_div, iN_lt, iN_le, iN_eq, iN_cl, iM_lt, iM_gt, iM_le, iM_ge, iM_eq, iM_eq2, iN_64, jN_32, if_pos, if_neg, if_true, if_false, true_or, or_true, false_or, or_false, not_true_eq_false, not_false_eq_true, Option.bind_some, lgc0, hm]
  unfold bFit iB
  by_cases h : ((t ^^^ σ.2.1 r 7) &&& gMask m) = 0 <;> simp [h]
theorem X_onto {N : Nat} {σ : gS} {r : Nat} {t : Int64} {m : Int32} (hm : σ.2.1 r 6 = gMask m) : fX1_onto N σ r t = some (gOnto m (σ.2.1 r 8) t) := by
  simp only [fX1_onto, hm]; rfl
/-! rows of the class -/
theorem X_get {N : Nat} {σ : gS} {r j len : Nat} (hl : gle σ.2.2 (r + 1) = len) (hj : j < len) (hlen : len < 1000) : fX8_get N σ r (iN j) = some (σ.2.1 (r + 1) j) := by
  simp (disch := omega) only [fX8_get, fX8_get_23, hl, i_0, i_1, i_2, i_3, i_4, i_5, i_6, i_7, i_8, i_9, i_10, i_11, i_12, i_14, i_15, i_16, i_24, i_30, i_31, i_32, i_48, i_60, i_64, i_80, i_99, i_100, i_m1, iN_of, iN_add, iN_mul, iN_sub, iN_01, iM_1, iN_div, iN_lt, iN_le, iN_eq, iN_cl, iM_lt, iM_gt, iM_le, iM_ge, iM_eq, iM_eq2, iN_64, jN_32, if_pos, if_neg, if_true, if_false, true_or, or_true, false_or, or_false, not_true_eq_false, not_false_eq_true, Option.bind_some]
theorem X_whole {N : Nat} {σ : gS} {r j len : Nat} (hl : gle σ.2.2 (r + 1) = len) (hj : j < len) (hlen : len < 1000) : fX8_whole N σ r (iN j) = some (σ.2.1 (r + 1) j).toInt32 := by
  simp (disch := omega) only [fX8_whole, fX8_whole_24, hl, i_0, i_1, i_2, i_3, i_4, i_5, i_6, i_7, i_8, i_9, i_10, i_11, i_12, i_14, i_15, i_16, i_24, i_30, i_31, i_32, i_48, i_60, i_64, i_80, i_99, i_100, i_m1, iN_of, iN_add, iN_mul, iN_sub, iN_01, iM_1, iN_div, iN_lt, iN_le, iN_eq, iN_cl, iM_lt, iM_gt, iM_le, iM_ge, iM_eq, iM_eq2, iN_64, jN_32, if_pos, if_neg, if_true, if_false, true_or, or_true, false_or, or_false, not_true_eq_false, not_false_eq_true, Option.bind_some]
theorem X_set {N : Nat} {σ : gS} {r j len : Nat} {v : Int64} (hl : gle σ.2.2 (r + 1) = len) (hj : j < len) (hlen : len < 1000) : fX8_set N σ r (iN j) v = some (sJ σ (r + 1) j v) := by
  simp (disch := omega) only [fX8_set, fX8_set_20, hl, i_0, i_1, i_2, i_3, i_4, i_5, i_6, i_7, i_8, i_9, i_10, i_11, i_12, i_14, i_15, i_16, i_24, i_30, i_31, i_32, i_48, i_60, i_64, i_80, i_99, i_100, i_m1, iN_of, iN_add, iN_mul, iN_sub, iN_01, iM_1, iN_div, iN_lt, iN_le, iN_eq, iN_cl, iM_lt, iM_gt, iM_le, iM_ge, iM_eq, iM_eq2, iN_64, jN_32, if_pos, if_neg, if_true, if_false, true_or, or_true, false_or, or_false, not_true_eq_false, not_false_eq_true, Option.bind_some]
theorem X_add {N : Nat} {σ : gS} {r n len : Nat} {v : Int64} (hc : σ.1 r 1 = iN n) (hl : gle σ.2.2 (r + 1) = len) (hn : n < len) (hlen : len < 1000) : fX8_add N σ r v = some (gAdd σ r n v) := gAdd_ok hc hl hn hlen
theorem X2_at {N : Nat} {σ : gS} {c : Nat} (hc : c < 60) : fX2_at N σ (iN c) = some (5 + c) := by
  simp (disch := omega) only [fX2_at, i_0, i_1, i_2, i_3, i_4, i_5, i_6, i_7, i_8, i_9, i_10, i_11, i_12, i_14, i_15, i_16, i_24, i_30, i_31, i_32, i_48, i_60, i_64, i_80, i_99, i_100, i_m1, iN_of, iN_add, iN_mul, iN_sub, iN_01, iM_1, iN_div, iN_lt, iN_le, iN_eq, iN_cl, iM_lt, iM_gt, iM_le, iM_ge, iM_eq, iM_eq2, iN_64, jN_32, if_pos, if_neg, if_true, if_false, true_or, or_true, false_or, or_false, not_true_eq_false, not_false_eq_true, Option.bind_some]
theorem X7_at {N : Nat} {σ : gS} {c : Nat} (hc : c < 10) : fX7_at N σ (iN c) = some (76 + 3 * c) := by
  simp (disch := omega) only [fX7_at, i_0, i_1, i_2, i_3, i_4, i_5, i_6, i_7, i_8, i_9, i_10, i_11, i_12, i_14, i_15, i_16, i_24, i_30, i_31, i_32, i_48, i_60, i_64, i_80, i_99, i_100, i_m1, iN_of, iN_add, iN_mul, iN_sub, iN_01, iM_1, iN_div, iN_lt, iN_le, iN_eq, iN_cl, iM_lt, iM_gt, iM_le, iM_ge, iM_eq, iM_eq2, iN_64, jN_32, if_pos, if_neg, if_true, if_false, true_or, or_true, false_or, or_false, not_true_eq_false, not_false_eq_true, Option.bind_some]
