/-! a commit is reverted: the trees -/
def rvM (t0 t1 : Int64) : Nat → Int32
  | 0 => 0
  | j + 1 => if gAt t0 j = gAt t1 j then rvM t0 t1 j else rvM t0 t1 j ||| ((1 : Int32) <<< (iN j &&& 31))
def rvW (t0 t1 : Int64) : Nat → Int64
  | 0 => 0
  | j + 1 => if gAt t0 j = gAt t1 j then rvW t0 t1 j else rvW t0 t1 j ||| ((gAt t1 j).toInt64 <<< ((4 * iN j).toInt64 &&& 63))
def rvC (t0 t1 tr : Int64) : Nat → Bool
  | 0 => true
  | j + 1 => rvC t0 t1 tr j && (decide (gAt t0 j = gAt t1 j) || decide (gAt tr j = gAt t0 j))
theorem rvC_all {t0 t1 tr : Int64} : ∀ k, rvC t0 t1 tr k = true → ∀ j, j < k → gAt t0 j = gAt t1 j ∨ gAt tr j = gAt t0 j
  | 0, _, j, hj => absurd hj (Nat.not_lt_zero j)
  | k + 1, h, j, hj => by
    have h' : (rvC t0 t1 tr k && (decide (gAt t0 k = gAt t1 k) || decide (gAt tr k = gAt t0 k))) = true := h
    rw [Bool.and_eq_true, Bool.or_eq_true, decide_eq_true_eq, decide_eq_true_eq] at h'
    by_cases e : j = k
    · rw [e]; exact h'.2
    · exact rvC_all k h'.1 j (by omega)
theorem rvC_no {t0 t1 tr : Int64} : ∀ k, rvC t0 t1 tr k = false → ∃ j, j < k ∧ rvC t0 t1 tr j = true ∧ gAt t0 j ≠ gAt t1 j ∧ gAt tr j ≠ gAt t0 j
  | 0, h => absurd (show true = false from h) (by decide)
  | k + 1, h => by
    have h' : (rvC t0 t1 tr k && (decide (gAt t0 k = gAt t1 k) || decide (gAt tr k = gAt t0 k))) = false := h
    cases c : rvC t0 t1 tr k with
    | false =>
      obtain ⟨j, h1, h2⟩ := rvC_no k c
      exact ⟨j, by omega, h2⟩
    | true =>
      rw [c, Bool.true_and, Bool.or_eq_false_iff, decide_eq_false_iff_not, decide_eq_false_iff_not] at h'
      exact ⟨k, by omega, c, h'.1, h'.2⟩
theorem tb_rvM {t0 t1 : Int64} {f : Nat} (hf : f < 32) : ∀ n, n ≤ 12 → tb (rvM t0 t1 n) f = (decide (f < n) && !decide (gAt t0 f = gAt t1 f))
  | 0, _ => by
    show tb (iN 0) f = _
    rw [tb_zero, decide_eq_false (Nat.not_lt_zero f)]; rfl
  | n + 1, hn => by
    have ih := tb_rvM (t0 := t0) (t1 := t1) hf n (by omega)
    unfold rvM
    by_cases e : gAt t0 n = gAt t1 n
    · rw [if_pos e, ih]
      by_cases c : f = n
      · rw [c, decide_eq_true e]; simp
      · by_cases c2 : f < n
        · rw [decide_eq_true c2, decide_eq_true (show f < n + 1 by omega)]
        · rw [decide_eq_false c2, decide_eq_false (show ¬ f < n + 1 by omega)]
    · rw [if_neg e, tb_or, ih, show tb ((1 : Int32) <<< (iN n &&& 31)) f = decide (f = n) from tb_one (show n < 32 by omega) f]
      by_cases c : f = n
      · rw [c, decide_eq_false e, decide_eq_true (show n < n + 1 by omega)]; simp
      · rw [decide_eq_false c, Bool.or_false]
        by_cases c2 : f < n
        · rw [decide_eq_true c2, decide_eq_true (show f < n + 1 by omega)]
        · rw [decide_eq_false c2, decide_eq_false (show ¬ f < n + 1 by omega)]
theorem gAt_ext {x y : Int64} {f : Nat} (hf : f < 12) (h : ∀ j, j < 4 → tj x (4 * f + j) = tj y (4 * f + j)) : gAt x f = gAt y f := by
  unfold gAt
  apply congrArg Int64.toInt32
  apply tj_ext
  intro j hj
  rw [tj_and, tj_and, tj_15]
  by_cases c : j < 4
  · rw [tj_shr _ _ (sm4 hf) (by omega) hj, tj_shr _ _ (sm4 hf) (by omega) hj, if_pos (by omega), if_pos (by omega), h j c]
  · rw [decide_eq_false c]; simp
theorem gAt_bit {t : Int64} {f v : Nat} (hf : f < 12) (hv : v < 10) (h : gAt t f = iN v) (i : Nat) (hi : i < 4) : tj t (4 * f + i) = v.testBit i := by
  have e1 : tb (gAt t f) i = tj ((t >>> (jN (4 * f) &&& 63)) &&& 15) i := by
    show (((t >>> (jN (4 * f) &&& 63)) &&& 15).toInt32).toBitVec.getLsbD i = ((t >>> (jN (4 * f) &&& 63)) &&& 15).toBitVec.getLsbD i
    rw [Int64.toBitVec_toInt32, BitVec.getLsbD_signExtend, decide_eq_true (show i < 32 by omega), if_pos (show i < 64 by omega), Bool.true_and]
  have e2 : tb (iN v) i = v.testBit i := (show ∀ v, v < 10 → ∀ i, i < 4 → tb (iN v) i = v.testBit i by decide +kernel) v hv i hi
  rw [← e2, ← h, e1, tj_and, tj_15, decide_eq_true hi, Bool.and_true, tj_shr _ _ (sm4 hf) (by omega) (show i < 64 by omega), if_pos (show 4 * f + i < 64 by omega)]
theorem tj_e1 : ∀ f, f < 12 → ∀ v, v < 10 → ∀ x, x < 64 → tj ((iN v).toInt64 <<< ((4 * iN f).toInt64 &&& 63)) x = (decide (x / 4 = f) && v.testBit (x - x / 4 * 4)) := by decide +kernel
theorem tj_rvW {t0 t1 : Int64} (d : d9 t1) {x : Nat} (hx : x < 64) : ∀ n, n ≤ 12 → tj (rvW t0 t1 n) x = ((decide (x / 4 < n) && !decide (gAt t0 (x / 4) = gAt t1 (x / 4))) && tj t1 x)
  | 0, _ => by
    show tj 0 x = _
    rw [tj_zero, decide_eq_false (Nat.not_lt_zero _)]; rfl
  | n + 1, hn => by
    have ih := tj_rvW (t0 := t0) d hx n (by omega)
    unfold rvW
    by_cases e : gAt t0 n = gAt t1 n
    · rw [if_pos e, ih]
      by_cases c : x / 4 = n
      · rw [c, decide_eq_true e]; simp
      · by_cases c2 : x / 4 < n
        · rw [decide_eq_true c2, decide_eq_true (show x / 4 < n + 1 by omega)]
        · rw [decide_eq_false c2, decide_eq_false (show ¬ x / 4 < n + 1 by omega)]
    · obtain ⟨v, hv, ev⟩ := d n (by omega)
      rw [if_neg e, tj_or, ih, ev, tj_e1 n (by omega) v (by omega) x hx]
      by_cases c : x / 4 = n
      · have eb := gAt_bit (show n < 12 by omega) (show v < 10 by omega) ev (x - x / 4 * 4) (by omega)
        rw [show 4 * n + (x - x / 4 * 4) = x by omega] at eb
        rw [← eb, c, decide_eq_false e, decide_eq_true (show n < n + 1 by omega), decide_eq_false (show ¬ n < n by omega)]; simp
      · rw [decide_eq_false c, Bool.false_and, Bool.or_false]
        by_cases c2 : x / 4 < n
        · rw [decide_eq_true c2, decide_eq_true (show x / 4 < n + 1 by omega)]
        · rw [decide_eq_false c2, decide_eq_false (show ¬ x / 4 < n + 1 by omega)]
theorem gBits_hi (m : Int32) {x : Nat} (h1 : 48 ≤ x) (h2 : x < 64) : ∀ k, k ≤ 12 → tj (gBits m k) x = false
  | 0, _ => tj_zero x
  | k + 1, hk => by
    have ih := gBits_hi m h1 h2 k (by omega)
    have e : tj ((15 : Int64) <<< (jN (4 * k) &&& 63)) x = false := (show ∀ k, k < 12 → ∀ x, x < 64 → 48 ≤ x → tj ((15 : Int64) <<< (jN (4 * k) &&& 63)) x = false by decide +kernel) k (by omega) x h2 h1
    unfold gBits
    by_cases c : tb m k = true
    · rw [if_pos c, tj_or, ih, e]; rfl
    · rw [if_neg c]; exact ih
theorem rvW_mask {t0 t1 : Int64} (d : d9 t1) : rvW t0 t1 12 = t1 &&& gMask (rvM t0 t1 12) := by
  apply tj_ext
  intro x hx
  rw [tj_rvW d hx 12 (Nat.le_refl 12), tj_and]
  unfold gMask
  by_cases c : x < 48
  · have e := tj_gBits (rvM t0 t1 12) (show x / 4 < 12 by omega) (show x - x / 4 * 4 < 4 by omega) 12 (Nat.le_refl 12)
    rw [show 4 * (x / 4) + (x - x / 4 * 4) = x by omega] at e
    rw [e, tb_rvM (show x / 4 < 32 by omega) 12 (Nat.le_refl 12), decide_eq_true (show x / 4 < 12 by omega)]
    cases tj t1 x <;> simp
  · rw [gBits_hi _ (by omega) hx 12 (Nat.le_refl 12), decide_eq_false (show ¬ x / 4 < 12 by omega)]; simp
theorem d9_mask {t : Int64} {m : Int32} (d : d9 t) : d9 (t &&& gMask m) := fun f hf => by
  have hb : ∀ j, j < 4 → tj (t &&& gMask m) (4 * f + j) = (tj t (4 * f + j) && tb m f) := fun j hj => by
    rw [tj_and]
    have e := tj_gBits m hf hj 12 (Nat.le_refl 12)
    rw [decide_eq_true hf, Bool.true_and] at e
    unfold gMask
    rw [e]
  cases c : tb m f with
  | true =>
    rw [gAt_ext (y := t) hf (fun j hj => by rw [hb j hj, c, Bool.and_true])]
    exact d f hf
  | false =>
    refine ⟨0, by omega, ?_⟩
    rw [gAt_ext (y := 0) hf (fun j hj => by rw [hb j hj, c, Bool.and_false, tj_zero])]
    exact (show ∀ f, f < 12 → gAt 0 f = iN 0 by decide +kernel) f hf
theorem mask_2 {t g : Int64} : (t &&& g) &&& g = t &&& g := by
  apply tj_ext
  intro x _
  rw [tj_and, tj_and]
  cases tj t x <;> cases tj g x <;> rfl
