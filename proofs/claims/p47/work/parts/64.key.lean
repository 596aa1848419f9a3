/-! keys of verdicts -/
theorem tj_jN (a j : Nat) : tj (jN a) j = (decide (j < 64) && a.testBit j) := by
  unfold tj
  show (BitVec.ofNat 64 a).getLsbD j = _
  exact BitVec.getLsbD_ofNat 64 a j
theorem tj_shl (x : Int64) {s : Nat} (y : Int64) (hs : y.toBitVec.smod 64 = BitVec.ofNat 64 s) (h : s < 64) (j : Nat) : tj (x <<< y) j = (decide (j < 64) && (!decide (j < s) && tj x (j - s))) := by
  unfold tj
  rw [Int64.toBitVec_shiftLeft, hs, BitVec.shiftLeft_eq', BitVec.toNat_ofNat, Nat.mod_eq_of_lt (show s < 2 ^ 64 by omega), BitVec.getLsbD_shiftLeft, Bool.and_assoc]
def low48 (w : Int64) : Prop := ∀ j, 48 ≤ j → tj w j = false
theorem gBits_low (x : Int32) : ∀ k, k ≤ 12 → ∀ j, 4 * k ≤ j → tj (gBits x k) j = false
  | 0, _, j, _ => tj_zero j
  | k + 1, hk, j, hj => by
    have h1 := gBits_low x k (by omega) j (by omega)
    unfold gBits
    cases tb x k with
    | false => exact h1
    | true =>
      rw [if_pos rfl, tj_or, h1]
      have hs : (jN (4 * k) &&& 63).toBitVec.smod 64 = BitVec.ofNat 64 (4 * k) := (show ∀ k : Nat, k < 64 → (Int64.ofNat k &&& 63).toBitVec.smod 64 = BitVec.ofNat 64 k by decide +kernel) (4 * k) (by omega)
      rw [tj_shl _ _ hs (by omega)]
      have h15 : tj 15 (j - 4 * k) = false := by
        rw [show (15 : Int64) = jN 15 from rfl, tj_jN]
        have : Nat.testBit 15 (j - 4 * k) = false := Nat.testBit_lt_two_pow (Nat.lt_of_lt_of_le (show 15 < 2 ^ 4 by decide) (Nat.pow_le_pow_right (by decide) (by omega)))
        rw [this]; simp
      rw [h15]; simp
theorem low_mask (t : Int64) (x : Int32) : low48 (t &&& gMask x) := fun j hj => by
  rw [tj_and, show tj (gMask x) j = false from gBits_low x 12 (Nat.le_refl _) j (by omega)]; simp
def kC (a q : Nat) (w : Int64) : Int64 := ((jN a <<< ((52 : Int32).toInt64 &&& 63)) ||| (jN (q + 1) <<< ((48 : Int32).toInt64 &&& 63))) ||| w
theorem tj_kC (a q : Nat) (w : Int64) (j : Nat) : tj (kC a q w) j = (((decide (j < 64) && (!decide (j < 52) && (decide (j - 52 < 64) && a.testBit (j - 52)))) || (decide (j < 64) && (!decide (j < 48) && (decide (j - 48 < 64) && (q + 1).testBit (j - 48))))) || tj w j) := by
  unfold kC
  rw [tj_or, tj_or, tj_shl (s := 52) _ _ (by decide) (by omega), tj_shl (s := 48) _ _ (by decide) (by omega), tj_jN, tj_jN]
theorem kC_low {a q : Nat} {w : Int64} {j : Nat} (h : j < 48) : tj (kC a q w) j = tj w j := by
  rw [tj_kC, decide_eq_true (show j < 52 by omega), decide_eq_true h]; simp
theorem kC_mid {a q : Nat} {w : Int64} {j : Nat} (hw : low48 w) (h : j < 4) : tj (kC a q w) (48 + j) = (q + 1).testBit j := by
  rw [tj_kC, hw (48 + j) (by omega), decide_eq_true (show 48 + j < 52 by omega), decide_eq_false (show ¬ 48 + j < 48 by omega), decide_eq_true (show 48 + j < 64 by omega), show 48 + j - 48 = j by omega, decide_eq_true (show j < 64 by omega)]; simp
theorem kC_up {a q : Nat} {w : Int64} {j : Nat} (hq : q < 8) (hw : low48 w) (h : j < 12) : tj (kC a q w) (52 + j) = a.testBit j := by
  have hz : (q + 1).testBit (52 + j - 48) = false := Nat.testBit_lt_two_pow (Nat.lt_of_lt_of_le (show q + 1 < 2 ^ 4 by omega) (Nat.pow_le_pow_right (by decide) (by omega)))
  rw [tj_kC, hw (52 + j) (by omega), hz, decide_eq_false (show ¬ 52 + j < 52 by omega), decide_eq_true (show 52 + j < 64 by omega), show 52 + j - 52 = j by omega, decide_eq_true (show j < 64 by omega)]; simp
theorem tb_eq {a b k : Nat} (ha : a < 2 ^ k) (hb : b < 2 ^ k) (h : ∀ j, j < k → a.testBit j = b.testBit j) : a = b := by
  apply Nat.eq_of_testBit_eq
  intro j
  by_cases e : j < k
  · exact h j e
  · have hp : 2 ^ k ≤ 2 ^ j := Nat.pow_le_pow_right (by decide) (by omega)
    rw [Nat.testBit_lt_two_pow (Nat.lt_of_lt_of_le ha hp), Nat.testBit_lt_two_pow (Nat.lt_of_lt_of_le hb hp)]
theorem low_eq {w w2 : Int64} (hw : low48 w) (hw2 : low48 w2) (h : ∀ j, j < 48 → tj w j = tj w2 j) : w = w2 := by
  apply tj_ext
  intro j hj
  by_cases e : j < 48
  · exact h j e
  · rw [hw j (by omega), hw2 j (by omega)]
theorem kC_inj {a q a2 q2 : Nat} {w w2 : Int64} (ha : a < 4096) (ha2 : a2 < 4096) (hq : q < 8) (hq2 : q2 < 8) (hw : low48 w) (hw2 : low48 w2) (h : kC a q w = kC a2 q2 w2) : a = a2 ∧ q = q2 ∧ w = w2 := by
  refine ⟨?_, ?_, ?_⟩
  · exact tb_eq (k := 12) (by omega) (by omega) (fun j hj => by rw [← kC_up hq hw hj, h, kC_up hq2 hw2 hj])
  · have := tb_eq (k := 4) (a := q + 1) (b := q2 + 1) (by omega) (by omega) (fun j hj => by rw [← kC_mid (a := a) hw hj, h, kC_mid hw2 hj])
    omega
  · exact low_eq hw hw2 (fun j hj => by rw [← kC_low (a := a) (q := q) hj, h, kC_low hj])
theorem kC_ne {a q : Nat} {w : Int64} (hq : q < 8) (hw : low48 w) : kC a q w ≠ 0 := fun h => by
  have := tb_eq (k := 4) (a := q + 1) (b := 0) (by omega) (by omega) (fun j hj => by
    rw [← kC_mid (a := a) hw hj, h, tj_zero, Nat.zero_testBit])
  omega
/-! the law's keys -/
theorem tj_gKey (M : gS) (q : Nat) (t : Int64) (j : Nat) : tj (gKey M q t) j = (tj (t &&& gMask (M.1 172 (12 * q))) j || (decide (j < 64) && (!decide (j < 50) && (decide (j - 50 < 64) && q.testBit (j - 50))))) := by
  unfold gKey
  rw [tj_or, tj_shl (s := 50) _ _ (by decide) (by omega), tj_jN]
theorem gKey_inj {M : gS} {q q2 : Nat} {t t2 : Int64} (hq : q < 8) (hq2 : q2 < 8) : gKey M q t = gKey M q2 t2 ↔ q = q2 ∧ t &&& gMask (M.1 172 (12 * q)) = t2 &&& gMask (M.1 172 (12 * q2)) := by
  constructor
  · intro h
    constructor
    · refine tb_eq (k := 3) (by omega) (by omega) (fun j hj => ?_)
      have e : ∀ (q : Nat) (t : Int64), tj (gKey M q t) (50 + j) = q.testBit j := fun q t => by
        rw [tj_gKey, low_mask t _ (50 + j) (by omega), decide_eq_true (show 50 + j < 64 by omega), decide_eq_false (show ¬ 50 + j < 50 by omega), show 50 + j - 50 = j by omega, decide_eq_true (show j < 64 by omega)]; simp
      rw [← e q t, h, e q2 t2]
    · refine low_eq (low_mask _ _) (low_mask _ _) (fun j hj => ?_)
      have e : ∀ (q : Nat) (t : Int64), tj (gKey M q t) j = tj (t &&& gMask (M.1 172 (12 * q))) j := fun q t => by
        rw [tj_gKey, decide_eq_true (show j < 50 by omega)]; simp
      rw [← e q t, h, e q2 t2]
  · rintro ⟨rfl, h⟩
    unfold gKey
    rw [h]
/-! verdicts of the class and of the law -/
def entC (M : gS) (V : Nat) (key : Int64) : Nat := match sEnt M key V with
  | none => 0
  | some j => vN M 175 j / 64 * 4 + (vN M 175 j - vN M 175 j / 4 * 4)
/-- a check of the class and the law's row of it -/
def RCk (σ M : gS) (ag : Nat → Nat) (q : Nat) : Prop := σ.1 (76 + 3 * q) 0 = iN q ∧ σ.1 (76 + 3 * q) 7 = iN (ag q) ∧ ag q < 1000 ∧ σ.2.1 (76 + 3 * q) 3 = gMask (M.1 172 (12 * q))
def TabV (M : gS) (T V : Nat) (ag : Nat → Nat) (f : Int64 → Int32) : Prop := (∀ q, q < T → ∀ t, f (kC (ag q) q (t &&& gMask (M.1 172 (12 * q)))) = iN (entC M V (gKey M q t))) ∧ ∀ q, q < 8 → ∀ a, a < 4096 → ∀ w, low48 w → (q < T → ag q < a) → f (kC a q w) = 0
def RCv (σ M : gS) (T V U : Nat) (ag : Nat → Nat) : Prop := ∃ len f, gle σ.2.2 107 = len ∧ gle σ.2.2 108 = len ∧ pw len ∧ σ.1 106 2 = iN U ∧ sCnt (fun p => decide (σ.2.1 107 p ≠ 0)) len = U ∧ 2 * U ≤ len ∧ Tab (σ.2.1 107) (σ.1 108) len f ∧ TabV M T V ag f
theorem X_keyOf {N : Nat} {σ M : gS} {ag : Nat → Nat} {q : Nat} {t : Int64} (h : RCk σ M ag q) (hq : q < 8) : fX9_keyOf N σ (76 + 3 * q) t = some (kC (ag q) q (t &&& gMask (M.1 172 (12 * q)))) := by
  obtain ⟨h1, h2, h3, h4⟩ := h
  simp (disch := omega) only [fX9_keyOf, h1, h2, h4, i_1, iN_add, iN_64]
  rfl
theorem sCnt_all {p : Nat → Bool} : ∀ n, (∀ j, j < n → p j = true) → sCnt p n = n
  | 0, _ => rfl
  | n + 1, h => by
    unfold sCnt
    rw [sCnt_all n (fun j hj => h j (by omega)), h n (by omega), if_pos rfl]
theorem tab_open {K : Nat → Int64} {len U : Nat} (hc : sCnt (fun p => decide (K p ≠ 0)) len = U) (h : U < len) : ∃ p, p < len ∧ K p = 0 := by
  apply Classical.byContradiction
  intro q
  have := sCnt_all (p := fun p => decide (K p ≠ 0)) len (fun j hj => decide_eq_true (fun e => q ⟨j, hj, e⟩))
  omega
theorem X_valueK {N : Nat} {σ : gS} {len U : Nat} {f : Int64 → Int32} {key : Int64} {v : Int32} (hN : 5000 ≤ N) (l1 : gle σ.2.2 107 = len) (l2 : gle σ.2.2 108 = len) (l3 : pw len) (u2 : sCnt (fun p => decide (σ.2.1 107 p ≠ 0)) len = U) (u3 : 2 * U ≤ len) (hT2 : Tab (σ.2.1 107) (σ.1 108) len f) (hk : key ≠ 0) (hf : f key = v) : fX9_valueOf N σ key = some v := by
  have hlb : len ≤ 2048 ∧ 256 ≤ len := by unfold pw at l3; omega
  obtain ⟨i, i1, i2, i3, i4, i5⟩ := hT2.find hk (tab_open u2 (by omega))
  have hpl := X_placeFor hN l1 l3 i1 i2 i3
  have hlt : prb len key i < len := Nat.mod_lt _ (by omega)
  generalize prb len key i = p at hpl hlt i4
  rw [hf] at i4
  have c1 : ¬ (iN p < (0 : Int32)) := by
    rw [i_0, iN_lt (by omega) (by omega)]; omega
  have c2 : ¬ (Int32.ofNat (gle σ.2.2 108) ≤ iN p) := by
    rw [l2, iN_of, iN_le (by omega) (by omega)]; omega
  have c3 : ¬ (iN p < (0 : Int32) ∨ gle σ.2.2 108 ≤ (iN p).toNatClampNeg) := by
    rw [iN_cl (by omega), l2]; exact fun h => h.elim c1 (fun h => by omega)
  unfold fX9_valueOf
  rw [hpl, Option.bind_some, if_neg c1, if_neg c2, if_neg c3, iN_cl (by omega), i4]
  rfl
theorem X_verdictK {N : Nat} {σ : gS} {len U r : Nat} {t : Int64} {f : Int64 → Int32} {key : Int64} {v : Int32} (hN : 5000 ≤ N) (l1 : gle σ.2.2 107 = len) (l2 : gle σ.2.2 108 = len) (l3 : pw len) (u2 : sCnt (fun p => decide (σ.2.1 107 p ≠ 0)) len = U) (u3 : 2 * U ≤ len) (hT2 : Tab (σ.2.1 107) (σ.1 108) len f) (hk : key ≠ 0) (hf : f key = v) (hkey : fX9_keyOf N σ r t = some key) : fX9_verdictOf N σ r t = some (v &&& (3 : Int32)) := by
  have hlb : len ≤ 2048 ∧ 256 ≤ len := by unfold pw at l3; omega
  obtain ⟨i, i1, i2, i3, i4, i5⟩ := hT2.find hk (tab_open u2 (by omega))
  have hpl := X_placeFor hN l1 l3 i1 i2 i3
  have hlt : prb len key i < len := Nat.mod_lt _ (by omega)
  generalize prb len key i = p at hpl hlt i4
  rw [hf] at i4
  have c1 : ¬ (iN p < (0 : Int32)) := by
    rw [i_0, iN_lt (by omega) (by omega)]; omega
  have c2 : ¬ (Int32.ofNat (gle σ.2.2 108) ≤ iN p) := by
    rw [l2, iN_of, iN_le (by omega) (by omega)]; omega
  have c3 : ¬ (iN p < (0 : Int32) ∨ gle σ.2.2 108 ≤ (iN p).toNatClampNeg) := by
    rw [iN_cl (by omega), l2]; exact fun h => h.elim c1 (fun h => by omega)
  unfold fX9_verdictOf
  rw [hkey, Option.bind_some, hpl, Option.bind_some, if_neg c1, if_neg c2, if_neg c3, iN_cl (by omega), i4]
  rfl
theorem ent_ver {M : gS} {V q : Nat} {t : Int64} (hv : ∀ j, j < V → vN M 175 j < 100000) : entC M V (gKey M q t) < 100000 ∧ entC M V (gKey M q t) % 4 = sVer M V q t := by
  unfold entC sVer
  cases e : sEnt M (gKey M q t) V with
  | none => exact ⟨Nat.zero_lt_succ _, rfl⟩
  | some j =>
    have := hv j (sEnt_lt e).1
    refine ⟨by dsimp only; omega, by dsimp only; omega⟩
theorem X_valueOf {N : Nat} {σ M : gS} {T V U q : Nat} {ag : Nat → Nat} {t : Int64} (hN : 5000 ≤ N) (h : RCv σ M T V U ag) (hq : q < T) (hT : T ≤ 4) : fX9_valueOf N σ (kC (ag q) q (t &&& gMask (M.1 172 (12 * q)))) = some (iN (entC M V (gKey M q t))) := by
  obtain ⟨len, f, l1, l2, l3, u1, u2, u3, hT2, hV⟩ := h
  exact X_valueK hN l1 l2 l3 u2 u3 hT2 (kC_ne (a := ag q) (show q < 8 by omega) (low_mask t (M.1 172 (12 * q)))) (hV.1 q hq t)
theorem X_verdictOf {N : Nat} {σ M : gS} {T V U q : Nat} {ag : Nat → Nat} {t : Int64} (hN : 5000 ≤ N) (h : RCv σ M T V U ag) (hk0 : RCk σ M ag q) (hq : q < T) (hT : T ≤ 4) (hv : ∀ j, j < V → vN M 175 j < 100000) : fX9_verdictOf N σ (76 + 3 * q) t = some (iN (sVer M V q t)) := by
  obtain ⟨len, f, l1, l2, l3, u1, u2, u3, hT2, hV⟩ := h
  have hent := ent_ver (q := q) (t := t) hv
  have h1 := X_verdictK hN l1 l2 l3 u2 u3 hT2 (kC_ne (a := ag q) (show q < 8 by omega) (low_mask t (M.1 172 (12 * q)))) (hV.1 q hq t) (X_keyOf (N := N) (t := t) hk0 (show q < 8 by omega))
  rw [h1, show ((3 : Int32)) = iN 3 from rfl, iN_and (by omega) (by decide), show (3 : Nat) = 2 ^ 2 - 1 from rfl, Nat.and_two_pow_sub_one_eq_mod, hent.2]
