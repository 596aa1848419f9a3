/-! small naturals as ints; loops; the memory's updates -/
def iN (n : Nat) : Int32 := Int32.ofNat n
def jN (n : Nat) : Int64 := Int64.ofNat n
def iM : Int32 := -1
theorem iN_of (n : Nat) : Int32.ofNat n = iN n := rfl
theorem i_0 : (0 : Int32) = iN 0 := rfl
theorem i_1 : (1 : Int32) = iN 1 := rfl
theorem i_2 : (2 : Int32) = iN 2 := rfl
theorem i_3 : (3 : Int32) = iN 3 := rfl
theorem i_4 : (4 : Int32) = iN 4 := rfl
theorem i_5 : (5 : Int32) = iN 5 := rfl
theorem i_6 : (6 : Int32) = iN 6 := rfl
theorem i_7 : (7 : Int32) = iN 7 := rfl
theorem i_8 : (8 : Int32) = iN 8 := rfl
theorem i_9 : (9 : Int32) = iN 9 := rfl
theorem i_10 : (10 : Int32) = iN 10 := rfl
theorem i_11 : (11 : Int32) = iN 11 := rfl
theorem i_12 : (12 : Int32) = iN 12 := rfl
theorem i_14 : (14 : Int32) = iN 14 := rfl
theorem i_15 : (15 : Int32) = iN 15 := rfl
theorem i_16 : (16 : Int32) = iN 16 := rfl
theorem i_24 : (24 : Int32) = iN 24 := rfl
theorem i_30 : (30 : Int32) = iN 30 := rfl
theorem i_31 : (31 : Int32) = iN 31 := rfl
theorem i_32 : (32 : Int32) = iN 32 := rfl
theorem i_48 : (48 : Int32) = iN 48 := rfl
theorem i_60 : (60 : Int32) = iN 60 := rfl
theorem i_64 : (64 : Int32) = iN 64 := rfl
theorem i_80 : (80 : Int32) = iN 80 := rfl
theorem i_99 : (99 : Int32) = iN 99 := rfl
theorem i_100 : (100 : Int32) = iN 100 := rfl
theorem i_m1 : -iN 1 = iM := rfl
theorem iN_toInt {n : Nat} (h : n < 2147483648) : (iN n).toInt = n := Int32.toInt_ofNat_of_lt (by omega)
theorem iN_cl {n : Nat} (h : n < 2147483648) : (iN n).toNatClampNeg = n := g_iN h
theorem iM_toInt : iM.toInt = -1 := by decide
theorem iN_lt {a b : Nat} (ha : a < 2147483648) (hb : b < 2147483648) : (iN a < iN b) = (a < b) := by
  rw [Int32.lt_iff_toInt_lt, iN_toInt ha, iN_toInt hb]; exact propext (by omega)
theorem iN_le {a b : Nat} (ha : a < 2147483648) (hb : b < 2147483648) : (iN a ≤ iN b) = (a ≤ b) := by
  rw [Int32.le_iff_toInt_le, iN_toInt ha, iN_toInt hb]; exact propext (by omega)
theorem iN_inj {a b : Nat} (ha : a < 2147483648) (hb : b < 2147483648) (h : iN a = iN b) : a = b := by
  have := congrArg Int32.toInt h
  rw [iN_toInt ha, iN_toInt hb] at this; omega
theorem iN_eq {a b : Nat} (ha : a < 2147483648) (hb : b < 2147483648) : (iN a = iN b) = (a = b) :=
  propext ⟨iN_inj ha hb, fun h => by rw [h]⟩
theorem iM_lt {n : Nat} (h : n < 2147483648) : (iM < iN n) = True := by
  rw [Int32.lt_iff_toInt_lt, iM_toInt, iN_toInt h]; exact eq_true (by omega)
theorem iM_gt {n : Nat} (h : n < 2147483648) : (iN n < iM) = False := by
  rw [Int32.lt_iff_toInt_lt, iM_toInt, iN_toInt h]; exact eq_false (by omega)
theorem iM_le {n : Nat} (h : n < 2147483648) : (iM ≤ iN n) = True := by
  rw [Int32.le_iff_toInt_le, iM_toInt, iN_toInt h]; exact eq_true (by omega)
theorem iM_ge {n : Nat} (h : n < 2147483648) : (iN n ≤ iM) = False := by
  rw [Int32.le_iff_toInt_le, iM_toInt, iN_toInt h]; exact eq_false (by omega)
theorem iM_ne {n : Nat} (h : n < 2147483648) : iN n ≠ iM := fun q => by
  have := congrArg Int32.toInt q
  rw [iM_toInt, iN_toInt h] at this; omega
theorem iM_eq {n : Nat} (h : n < 2147483648) : (iN n = iM) = False := eq_false (iM_ne h)
theorem iM_eq2 {n : Nat} (h : n < 2147483648) : (iM = iN n) = False := eq_false (fun q => iM_ne h q.symm)
theorem iN_add (a b : Nat) : iN a + iN b = iN (a + b) := (Int32.ofNat_add a b).symm
theorem iN_mul (a b : Nat) : iN a * iN b = iN (a * b) := (Int32.ofNat_mul a b).symm
theorem iN_toI (x : Int32) (n : Nat) (hn : n < 2147483648) (h : x.toInt = n) : x = iN n := Int32.toInt_inj.mp (by rw [h, iN_toInt hn])
theorem iN_sub {a b : Nat} (h : b ≤ a) (ha : a < 2147483648) : iN a - iN b = iN (a - b) := by
  have e : a - b + b = a := Nat.sub_add_cancel h
  have h1 : iN (a - b) + iN b = iN a := by rw [iN_add, e]
  rw [← h1]; exact Int32.add_sub_cancel _ _
theorem i10 : (iN 1 = iN 0) = False := eq_false (by decide)
theorem i01 : (iN 0 = iN 1) = False := eq_false (by decide)
theorem iN_01 : iN 0 - iN 1 = iM := by decide
theorem iM_1 : iM + iN 1 = iN 0 := by decide
theorem iN_div {a b : Nat} (ha : a < 2147483648) (hb : b < 2147483648) : iN a / iN b = iN (a / b) := (Int32.ofNat_div (by omega) (by omega)).symm
theorem iN_64 {n : Nat} (h : n < 2147483648) : (iN n).toInt64 = jN n := by
  apply Int64.toInt_inj.mp
  rw [Int32.toInt_toInt64, iN_toInt h]; exact (Int64.toInt_ofNat_of_lt (by omega)).symm
theorem jN_toInt {n : Nat} (h : n < 9223372036854775808) : (jN n).toInt = n := Int64.toInt_ofNat_of_lt (by omega)
theorem jN_32 {n : Nat} (h : n < 2147483648) : (jN n).toInt32 = iN n := by
  rw [← iN_64 h, Int32.toInt32_toInt64]
/-! loops -/
theorem lp_1 {α ρ : Type} (F : (α → Option ρ) → α → Option ρ) (n : Nat) (s : α) : lp F (n + 1) s = F (lp F n) s := rfl
theorem lp_run {α ρ : Type} {F : (α → Option ρ) → α → Option ρ} {out : Option ρ} (st : Nat → α) (n : Nat) (step : ∀ j, j < n → ∀ rec, F rec (st j) = rec (st (j + 1))) (fin : ∀ rec, F rec (st n) = out) : ∀ N, n < N → lp F N (st 0) = out := by
  have key : ∀ m j, j + m = n → ∀ N, m < N → lp F N (st j) = out := by
    intro m
    induction m with
    | zero =>
      intro j hj N hN
      obtain ⟨k, rfl⟩ : ∃ k, N = k + 1 := ⟨N - 1, by omega⟩
      rw [lp_1, show j = n by omega]; exact fin _
    | succ m ih =>
      intro j hj N hN
      obtain ⟨k, rfl⟩ : ∃ k, N = k + 1 := ⟨N - 1, by omega⟩
      rw [lp_1, step j (by omega)]
      exact ih (j + 1) (by omega) k (by omega)
  exact fun N hN => key n 0 (by omega) N hN
/-! the memory's updates -/
theorem sI_1 (σ : gS) (k j : Nat) (v : Int32) (k' j' : Nat) : (sI σ k j v).1 k' j' = if k' = k ∧ j' = j then v else σ.1 k' j' := rfl
theorem sI_2 (σ : gS) (k j : Nat) (v : Int32) : (sI σ k j v).2 = σ.2 := rfl
theorem sJ_1 (σ : gS) (k j : Nat) (v : Int64) : (sJ σ k j v).1 = σ.1 := rfl
theorem sJ_2 (σ : gS) (k j : Nat) (v : Int64) (k' j' : Nat) : (sJ σ k j v).2.1 k' j' = if k' = k ∧ j' = j then v else σ.2.1 k' j' := rfl
theorem sJ_3 (σ : gS) (k j : Nat) (v : Int64) : (sJ σ k j v).2.2 = σ.2.2 := rfl
/-- comparing long ones for equality -/
theorem lgc0 {a b : Int64} : (lg_cmp a b = iN 0) = (a = b) := by
  refine propext ⟨fun h => ?_, fun h => ?_⟩
  · unfold lg_cmp at h
    split at h
    · exact absurd h (by decide)
    · split at h
      · assumption
      · exact absurd h (by decide)
  · subst h
    unfold lg_cmp
    rw [if_neg (by rw [gt_iff_lt, Int64.lt_iff_toInt_lt]; omega), if_pos rfl]; rfl
/-! bits -/
def tb (x : Int32) (j : Nat) : Bool := x.toBitVec.getLsbD j
def tj (x : Int64) (j : Nat) : Bool := x.toBitVec.getLsbD j
theorem tb_shE (x : Int32) {j : Nat} (hj : j < 32) : ((x >>> (iN j &&& iN 31)) &&& iN 1) = if tb x j = true then iN 1 else iN 0 := by
  have hk : (iN j &&& iN 31).toBitVec.smod 32 = BitVec.ofNat 32 j := (show ∀ j : Nat, j < 32 → (Int32.ofNat j &&& Int32.ofNat 31).toBitVec.smod 32 = BitVec.ofNat 32 j by decide +kernel) j hj
  apply Int32.toBitVec_inj.mp
  rw [Int32.toBitVec_and, Int32.toBitVec_shiftRight, hk]
  apply BitVec.eq_of_getLsbD_eq
  intro i hi
  rw [BitVec.getLsbD_and]
  have h1 : (iN 1).toBitVec = 1#32 := rfl
  have h0 : (iN 0).toBitVec = 0#32 := rfl
  unfold tb
  by_cases h9 : i = 0
  · subst h9
    have e : (x.toBitVec.sshiftRight' (BitVec.ofNat 32 j)).getLsbD 0 = x.toBitVec.getLsbD j := by
      show (x.toBitVec.sshiftRight (BitVec.ofNat 32 j).toNat).getLsbD 0 = _
      rw [BitVec.toNat_ofNat, Nat.mod_eq_of_lt (show j < 2 ^ 32 by omega), BitVec.getLsbD_sshiftRight, if_pos (show j + 0 < 32 by omega)]
      rfl
    rw [e, h1]
    cases x.toBitVec.getLsbD j <;> rfl
  · cases hx : x.toBitVec.getLsbD j <;> simp [h1, h0, h9, Ne.symm h9]
theorem tb_sh1 (x : Int32) {j : Nat} (hj : j < 32) : (((x >>> (iN j &&& iN 31)) &&& iN 1) = iN 1) = (tb x j = true) := by
  rw [tb_shE x hj]
  cases tb x j <;> simp <;> decide
theorem tb_sh0 (x : Int32) {j : Nat} (hj : j < 32) : (((x >>> (iN j &&& iN 31)) &&& iN 1) = iN 0) = (tb x j = false) := by
  rw [tb_shE x hj]
  cases tb x j <;> simp <;> decide
theorem tb_usE (x : Int32) {j : Nat} (hj : j < 32) : ((x.toUInt32 >>> ((iN j).toUInt32 &&& (iN 31).toUInt32)).toInt32 &&& iN 1) = if tb x j = true then iN 1 else iN 0 := by
  have hk : ((iN j).toUInt32 &&& (iN 31).toUInt32).toBitVec % 32 = BitVec.ofNat 32 j := (show ∀ j : Nat, j < 32 → ((Int32.ofNat j).toUInt32 &&& (Int32.ofNat 31).toUInt32).toBitVec % 32 = BitVec.ofNat 32 j by decide +kernel) j hj
  apply Int32.toBitVec_inj.mp
  rw [Int32.toBitVec_and]
  show (x.toUInt32 >>> ((iN j).toUInt32 &&& (iN 31).toUInt32)).toBitVec &&& _ = _
  rw [UInt32.toBitVec_shiftRight, hk]
  apply BitVec.eq_of_getLsbD_eq
  intro i hi
  rw [BitVec.getLsbD_and]
  have h1 : (iN 1).toBitVec = 1#32 := rfl
  have h0 : (iN 0).toBitVec = 0#32 := rfl
  have hxx : x.toUInt32.toBitVec = x.toBitVec := rfl
  unfold tb
  by_cases h9 : i = 0
  · subst h9
    have e : (x.toBitVec >>> BitVec.ofNat 32 j).getLsbD 0 = x.toBitVec.getLsbD j := by
      rw [BitVec.ushiftRight_eq', BitVec.toNat_ofNat, Nat.mod_eq_of_lt (show j < 2 ^ 32 by omega), BitVec.getLsbD_ushiftRight]
      rfl
    rw [hxx, e, h1]
    cases x.toBitVec.getLsbD j <;> rfl
  · cases hx : x.toBitVec.getLsbD j <;> simp [h1, h0, h9, Ne.symm h9]
theorem tb_us0 (x : Int32) {j : Nat} (hj : j < 32) : (((x.toUInt32 >>> ((iN j).toUInt32 &&& (iN 31).toUInt32)).toInt32 &&& iN 1) = iN 0) = (tb x j = false) := by
  rw [tb_usE x hj]
  cases tb x j <;> simp <;> decide
/-! the law's own rows of a memory -/
def lawOf (σ : gS) : gS := (fun k => if 161 ≤ k ∧ k < 179 then σ.1 k else fun _ => 0, fun k => if 161 ≤ k ∧ k < 179 then σ.2.1 k else fun _ => 0, 0)
theorem lw1 {σ M : gS} (hM : lawOf σ = M) {k : Nat} (h : 161 ≤ k ∧ k < 179) : σ.1 k = M.1 k := by
  subst hM
  show _ = if 161 ≤ k ∧ k < 179 then σ.1 k else fun _ => 0
  rw [if_pos h]
theorem lw2 {σ M : gS} (hM : lawOf σ = M) {k : Nat} (h : 161 ≤ k ∧ k < 179) : σ.2.1 k = M.2.1 k := by
  subst hM
  show _ = if 161 ≤ k ∧ k < 179 then σ.2.1 k else fun _ => 0
  rw [if_pos h]
theorem lawOf_ext {σ σ' : gS} (h : ∀ k, 161 ≤ k → k < 179 → σ.1 k = σ'.1 k ∧ σ.2.1 k = σ'.2.1 k) : lawOf σ = lawOf σ' := by
  unfold lawOf
  have e1 : (fun k => if 161 ≤ k ∧ k < 179 then σ.1 k else fun _ => (0 : Int32)) = fun k => if 161 ≤ k ∧ k < 179 then σ'.1 k else fun _ => 0 := by
    funext k
    by_cases q : 161 ≤ k ∧ k < 179
    · rw [if_pos q, if_pos q, (h k q.1 q.2).1]
    · rw [if_neg q, if_neg q]
  have e2 : (fun k => if 161 ≤ k ∧ k < 179 then σ.2.1 k else fun _ => (0 : Int64)) = fun k => if 161 ≤ k ∧ k < 179 then σ'.2.1 k else fun _ => 0 := by
    funext k
    by_cases q : 161 ≤ k ∧ k < 179
    · rw [if_pos q, if_pos q, (h k q.1 q.2).2]
    · rw [if_neg q, if_neg q]
  rw [e1, e2]
theorem lawOf_sI {σ : gS} {k j : Nat} {v : Int32} (h : k < 161 ∨ 179 ≤ k) : lawOf (sI σ k j v) = lawOf σ :=
  lawOf_ext (fun k' h1 h2 => ⟨gU_ne _ _ _ (by omega), rfl⟩)
theorem lawOf_sJ {σ : gS} {k j : Nat} {v : Int64} (h : k < 161 ∨ 179 ≤ k) : lawOf (sJ σ k j v) = lawOf σ :=
  lawOf_ext (fun k' h1 h2 => ⟨rfl, gU_ne _ _ _ (by omega)⟩)
