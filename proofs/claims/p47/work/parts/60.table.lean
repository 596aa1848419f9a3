/-! the table of verdicts: looking up and keeping -/
theorem iN_and {a b : Nat} (ha : a < 2147483648) (hb : b < 2147483648) : iN a &&& iN b = iN (a &&& b) := by
  apply Int32.toBitVec_inj.mp
  rw [Int32.toBitVec_and]
  apply BitVec.eq_of_toNat_eq
  have e : ∀ n : Nat, n < 2147483648 → (iN n).toBitVec.toNat = n := fun n hn => by
    show (BitVec.ofNat 32 n).toNat = n
    rw [BitVec.toNat_ofNat]; exact Nat.mod_eq_of_lt (by omega)
  rw [BitVec.toNat_and, e a ha, e b hb, e _ (Nat.lt_of_le_of_lt Nat.and_le_left ha)]
/-- a length of the table -/
def pw (len : Nat) : Prop := len = 256 ∨ len = 512 ∨ len = 1024 ∨ len = 2048
theorem pw_mask {len a : Nat} (h : pw len) (ha : a < 2147483648) : iN a &&& iN (len - 1) = iN (a % len) := by
  have : ∀ k : Nat, a &&& (2 ^ k - 1) = a % 2 ^ k := fun k => Nat.and_two_pow_sub_one_eq_mod a k
  rcases h with rfl | rfl | rfl | rfl
  · rw [iN_and ha (by decide)]; exact congrArg iN (this 8)
  · rw [iN_and ha (by decide)]; exact congrArg iN (this 9)
  · rw [iN_and ha (by decide)]; exact congrArg iN (this 10)
  · rw [iN_and ha (by decide)]; exact congrArg iN (this 11)
def hK (key : Int64) : Nat := (key * (-7046029254386353131)).toUInt64.toNat >>> 33
theorem hK_lt (key : Int64) : hK key < 2147483648 := by
  unfold hK
  have := (key * (-7046029254386353131)).toUInt64.toNat_lt
  rw [Nat.shiftRight_eq_div_pow]; omega
theorem hK_eq (key : Int64) : (((key * (-7046029254386353131)).toUInt64 >>> ((33 : Int32).toInt64.toUInt64 &&& Int64.toUInt64 63)).toInt64).toInt32 = iN (hK key) := by
  have e : ((key * (-7046029254386353131)).toUInt64 >>> ((33 : Int32).toInt64.toUInt64 &&& Int64.toUInt64 63)).toInt64 = jN (hK key) := by
    apply Int64.toBitVec_inj.mp
    apply BitVec.eq_of_toNat_eq
    show ((key * (-7046029254386353131)).toUInt64 >>> ((33 : Int32).toInt64.toUInt64 &&& Int64.toUInt64 63)).toNat = (BitVec.ofNat 64 (hK key)).toNat
    rw [UInt64.toNat_shiftRight, show ((33 : Int32).toInt64.toUInt64 &&& Int64.toUInt64 63).toNat % 64 = 33 by decide +kernel, BitVec.toNat_ofNat, Nat.mod_eq_of_lt (Nat.lt_trans (hK_lt key) (by decide))]
    rfl
  rw [e, jN_32 (hK_lt key)]
def prb (len : Nat) (key : Int64) (i : Nat) : Nat := (hK key + i) % len
theorem placeFor_h {N : Nat} {σ : gS} {r0 len i h : Nat} {key : Int64} (hN : 5000 ≤ N) (hl : gle σ.2.2 r0 = len) (hlen : pw len) (hh : h < 2147483648) (hi : i < len) (hf : σ.2.1 r0 ((h + i) % len) = key ∨ σ.2.1 r0 ((h + i) % len) = 0) (hb : ∀ j, j < i → σ.2.1 r0 ((h + j) % len) ≠ key ∧ σ.2.1 r0 ((h + j) % len) ≠ 0) : lp (fX9_placeFor_13 N σ r0 key) N (iN h, 0) = some (iN ((h + i) % len)) := by
  have hlb : len ≤ 2048 ∧ 0 < len := by unfold pw at hlen; omega
  have hm : ∀ j, (if j = 0 then iN h else iN ((h + (j - 1)) % len + 1)) &&& iN (len - 1) = iN ((h + j) % len) := by
    intro j
    by_cases h0 : j = 0
    · subst h0; rw [if_pos rfl, pw_mask hlen hh, Nat.add_zero]
    · rw [if_neg h0, pw_mask hlen (by have := Nat.mod_lt (h + (j - 1)) hlb.2; omega), Nat.mod_add_mod, show h + (j - 1) + 1 = h + j by omega]
  refine lp_run (fun j => (if j = 0 then iN h else iN ((h + (j - 1)) % len + 1), iN j)) i (fun j hj rec => ?_) (fun rec => ?_) N (by omega)
  · have hp : (h + j) % len < len := Nat.mod_lt _ hlb.2
    obtain ⟨h1, h2⟩ := hb j hj
    simp (disch := omega) only [fX9_placeFor_13, fX9_placeFor_53, fX9_placeFor_55, hl, hm, lgc0, i_0, i_1, i_2, i_3, i_4, i_5, i_6, i_7, i_8, i_9, i_10, i_11, i_12, i_14, i_15, i_16, i_24, i_30, i_31, i_32, i_48, i_60, i_64, i_80, i_99, i_100, i_m1, iN_of, iN_add, iN_mul, iN_sub, iN_01, iM_1, iN_div, iN_lt, iN_le, iN_eq, iN_cl, iM_lt, iM_gt, iM_le, iM_ge, iM_eq, iM_eq2, iN_64, jN_32, if_pos, if_neg, if_true, if_false, true_or, or_true, false_or, or_false, not_true_eq_false, not_false_eq_true, Option.bind_some, h1, h2]
    rw [Nat.add_sub_cancel]
  · have hp : (h + i) % len < len := Nat.mod_lt _ hlb.2
    simp (disch := omega) only [fX9_placeFor_13, fX9_placeFor_53, fX9_placeFor_55, hl, hm, lgc0, i_0, i_1, i_2, i_3, i_4, i_5, i_6, i_7, i_8, i_9, i_10, i_11, i_12, i_14, i_15, i_16, i_24, i_30, i_31, i_32, i_48, i_60, i_64, i_80, i_99, i_100, i_m1, iN_of, iN_add, iN_mul, iN_sub, iN_01, iM_1, iN_div, iN_lt, iN_le, iN_eq, iN_cl, iM_lt, iM_gt, iM_le, iM_ge, iM_eq, iM_eq2, iN_64, jN_32, if_pos, if_neg, if_true, if_false, true_or, or_true, false_or, or_false, not_true_eq_false, not_false_eq_true, Option.bind_some]
    rcases hf with h4 | h4
    · simp only [h4, if_true]
    · by_cases h5 : σ.2.1 r0 ((h + i) % len) = key
      · simp only [h5, if_true]
      · rw [if_neg h5]; simp only [h4, if_true]
theorem X_placeFor {N : Nat} {σ : gS} {r0 len i : Nat} {key : Int64} (hN : 5000 ≤ N) (hl : gle σ.2.2 r0 = len) (hlen : pw len) (hi : i < len) (hf : σ.2.1 r0 (prb len key i) = key ∨ σ.2.1 r0 (prb len key i) = 0) (hb : ∀ j, j < i → σ.2.1 r0 (prb len key j) ≠ key ∧ σ.2.1 r0 (prb len key j) ≠ 0) : fX9_placeFor N σ r0 key = some (iN (prb len key i)) := by
  unfold fX9_placeFor
  rw [hK_eq]
  exact placeFor_h hN hl hlen (hK_lt key) hi hf hb
/-- the table holds what f says -/
def Tab (K : Nat → Int64) (V : Nat → Int32) (len : Nat) (f : Int64 → Int32) : Prop :=
  (∀ p q, p < len → q < len → K p = K q → K p ≠ 0 → p = q) ∧
  (∀ p, p < len → K p ≠ 0 → ∃ i, i < len ∧ prb len (K p) i = p ∧ ∀ j, j < i → K (prb len (K p) j) ≠ 0) ∧
  (∀ p, p < len → K p = 0 → V p = 0) ∧
  (∀ p, p < len → K p ≠ 0 → V p = f (K p)) ∧
  (∀ key, key ≠ 0 → (∀ p, p < len → K p ≠ key) → f key = 0)
/-- every place is come to -/
theorem prb_all {len : Nat} {key : Int64} {p : Nat} (hp : p < len) : ∃ i, i < len ∧ prb len key i = p := by
  have h0 : 0 < len := by omega
  have hm := Nat.mod_lt (hK key) h0
  have hd := Nat.div_add_mod (hK key) len
  unfold prb
  generalize hK key = h at hm hd
  by_cases q : h % len ≤ p
  · refine ⟨p - h % len, by omega, ?_⟩
    rw [show h + (p - h % len) = p + len * (h / len) by omega, Nat.add_mul_mod_self_left]
    exact Nat.mod_eq_of_lt hp
  · refine ⟨p + len - h % len, by omega, ?_⟩
    rw [show h + (p + len - h % len) = p + len * (h / len + 1) by rw [Nat.mul_succ]; omega, Nat.add_mul_mod_self_left]
    exact Nat.mod_eq_of_lt hp
/-- the least of those below n that are so -/
theorem least {p : Nat → Prop} : ∀ n, p n → ∃ i, i ≤ n ∧ p i ∧ ∀ j, j < i → ¬ p j := by
  intro n
  induction n using Nat.strongRecOn with
  | ind n ih =>
    intro hn
    by_cases h : ∃ j, j < n ∧ p j
    · obtain ⟨j, hj, hpj⟩ := h
      obtain ⟨i, h1, h2, h3⟩ := ih j hj hpj
      exact ⟨i, by omega, h2, h3⟩
    · exact ⟨n, Nat.le_refl _, hn, fun j hj hp => h ⟨j, hj, hp⟩⟩
/-- where a key is found, or may be laid -/
theorem Tab.find {K : Nat → Int64} {V : Nat → Int32} {len : Nat} {f : Int64 → Int32} {key : Int64} (hT : Tab K V len f) (hk : key ≠ 0) (he : ∃ p, p < len ∧ K p = 0) :
    ∃ i, i < len ∧ (K (prb len key i) = key ∨ K (prb len key i) = 0) ∧ (∀ j, j < i → K (prb len key j) ≠ key ∧ K (prb len key j) ≠ 0) ∧ V (prb len key i) = f key ∧ (K (prb len key i) = 0 → ∀ p, p < len → K p ≠ key) := by
  obtain ⟨t1, t2, t3, t4, t5⟩ := hT
  obtain ⟨p0, hp0, hz0⟩ := he
  obtain ⟨i0, hi0, hpi0⟩ := prb_all (key := key) hp0
  obtain ⟨i, h1, h2, h3⟩ := least (p := fun i => K (prb len key i) = key ∨ K (prb len key i) = 0) i0 (Or.inr (by rw [hpi0]; exact hz0))
  have hlt : prb len key i < len := Nat.mod_lt _ (by omega)
  have hb : ∀ j, j < i → K (prb len key j) ≠ key ∧ K (prb len key j) ≠ 0 := fun j hj => ⟨fun h => h3 j hj (Or.inl h), fun h => h3 j hj (Or.inr h)⟩
  have hno : K (prb len key i) = 0 → ∀ p, p < len → K p ≠ key := by
    intro hz p hp hpk
    obtain ⟨i2, g1, g2, g3⟩ := t2 p hp (by rw [hpk]; exact hk)
    rw [hpk] at g2 g3
    rcases Nat.lt_trichotomy i i2 with h | h | h
    · exact g3 i h hz
    · subst h; rw [g2, hpk] at hz; exact hk hz
    · exact (hb i2 h).1 (by rw [g2]; exact hpk)
  refine ⟨i, by omega, h2, hb, ?_, hno⟩
  rcases h2 with h | h
  · rw [t4 _ hlt (by rw [h]; exact hk), h]
  · rw [t3 _ hlt h, t5 key hk (hno h)]
/-- a key is kept -/
theorem Tab.keep {K : Nat → Int64} {V : Nat → Int32} {len i : Nat} {f : Int64 → Int32} {key : Int64} {v : Int32} (hT : Tab K V len f) (hk : key ≠ 0) (hi : i < len) (hf : K (prb len key i) = key ∨ K (prb len key i) = 0) (hb : ∀ j, j < i → K (prb len key j) ≠ key ∧ K (prb len key j) ≠ 0) (hno : K (prb len key i) = 0 → ∀ p, p < len → K p ≠ key) :
    Tab (fun p => if p = prb len key i then key else K p) (fun p => if p = prb len key i then v else V p) len (fun k => if k = key then v else f k) := by
  obtain ⟨t1, t2, t3, t4, t5⟩ := hT
  have hlt : prb len key i < len := Nat.mod_lt _ (by omega)
  have other : ∀ p, p < len → p ≠ prb len key i → K p ≠ key := by
    intro p hp hne hpk
    rcases hf with h | h
    · exact hne (t1 p _ hp hlt (by rw [hpk, h]) (by rw [hpk]; exact hk))
    · exact hno h p hp hpk
  have nz : ∀ p, K p ≠ 0 → (if p = prb len key i then key else K p) ≠ 0 := by
    intro p hp
    by_cases e : p = prb len key i
    · rw [if_pos e]; exact hk
    · rw [if_neg e]; exact hp
  refine ⟨fun p q hp hq he hz => ?_, fun p hp hz => ?_, fun p hp hz => ?_, fun p hp hz => ?_, fun k hk0 hn => ?_⟩
  · dsimp only at he hz
    by_cases ep : p = prb len key i <;> by_cases eq : q = prb len key i
    · rw [ep, eq]
    · rw [if_pos ep, if_neg eq] at he
      exact absurd he.symm (other q hq eq)
    · rw [if_neg ep, if_pos eq] at he
      exact absurd he (other p hp ep)
    · rw [if_neg ep, if_neg eq] at he
      rw [if_neg ep] at hz
      exact t1 p q hp hq he hz
  · dsimp only at hz ⊢
    by_cases ep : p = prb len key i
    · rw [if_pos ep]
      exact ⟨i, hi, ep.symm, fun j hj => nz _ (hb j hj).2⟩
    · rw [if_neg ep] at hz ⊢
      obtain ⟨i2, g1, g2, g3⟩ := t2 p hp hz
      exact ⟨i2, g1, g2, fun j hj => nz _ (g3 j hj)⟩
  · dsimp only at hz ⊢
    by_cases ep : p = prb len key i
    · rw [if_pos ep] at hz; exact absurd hz hk
    · rw [if_neg ep] at hz ⊢; exact t3 p hp hz
  · dsimp only at hz ⊢
    by_cases ep : p = prb len key i
    · rw [if_pos ep, if_pos ep, if_pos rfl]
    · rw [if_neg ep] at hz ⊢
      rw [if_neg ep, if_neg (other p hp ep)]
      exact t4 p hp hz
  · dsimp only at hn ⊢
    by_cases ek : k = key
    · subst ek
      exact absurd (if_pos rfl) (hn _ hlt)
    · rw [if_neg ek]
      refine t5 k hk0 (fun p hp hpk => ?_)
      by_cases ep : p = prb len key i
      · subst ep
        rcases hf with h | h
        · rw [h] at hpk; exact ek hpk.symm
        · rw [h] at hpk; exact hk0 hpk.symm
      · have := hn p hp
        rw [if_neg ep] at this
        exact this hpk
