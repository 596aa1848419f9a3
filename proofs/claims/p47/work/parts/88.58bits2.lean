/-! how many bits a number of three bytes has -/
def p8 (a : Nat) : Nat := a - (a / 2 &&& 85)
def s8 (p : Nat) : Nat := (p &&& 51) + (p / 4 &&& 51)
def h8 (s : Nat) : Nat := (s + s / 16) &&& 15
def pc8 (a : Nat) : Nat := sCnt (fun d => a.testBit d) 8
def W3 (a b c : Nat) : Nat := a + 256 * b + 65536 * c
theorem f81 : ∀ a, a < 256 → (∀ β, β < 2 → (a / 2 + 128 * β) &&& 85 = a / 2 &&& 85) ∧ (a / 2 &&& 85) ≤ a := by decide +kernel
theorem f82 : ∀ p, p < 256 → ∀ β, β < 4 → (p / 4 + 64 * β) &&& 51 = p / 4 &&& 51 := by decide +kernel
theorem f83 : ∀ a, a < 256 → p8 a < 256 ∧ s8 (p8 a) ≤ 68 ∧ s8 (p8 a) % 16 ≤ 4 ∧ h8 (s8 (p8 a)) = pc8 a ∧ pc8 a ≤ 8 := by decide +kernel
theorem f84 (s β : Nat) : (s + s / 16 + 16 * β) &&& 15 = (s + s / 16) &&& 15 := by
  have h : ∀ x : Nat, x &&& 15 = x % 16 := fun x => Nat.and_two_pow_sub_one_eq_mod x 4
  rw [h, h]; omega
theorem and3m {x y z m k : Nat} (hx : x < 256) (hy : y < 256) (hz : z < 256) (hm : m < 256) : W3 x y z &&& (m + 256 * m + 65536 * (m + 256 * k)) = W3 (x &&& m) (y &&& m) (z &&& m) := by
  unfold W3
  rw [and3 hx hy hm]
  have := and2 (x := z) (y := 0) (m := m) (k := k) hz hm
  rw [Nat.mul_zero, Nat.add_zero, Nat.zero_and, Nat.mul_zero, Nat.add_zero] at this
  rw [this]
theorem bc1_W {a b c : Nat} (ha : a < 256) (hb : b < 256) (hc : c < 256) : bc1 (jN (W3 a b c)) = jN (W3 (p8 a) (p8 b) (p8 c)) := by
  unfold bc1
  have hW : W3 a b c < 16777216 := by unfold W3; omega
  rw [us_jN 1 1 _ (by decide) (by omega) (by omega), show (6148914691236517205 : Int64) = jN (85 + 256 * 85 + 65536 * (85 + 256 * 366503875925)) from rfl, and_jN, show W3 a b c / 2 ^ 1 = W3 (a / 2 + 128 * (b % 2)) (b / 2 + 128 * (c % 2)) (c / 2) by unfold W3; omega, and3m (by omega) (by omega) (by omega) (by omega), (f81 a ha).1 _ (by omega), (f81 b hb).1 _ (by omega)]
  have h1 := (f81 a ha).2
  have h2 := (f81 b hb).2
  have h3 := (f81 c hc).2
  rw [sub_jN (by unfold W3; omega)]
  congr 1
  unfold W3 p8
  omega
theorem s8_le (p : Nat) : s8 p ≤ 102 := by
  unfold s8
  have h1 : p &&& 51 ≤ 51 := Nat.and_le_right
  have h2 : p / 4 &&& 51 ≤ 51 := Nat.and_le_right
  omega
theorem bc2_W {a b c : Nat} (ha : a < 256) (hb : b < 256) (hc : c < 256) : bc2 (jN (W3 a b c)) = jN (W3 (s8 a) (s8 b) (s8 c)) := by
  unfold bc2
  have hW : W3 a b c < 16777216 := by unfold W3; omega
  rw [us_jN 2 2 _ (by decide) (by omega) (by omega), show (3689348814741910323 : Int64) = jN (51 + 256 * 51 + 65536 * (51 + 256 * 219902325555)) from rfl, and_jN, and_jN, show W3 a b c / 2 ^ 2 = W3 (a / 4 + 64 * (b % 4)) (b / 4 + 64 * (c % 4)) (c / 4) by unfold W3; omega, and3m ha hb hc (by omega), and3m (by omega) (by omega) (by omega) (by omega), f82 a ha _ (by omega), f82 b hb _ (by omega), jN_add]
  congr 1
  unfold W3 s8
  omega
theorem bc3_W {a b c : Nat} (ha : a ≤ 68 ∧ a % 16 ≤ 4) (hb : b ≤ 68 ∧ b % 16 ≤ 4) (hc : c ≤ 68 ∧ c % 16 ≤ 4) : bc3 (jN (W3 a b c)) = jN (W3 (h8 a) (h8 b) (h8 c)) := by
  unfold bc3
  have hW : W3 a b c < 16777216 := by unfold W3; omega
  rw [us_jN 4 4 _ (by decide) (by omega) (by omega), show (1085102592571150095 : Int64) = jN (15 + 256 * 15 + 65536 * (15 + 256 * 64677154575)) from rfl, jN_add, and_jN, show W3 a b c + W3 a b c / 2 ^ 4 = W3 (a + a / 16 + 16 * (b % 16)) (b + b / 16 + 16 * (c % 16)) (c + c / 16) by unfold W3; omega, and3m (by omega) (by omega) (by omega) (by omega), f84, f84]
  rfl
theorem J13_W {N : Nat} {σ : gS} {a b c : Nat} (ha : a < 256) (hb : b < 256) (hc : c < 256) : fJ13_bitCount_95d88 N σ (jN (W3 a b c)) = some (iN (pc8 a + pc8 b + pc8 c)) := by
  obtain ⟨a1, a2, a3, a4, a5⟩ := f83 a ha
  obtain ⟨b1, b2, b3, b4, b5⟩ := f83 b hb
  obtain ⟨c1, c2, c3, c4, c5⟩ := f83 c hc
  rw [J13_eq, bc1_W ha hb hc, bc2_W a1 b1 c1, bc3_W ⟨a2, a3⟩ ⟨b2, b3⟩ ⟨c2, c3⟩, a4, b4, c4]
  generalize pc8 a = x at a5 ⊢
  generalize pc8 b = y at b5 ⊢
  generalize pc8 c = z at c5 ⊢
  unfold bc4
  rw [us_jN 8 8 _ (by decide) (by omega) (by unfold W3; omega), jN_add, us_jN 16 16 _ (by decide) (by omega) (by unfold W3; omega), jN_add, us_jN 32 32 _ (by decide) (by omega) (by unfold W3; omega), jN_add]
  have e1 : W3 x y z / 2 ^ 8 = y + 256 * z := by unfold W3; omega
  have e2 : (W3 x y z + (y + 256 * z)) / 2 ^ 16 = z := by unfold W3; omega
  have e3 : (W3 x y z + (y + 256 * z) + z) / 2 ^ 32 = 0 := by unfold W3; omega
  have e : W3 x y z + (y + 256 * z) + z + 0 = (x + y + z) + 256 * (y + z) + 65536 * z := by unfold W3; omega
  rw [e1, e2, e3, e, jN_32 (by omega)]
  have h : ∀ m : Nat, m < 2147483648 → iN m &&& (127 : Int32) = iN (m % 128) := fun m hm => by
    rw [show (127 : Int32) = iN 127 from rfl, iN_and hm (by omega), show m &&& 127 = m % 128 from Nat.and_two_pow_sub_one_eq_mod m 7]
  rw [h _ (by omega), show (x + y + z + 256 * (y + z) + 65536 * z) % 128 = x + y + z by omega]
