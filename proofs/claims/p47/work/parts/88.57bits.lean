/-! how many bits a number has, as the library counts them -/
def us (k : Int32) (x : Int64) : Int64 := (x.toUInt64 >>> (k.toInt64.toUInt64 &&& Int64.toUInt64 63)).toInt64
def bc1 (x : Int64) : Int64 := x - (us 1 x &&& 6148914691236517205)
def bc2 (x : Int64) : Int64 := (x &&& 3689348814741910323) + (us 2 x &&& 3689348814741910323)
def bc3 (x : Int64) : Int64 := (x + us 4 x) &&& 1085102592571150095
def bc4 (k : Int32) (x : Int64) : Int64 := x + us k x
theorem J13_eq (N : Nat) (σ : gS) (x : Int64) : fJ13_bitCount_95d88 N σ x = some ((bc4 32 (bc4 16 (bc4 8 (bc3 (bc2 (bc1 x)))))).toInt32 &&& 127) := rfl
theorem us_bv (x : Int64) (k : Int32) (s : Nat) (h : (k.toInt64.toUInt64 &&& Int64.toUInt64 63) = UInt64.ofNat s) (hs : s < 64) : (us k x).toBitVec = x.toBitVec >>> s := by
  unfold us
  rw [h]
  apply BitVec.eq_of_toNat_eq
  show ((x.toUInt64 >>> UInt64.ofNat s).toBitVec).toNat = _
  rw [UInt64.toBitVec_shiftRight, BitVec.toNat_ushiftRight]
  show (x.toUInt64.toBitVec >>> ((UInt64.ofNat s).toBitVec % 64#64)).toNat = _
  rw [BitVec.ushiftRight_eq', BitVec.toNat_ushiftRight]
  congr 1
  show ((UInt64.ofNat s).toBitVec % 64#64).toNat = s
  rw [BitVec.toNat_umod]
  show (BitVec.ofNat 64 s).toNat % 64 = s
  rw [BitVec.toNat_ofNat]
  omega
theorem us_jN (k : Int32) (s m : Nat) (h : (k.toInt64.toUInt64 &&& Int64.toUInt64 63) = UInt64.ofNat s) (hs : s < 64) (hm : m < 18446744073709551616) : us k (jN m) = jN (m / 2 ^ s) := by
  apply Int64.toBitVec_inj.mp
  rw [us_bv _ k s h hs]
  apply BitVec.eq_of_toNat_eq
  rw [BitVec.toNat_ushiftRight]
  show (BitVec.ofNat 64 m).toNat >>> s = (BitVec.ofNat 64 (m / 2 ^ s)).toNat
  rw [BitVec.toNat_ofNat, BitVec.toNat_ofNat, Nat.mod_eq_of_lt hm, Nat.shiftRight_eq_div_pow]
  exact (Nat.mod_eq_of_lt (Nat.lt_of_le_of_lt (Nat.div_le_self _ _) hm)).symm
theorem and_jN (a b : Nat) : jN a &&& jN b = jN (a &&& b) := by
  apply tj_ext
  intro j hj
  rw [tj_and, tj_jN, tj_jN, tj_jN, Nat.testBit_and, decide_eq_true hj, Bool.true_and, Bool.true_and, Bool.true_and]
theorem sub_jN {a b : Nat} (h : b ≤ a) : jN a - jN b = jN (a - b) := by
  have e : jN a = jN (a - b) + jN b := by rw [jN_add, Nat.sub_add_cancel h]
  rw [e, Int64.add_sub_cancel]
/-- byte by byte -/
theorem and2 {x y m k : Nat} (hx : x < 256) (hm : m < 256) : (x + 256 * y) &&& (m + 256 * k) = (x &&& m) + 256 * (y &&& k) := by
  have h1 := Nat.and_mod_two_pow (a := x + 256 * y) (b := m + 256 * k) (n := 8)
  have h2 := Nat.and_div_two_pow (a := x + 256 * y) (b := m + 256 * k) (n := 8)
  have h3 := Nat.div_add_mod ((x + 256 * y) &&& (m + 256 * k)) (2 ^ 8)
  rw [h1, h2] at h3
  rw [← h3, show (2 : Nat) ^ 8 = 256 from rfl, show (x + 256 * y) % 256 = x by omega, show (m + 256 * k) % 256 = m by omega, show (x + 256 * y) / 256 = y by omega, show (m + 256 * k) / 256 = k by omega, Nat.add_comm]
theorem and3 {x y z m k : Nat} (hx : x < 256) (hy : y < 256) (hm : m < 256) : (x + 256 * y + 65536 * z) &&& (m + 256 * m + 65536 * k) = (x &&& m) + 256 * (y &&& m) + 65536 * (z &&& k) := by
  rw [show x + 256 * y + 65536 * z = x + 256 * (y + 256 * z) by omega, show m + 256 * m + 65536 * k = m + 256 * (m + 256 * k) by omega, and2 hx hm, and2 hy hm]
  omega
