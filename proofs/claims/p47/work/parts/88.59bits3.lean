/-! how many leave the queue, on both sides -/
theorem sCnt_two (p : Nat → Bool) (i : Nat) : ∀ j, sCnt p (i + j) = sCnt p i + sCnt (fun d => p (i + d)) j
  | 0 => rfl
  | j + 1 => by
    have e1 : sCnt p (i + (j + 1)) = sCnt p (i + j) + (if p (i + j) = true then 1 else 0) := rfl
    have e2 : sCnt (fun d => p (i + d)) (j + 1) = sCnt (fun d => p (i + d)) j + (if p (i + j) = true then 1 else 0) := rfl
    rw [e1, e2, sCnt_two p i j]
    omega
theorem J13_cnt {N : Nat} {σ : gS} {x : Int64} (h : ∀ d, 24 ≤ d → tj x d = false) : fJ13_bitCount_95d88 N σ x = some (iN (sCnt (fun d => tj x d) 24)) := by
  obtain ⟨m, hm⟩ : ∃ m, x.toBitVec.toNat = m := ⟨_, rfl⟩
  have hx : x = jN m := by
    apply Int64.toBitVec_inj.mp
    apply BitVec.eq_of_toNat_eq
    show x.toBitVec.toNat = (BitVec.ofNat 64 m).toNat
    rw [BitVec.toNat_ofNat, hm, Nat.mod_eq_of_lt (by rw [← hm]; exact x.toBitVec.isLt)]
  have hb : ∀ d, tj x d = m.testBit d := fun d => by
    unfold tj
    rw [BitVec.getLsbD, hm]
  have hlt : m < 2 ^ 24 := Nat.lt_pow_two_of_testBit m (fun i hi => by rw [← hb]; exact h i hi)
  have hW : m = W3 (m % 256) (m / 256 % 256) (m / 65536) := by unfold W3; omega
  have hJ := J13_W (N := N) (σ := σ) (a := m % 256) (b := m / 256 % 256) (c := m / 65536) (by omega) (by omega) (by omega)
  rw [← hW, ← hx] at hJ
  rw [hJ]
  congr 2
  have e1 : sCnt (fun d => tj x d) 24 = sCnt (fun d => tj x d) 8 + sCnt (fun d => tj x (8 + d)) 8 + sCnt (fun d => tj x (16 + d)) 8 := by
    rw [show (24 : Nat) = 16 + 8 from rfl, sCnt_two _ 16 8, show (16 : Nat) = 8 + 8 from rfl, sCnt_two _ 8 8]
  rw [e1]
  unfold pc8
  have q1 : sCnt (fun d => (m % 256).testBit d) 8 = sCnt (fun d => tj x d) 8 := sCnt_congr 8 (fun d hd => by
    rw [hb, show (256 : Nat) = 2 ^ 8 from rfl, Nat.testBit_mod_two_pow, decide_eq_true hd, Bool.true_and])
  have q2 : sCnt (fun d => (m / 256 % 256).testBit d) 8 = sCnt (fun d => tj x (8 + d)) 8 := sCnt_congr 8 (fun d hd => by
    rw [hb, show (256 : Nat) = 2 ^ 8 from rfl, Nat.testBit_mod_two_pow, decide_eq_true hd, Bool.true_and, Nat.testBit_div_two_pow, Nat.add_comm])
  have q3 : sCnt (fun d => (m / 65536).testBit d) 8 = sCnt (fun d => tj x (16 + d)) 8 := sCnt_congr 8 (fun d hd => by
    rw [hb, show (65536 : Nat) = 2 ^ 16 from rfl, Nat.testBit_div_two_pow, Nat.add_comm])
  rw [q1, q2, q3]
theorem lv_cnt {M : gS} {n c : Nat} (hn : n ≤ 20) (hc : c < n) : sCnt (fun d => lvG M c n d) 24 = 1 + lvC M c n := by
  have key : ∀ k, k ≤ n → sCnt (fun d => lvG M c n d) k = lvC M c k + (if c < k then 1 else 0) := by
    intro k
    induction k with
    | zero => intro _; rfl
    | succ k ih =>
      intro hk
      have e1 : sCnt (fun d => lvG M c n d) (k + 1) = sCnt (fun d => lvG M c n d) k + (if lvG M c n k = true then 1 else 0) := rfl
      have e2 : lvC M c (k + 1) = lvC M c k + (if k ≠ c ∧ lvG M c (k + 1) k = true then 1 else 0) := rfl
      rw [e1, e2, ih (by omega), lvG_st M c k n (by omega)]
      by_cases e : k = c
      · subst e
        rw [lvG_c, if_pos (show true = true from rfl), if_neg (Nat.lt_irrefl k), if_neg (show ¬ (k ≠ k ∧ true = true) from fun h => h.1 rfl), if_pos (Nat.lt_succ_self k)]
      · by_cases g : lvG M c (k + 1) k = true
        · rw [if_pos g, if_pos (show k ≠ c ∧ lvG M c (k + 1) k = true from ⟨e, g⟩)]
          by_cases l : c < k
          · rw [if_pos l, if_pos (show c < k + 1 by omega)]
          · rw [if_neg l, if_neg (show ¬ c < k + 1 by omega)]
        · rw [if_neg g, if_neg (show ¬ (k ≠ c ∧ lvG M c (k + 1) k = true) from fun h => g h.2)]
          by_cases l : c < k
          · rw [if_pos l, if_pos (show c < k + 1 by omega)]
          · rw [if_neg l, if_neg (show ¬ c < k + 1 by omega)]
  have hi : ∀ k, sCnt (fun d => lvG M c n d) (n + k) = sCnt (fun d => lvG M c n d) n := by
    intro k
    induction k with
    | zero => rfl
    | succ k ih =>
      have e1 : sCnt (fun d => lvG M c n d) (n + (k + 1)) = sCnt (fun d => lvG M c n d) (n + k) + (if lvG M c n (n + k) = true then 1 else 0) := rfl
      rw [e1, ih, lvG_hi M c n (n + k) (by omega) (by omega)]; rfl
  rw [show 24 = n + (24 - n) by omega, hi, key n (Nat.le_refl n), if_pos hc]
  omega
theorem X_leaveC {N : Nat} {σ M : gS} {n c st : Nat} (hN : 100 ≤ N) (h0 : σ.1 1 4 = iN n) (hn : n ≤ 20) (hp : parOK M n) (hc : c < n) (hst : 3 ≤ st ∧ st ≤ 5) (hnum : σ.1 (5 + c) 0 = iN c) (hs : ∀ d, d < n → σ.1 (5 + d) 3 = M.1 164 d) (hpa : ∀ d, d < n → σ.1 (5 + d) 2 = M.1 163 d) : fX11_takeOutOfQueue N σ (5 + c) (iN st) = some (iN (1 + lvC M c n), toS σ M c st n) := by
  have ht : ∀ d, tj (gJ M c n) d = lvG M c n d := fun d => tj_gJ (by omega) n (by omega) d
  have e : sCnt (fun d => tj (gJ M c n) d) 24 = 1 + lvC M c n := (sCnt_congr 24 (fun d _ => ht d)).trans (lv_cnt hn hc)
  rw [X_takeOut hN h0 hn hp hc hst hnum hs hpa, J13_cnt (fun d hd => by rw [ht]; exact lvG_hi M c n d (by omega) (by omega)), Option.bind_some, e]
