/-! the raw value of an entry; telling changes one entry -/
def ev (M : gS) (V : Nat) (key : Int64) : Nat := match sEnt M key V with
  | none => 0
  | some i => vN M 175 i
theorem ev_none {M : gS} {V : Nat} {key : Int64} (h : sEnt M key V = none) : ev M V key = 0 := by
  unfold ev; rw [h]
theorem ev_some {M : gS} {V i : Nat} {key : Int64} (h : sEnt M key V = some i) : ev M V key = vN M 175 i := by
  unfold ev; rw [h]
theorem sVer_ev {M : gS} {V q : Nat} {t : Int64} : sVer M V q t = ev M V (gKey M q t) - ev M V (gKey M q t) / 4 * 4 := by
  cases h : sEnt M (gKey M q t) V with
  | none => rw [ev_none h]; unfold sVer; rw [h]
  | some i => rw [ev_some h]; unfold sVer; rw [h]
theorem entC_ev {M : gS} {V : Nat} {key : Int64} : entC M V key = ev M V key / 64 * 4 + (ev M V key - ev M V key / 4 * 4) := by
  cases h : sEnt M key V with
  | none => rw [ev_none h]; unfold entC; rw [h]
  | some i => rw [ev_some h]; unfold entC; rw [h]
/-- an entry: the verdict, four times its runs, 64 times the failed ones -/
def EV (v : Nat) : Prop := ∃ w r f, v = w + 4 * r + 64 * f ∧ w ≤ 2 ∧ r ≤ 6 ∧ f ≤ 5 ∧ (w = 0 → r = f ∧ f ≤ 4)
theorem EV.lt {v : Nat} (h : EV v) : v < 400 := by
  obtain ⟨w, r, f, h1, h2, h3, h4, h5⟩ := h
  omega
theorem EV.open_ {v : Nat} (h : EV v) (h0 : v - v / 4 * 4 = 0) : ∃ f, f ≤ 4 ∧ v = 68 * f := by
  obtain ⟨w, r, f, h1, h2, h3, h4, h5⟩ := h
  have : w = 0 := by omega
  have := h5 this
  exact ⟨f, this.2, by omega⟩
theorem EV.tl {f fk : Nat} {fb : Bool} (hf : f ≤ 4) : EV (tlN f fk fb) := by
  cases fb with
  | true =>
    by_cases c : f + 1 < (if fk < 2 then 2 else 5)
    · refine ⟨0, f + 1, f + 1, ?_, by omega, by omega, by omega, fun _ => ⟨rfl, ?_⟩⟩
      · unfold tlN tlV tlF
        rw [if_pos rfl, if_pos rfl, show 4 * f / 4 = f by omega, if_pos c]
      · split at c <;> omega
    · refine ⟨2, f + 1, f + 1, ?_, by omega, by omega, by omega, fun h => by omega⟩
      unfold tlN tlV tlF
      rw [if_pos rfl, if_pos rfl, show 4 * f / 4 = f by omega, if_neg c]
  | false =>
    refine ⟨1, f + 1, f, ?_, by omega, by omega, by omega, fun h => by omega⟩
    unfold tlN tlV tlF
    rw [if_neg (by decide), if_neg (by decide), show 4 * f / 4 = f by omega]
theorem tlV_lt (e fk : Nat) (fb : Bool) : tlV e fk fb < 4 := by
  unfold tlV
  by_cases c : fb = true
  · rw [if_pos c]
    by_cases d : e / 4 + 1 < (if fk < 2 then 2 else 5)
    · rw [if_pos d]; omega
    · rw [if_neg d]; omega
  · rw [if_neg c]; omega
theorem EV.tl_run {f fk : Nat} {fb : Bool} (hf : f ≤ 4) : tlN f fk fb / 4 - tlN f fk fb / 4 / 16 * 16 = f + 1 := by
  have := tlV_lt (4 * f) fk fb
  unfold tlN
  omega
theorem EV.tl_cls {f fk : Nat} {fb : Bool} (hf : f ≤ 4) : tlN f fk fb / 64 * 4 + (tlN f fk fb - tlN f fk fb / 4 * 4) = 4 * tlF (4 * f) fb + tlV (4 * f) fk fb := by
  have := tlV_lt (4 * f) fk fb
  unfold tlN
  omega
theorem sEnt_pre {M M' : gS} {key : Int64} : ∀ V, (∀ j, j < V → M'.2.1 174 j = M.2.1 174 j) → sEnt M' key V = sEnt M key V
  | 0, _ => rfl
  | V + 1, h => by
    unfold sEnt
    rw [h V (by omega), sEnt_pre V (fun j hj => h j (by omega))]
/-- how many entries there are then -/
def tlU (M : gS) (V : Nat) (key : Int64) : Nat := match sEnt M key V with
  | none => V + 1
  | some _ => V
theorem tlU_none {M : gS} {V : Nat} {key : Int64} (h : sEnt M key V = none) : tlU M V key = V + 1 := by
  unfold tlU; rw [h]
theorem tlU_some {M : gS} {V i : Nat} {key : Int64} (h : sEnt M key V = some i) : tlU M V key = V := by
  unfold tlU; rw [h]
theorem tlW_J (M : gS) (q i f fk : Nat) (fb : Bool) : (tlW M q i f fk fb).2 = M.2 := rfl
theorem tlW_I (M : gS) (q i f fk : Nat) (fb : Bool) (k x : Nat) (h1 : k ≠ 172) (h2 : k ≠ 175) : (tlW M q i f fk fb).1 k x = M.1 k x := by
  unfold tlW
  rw [sI_1, if_neg (by omega), sI_1, if_neg (by omega), sI_1, if_neg (by omega)]
theorem tlW_172 (M : gS) (q i f fk : Nat) (fb : Bool) (x : Nat) (h1 : x ≠ 12 * q + 5) (h2 : x ≠ 12 * q + 6) : (tlW M q i f fk fb).1 172 x = M.1 172 x := by
  unfold tlW
  rw [sI_1, if_neg (by omega), sI_1, if_neg (by omega), sI_1, if_neg (by omega)]
theorem tlW_5 (M : gS) (q i f fk : Nat) (fb : Bool) : (tlW M q i f fk fb).1 172 (12 * q + 5) = iN (tlK (4 * f) fk fb) := by
  unfold tlW
  rw [sI_1, if_neg (by omega), sI_1, if_neg (by omega), sI_1, if_pos ⟨rfl, rfl⟩]
theorem tlW_6 (M : gS) (q i f fk : Nat) (fb : Bool) : (tlW M q i f fk fb).1 172 (12 * q + 6) = iN (if tlK (4 * f) fk fb < 2 then 0 else 1) := by
  unfold tlW
  rw [sI_1, if_neg (by omega), sI_1, if_pos ⟨rfl, rfl⟩]
theorem tlW_175 (M : gS) (q i f fk : Nat) (fb : Bool) (x : Nat) : (tlW M q i f fk fb).1 175 x = if x = i then iN (tlN f fk fb) else M.1 175 x := by
  unfold tlW
  rw [sI_1]
  by_cases c : x = i
  · rw [if_pos ⟨rfl, c⟩, if_pos c]
  · rw [if_neg (fun h => c h.2), if_neg c, sI_1, if_neg (by omega), sI_1, if_neg (by omega)]
theorem tlB_I (M : gS) (V : Nat) (key : Int64) (k x : Nat) (h1 : k ≠ 175) (h2 : ¬ (k = 161 ∧ x = 4)) : (tlB M V key).1 k x = M.1 k x := by
  cases h : sEnt M key V with
  | none => rw [tlB_none h, sI_1, if_neg (by omega), sI_1, if_neg (by omega), sJ_1]
  | some i => rw [tlB_some h]
theorem tlB_J (M : gS) (V : Nat) (key : Int64) (k x : Nat) (h1 : k ≠ 174 ∨ x < V) : (tlB M V key).2.1 k x = M.2.1 k x := by
  cases h : sEnt M key V with
  | none => rw [tlB_none h, sI_2, sI_2, sJ_2, if_neg (by omega)]
  | some i => rw [tlB_some h]
theorem tlB_4 (M : gS) (V : Nat) (key : Int64) (hV : M.1 161 4 = iN V) : (tlB M V key).1 161 4 = iN (tlU M V key) := by
  cases h : sEnt M key V with
  | none => rw [tlB_none h, tlU_none h, sI_1, if_pos ⟨rfl, rfl⟩]
  | some i => rw [tlB_some h, tlU_some h]; exact hV
theorem tlB_175 (M : gS) (V : Nat) (key : Int64) (x : Nat) (h : x < V) : (tlB M V key).1 175 x = M.1 175 x := by
  cases h1 : sEnt M key V with
  | none => rw [tlB_none h1, sI_1, if_neg (by omega), sI_1, if_neg (by omega), sJ_1]
  | some i => rw [tlB_some h1]
theorem tlE_lt {M : gS} {V : Nat} {key : Int64} : tlE M V key < tlU M V key ∧ (tlB M V key).2.1 174 (tlE M V key) = key := by
  cases h : sEnt M key V with
  | none =>
    rw [tlE_none h, tlU_none h, tlB_none h]
    exact ⟨by omega, by rw [sI_2, sI_2, sJ_2, if_pos ⟨rfl, rfl⟩]⟩
  | some i =>
    rw [tlE_some h, tlU_some h, tlB_some h]
    exact sEnt_lt h
theorem tlU_le {M : gS} {V : Nat} {key : Int64} : V ≤ tlU M V key ∧ tlU M V key ≤ V + 1 := by
  cases h : sEnt M key V with
  | none => rw [tlU_none h]; omega
  | some i => rw [tlU_some h]; omega
theorem tl_ev {M : gS} {V q f fk : Nat} {fb : Bool} {key : Int64} (hf : f ≤ 4) (key' : Int64) : ev (tlM M V q f fk fb key) (tlU M V key) key' = if key' = key then tlN f fk fb else ev M V key' := by
  have hlt : tlN f fk fb < 400 := (EV.tl hf).lt
  have hvn : ∀ x, vN (tlM M V q f fk fb key) 175 x = if x = tlE M V key then tlN f fk fb else ((tlB M V key).1 175 x).toNatClampNeg := fun x => by
    unfold vN tlM
    rw [tlW_175]
    by_cases c : x = tlE M V key
    · rw [if_pos c, if_pos c, iN_cl (by omega)]
    · rw [if_neg c, if_neg c]
  cases h : sEnt M key V with
  | none =>
    have hs : sEnt (tlM M V q f fk fb key) key' (tlU M V key) = if key = key' then some V else sEnt M key' V := by
      rw [tlU_none h]
      have e1 : (tlM M V q f fk fb key).2.1 174 V = key := by
        unfold tlM
        rw [tlW_J, tlB_none h, sI_2, sI_2, sJ_2, if_pos ⟨rfl, rfl⟩]
      have e2 : sEnt (tlM M V q f fk fb key) key' V = sEnt M key' V := sEnt_pre V (fun j hj => by
        unfold tlM
        rw [tlW_J, tlB_J _ _ _ _ _ (Or.inr hj)])
      show (if (tlM M V q f fk fb key).2.1 174 V = key' then some V else sEnt (tlM M V q f fk fb key) key' V) = _
      rw [e1, e2]
    by_cases c : key' = key
    · subst c
      rw [if_pos rfl] at hs
      rw [if_pos rfl, ev_some hs, hvn, if_pos (tlE_none h).symm]
    · rw [if_neg (fun e => c e.symm)] at hs
      rw [if_neg c]
      cases h2 : sEnt M key' V with
      | none => rw [ev_none (hs.trans h2), ev_none h2]
      | some i =>
        have hi := (sEnt_lt h2).1
        rw [ev_some (hs.trans h2), ev_some h2, hvn, if_neg (by rw [tlE_none h]; omega), tlB_175 _ _ _ _ hi]; rfl
  | some i0 =>
    have hs : sEnt (tlM M V q f fk fb key) key' (tlU M V key) = sEnt M key' V := by
      rw [tlU_some h]
      exact sEnt_pre V (fun j hj => by
        unfold tlM
        rw [tlW_J, tlB_J _ _ _ _ _ (Or.inr hj)])
    by_cases c : key' = key
    · subst c
      rw [if_pos rfl, ev_some (hs.trans h), hvn, if_pos (tlE_some h).symm]
    · rw [if_neg c]
      cases h2 : sEnt M key' V with
      | none => rw [ev_none (hs.trans h2), ev_none h2]
      | some i =>
        have hi := sEnt_lt h2
        have hne : i ≠ i0 := fun e => c (by
          have := (sEnt_lt h).2
          rw [← e, hi.2] at this; exact this)
        rw [ev_some (hs.trans h2), ev_some h2, hvn, if_neg (by rw [tlE_some h]; exact hne), tlB_175 _ _ _ _ hi.1]; rfl
/-! how many runs of a test the entries hold -/
def kOf (M : gS) (i : Nat) : Int64 := M.2.1 174 i >>> ((50 : Int32).toInt64 &&& 63)
def rnO (v : Nat) : Nat := v / 4 - v / 4 / 16 * 16
def sumR (M : gS) (q : Nat) : Nat → Nat
  | 0 => 0
  | i + 1 => sumR M q i + (if kOf M i = jN q then rnO (vN M 175 i) else 0)
theorem sumR_s (M : gS) (q i : Nat) : sumR M q (i + 1) = sumR M q i + (if kOf M i = jN q then rnO (vN M 175 i) else 0) := rfl
theorem sumR_congr {M M' : gS} {q : Nat} : ∀ V, (∀ i, i < V → M'.2.1 174 i = M.2.1 174 i ∧ M'.1 175 i = M.1 175 i) → sumR M' q V = sumR M q V
  | 0, _ => rfl
  | V + 1, h => by
    unfold sumR
    rw [sumR_congr V (fun i hi => h i (by omega))]
    unfold kOf vN
    rw [(h V (by omega)).1, (h V (by omega)).2]
theorem sumR_one {M M' : gS} {q i0 d : Nat} : ∀ V, i0 < V → (∀ i, i < V → M'.2.1 174 i = M.2.1 174 i) → (∀ i, i < V → i ≠ i0 → M'.1 175 i = M.1 175 i) → rnO (vN M' 175 i0) = rnO (vN M 175 i0) + d → sumR M' q V = sumR M q V + (if kOf M i0 = jN q then d else 0)
  | 0, h, _, _, _ => absurd h (Nat.not_lt_zero _)
  | V + 1, h, h1, h2, h3 => by
    unfold sumR
    have ek : kOf M' V = kOf M V := by unfold kOf; rw [h1 V (by omega)]
    by_cases c : i0 = V
    · subst c
      rw [sumR_congr i0 (fun i hi => ⟨h1 i (by omega), h2 i (by omega) (by omega)⟩), ek, h3]
      by_cases c2 : kOf M i0 = jN q
      · rw [if_pos c2, if_pos c2, if_pos c2]; omega
      · rw [if_neg c2, if_neg c2, if_neg c2]
    · have := sumR_one (M := M) (M' := M') (q := q) (d := d) V (by omega) (fun i hi => h1 i (by omega)) (fun i hi hn => h2 i (by omega) hn) h3
      have ev : vN M' 175 V = vN M 175 V := by unfold vN; rw [h2 V (by omega) (fun e => c e.symm)]
      rw [this, ek, ev]; omega
/-- a law's key tells its test -/
theorem kOf_gKey {M : gS} {q : Nat} {t : Int64} (hq : q < 8) : gKey M q t >>> ((50 : Int32).toInt64 &&& 63) = jN q := by
  apply tj_ext
  intro j hj
  have hs : ((50 : Int32).toInt64 &&& 63).toBitVec.smod 64 = BitVec.ofNat 64 50 := by decide
  have e : tj (gKey M q t >>> ((50 : Int32).toInt64 &&& 63)) j = if 50 + j < 64 then tj (gKey M q t) (50 + j) else tj (gKey M q t) 63 := by
    unfold tj
    rw [Int64.toBitVec_shiftRight, hs]
    show ((gKey M q t).toBitVec.sshiftRight (BitVec.ofNat 64 50).toNat).getLsbD j = _
    rw [BitVec.toNat_ofNat, Nat.mod_eq_of_lt (show 50 < 2 ^ 64 by omega), BitVec.getLsbD_sshiftRight, decide_eq_false (show ¬ 64 ≤ j by omega)]
    by_cases c : 50 + j < 64
    · rw [if_pos c, if_pos c]; rfl
    · rw [if_neg c, if_neg c, BitVec.msb_eq_getLsbD_last]; rfl
  have hg : ∀ i, i < 14 → tj (gKey M q t) (50 + i) = q.testBit i := fun i hi => by
    rw [tj_gKey, low_mask t _ (50 + i) (by omega), decide_eq_true (show 50 + i < 64 by omega), decide_eq_false (show ¬ 50 + i < 50 by omega), show 50 + i - 50 = i by omega, decide_eq_true (show i < 64 by omega)]; simp
  have hz : ∀ i, 3 ≤ i → q.testBit i = false := fun i hi => Nat.testBit_lt_two_pow (Nat.lt_of_lt_of_le (show q < 2 ^ 3 by omega) (Nat.pow_le_pow_right (by decide) hi))
  rw [e, tj_jN, decide_eq_true hj]
  by_cases c : 50 + j < 64
  · rw [if_pos c, hg j (by omega)]; simp
  · rw [if_neg c, show (63 : Nat) = 50 + 13 from rfl, hg 13 (by omega), hz 13 (by omega), hz j (by omega)]; rfl
