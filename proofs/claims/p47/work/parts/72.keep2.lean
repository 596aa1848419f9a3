/-! growing and keeping, whole -/
theorem Tab.zero {K : Nat → Int64} {V : Nat → Int32} {len : Nat} (hK : ∀ p, K p = 0) (hV : ∀ p, V p = 0) : Tab K V len (fun _ => 0) :=
  ⟨fun p q _ _ _ h => absurd (hK p) h, fun p _ h => absurd (hK p) h, fun p _ _ => hV p, fun p _ h => absurd (hK p) h, fun _ _ _ => rfl⟩
theorem sCnt_none {p : Nat → Bool} : ∀ n, (∀ j, p j = false) → sCnt p n = 0
  | 0, _ => rfl
  | n + 1, h => by
    unfold sCnt
    rw [sCnt_none n h, h n]; rfl
theorem X_grow {N : Nat} {σ : gS} {len U : Nat} {f : Int64 → Int32} (hN : 5000 ≤ N) (h : TabS σ len U f) (h2 : 2 * len ≤ 2048) :
    ∃ σ' : gS, fX9_grow N σ = some σ' ∧ (∀ k, k ≠ 108 → k ≠ 183 → σ'.1 k = σ.1 k) ∧ (∀ k, k ≠ 107 → k ≠ 182 → σ'.2.1 k = σ.2.1 k) ∧ TabS σ' (2 * len) U f := by
  have h0 := id h
  obtain ⟨l1, l2, l3, u1, u2, hT2⟩ := h
  have hlb : len ≤ 2048 ∧ 256 ≤ len := by unfold pw at l3; omega
  have hl0 : σ.2.2 = len := l1
  have hg2 : gle σ.2.2 182 = 2 * len := by rw [hl0]; rfl
  have hg3 : gle σ.2.2 183 = 2 * len := by rw [hl0]; rfl
  have z0 : ∀ p, (zI (zJ σ 182) 183).2.1 182 p = 0 := fun p => rfl
  have z1 : ∀ p, (zI (zJ σ 182) 183).1 183 p = 0 := fun p => rfl
  obtain ⟨s, w1, w2, w3, w4, w5, w6⟩ := X_grow37 hN h0 h2 hl0 len 0 (zI (zJ σ 182) 183) N (by omega) (by omega) rfl (fun k hk => by
      funext j
      show (if k = 183 then 0 else σ.1 k j) = _
      rw [if_neg hk]) (fun k hk => by
      funext j
      show (if k = 182 then 0 else σ.2.1 k j) = _
      rw [if_neg hk]) ((Tab.zero z0 z1).congr (fun k _ => by unfold fjT; rw [if_neg (fun h => Bool.false_ne_true h.2)])) (sCnt_none _ (fun j => by rw [z0 j]; simp)) (fun q _ h => absurd (z0 q) h)
  refine ⟨gGrown s, ?_, fun k hk hk2 => ?_, fun k hk hk2 => ?_, ?_⟩
  · have c1 : ¬ ((16777216 : Int32) ≤ Int32.ofNat (gle σ.2.2 107)) := by
      rw [l1, show (16777216 : Int32) = iN 16777216 from rfl, iN_of, iN_le (by omega) (by omega)]; omega
    have c2 : ¬ (iN (2 * len) < (0 : Int32) ∨ ¬ (iN (2 * len)).toNatClampNeg = gle σ.2.2 182 ∨ 2048 < gle σ.2.2 182) := by
      rw [i_0, iN_lt (by omega) (by omega), iN_cl (by omega), hg2]; omega
    have c3 : ¬ (iN (2 * len) < (0 : Int32) ∨ ¬ (iN (2 * len)).toNatClampNeg = gle (zJ σ 182).2.2 183 ∨ 2048 < gle (zJ σ 182).2.2 183) := by
      rw [show (zJ σ 182).2.2 = σ.2.2 from rfl, i_0, iN_lt (by omega) (by omega), iN_cl (by omega), hg3]; omega
    unfold fX9_grow
    rw [if_neg c1, l1, iN_of, i_2, iN_mul]
    unfold fX9_grow_25
    rw [if_neg c2, if_neg c3, i_0]
    exact w1
  · funext j
    show (if k = 108 then s.1 183 j else s.1 k j) = _
    rw [if_neg hk, w3 k hk2]
  · funext j
    show (if k = 107 then s.2.1 182 j else s.2.1 k j) = _
    rw [if_neg hk, w4 k hk2]
  · have e1 : (gGrown s).2.1 107 = s.2.1 182 := by
      funext j
      show (if (107 : Nat) = 107 then s.2.1 182 j else s.2.1 107 j) = _
      rw [if_pos rfl]
    have e2 : (gGrown s).1 108 = s.1 183 := by
      funext j
      show (if (108 : Nat) = 108 then s.1 183 j else s.1 108 j) = _
      rw [if_pos rfl]
    have e3 : (gGrown s).1 106 2 = σ.1 106 2 := by
      show (if (106 : Nat) = 108 then s.1 183 2 else s.1 106 2) = _
      rw [if_neg (by decide), w3 106 (by decide)]
    have e4 : (gGrown s).2.2 = 2 * len := by
      show 2 * s.2.2 = _
      rw [w2, hl0]
    refine ⟨e4, e4, pw_2 l3 h2, e3.trans u1, by rw [e1, w6]; exact u2, ?_⟩
    rw [e1, e2]
    refine w5.congr (fun k hk => ?_)
    unfold fjT
    by_cases c : sAny (fun p => decide (σ.2.1 107 p = k)) len = true
    · rw [if_pos ⟨hk, c⟩]
    · rw [if_neg (fun h => c h.2)]
      refine (hT2.2.2.2.2 k hk (fun p hp e => c ?_)).symm
      exact sAny_iff.mpr ⟨p, hp, decide_eq_true e⟩
theorem X_keep {N : Nat} {σ : gS} {len U : Nat} {f : Int64 → Int32} {key : Int64} {v : Int32} (hN : 5000 ≤ N) (h : TabS σ len U f) (hU : 2 * U ≤ len) (hU2 : U < 1024) (hk : key ≠ 0) :
    ∃ (σ' : gS) (len' U' : Nat), fX9_keep N σ key v = some σ' ∧ (∀ k, ¬ (106 ≤ k ∧ k < 109) → k ≠ 183 → σ'.1 k = σ.1 k) ∧ (∀ k, k ≠ 107 → k ≠ 182 → σ'.2.1 k = σ.2.1 k) ∧ TabS σ' len' U' (fun k => if k = key then v else f k) ∧ 2 * U' ≤ len' ∧ U' ≤ U + 1 := by
  have h0 := id h
  obtain ⟨l1, l2, l3, u1, u2, hT2⟩ := h
  have hlb : len ≤ 2048 ∧ 256 ≤ len := by unfold pw at l3; omega
  by_cases c : U < len / 2
  · obtain ⟨σ', U', w1, w2, w3, w4, w5, w6, w7⟩ := X_keep18 (v := v) hN h0 (by omega) hk
    refine ⟨σ', len, U', ?_, fun k h1 _ => w3 k h1, fun k h1 _ => w4 k h1, w5, by omega, w7⟩
    unfold fX9_keep
    rw [if_pos (by rw [u1, l1, iN_of, i_2, iN_div (by omega) (by omega), iN_lt (by omega) (by omega)]; exact c)]
    exact w1
  · have h2 : 2 * len ≤ 2048 := by unfold pw at l3; omega
    obtain ⟨σ1, g1, g2, g3, g4⟩ := X_grow hN h0 h2
    obtain ⟨σ', U', w1, w2, w3, w4, w5, w6, w7⟩ := X_keep18 (v := v) hN g4 (by omega) hk
    refine ⟨σ', 2 * len, U', ?_, fun k h1 h3 => (w3 k h1).trans (g2 k (by omega) h3), fun k h1 h3 => (w4 k h1).trans (g3 k h1 h3), w5, by omega, w7⟩
    unfold fX9_keep
    rw [if_neg (by rw [u1, l1, iN_of, i_2, iN_div (by omega) (by omega), iN_lt (by omega) (by omega)]; exact c), g1, Option.bind_some]
    exact w1
