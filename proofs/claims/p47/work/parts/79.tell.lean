/-! the class is told of a run -/
theorem shr2 {e : Nat} (h : e < 256) : iN e >>> ((2 : Int32) &&& 31) = iN (e / 4) := (show ∀ e : Nat, e < 256 → Int32.ofNat e >>> ((2 : Int32) &&& 31) = Int32.ofNat (e / 4) by decide +kernel) e h
theorem shl2 {a v : Nat} (h : a < 64) (hv : v < 4) : (iN a <<< ((2 : Int32) &&& 31)) ||| iN v = iN (4 * a + v) := (show ∀ a : Nat, a < 64 → ∀ v : Nat, v < 4 → (Int32.ofNat a <<< ((2 : Int32) &&& 31)) ||| Int32.ofNat v = Int32.ofNat (4 * a + v) by decide +kernel) a h v hv
theorem X_allowed {N : Nat} {σ : gS} {r fk : Nat} (h : σ.1 r 9 = iN fk) (hf : fk < 100000) : fX3_allowed N σ r = some (iN (if fk < 2 then 2 else 5)) := by
  have e00 : ¬ ¬ ((0 : Int32) = 0 ∨ (0 : Int32) = 1) := by decide
  have e11 : ¬ ¬ ((1 : Int32) = 0 ∨ (1 : Int32) = 1) := by decide
  unfold fX3_allowed fX3_isInQuarantine fX3_isInQuarantine_13 fX3_allowed_12
  by_cases c : fk < 2
  · rw [h, if_pos (show iN fk < (2 : Int32) by rw [i_2, iN_lt (by omega) (by omega)]; exact c), if_neg e00, Option.bind_some, if_pos rfl, if_pos c]; rfl
  · rw [h, if_neg (show ¬ iN fk < (2 : Int32) by rw [i_2, iN_lt (by omega) (by omega)]; exact c), if_neg e11, Option.bind_some, if_neg (by decide), if_neg c]; rfl
theorem TabS.sm {σ σ' : gS} {len U : Nat} {f : Int64 → Int32} (h : TabS σ len U f) (h1 : σ'.2.2 = σ.2.2) (h2 : σ'.1 106 = σ.1 106) (h3 : σ'.2.1 107 = σ.2.1 107) (h4 : σ'.1 108 = σ.1 108) : TabS σ' len U f := by
  obtain ⟨l1, l2, l3, u1, u2, hT⟩ := h
  exact ⟨by rw [h1]; exact l1, by rw [h1]; exact l2, l3, by rw [h2]; exact u1, by rw [h3]; exact u2, by rw [h3, h4]; exact hT⟩
/-- what telling keeps, but for the check's told and flakes -/
def SmT (σ σ' : gS) (r : Nat) : Prop := (∀ k, ¬ (106 ≤ k ∧ k < 109) → k ≠ 183 → k ≠ r → σ'.1 k = σ.1 k) ∧ (∀ i, i ≠ 8 → i ≠ 9 → σ'.1 r i = σ.1 r i) ∧ ∀ k, k ≠ 107 → k ≠ 182 → σ'.2.1 k = σ.2.1 k
theorem X_tell67 {N : Nat} {σ : gS} {r len U a v tl fk : Nat} {f : Int64 → Int32} {key : Int64} (hN : 5000 ≤ N) (hr : r < 106) (h : TabS σ len U f) (hU : 2 * U ≤ len) (hU2 : U < 1024) (hk : key ≠ 0) (ha : a < 64) (hv : v < 4) (h8 : σ.1 r 8 = iN tl) (h9 : σ.1 r 9 = iN fk) :
    ∃ (σ' : gS) (len' U' : Nat), fX9_tell_67 N σ r key (iN a) (iN v) = some σ' ∧ SmT σ σ' r ∧ σ'.1 r 8 = iN (tl + 1) ∧ σ'.1 r 9 = iN fk ∧ TabS σ' len' U' (fun k => if k = key then iN (4 * a + v) else f k) ∧ 2 * U' ≤ len' ∧ U' ≤ U + 1 := by
  have hT : TabS (sI σ r 8 (iN (tl + 1))) len U f := h.sm rfl (by funext j; rw [sI_1, if_neg (by omega)]) rfl (by funext j; rw [sI_1, if_neg (by omega)])
  obtain ⟨σ', len', U', w1, w2, w3, w4, w5, w6⟩ := X_keep (v := iN (4 * a + v)) hN hT hU hU2 hk
  have hrr : σ'.1 r = (sI σ r 8 (iN (tl + 1))).1 r := w2 r (by omega) (by omega)
  refine ⟨σ', len', U', ?_, ⟨fun k h1 h2 h3 => (w2 k h1 h2).trans ?_, fun i h1 h2 => ?_, fun k h1 h2 => w3 k h1 h2⟩, ?_, ?_, w4, w5, w6⟩
  · unfold fX9_tell_67
    rw [h8, i_1, iN_add, shl2 ha hv, w1]; rfl
  · funext j; rw [sI_1, if_neg (by omega)]
  · rw [hrr, sI_1, if_neg (by omega)]
  · rw [hrr, sI_1, if_pos ⟨rfl, rfl⟩]
  · rw [hrr, sI_1, if_neg (by omega)]; exact h9
