/-! a verdict is kept -/
theorem sCnt_upd {P Q : Nat → Bool} {p : Nat} (hq : ∀ q, q ≠ p → Q q = P q) : ∀ n, sCnt Q n + (if p < n ∧ P p = true then 1 else 0) = sCnt P n + (if p < n ∧ Q p = true then 1 else 0)
  | 0 => by
    rw [if_neg (by omega), if_neg (by omega)]; rfl
  | n + 1 => by
    have ih := sCnt_upd (P := P) (Q := Q) hq n
    unfold sCnt
    by_cases e : p = n
    · subst e
      rw [if_neg (by omega), if_neg (by omega)] at ih
      simp only [Nat.lt_succ_self, true_and]
      omega
    · rw [hq n (fun h => e h.symm)]
      have e1 : (p < n + 1 ∧ P p = true) = (p < n ∧ P p = true) := propext ⟨fun h => ⟨by omega, h.2⟩, fun h => ⟨by omega, h.2⟩⟩
      have e2 : (p < n + 1 ∧ Q p = true) = (p < n ∧ Q p = true) := propext ⟨fun h => ⟨by omega, h.2⟩, fun h => ⟨by omega, h.2⟩⟩
      simp only [e1, e2]
      omega
theorem X_keep75 {N : Nat} {σ : gS} {len p : Nat} {key : Int64} {v : Int32} (l1 : gle σ.2.2 107 = len) (l2 : gle σ.2.2 108 = len) (hlen : len ≤ 2048) (hp : p < len) : fX9_keep_75 N σ key v (iN p) = some (sI (sJ σ 107 p key) 108 p v) := by
  have c1 : ¬ (iN p < (0 : Int32)) := by
    rw [i_0, iN_lt (by omega) (by omega)]; omega
  have c3 : ¬ (iN p < (0 : Int32) ∨ gle σ.2.2 107 ≤ (iN p).toNatClampNeg) := by
    rw [iN_cl (by omega), l1]; exact fun h => h.elim c1 (fun h => by omega)
  have c4 : ∀ w, ¬ (iN p < (0 : Int32) ∨ gle (sJ σ 107 w key).2.2 108 ≤ (iN p).toNatClampNeg) := fun w => by
    rw [sJ_3, iN_cl (by omega), l2]; exact fun h => h.elim c1 (fun h => by omega)
  unfold fX9_keep_75 fX9_keep_91
  rw [if_neg c3, if_neg (c4 _), iN_cl (by omega)]
/-- the table as it lies in the memory -/
def TabS (σ : gS) (len U : Nat) (f : Int64 → Int32) : Prop := gle σ.2.2 107 = len ∧ gle σ.2.2 108 = len ∧ pw len ∧ σ.1 106 2 = iN U ∧ sCnt (fun p => decide (σ.2.1 107 p ≠ 0)) len = U ∧ Tab (σ.2.1 107) (σ.1 108) len f
theorem X_keep18 {N : Nat} {σ : gS} {len U : Nat} {f : Int64 → Int32} {key : Int64} {v : Int32} (hN : 5000 ≤ N) (h : TabS σ len U f) (hU : U < len) (hk : key ≠ 0) :
    ∃ (σ' : gS) (U' : Nat), fX9_keep_18 N σ key v = some σ' ∧ σ'.2.2 = σ.2.2 ∧ (∀ k, ¬ (106 ≤ k ∧ k < 109) → σ'.1 k = σ.1 k) ∧ (∀ k, k ≠ 107 → σ'.2.1 k = σ.2.1 k) ∧ TabS σ' len U' (fun k => if k = key then v else f k) ∧ U ≤ U' ∧ U' ≤ U + 1 := by
  obtain ⟨l1, l2, l3, u1, u2, hT2⟩ := h
  have hlb : len ≤ 2048 ∧ 256 ≤ len := by unfold pw at l3; omega
  obtain ⟨i, i1, i2, i3, i4, i5⟩ := hT2.find hk (tab_open u2 hU)
  have hpl := X_placeFor hN l1 l3 i1 i2 i3
  have hlt : prb len key i < len := Nat.mod_lt _ (by omega)
  have hkeep := hT2.keep (v := v) hk i1 i2 i3 i5
  generalize prb len key i = p at hpl hlt i2 i5 hkeep
  have c1 : ¬ (iN p < (0 : Int32)) := by
    rw [i_0, iN_lt (by omega) (by omega)]; omega
  have c2 : ¬ (Int32.ofNat (gle σ.2.2 107) ≤ iN p) := by
    rw [l1, iN_of, iN_le (by omega) (by omega)]; omega
  have c2b : ¬ (Int32.ofNat (gle σ.2.2 108) ≤ iN p) := by
    rw [l2, iN_of, iN_le (by omega) (by omega)]; omega
  have c3 : ¬ (iN p < (0 : Int32) ∨ gle σ.2.2 107 ≤ (iN p).toNatClampNeg) := by
    rw [iN_cl (by omega), l1]; exact fun h => h.elim c1 (fun h => by omega)
  have hT' : ∀ s : gS, s.2.1 107 = σ.2.1 107 → s.1 108 = σ.1 108 → Tab ((sI (sJ s 107 p key) 108 p v).2.1 107) ((sI (sJ s 107 p key) 108 p v).1 108) len (fun k => if k = key then v else f k) := fun s h1 h2 => by
    have e1 : (sI (sJ s 107 p key) 108 p v).2.1 107 = fun q => if q = p then key else σ.2.1 107 q := by
      funext q
      rw [sI_2, sJ_2, ← h1]
      by_cases e : q = p <;> simp [e]
    have e2 : (sI (sJ s 107 p key) 108 p v).1 108 = fun q => if q = p then v else σ.1 108 q := by
      funext q
      rw [sI_1, sJ_1, ← h2]
      by_cases e : q = p <;> simp [e]
    rw [e1, e2]; exact hkeep
  have hcnt : ∀ s : gS, s.2.1 107 = σ.2.1 107 → sCnt (fun q => decide ((sI (sJ s 107 p key) 108 p v).2.1 107 q ≠ 0)) len + (if σ.2.1 107 p ≠ 0 then 1 else 0) = U + 1 := fun s h1 => by
    have := sCnt_upd (P := fun q => decide (σ.2.1 107 q ≠ 0)) (Q := fun q => decide ((sI (sJ s 107 p key) 108 p v).2.1 107 q ≠ 0)) (p := p) (fun q hq => by
      rw [sI_2, sJ_2, if_neg (fun h => hq h.2), h1]) len
    have e : (sI (sJ s 107 p key) 108 p v).2.1 107 p = key := by rw [sI_2, sJ_2, if_pos ⟨rfl, rfl⟩]
    rw [e, u2] at this
    simp only [hlt, true_and, decide_eq_true_eq, hk, ne_eq, not_false_eq_true, if_true] at this ⊢
    exact this
  have hb : fX9_keep_18 N σ key v = if σ.2.1 107 p = 0 then fX9_keep_75 N (sI σ 106 2 (iN (U + 1))) key v (iN p) else fX9_keep_75 N σ key v (iN p) := by
    unfold fX9_keep_18
    rw [hpl, Option.bind_some, if_neg c1, if_neg c2, if_neg c2b, if_neg c3, iN_cl (by omega), u1, i_1, iN_add]
    simp only [i_0, lgc0]
  by_cases c : σ.2.1 107 p = 0
  · rw [if_pos c, X_keep75 (σ := sI σ 106 2 (iN (U + 1))) l1 l2 hlb.1 hlt] at hb
    have h1 := hcnt (sI σ 106 2 (iN (U + 1))) rfl
    rw [if_neg (by rw [c]; simp)] at h1
    refine ⟨_, U + 1, hb, rfl, fun k hk => ?_, fun k hk => ?_, ⟨l1, l2, l3, ?_, h1, hT' _ rfl ?_⟩, by omega, by omega⟩
    · funext j
      rw [sI_1, if_neg (by omega), sJ_1, sI_1, if_neg (by omega)]
    · funext j
      rw [sI_2, sJ_2, if_neg (by omega)]; rfl
    · rw [sI_1, if_neg (by omega), sJ_1, sI_1, if_pos ⟨rfl, rfl⟩]
    · funext j
      rw [sI_1, if_neg (by omega)]
  · rw [if_neg c, X_keep75 l1 l2 hlb.1 hlt] at hb
    have h1 := hcnt σ rfl
    rw [if_pos c] at h1
    refine ⟨_, U, hb, rfl, fun k hk => ?_, fun k hk => ?_, ⟨l1, l2, l3, ?_, by omega, hT' _ rfl rfl⟩, by omega, by omega⟩
    · funext j
      rw [sI_1, if_neg (by omega), sJ_1]
    · funext j
      rw [sI_2, sJ_2, if_neg (by omega)]
    · rw [sI_1, if_neg (by omega), sJ_1]; exact u1
