/-! the class is told of a run, whole -/
/-- of an entry's value and whether the run failed: what failed, the verdict, the flakes afterwards -/
def tlF (e : Nat) (fb : Bool) : Nat := if fb = true then e / 4 + 1 else e / 4
def tlV (e fk : Nat) (fb : Bool) : Nat := if fb = true then (if e / 4 + 1 < (if fk < 2 then 2 else 5) then 0 else 2) else 1
def tlK (e fk : Nat) (fb : Bool) : Nat := if fb = false ∧ 0 < e / 4 then fk + 1 else fk
theorem X_tell {N : Nat} {σ : gS} {r len U e tl fk : Nat} {t : Int64} {f : Int64 → Int32} {key : Int64} {fb : Bool} (hN : 5000 ≤ N) (hr : r < 106) (h : TabS σ len U f) (hU : 2 * U ≤ len) (hU2 : U < 1024) (hk : key ≠ 0) (hkey : fX9_keyOf N σ r t = some key) (hval : fX9_valueOf N σ key = some (iN e)) (he : e < 200) (hfail : fX3_fails N σ r t (iN (e / 4)) = some (iB fb)) (h8 : σ.1 r 8 = iN tl) (h9 : σ.1 r 9 = iN fk) (hfk : fk < 1000) :
    ∃ (σ' : gS) (len' U' : Nat), fX9_tell N σ r t = some σ' ∧ SmT σ σ' r ∧ σ'.1 r 8 = iN (tl + 1) ∧ σ'.1 r 9 = iN (tlK e fk fb) ∧ TabS σ' len' U' (fun k => if k = key then iN (4 * tlF e fb + tlV e fk fb) else f k) ∧ 2 * U' ≤ len' ∧ U' ≤ U + 1 := by
  have hal := X_allowed (N := N) h9 (by omega)
  have hsh := shr2 (show e < 256 by omega)
  have e0 : (iB false = (0 : Int32)) := rfl
  have e1 : ¬ (iB true = (0 : Int32)) := by decide
  cases fb with
  | true =>
    have eT : tlF e true = e / 4 + 1 := rfl
    have eK : tlK e fk true = fk := if_neg (fun h => by cases h.1)
    rw [eT, eK]
    by_cases c : e / 4 + 1 < (if fk < 2 then 2 else 5)
    · have eV : tlV e fk true = 0 := if_pos c
      rw [eV]
      obtain ⟨σ', len', U', w1, w2⟩ := X_tell67 (a := e / 4 + 1) (v := 0) hN hr h hU hU2 hk (by omega) (by omega) h8 h9
      refine ⟨σ', len', U', ?_, w2⟩
      unfold fX9_tell fX9_tell_47
      rw [hkey, Option.bind_some, hval, Option.bind_some, hsh, hfail, Option.bind_some, if_neg e1, hal, Option.bind_some, i_1, iN_add, if_pos (by rw [iN_lt (by omega) (by split <;> omega)]; exact c)]
      exact w1
    · have eV : tlV e fk true = 2 := if_neg c
      rw [eV]
      obtain ⟨σ', len', U', w1, w2⟩ := X_tell67 (a := e / 4 + 1) (v := 2) hN hr h hU hU2 hk (by omega) (by omega) h8 h9
      refine ⟨σ', len', U', ?_, w2⟩
      unfold fX9_tell fX9_tell_47
      rw [hkey, Option.bind_some, hval, Option.bind_some, hsh, hfail, Option.bind_some, if_neg e1, hal, Option.bind_some, i_1, iN_add, if_neg (by rw [iN_lt (by omega) (by split <;> omega)]; exact c)]
      exact w1
  | false =>
    have eT : tlF e false = e / 4 := rfl
    have eV : tlV e fk false = 1 := rfl
    rw [eT, eV]
    by_cases c : e / 4 = 0
    · have eK : tlK e fk false = fk := if_neg (fun h => by omega)
      rw [eK]
      obtain ⟨σ', len', U', w1, w2⟩ := X_tell67 (a := e / 4) (v := 1) hN hr h hU hU2 hk (by omega) (by omega) h8 h9
      refine ⟨σ', len', U', ?_, w2⟩
      unfold fX9_tell
      rw [hkey, Option.bind_some, hval, Option.bind_some, hsh, hfail, Option.bind_some, if_pos e0, if_pos (by rw [i_0, iN_le (by omega) (by omega)]; omega)]
      exact w1
    · have eK : tlK e fk false = fk + 1 := if_pos ⟨rfl, by omega⟩
      rw [eK]
      have hT : TabS (sI σ r 9 (iN (fk + 1))) len U f := h.sm rfl (by funext j; rw [sI_1, if_neg (by omega)]) rfl (by funext j; rw [sI_1, if_neg (by omega)])
      obtain ⟨σ', len', U', w1, w2, w3⟩ := X_tell67 (a := e / 4) (v := 1) (tl := tl) (fk := fk + 1) hN hr hT hU hU2 hk (by omega) (by omega) (by rw [sI_1, if_neg (by omega)]; exact h8) (by rw [sI_1, if_pos ⟨rfl, rfl⟩])
      refine ⟨σ', len', U', ?_, ⟨fun k h1 h2 h3 => (w2.1 k h1 h2 h3).trans ?_, fun i h1 h2 => (w2.2.1 i h1 h2).trans ?_, fun k h1 h2 => w2.2.2 k h1 h2⟩, w3⟩
      · unfold fX9_tell
        rw [hkey, Option.bind_some, hval, Option.bind_some, hsh, hfail, Option.bind_some, if_pos e0, if_neg (by rw [i_0, iN_le (by omega) (by omega)]; omega), h9, i_1, iN_add]
        exact w1
      · funext j; rw [sI_1, if_neg (by omega)]
      · rw [sI_1, if_neg (by omega)]
