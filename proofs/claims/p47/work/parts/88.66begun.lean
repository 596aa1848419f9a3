/-! bits of an edit's files; a change is begun -/
def b6 (x : Int32) : Int32 := (fJ6_bitCount_0f7a4 0 gStart x).getD 0
theorem J6_eq (N : Nat) (σ : gS) (x : Int32) : fJ6_bitCount_0f7a4 N σ x = some (b6 x) := rfl
theorem b6_16 : ∀ v, v < 16 → b6 (iN v) = iN (pc8 v) := by decide +kernel
/-- what beginning leaves -/
def bgS (s : gS) (a : Int32) (p : Int32) : gS := sI (sJ (sJ (sI (sI (sI s 4 1 a) 4 2 p) 4 5 0) 4 6 0) 4 8 0) 1 3 1
theorem X_begin {N : Nat} {s : gS} {a n : Nat} {p : Int32} (ha : a < 8) (h13 : s.1 1 3 = iN 0) (h14 : s.1 1 4 = iN n) (hn : n ≤ 20) (hp : p = iM ∨ ∃ q, q < n ∧ p = iN q ∧ (s.1 (5 + q) 3 = iN 0 ∨ s.1 (5 + q) 3 = iN 1)) : fX11_begin N s (iN a) p = some (0, bgS s (iN a) p) := by
  have e36 : fX11_begin_36 N s (iN a) p = some (0, bgS s (iN a) p) := by
    unfold fX11_begin_36
    rw [show fX2_beginOne N s (iN a) p = some (bgS s (iN a) p) from rfl, Option.bind_some, h13]
    rfl
  unfold fX11_begin
  rw [show fX11_needPlace N s (iN a) (8 : Int32) = some () from X_place (n := 8) ha (by omega), Option.bind_some]
  rcases hp with e | ⟨q, hq, e, h3⟩
  · rw [e, if_pos (show iM = (-1 : Int32) from rfl)]
    rw [e] at e36; exact e36
  · rw [e] at e36 ⊢
    rw [if_neg (show ¬ iN q = (-1 : Int32) from iM_ne (by omega)), h14, X_place hq (by omega), Option.bind_some, X2_at (by omega), Option.bind_some]
    have hc : fX1_isToCome N s (5 + q) = some 1 := by
      unfold fX1_isToCome
      rcases h3 with h3 | h3
      · rw [h3, if_pos (show iN 0 = (0 : Int32) from rfl)]; rfl
      · rw [h3, if_neg (show ¬ iN 1 = (0 : Int32) by decide), if_pos (show iN 1 = (1 : Int32) from rfl)]; rfl
    rw [hc, Option.bind_some, show fX11_needState N s 1 = some () from rfl, Option.bind_some]
    exact e36
