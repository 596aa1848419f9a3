/-! a test's run fails: the class and the law alike -/
def RCr (σ M : gS) (q r : Nat) : Prop := M.1 172 (12 * q + 4) = iN r ∧ r ≤ 5 ∧ σ.1 (76 + 3 * q + 1) 1 = iN (4 * r) ∧ ∀ i, i < r → M.1 172 (12 * q + 7 + i) = iN (vN M 172 (12 * q + 7 + i)) ∧ vN M 172 (12 * q + 7 + i) < 65536 ∧ vN M 172 (12 * q + 7 + i) - vN M 172 (12 * q + 7 + i) / 16 * 16 < 12 ∧ vN M 172 (12 * q + 7 + i) / 256 - vN M 172 (12 * q + 7 + i) / 256 / 16 * 16 < 12 ∧ σ.2.1 (76 + 3 * q + 1 + 1) (4 * i) = jN (vN M 172 (12 * q + 7 + i) - vN M 172 (12 * q + 7 + i) / 16 * 16) ∧ σ.2.1 (76 + 3 * q + 1 + 1) (4 * i + 1) = jN (vN M 172 (12 * q + 7 + i) / 16 - vN M 172 (12 * q + 7 + i) / 16 / 16 * 16) ∧ σ.2.1 (76 + 3 * q + 1 + 1) (4 * i + 2) = jN (vN M 172 (12 * q + 7 + i) / 256 - vN M 172 (12 * q + 7 + i) / 256 / 16 * 16) ∧ σ.2.1 (76 + 3 * q + 1 + 1) (4 * i + 3) = jN (vN M 172 (12 * q + 7 + i) / 4096)
def brB (M : gS) (q : Nat) (t : Int64) (i : Nat) : Bool := decide (gAt t (vN M 172 (12 * q + 7 + i) - vN M 172 (12 * q + 7 + i) / 16 * 16) = iN (vN M 172 (12 * q + 7 + i) / 16 - vN M 172 (12 * q + 7 + i) / 16 / 16 * 16)) && decide (gAt t (vN M 172 (12 * q + 7 + i) / 256 - vN M 172 (12 * q + 7 + i) / 256 / 16 * 16) = iN (vN M 172 (12 * q + 7 + i) / 4096))
theorem X_breaksARule {N : Nat} {σ M : gS} {q r : Nat} {t : Int64} (hN : 100 ≤ N) (hq : q < 4) (h : RCr σ M q r) : fX3_breaksARule N σ (76 + 3 * q) t = some (iB (sAny (brB M q t) r)) := by
  obtain ⟨h1, h2, h3, h4⟩ := h
  have key : ∀ (m i N' : Nat), i + m = r → m < N' → sAny (brB M q t) i = false → lp (fX3_breaksARule_2 N σ (76 + 3 * q) t) N' (iN (4 * i)) = some (iB (sAny (brB M q t) r)) := by
    intro m
    induction m with
    | zero =>
      intro i N' hi hN' hno
      obtain ⟨N', rfl⟩ : ∃ k, N' = k + 1 := ⟨N' - 1, by omega⟩
      have e : i = r := by omega
      subst e
      rw [lp_1, hno]
      unfold fX3_breaksARule_2
      rw [h3, i_4, iN_add, if_pos (by rw [iN_lt (by omega) (by omega)]; omega)]; rfl
    | succ m ih =>
      intro i N' hi hN' hno
      obtain ⟨N', rfl⟩ : ∃ k, N' = k + 1 := ⟨N' - 1, by omega⟩
      obtain ⟨a1, a2, a3, a4, a5, a6, a7, a8⟩ := h4 i (by omega)
      have w : ∀ j, j < 24 → fX8_whole N σ (76 + 3 * q + 1) (iN j) = some (σ.2.1 (76 + 3 * q + 1 + 1) j).toInt32 := fun j hj => by
        have hl : gle σ.2.2 (76 + 3 * q + 1 + 1) = 24 := by
          have : q = 0 ∨ q = 1 ∨ q = 2 ∨ q = 3 := by omega
          rcases this with rfl | rfl | rfl | rfl <;> rfl
        exact X_whole hl hj (by decide)
      have hno2 : brB M q t i = false → sAny (brB M q t) (i + 1) = false := fun h => by
        rw [sAny_s, hno, h]; rfl
      have ih2 := fun h => ih (i + 1) N' (by omega) (by omega) (hno2 h)
      have w0 := w (4 * i) (by omega)
      have w1 := w (4 * i + 1) (by omega)
      have w2 := w (4 * i + 2) (by omega)
      have w3 := w (4 * i + 3) (by omega)
      rw [a5, jN_32 (by omega)] at w0
      rw [a6, jN_32 (by omega)] at w1
      rw [a7, jN_32 (by omega)] at w2
      rw [a8, jN_32 (by omega)] at w3
      have hhit : brB M q t i = true → sAny (brB M q t) r = true := fun h => sAny_iff.mpr ⟨i, by omega, h⟩
      have eb : brB M q t i = (decide (gAt t (vN M 172 (12 * q + 7 + i) - vN M 172 (12 * q + 7 + i) / 16 * 16) = iN (vN M 172 (12 * q + 7 + i) / 16 - vN M 172 (12 * q + 7 + i) / 16 / 16 * 16)) && decide (gAt t (vN M 172 (12 * q + 7 + i) / 256 - vN M 172 (12 * q + 7 + i) / 256 / 16 * 16) = iN (vN M 172 (12 * q + 7 + i) / 4096))) := rfl
      rw [eb] at hhit ih2
      rw [lp_1]
      generalize lp (fX3_breaksARule_2 N σ (76 + 3 * q) t) N' = R at ih2
      unfold fX3_breaksARule_2 fX3_breaksARule_69
      rw [h3, i_4, iN_add, if_neg (by rw [iN_lt (by omega) (by omega)]; omega), w0, Option.bind_some, X_cont a3, Option.bind_some, i_1, iN_add, w1, Option.bind_some, i_2, iN_add, w2, Option.bind_some, X_cont a4, Option.bind_some, i_3, iN_add, w3, Option.bind_some]
      rw [show 4 * (i + 1) = 4 * i + 4 by omega] at ih2
      by_cases c1 : gAt t (vN M 172 (12 * q + 7 + i) - vN M 172 (12 * q + 7 + i) / 16 * 16) = iN (vN M 172 (12 * q + 7 + i) / 16 - vN M 172 (12 * q + 7 + i) / 16 / 16 * 16)
      · rw [if_pos c1]
        by_cases c2 : gAt t (vN M 172 (12 * q + 7 + i) / 256 - vN M 172 (12 * q + 7 + i) / 256 / 16 * 16) = iN (vN M 172 (12 * q + 7 + i) / 4096)
        · rw [if_pos c2, hhit (by rw [decide_eq_true c1, decide_eq_true c2]; rfl)]; rfl
        · rw [if_neg c2]
          exact ih2 (by rw [decide_eq_false c2]; simp)
      · rw [if_neg c1]
        exact ih2 (by rw [decide_eq_false c1]; rfl)
  unfold fX3_breaksARule
  exact key r 0 N (by omega) (by omega) rfl
