/-! a machine takes a run: the law, whole -/
theorem w2_in {p : Nat → Nat → Bool} {T : Nat} {x : Nat × Nat} : ∀ (m b : Nat), w2 p T b m = some x → b ≤ x.1 ∧ x.1 < b + m ∧ x.2 < T ∧ p x.1 x.2 = true
  | 0, b, h => (nomatch h)
  | m + 1, b, h => by
    rw [w2_s] at h
    cases c : lo (p b) T with
    | some q =>
      rw [c] at h
      have e : (b, q) = x := by simpa using h
      subst e
      have := (lo_some T).mp c
      exact ⟨Nat.le_refl _, by dsimp only; omega, this.1, this.2.1⟩
    | none =>
      rw [c] at h
      have := w2_in m (b + 1) h
      exact ⟨by omega, by omega, this.2.2⟩
def orE {α : Type} (a b : Option α) : Option α := match a with
  | some x => some x
  | none => b
def foS (M : gS) (w : Nat → Option (Nat × Nat)) : Nat → Nat × Option (Nat × Nat)
  | 0 => (3, none)
  | o + 1 => match w o with
    | none => foS M w o
    | some x => match (foS M w o).2 with
      | none => (o, some x)
      | some _ => if vN M 178 o * vN M 178 (3 + (foS M w o).1) < vN M 178 (foS M w o).1 * vN M 178 (3 + o) then (o, some x) else foS M w o
theorem foS_n {M : gS} {w : Nat → Option (Nat × Nat)} {o : Nat} (h : w o = none) : foS M w (o + 1) = foS M w o := by
  show (match w o with
    | none => foS M w o
    | some x => match (foS M w o).2 with
      | none => (o, some x)
      | some _ => if vN M 178 o * vN M 178 (3 + (foS M w o).1) < vN M 178 (foS M w o).1 * vN M 178 (3 + o) then (o, some x) else foS M w o) = _
  rw [h]
theorem foS_0 {M : gS} {w : Nat → Option (Nat × Nat)} {o : Nat} {x : Nat × Nat} (h : w o = some x) (h2 : (foS M w o).2 = none) : foS M w (o + 1) = (o, some x) := by
  show (match w o with
    | none => foS M w o
    | some x => match (foS M w o).2 with
      | none => (o, some x)
      | some _ => if vN M 178 o * vN M 178 (3 + (foS M w o).1) < vN M 178 (foS M w o).1 * vN M 178 (3 + o) then (o, some x) else foS M w o) = _
  rw [h]
  dsimp only
  rw [h2]
theorem foS_1 {M : gS} {w : Nat → Option (Nat × Nat)} {o : Nat} {x y : Nat × Nat} (h : w o = some x) (h2 : (foS M w o).2 = some y) : foS M w (o + 1) = if vN M 178 o * vN M 178 (3 + (foS M w o).1) < vN M 178 (foS M w o).1 * vN M 178 (3 + o) then (o, some x) else foS M w o := by
  show (match w o with
    | none => foS M w o
    | some x => match (foS M w o).2 with
      | none => (o, some x)
      | some _ => if vN M 178 o * vN M 178 (3 + (foS M w o).1) < vN M 178 (foS M w o).1 * vN M 178 (3 + o) then (o, some x) else foS M w o) = _
  rw [h]
  dsimp only
  rw [h2]
theorem foS_in {M : gS} {w : Nat → Option (Nat × Nat)} {x : Nat × Nat} : ∀ o, (foS M w o).2 = some x → (foS M w o).1 < o ∧ w (foS M w o).1 = some x
  | 0, h => (nomatch h)
  | o + 1, h => by
    have ih := fun h => foS_in (M := M) (w := w) (x := x) o h
    cases e : w o with
    | none =>
      rw [foS_n e] at h ⊢
      have := ih h
      exact ⟨by omega, this.2⟩
    | some y =>
      cases e2 : (foS M w o).2 with
      | none =>
        rw [foS_0 e e2] at h ⊢
        have ex : y = x := by simpa using h
        rw [← ex]
        exact ⟨Nat.lt_succ_self o, e⟩
      | some z =>
        rw [foS_1 e e2] at h ⊢
        by_cases c : vN M 178 o * vN M 178 (3 + (foS M w o).1) < vN M 178 (foS M w o).1 * vN M 178 (3 + o)
        · rw [if_pos c] at h ⊢
          have ex : y = x := by simpa using h
          rw [← ex]
          exact ⟨Nat.lt_succ_self o, e⟩
        · rw [if_neg c] at h ⊢
          have := ih h
          exact ⟨by omega, this.2⟩
def wtO (M : gS) (T G V : Nat) (t : Int64) (bs : List (List Nat)) (o : Nat) : Option (Nat × Nat) := w2 (pW M T G V t bs o) T 1 (bs.length - 1)
def c1M (M : gS) (T G V : Nat) (t : Int64) (bs : List (List Nat)) : Option (Nat × Int64 × Nat) := match (foS M (wtO M T G V t bs) 3).2 with
  | some x => some (x.2, oB M t bs x.1, (foS M (wtO M T G V t bs) 3).1)
  | none => none
/-- facts that a machine's turn rests on -/
def TF (M : gS) (n T G V dp : Nat) : Prop := LF M n T G V ∧ M.1 161 6 = iN dp ∧ 1 ≤ dp ∧ (∀ j, j < 3 → M.1 176 (6 * j + 2) = iN 0 ∨ M.1 176 (6 * j + 2) = iN 1) ∧ UW M ∧ ∀ q, q < T → M.1 172 (12 * q + 1) = iN (vN M 172 (12 * q + 1)) ∧ 1 ≤ vN M 172 (12 * q + 1) ∧ vN M 172 (12 * q + 1) ≤ 3
theorem L_kq {N : Nat} {rec3 : (gS × Int32) → Option gS} {s M : gS} {n T G V dp j q tm : Nat} {t on : Int64} (hM : lawOf s = M) (hF : TF M n T G V dp) (hj : j < 3) (hq : q < T) (htm : tm ≤ 3) : fL_takes_521 N rec3 s t (iN j) on (iN tm) (iN q) = rec3 (tkR s j (some (q, on, tm)), iN (j + 1)) := by
  obtain ⟨h, h6, hdp, hy, hu, ht⟩ := hF
  have hT4 := h.2.1.2
  have s178 : s.1 178 = M.1 178 := lw1 hM (by omega)
  have s172 : s.1 172 = M.1 172 := lw1 hM (by omega)
  have hv : vN s 172 (12 * q + 1) = vN M 172 (12 * q + 1) := by unfold vN; rw [s172]
  unfold fL_takes_521
  rw [if_pos (show (0 : Int32) ≤ iN q by rw [i_0, iN_le (by omega) (by omega)]; omega)]
  exact L_k561 hj (by omega) htm (fun a ha => by unfold vN; rw [s178]; exact (hu a ha).1.1) (by rw [hv, s172]; exact (ht q hq).1) (by rw [hv]; exact (ht q hq).2.1) (by rw [hv]; exact (ht q hq).2.2)
/-- behind the first batch, or for a full run -/
theorem L_k360 {N : Nat} {rec3 : (gS × Int32) → Option gS} {s M : gS} {n T G V dp j F : Nat} {t on : Int64} {bs : List (List Nat)} (hN : 100 ≤ N) (hM : lawOf s = M) (hF : TF M n T G V dp) (hj : j < 3) (hbs : bsOK n dp bs) (hd : dRow s M t bs dp) (hF0 : 0 < F ∧ F < 100) : lp (fL_takes_360 N rec3 t (iN j) (iN (codB 0 bs).length) (iN F) (0 : Int32) on) N (s, iN 3, iM, 0) = rec3 (tkR s j (orE (c1M M T G V t bs) (c2M M T V t)), iN (j + 1)) := by
  obtain ⟨h, h6, hdp, hy, hu, ht⟩ := id hF
  have hT4 := h.2.1.2
  have s178 : s.1 178 = M.1 178 := lw1 hM (by omega)
  have hwt := fun o (ho : o < 3) => L_wanted (o := o) hN hM h h6 hdp hy hbs hd ho
  have hst : ∀ o x, (foS M (wtO M T G V t bs) o).2 = some x → 1 ≤ x.1 ∧ x.1 < bs.length ∧ x.2 < T := fun o x hx => by
    have := w2_in _ _ (foS_in o hx).2
    exact ⟨this.1, by omega, this.2.2.1⟩
  refine lp_run (F := fL_takes_360 N rec3 t (iN j) (iN (codB 0 bs).length) (iN F) (0 : Int32) on) (fun o => (s, iN (foS M (wtO M T G V t bs) o).1, iW (foS M (wtO M T G V t bs) o).2, iN o)) 3 (fun o ho rec => ?_) (fun rec => ?_) N (by omega)
  · have hw := hwt o ho
    have e388 : fL_takes_388 N rec3 rec s t (iN j) (iN (codB 0 bs).length) (iN F) (0 : Int32) on (iN (foS M (wtO M T G V t bs) o).1) (iW (foS M (wtO M T G V t bs) o).2) (iN o) = rec (s, iN (foS M (wtO M T G V t bs) (o + 1)).1, iW (foS M (wtO M T G V t bs) (o + 1)).2, iN (o + 1)) := by
      have e460 : ∀ r, fL_takes_460 N rec3 rec s t (iN j) (iN (codB 0 bs).length) (iN F) (0 : Int32) on (iN (foS M (wtO M T G V t bs) o).1) (iW (foS M (wtO M T G V t bs) o).2) (iN o) r = rec (s, iN (foS M (wtO M T G V t bs) o).1, iW (foS M (wtO M T G V t bs) o).2, iN (o + 1)) := fun r => by
        unfold fL_takes_460 fL_takes_461 fL_takes_475 fL_takes_489
        rw [if_pos rfl, if_pos rfl, i_1, iN_add]
      have e456 : ∀ r, fL_takes_456 N rec3 rec s t (iN j) (iN (codB 0 bs).length) (iN F) (0 : Int32) on (iN (foS M (wtO M T G V t bs) o).1) (iW (foS M (wtO M T G V t bs) o).2) (iN o) r = rec (s, iN o, r, iN (o + 1)) := fun r => by
        unfold fL_takes_456 fL_takes_461 fL_takes_475 fL_takes_489
        rw [if_neg (show ¬ (1 : Int32) = 0 by decide), if_neg (show ¬ (1 : Int32) = 0 by decide), i_1, iN_add]
      unfold fL_takes_388
      rw [hw, Option.bind_some]
      cases ew : wtO M T G V t bs o with
      | none =>
        have ew2 : w2 (pW M T G V t bs o) T 1 (bs.length - 1) = none := ew
        rw [ew2, if_pos (show iW none < (0 : Int32) by decide), e460, foS_n ew]
      | some x =>
        have ew2 : w2 (pW M T G V t bs o) T 1 (bs.length - 1) = some x := ew
        have hx := w2_in _ _ ew2
        have hx1 : x.1 < 5 := by have := hbs.1; have := hbs.2.1; omega
        rw [ew2, if_neg (show ¬ iW (some x) < (0 : Int32) by show ¬ iN (100 * x.1 + x.2) < (0 : Int32); rw [i_0, iN_lt (by omega) (by omega)]; omega)]
        cases e2 : (foS M (wtO M T G V t bs) o).2 with
        | none =>
          rw [if_pos (show iW none < (0 : Int32) by decide), ← e2, e456, foS_0 ew e2]
        | some y =>
          have hy1 := hst o y e2
          have hlt := (foS_in o e2).1
          have hya := hu _ (show (foS M (wtO M T G V t bs) o).1 < 3 by omega)
          have hyo := hu o ho
          rw [if_neg (show ¬ iW (some y) < (0 : Int32) by show ¬ iN (100 * y.1 + y.2) < (0 : Int32); rw [i_0, iN_lt (by have := hbs.1; have := hbs.2.1; omega) (by omega)]; omega), i_3, iN_add, iN_add, if_neg (gi (show o < 14 by omega) (by decide)), if_neg (gi (show 3 + (foS M (wtO M T G V t bs) o).1 < 14 by omega) (by decide)), if_neg (gi (show (foS M (wtO M T G V t bs) o).1 < 14 by omega) (by decide)), if_neg (gi (show 3 + o < 14 by omega) (by decide)), iN_cl (show o < 2147483648 by omega), iN_cl (show 3 + (foS M (wtO M T G V t bs) o).1 < 2147483648 by omega), iN_cl (show (foS M (wtO M T G V t bs) o).1 < 2147483648 by omega), iN_cl (show 3 + o < 2147483648 by omega), s178, hya.1.1, hya.2.1, hyo.1.1, hyo.2.1, iN_mul, iN_mul]
          have m1 : vN M 178 (foS M (wtO M T G V t bs) o).1 * vN M 178 (3 + o) ≤ 10000 * 10 := Nat.mul_le_mul (by omega) (by omega)
          have m2 : vN M 178 o * vN M 178 (3 + (foS M (wtO M T G V t bs) o).1) ≤ 10000 * 10 := Nat.mul_le_mul (by omega) (by omega)
          rw [← e2, foS_1 ew e2]
          by_cases c : vN M 178 o * vN M 178 (3 + (foS M (wtO M T G V t bs) o).1) < vN M 178 (foS M (wtO M T G V t bs) o).1 * vN M 178 (3 + o)
          · rw [if_neg (by rw [iN_le (by omega) (by omega)]; omega), e456, if_pos c]
          · rw [if_pos (by rw [iN_le (by omega) (by omega)]; omega), e460, if_neg c]
    rw [← e388]
    unfold fL_takes_360
    dsimp only
    rw [if_neg (show ¬ (3 : Int32) ≤ iN o by rw [i_3, iN_le (by omega) (by omega)]; omega), if_neg (show ¬ iN F ≤ (0 : Int32) by rw [i_0, iN_le (by omega) (by omega)]; omega), if_pos rfl]
    cases e2 : (foS M (wtO M T G V t bs) o).2 with
    | none => rw [if_pos (show iW none < (0 : Int32) by decide)]
    | some y =>
      have hy1 := hst o y e2
      have := hbs.1
      have := hbs.2.1
      rw [if_neg (show ¬ iW (some y) < (0 : Int32) by show ¬ iN (100 * y.1 + y.2) < (0 : Int32); rw [i_0, iN_lt (by omega) (by omega)]; omega), if_neg (show ¬ iW (some y) ≤ (99 : Int32) by show ¬ iN (100 * y.1 + y.2) ≤ iN 99; rw [iN_le (by omega) (by omega)]; omega)]
  · unfold fL_takes_360
    dsimp only
    rw [if_pos (show (3 : Int32) ≤ iN 3 by decide)]
    unfold fL_takes_497 c1M
    cases e2 : (foS M (wtO M T G V t bs) 3).2 with
    | none =>
      rw [if_pos (show iW none ≤ (99 : Int32) by decide)]
      exact L_k521n hN hM h hy hj (fun a ha => (hu a ha).1.1) ht
    | some y =>
      have hy1 := hst 3 y e2
      have hlt := (foS_in 3 e2).1
      have := hbs.1
      have := hbs.2.1
      have ed : (iN (100 * y.1 + y.2) / 100 : Int32) = iN y.1 := by rw [i_100, iN_div (by omega) (by omega), show (100 * y.1 + y.2) / 100 = y.1 by omega]
      have em : (iN (100 * y.1 + y.2) - iN y.1 * 100 : Int32) = iN y.2 := by rw [i_100, iN_mul, iN_sub (by omega) (by omega), show 100 * y.1 + y.2 - y.1 * 100 = y.2 by omega]
      rw [if_neg (show ¬ iW (some y) ≤ (99 : Int32) by show ¬ iN (100 * y.1 + y.2) ≤ iN 99; rw [iN_le (by omega) (by omega)]; omega), show iW (some y) = iN (100 * y.1 + y.2) from rfl, ed, em, if_neg (gi (show y.1 < 5 by omega) (by decide)), iN_cl (show y.1 < 2147483648 by omega), hd.2 y.1 (by omega) (by omega)]
      exact L_kq hM hF hj hy1.2.2 (by omega)
