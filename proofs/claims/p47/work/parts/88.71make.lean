/-! a change is made: bits and digits of its edit; the class's side -/
def f15 (f : Nat) : Int64 := (15 : Int64) <<< ((4 * iN f).toInt64 &&& 63)
def b1 (f : Nat) : Int32 := (1 : Int32) <<< (iN f &&& 31)
def mk1 (f g : Nat) : Int32 := b1 f ||| b1 g
def e1k (f v : Nat) : Int64 := (iN v).toInt64 <<< ((4 * iN f).toInt64 &&& 63)
def ek1 (f g v w : Nat) : Int64 := if f = g then e1k f v else e1k f v ||| e1k g w
def ed1 (f g v w : Nat) : Int64 := ((((0 : Int64) &&& (f15 f ^^^ (-1))) ||| e1k f v) &&& (f15 g ^^^ (-1))) ||| e1k g w
theorem mk_set : ∀ f, f < 4 → ∀ g, g < 4 → ((0 : Int32) ||| b1 f) ||| b1 g = mk1 f g ∧ ((0 : Int64) ||| f15 f) ||| f15 g = gMask (mk1 f g) := by decide +kernel
theorem mk_b : ∀ f, f < 4 → ∀ g, g < 4 → b6 ((0 : Int32) ||| b1 f) = iN 1 ∧ b6 (((0 : Int32) ||| b1 f) ||| b1 g) = (if f = g then iN 1 else iN 2) ∧ mk1 f g ≠ 0 := by decide +kernel
theorem mk_tb : ∀ f, f < 4 → ∀ g, g < 4 → ∀ x, x < 12 → tb (mk1 f g) x = (decide (x = f) || decide (x = g)) := by decide +kernel
theorem ek_vb : ∀ f, f < 4 → ∀ g, g < 4 → ∀ v, v < 10 → ∀ w, w < 10 → ((decide (f = g) && !decide (v = w)) || (decide (ed1 f g v w = ek1 f g v w) && (decide (ek1 f g v w &&& gMask (mk1 f g) = ek1 f g v w) && (decide (gAt (ek1 f g v w) f = iN v) && decide (gAt (ek1 f g v w) g = iN w))))) = true := by decide +kernel
theorem ek_vw (f : Nat) (hf : f < 4) (g : Nat) (hg : g < 4) (v : Nat) (hv : v < 10) (w : Nat) (hw : w < 10) (h : f = g → v = w) : ed1 f g v w = ek1 f g v w ∧ ek1 f g v w &&& gMask (mk1 f g) = ek1 f g v w ∧ gAt (ek1 f g v w) f = iN v ∧ gAt (ek1 f g v w) g = iN w := by
  have q := ek_vb f hf g hg v hv w hw
  have e : (decide (f = g) && !decide (v = w)) = false := by
    by_cases c : f = g
    · rw [decide_eq_true c, decide_eq_true (h c)]; rfl
    · rw [decide_eq_false c]; rfl
  rw [e, Bool.false_or, Bool.and_eq_true, Bool.and_eq_true, Bool.and_eq_true, decide_eq_true_eq, decide_eq_true_eq, decide_eq_true_eq, decide_eq_true_eq] at q
  exact q
theorem ek_0b : ∀ f, f < 4 → ∀ g, g < 4 → ∀ v, v < 10 → ∀ w, w < 10 → ∀ x, x < 12 → (decide (x = f) || decide (x = g) || decide (gAt (ek1 f g v w) x = iN 0)) = true := by decide +kernel
theorem ek_0 (f : Nat) (hf : f < 4) (g : Nat) (hg : g < 4) (v : Nat) (hv : v < 10) (w : Nat) (hw : w < 10) (x : Nat) (hx : x < 12) (h1 : x ≠ f) (h2 : x ≠ g) : gAt (ek1 f g v w) x = iN 0 := by
  have := ek_0b f hf g hg v hv w hw x hx
  rw [decide_eq_false h1, decide_eq_false h2, Bool.false_or, Bool.false_or] at this
  exact of_decide_eq_true this
/-- an edit -/
def edS (s : gS) (f v : Nat) : gS := (fX1_setEdit 0 s 4 (iN f) (iN v)).getD s
theorem X_setEdit {N : Nat} {s : gS} {f v : Nat} : fX1_setEdit N s 4 (iN f) (iN v) = some (edS s f v) := rfl
theorem edS_I {s : gS} {f v k i : Nat} (h : ¬ (k = 4 ∧ i = 5)) : (edS s f v).1 k i = s.1 k i := if_neg h
theorem edS_5 {s : gS} {f v : Nat} : (edS s f v).1 4 5 = s.1 4 5 ||| b1 f := rfl
theorem edS_J {s : gS} {f v k : Nat} (h : k ≠ 4) : (edS s f v).2.1 k = s.2.1 k := funext (fun i => by
  show (if k = 4 ∧ i = 8 then _ else if k = 4 ∧ i = 6 then _ else s.2.1 k i) = _
  rw [if_neg (by omega), if_neg (by omega)])
theorem edS_6 {s : gS} {f v : Nat} : (edS s f v).2.1 4 6 = s.2.1 4 6 ||| f15 f := rfl
theorem edS_8 {s : gS} {f v : Nat} : (edS s f v).2.1 4 8 = (s.2.1 4 8 &&& (f15 f ^^^ (-1))) ||| e1k f v := rfl
theorem edS_l {s : gS} {f v : Nat} : (edS s f v).2.2 = s.2.2 := rfl
theorem X_edit {N : Nat} {s : gS} {f v b : Nat} (hf : f < 12) (hv : v ≤ 9) (h13 : s.1 1 3 = iN 1) (hb : b6 (s.1 4 5 ||| b1 f) = iN b) (hb4 : b ≤ 4) : fX11_edit N s (iN f) (iN v) = some (iN b, edS s f v) := by
  have e51 : fX11_edit_51 N s (iN f) (iN v) 1 = some (iN b, edS s f v) := by
    unfold fX11_edit_51
    rw [show fX11_needState N s 1 = some () from rfl, Option.bind_some, X_setEdit, Option.bind_some, J6_eq, Option.bind_some, edS_5, hb]
  unfold fX11_edit
  rw [show fX11_needPlace N s (iN f) (12 : Int32) = some () from X_place (n := 12) hf (by omega), Option.bind_some, show fX11_needRange N s (iN v) (0 : Int32) (9 : Int32) = some () from X_range (lo := 0) (hi := 9) (by omega) hv (by omega), Option.bind_some, h13, show fX11_needState N s (iN 1) = some () from rfl, Option.bind_some, J6_eq, Option.bind_some]
  rw [show (s.1 4 5 ||| ((1 : Int32) <<< (iN f &&& 31))) = s.1 4 5 ||| b1 f from rfl, hb, if_neg (show ¬ (4 : Int32) < iN b by rw [show (4 : Int32) = iN 4 from rfl, iN_lt (by omega) (by omega)]; omega)]
  exact e51
/-- no edit of it is idle -/
theorem X_idle {N : Nat} {s : gS} {t : Int64} (hN : 100 ≤ N) (h : ∀ x, x < 12 → tb (s.1 4 5) x = true → gAt t x ≠ gAt (s.2.1 4 8) x) : fX1_hasIdleEditOn N s 4 t = some 0 := by
  unfold fX1_hasIdleEditOn
  refine lp_run (F := fX1_hasIdleEditOn_2 N s 4 t) (fun j => iN j) 12 (fun j hj rec => ?_) (fun rec => ?_) N (by omega)
  · unfold fX1_hasIdleEditOn_2 fX1_hasIdleEditOn_37
    rw [if_neg (show ¬ (12 : Int32) ≤ iN j by rw [show (12 : Int32) = iN 12 from rfl, iN_le (by omega) (by omega)]; omega), X_hasBit (show j < 32 by omega), Option.bind_some, show iN j + (1 : Int32) = iN (j + 1) from iN_add _ 1]
    cases c : tb (s.1 4 5) j with
    | false => rw [show iB false = (0 : Int32) from rfl, if_pos rfl]
    | true =>
      rw [show iB true = (1 : Int32) from rfl, if_neg (show ¬ (1 : Int32) = 0 by decide), X_cont hj, Option.bind_some, X_cont hj, Option.bind_some, if_neg (h j hj c)]
  · unfold fX1_hasIdleEditOn_2
    rw [if_pos (show (12 : Int32) ≤ iN 12 by decide)]
/-- what is begun is added -/
def adS (s : gS) (n : Nat) (t : Int64) : gS := sI (sI (sJ (sJ (sJ (sI (sI (sI s (5 + n) 1 (s.1 4 1)) (5 + n) 2 (s.1 4 2)) (5 + n) 5 (s.1 4 5)) (5 + n) 6 (s.2.1 4 6)) (5 + n) 8 (s.2.1 4 8)) (5 + n) 7 t) 1 3 0) 1 4 (iN (n + 1))
theorem X_addBegun {N : Nat} {s : gS} {n : Nat} {t : Int64} (hn : n < 60) (h : s.1 1 4 = iN n) : fX2_addBegun N s t = some (iN n, adS s n t) := by
  unfold fX2_addBegun
  rw [h, X2_at hn, Option.bind_some]
  have e4 : ∀ v : Int32, (sI s (5 + n) 1 v).1 4 2 = s.1 4 2 := fun v => by rw [sI_1, if_neg (by omega)]
  have e5 : ∀ v w : Int32, (sI (sI s (5 + n) 1 v) (5 + n) 2 w).1 4 5 = s.1 4 5 := fun v w => by rw [sI_1, if_neg (by omega), sI_1, if_neg (by omega)]
  have e6 : ∀ u v w : Int32, (sI (sI (sI s (5 + n) 1 u) (5 + n) 2 v) (5 + n) 5 w).2.1 4 6 = s.2.1 4 6 := fun _ _ _ => rfl
  have e8 : ∀ (u v w : Int32) (x : Int64), (sJ (sI (sI (sI s (5 + n) 1 u) (5 + n) 2 v) (5 + n) 5 w) (5 + n) 6 x).2.1 4 8 = s.2.1 4 8 := fun u v w x => by rw [sJ_2, if_neg (by omega)]; rfl
  have e14 : ∀ (u v w : Int32) (x y z : Int64), (sI (sJ (sJ (sJ (sI (sI (sI s (5 + n) 1 u) (5 + n) 2 v) (5 + n) 5 w) (5 + n) 6 x) (5 + n) 8 y) (5 + n) 7 z) 1 3 0).1 1 4 = iN n := fun u v w x y z => by
    rw [sI_1, if_neg (by omega), sJ_1, sJ_1, sJ_1, sI_1, if_neg (by omega), sI_1, if_neg (by omega), sI_1, if_neg (by omega)]; exact h
  rw [e4, e5, e6, e8, e14, show iN n + (1 : Int32) = iN (n + 1) from iN_add _ 1]
  rfl
