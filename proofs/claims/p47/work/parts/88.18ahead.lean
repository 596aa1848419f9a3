/-! what is wanted behind the first batch: the law -/
def tmC (M : gS) (c : Nat) : Nat := vN M 162 c - vN M 162 c / 3 * 3
def tmL (M : gS) (T G q : Nat) : List Nat → Nat
  | [] => 3
  | c :: r => if tb (rqG M c T G) q = true then tmC M c else tmL M T G q r
theorem tmL_c (M : gS) (T G q c : Nat) (r : List Nat) : tmL M T G q (c :: r) = if tb (rqG M c T G) q = true then tmC M c else tmL M T G q r := rfl
theorem tmL_lt {M : gS} {T G q : Nat} : ∀ (l : List Nat), tmL M T G q l < 3 ↔ ∃ c, c ∈ l ∧ tb (rqG M c T G) q = true
  | [] => ⟨fun h => absurd h (by unfold tmL; omega), fun ⟨c, h, _⟩ => by cases h⟩
  | c :: r => by
    rw [tmL_c]
    by_cases e : tb (rqG M c T G) q = true
    · rw [if_pos e]
      refine ⟨fun _ => ⟨c, List.mem_cons_self, e⟩, fun _ => ?_⟩
      unfold tmC; omega
    · rw [if_neg e, tmL_lt r]
      constructor
      · rintro ⟨d, h1, h2⟩; exact ⟨d, List.mem_cons_of_mem _ h1, h2⟩
      · rintro ⟨d, h1, h2⟩
        rcases List.mem_cons.mp h1 with x | x
        · rw [x] at h2; exact absurd h2 e
        · exact ⟨d, x, h2⟩
theorem tmL_le (M : gS) (T G q : Nat) : ∀ (l : List Nat), tmL M T G q l ≤ 3
  | [] => Nat.le_refl _
  | c :: r => by
    rw [tmL_c]
    split
    · unfold tmC; omega
    · exact tmL_le M T G q r
def oB (M : gS) (t : Int64) (bs : List (List Nat)) (b : Nat) : Int64 := treeL M t (bs.take (b + 1)).flatten
def aheadC (M : gS) (T G : Nat) (t : Int64) (bs : List (List Nat)) (b q : Nat) : Bool := sAny (fun b' => decide (tmL M T G q (bs.getD b' []) < 3) && decide (gKey M q (oB M t bs b') = gKey M q (oB M t bs b))) b
theorem codB_mem : ∀ (bs : List (List Nat)) (a v : Nat), v ∈ codB a bs ↔ ∃ b c, b < bs.length ∧ c ∈ bs.getD b [] ∧ v = c + 100 * (a + b)
  | [], a, v => ⟨fun h => (nomatch h), fun ⟨b, c, h, _⟩ => absurd h (Nat.not_lt_zero b)⟩
  | l :: r, a, v => by
    rw [codB_cons, List.mem_append, List.mem_map, codB_mem r (a + 1) v]
    constructor
    · rintro (⟨c, h1, h2⟩ | ⟨b, c, h1, h2, h3⟩)
      · exact ⟨0, c, by rw [List.length_cons]; omega, h1, by omega⟩
      · exact ⟨b + 1, c, by rw [List.length_cons]; omega, h2, by omega⟩
    · rintro ⟨b, c, h1, h2, h3⟩
      cases b with
      | zero => exact Or.inl ⟨c, h2, by omega⟩
      | succ b => exact Or.inr ⟨b, c, by rw [List.length_cons] at h1; omega, h2, by omega⟩
/-- the law's rows of its batches -/
def dRow (σ M : gS) (t : Int64) (bs : List (List Nat)) (dp : Nat) : Prop := (∀ j, j < (codB 0 bs).length → σ.1 179 j = iN ((codB 0 bs).getD j 0)) ∧ ∀ i, i < dp → i ≤ bs.length → σ.2.1 180 i = oB M t bs i
/-- what batches are like -/
def bsOK (n dp : Nat) (bs : List (List Nat)) : Prop := bs.length ≤ dp ∧ dp ≤ 4 ∧ (∀ l ∈ bs, l ≠ [] ∧ ∀ c ∈ l, c < n) ∧ (codB 0 bs).length ≤ 16
theorem gD_memL {bs : List (List Nat)} {b : Nat} (h : b < bs.length) : bs.getD b [] ∈ bs := by
  induction bs generalizing b with
  | nil => exact absurd h (Nat.not_lt_zero b)
  | cons l r ih =>
    cases b with
    | zero => exact List.mem_cons_self
    | succ b => exact List.mem_cons_of_mem _ (ih (by simpa using h))
theorem gD_ge {bs : List (List Nat)} {b : Nat} (h : bs.length ≤ b) : bs.getD b [] = [] := by
  induction bs generalizing b with
  | nil => rfl
  | cons l r ih =>
    cases b with
    | zero => exact absurd h (by simp)
    | succ b => exact ih (by simpa using h)
theorem L_isAhead {N : Nat} {σ M : gS} {n T G V b q dp : Nat} {t : Int64} {bs : List (List Nat)} (hN : 100 ≤ N) (hM : lawOf σ = M) (h : LF M n T G V) (hq : q < 4) (hb : b < bs.length) (hbs : bsOK n dp bs) (hd : dRow σ M t bs dp) : fL_isAhead N σ (iN (codB 0 bs).length) (iN b) (iN q) = some (iB (aheadC M T G t bs b q)) := by
  obtain ⟨b1, b2, b3, b4⟩ := hbs
  have hn := h.1.2.1
  have hP : ∀ j, j < (codB 0 bs).length → ∃ b' c, b' < bs.length ∧ c ∈ bs.getD b' [] ∧ (codB 0 bs).getD j 0 = c + 100 * b' ∧ c < n := fun j hj => by
    obtain ⟨b', c, e1, e2, e3⟩ := (codB_mem bs 0 _).mp (gD_mem hj)
    exact ⟨b', c, e1, e2, by omega, (b3 _ (gD_memL e1)).2 c e2⟩
  have hrun : fL_isAhead N σ (iN (codB 0 bs).length) (iN b) (iN q) = some (iB (sAny (fun j => decide ((codB 0 bs).getD j 0 / 100 < b) && (tb (rqG M ((codB 0 bs).getD j 0 - (codB 0 bs).getD j 0 / 100 * 100) T G) q && decide (gKey M q (oB M t bs ((codB 0 bs).getD j 0 / 100)) = gKey M q (oB M t bs b)))) (codB 0 bs).length)) := by
    unfold fL_isAhead
    refine lp_run (F := fL_isAhead_6 N σ (iN (codB 0 bs).length) (iN b) (iN q)) (fun j => (iB (sAny (fun j => decide ((codB 0 bs).getD j 0 / 100 < b) && (tb (rqG M ((codB 0 bs).getD j 0 - (codB 0 bs).getD j 0 / 100 * 100) T G) q && decide (gKey M q (oB M t bs ((codB 0 bs).getD j 0 / 100)) = gKey M q (oB M t bs b)))) j), iN j)) (codB 0 bs).length (fun j hj rec => ?_) (fun rec => ?_) N (by omega)
    · rw [sAny_s]
      obtain ⟨b', c, e1, e2, e3, e4⟩ := hP j hj
      have h179 := hd.1 j hj
      rw [e3] at h179
      rw [e3, show (c + 100 * b') / 100 = b' by omega, show c + 100 * b' - b' * 100 = c by omega]
      generalize hA : sAny (fun j => decide ((codB 0 bs).getD j 0 / 100 < b) && (tb (rqG M ((codB 0 bs).getD j 0 - (codB 0 bs).getD j 0 / 100 * 100) T G) q && decide (gKey M q (oB M t bs ((codB 0 bs).getD j 0 / 100)) = gKey M q (oB M t bs b)))) j = A
      have e87 : fL_isAhead_87 N rec σ (iN (codB 0 bs).length) (iN b) (iN q) (iN j) = rec (iB true, iN (j + 1)) := by
        unfold fL_isAhead_87 fL_isAhead_92
        rw [i_1, iN_add]; rfl
      have e91 : fL_isAhead_91 N rec σ (iN (codB 0 bs).length) (iN b) (iN q) (iN j) = rec (iB false, iN (j + 1)) := by
        unfold fL_isAhead_91 fL_isAhead_92
        rw [i_1, iN_add]; rfl
      unfold fL_isAhead_6
      dsimp only
      rw [if_neg (show ¬ iN (codB 0 bs).length ≤ iN j by rw [iN_le (by omega) (by omega)]; omega), if_neg (gi (show j < 32 by omega) (by decide)), iN_cl (show j < 2147483648 by omega)]
      cases A with
      | true => rw [if_neg (show ¬ iB true = (0 : Int32) by decide), e87, Bool.true_or]
      | false =>
        have ev : (iN (c + 100 * b') / 100 : Int32) = iN b' := by rw [i_100, iN_div (by omega) (by omega), show (c + 100 * b') / 100 = b' by omega]
        have em : (iN (c + 100 * b') - iN b' * 100 : Int32) = iN c := by rw [i_100, iN_mul, iN_sub (by omega) (by omega), show c + 100 * b' - b' * 100 = c by omega]
        rw [if_pos (show iB false = (0 : Int32) from rfl), h179, ev, em, Bool.false_or]
        by_cases c1 : b' < b
        · rw [if_neg (show ¬ iN b ≤ iN b' by rw [iN_le (by omega) (by omega)]; omega), if_neg (gj (show j < 32 by omega) (by decide)), L_req hN hM h e4, Option.bind_some, decide_eq_true c1, Bool.true_and]
          have ebit : ((((rqG M c T G) >>> (iN q &&& 31)) &&& 1) = (1 : Int32)) = (tb (rqG M c T G) q = true) := tb_sh1 _ (show q < 32 by omega)
          by_cases c2 : tb (rqG M c T G) q = true
          · rw [if_pos (ebit.mpr c2), if_neg (gi (show b' < 5 by omega) (by decide)), iN_cl (show b' < 2147483648 by omega), hd.2 b' (by omega) (by omega), L_key hN hM hq, Option.bind_some, if_neg (gi (show b < 5 by omega) (by decide)), iN_cl (show b < 2147483648 by omega), hd.2 b (by omega) (by omega), L_key hN hM hq, Option.bind_some, c2, Bool.true_and]
            by_cases c3 : gKey M q (oB M t bs b') = gKey M q (oB M t bs b)
            · rw [if_pos (show lg_cmp _ _ = (0 : Int32) from by rw [i_0, lgc0]; exact c3), e87, decide_eq_true c3]
            · rw [if_neg (show ¬ lg_cmp _ _ = (0 : Int32) from by rw [i_0, lgc0]; exact c3), e91, decide_eq_false c3]
          · have c0 : tb (rqG M c T G) q = false := by simpa using c2
            rw [if_neg (fun x => c2 (ebit.mp x)), e91, c0]; rfl
        · rw [if_pos (show iN b ≤ iN b' by rw [iN_le (by omega) (by omega)]; omega), e91, decide_eq_false c1]; rfl
    · unfold fL_isAhead_6
      dsimp only
      rw [if_pos (show iN (codB 0 bs).length ≤ iN (codB 0 bs).length by rw [iN_le (by omega) (by omega)]; omega), if_neg]
      generalize sAny (fun j => decide ((codB 0 bs).getD j 0 / 100 < b) && (tb (rqG M ((codB 0 bs).getD j 0 - (codB 0 bs).getD j 0 / 100 * 100) T G) q && decide (gKey M q (oB M t bs ((codB 0 bs).getD j 0 / 100)) = gKey M q (oB M t bs b)))) (codB 0 bs).length = A
      cases A <;> decide
  rw [hrun]
  congr 2
  unfold aheadC
  rw [Bool.eq_iff_iff, sAny_iff, sAny_iff]
  constructor
  · rintro ⟨j, hj, h2⟩
    obtain ⟨b', c, e1, e2, e3, e4⟩ := hP j hj
    rw [e3, show (c + 100 * b') / 100 = b' by omega, show c + 100 * b' - b' * 100 = c by omega, Bool.and_eq_true, Bool.and_eq_true] at h2
    refine ⟨b', of_decide_eq_true h2.1, ?_⟩
    rw [Bool.and_eq_true]
    exact ⟨decide_eq_true ((tmL_lt _).mpr ⟨c, e2, h2.2.1⟩), h2.2.2⟩
  · rintro ⟨b', hb', h2⟩
    rw [Bool.and_eq_true] at h2
    obtain ⟨c, e1, e2⟩ := (tmL_lt _).mp (of_decide_eq_true h2.1)
    have hcn := (b3 _ (gD_memL (show b' < bs.length by omega))).2 c e1
    obtain ⟨j, hj, ej⟩ := List.getElem_of_mem ((codB_mem bs 0 (c + 100 * b')).mpr ⟨b', c, by omega, e1, by omega⟩)
    have egd : (codB 0 bs).getD j 0 = c + 100 * b' := by
      rw [List.getD_eq_getElem?_getD, List.getElem?_eq_getElem hj, ej]; rfl
    refine ⟨j, hj, ?_⟩
    rw [egd, show (c + 100 * b') / 100 = b' by omega, show c + 100 * b' - b' * 100 = c by omega, Bool.and_eq_true, Bool.and_eq_true]
    exact ⟨decide_eq_true hb', e2, h2.2⟩
