/-! what is wanted first of a team: the law -/
def w2 (p : Nat → Nat → Bool) (T : Nat) : Nat → Nat → Option (Nat × Nat)
  | _, 0 => none
  | b, m + 1 => match lo (p b) T with
    | some q => some (b, q)
    | none => w2 p T (b + 1) m
theorem w2_s (p : Nat → Nat → Bool) (T b m : Nat) : w2 p T b (m + 1) = (match lo (p b) T with
    | some q => some (b, q)
    | none => w2 p T (b + 1) m) := rfl
def iW : Option (Nat × Nat) → Int32
  | none => iM
  | some x => iN (100 * x.1 + x.2)
def loF (p : Nat → Bool) : Nat → Nat → Option Nat
  | _, 0 => none
  | q, m + 1 => if p q = true then some q else loF p (q + 1) m
theorem loF_some {p : Nat → Bool} {k : Nat} : ∀ (m q : Nat), loF p q m = some k ↔ (q ≤ k ∧ k < q + m ∧ p k = true ∧ ∀ j, q ≤ j → j < k → p j = false)
  | 0, q => ⟨fun h => (nomatch h), fun h => by omega⟩
  | m + 1, q => by
    have ih := loF_some (p := p) (k := k) m (q + 1)
    unfold loF
    by_cases c : p q = true
    · rw [if_pos c]
      constructor
      · intro h
        have e : q = k := by simpa using h
        subst e
        exact ⟨by omega, by omega, c, fun j h1 h2 => by omega⟩
      · rintro ⟨h1, h2, h3, h4⟩
        have e : q = k := by
          rcases Nat.lt_or_ge q k with x | x
          · rw [h4 q (by omega) x] at c; exact absurd c (by decide)
          · omega
        rw [e]
    · have c0 : p q = false := by simpa using c
      rw [if_neg c, ih]
      constructor
      · rintro ⟨h1, h2, h3, h4⟩
        exact ⟨by omega, by omega, h3, fun j j1 j2 => by
          by_cases e : j = q
          · rw [e]; exact c0
          · exact h4 j (by omega) j2⟩
      · rintro ⟨h1, h2, h3, h4⟩
        have hne : q ≠ k := fun e => by rw [e] at c0; rw [c0] at h3; exact absurd h3 (by decide)
        exact ⟨by omega, by omega, h3, fun j j1 j2 => h4 j (by omega) j2⟩
theorem loF_lo (p : Nat → Bool) (T : Nat) : loF p 0 T = lo p T := by
  cases c : lo p T with
  | some k =>
    have := (lo_some T).mp c
    exact (loF_some T 0).mpr ⟨by omega, by omega, this.2.1, fun j _ h => this.2.2 j h⟩
  | none =>
    cases d : loF p 0 T with
    | none => rfl
    | some k =>
      have := (loF_some T 0).mp d
      have h2 := lo_none.mp c k (by omega)
      rw [h2] at this; exact absurd this.2.2.1 (by decide)
theorem mapD {f : Nat → Nat} : ∀ (l : List Nat) (j : Nat), j < l.length → (l.map f).getD j 0 = f (l.getD j 0)
  | [], j, h => absurd h (Nat.not_lt_zero j)
  | a :: l, j, h => by
    cases j with
    | zero => rfl
    | succ j => exact mapD l j (by simpa using h)
theorem codB_pos : ∀ (bs : List (List Nat)) (a b i : Nat), b < bs.length → i < (bs.getD b []).length → (codB a bs).getD ((bs.take b).flatten.length + i) 0 = (bs.getD b []).getD i 0 + 100 * (a + b)
  | [], a, b, i, h, _ => absurd h (Nat.not_lt_zero b)
  | l :: r, a, b, i, h, hi => by
    rw [codB_cons]
    cases b with
    | zero =>
      have hi2 : i < l.length := hi
      have e0 : (List.take 0 (l :: r)).flatten.length = 0 := rfl
      rw [e0, Nat.zero_add, gD_app1 (by rw [List.length_map]; exact hi2), mapD l i hi2]; rfl
    | succ b =>
      have e1 : ((l :: r).take (b + 1)).flatten.length + i = (l.map (fun c => c + 100 * a)).length + ((r.take b).flatten.length + i) := by
        rw [List.take_succ_cons, List.flatten_cons, List.length_append, List.length_map]; omega
      rw [e1, gD_app2, codB_pos r (a + 1) b i (by simpa using h) hi]
      show _ = (r.getD b []).getD i 0 + 100 * (a + (b + 1))
      omega
def cntD (b : Nat) : List Nat → Nat
  | [] => 0
  | v :: r => (if v / 100 < b then 1 else 0) + cntD b r
theorem cntD_app {b : Nat} : ∀ (l r : List Nat), cntD b (l ++ r) = cntD b l + cntD b r
  | [], r => by rw [List.nil_append]; unfold cntD; exact (Nat.zero_add _).symm
  | v :: l, r => by
    rw [List.cons_append]
    show (if v / 100 < b then 1 else 0) + cntD b (l ++ r) = (if v / 100 < b then 1 else 0) + cntD b l + cntD b r
    rw [cntD_app l r]; omega
theorem cntD_map {a b : Nat} : ∀ (l : List Nat), (∀ c ∈ l, c < 100) → cntD b (l.map (fun c => c + 100 * a)) = if a < b then l.length else 0
  | [], _ => by unfold cntD; simp
  | c :: l, h => by
    have h1 := h c List.mem_cons_self
    have := cntD_map (a := a) (b := b) l (fun d hd => h d (List.mem_cons_of_mem _ hd))
    rw [List.map_cons]
    show (if (c + 100 * a) / 100 < b then 1 else 0) + cntD b (l.map (fun c => c + 100 * a)) = _
    rw [this, show (c + 100 * a) / 100 = a by omega, List.length_cons]
    split <;> omega
theorem cntD_cod {b : Nat} : ∀ (bs : List (List Nat)) (a : Nat), (∀ l ∈ bs, ∀ c ∈ l, c < 100) → a ≤ b → cntD b (codB a bs) = (bs.take (b - a)).flatten.length
  | [], a, _, _ => by
    rw [List.take_nil]; rfl
  | l :: bs, a, h, hab => by
    rw [codB_cons, cntD_app, cntD_map l (h l List.mem_cons_self)]
    by_cases e : a = b
    · subst e
      rw [if_neg (Nat.lt_irrefl a), Nat.sub_self, Nat.zero_add]
      have hz : ∀ (bs : List (List Nat)) (a' : Nat), (∀ l ∈ bs, ∀ c ∈ l, c < 100) → a ≤ a' → cntD a (codB a' bs) = 0 := by
        intro bs
        induction bs with
        | nil => intro a' _ _; rfl
        | cons m r ih =>
          intro a' hm ha
          rw [codB_cons, cntD_app, cntD_map m (hm m List.mem_cons_self), if_neg (by omega), ih (a' + 1) (fun x hx => hm x (List.mem_cons_of_mem _ hx)) (by omega)]
      rw [hz bs (a + 1) (fun m hm => h m (List.mem_cons_of_mem _ hm)) (by omega)]; rfl
    · rw [if_pos (by omega), cntD_cod bs (a + 1) (fun m hm => h m (List.mem_cons_of_mem _ hm)) (by omega), show b - a = (b - (a + 1)) + 1 by omega, List.take_succ_cons, List.flatten_cons, List.length_append]
theorem drop_c {l : List Nat} : ∀ {i : Nat}, i < l.length → l.drop i = l.getD i 0 :: l.drop (i + 1) := by
  induction l with
  | nil => intro i h; exact absurd h (Nat.not_lt_zero i)
  | cons a r ih =>
    intro i h
    cases i with
    | zero => rfl
    | succ i => exact ih (by simpa using h)
def pW (M : gS) (T G V : Nat) (t : Int64) (bs : List (List Nat)) (o b q : Nat) : Bool := decide (tmL M T G q (bs.getD b []) = o) && (frM M V q (oB M t bs b) && !aheadC M T G t bs b q)
theorem L_wanted {N : Nat} {σ M : gS} {n T G V dp o : Nat} {t : Int64} {bs : List (List Nat)} (hN : 100 ≤ N) (hM : lawOf σ = M) (h : LF M n T G V) (h6 : M.1 161 6 = iN dp) (hdp : 1 ≤ dp) (hy : ∀ j, j < 3 → M.1 176 (6 * j + 2) = iN 0 ∨ M.1 176 (6 * j + 2) = iN 1) (hbs : bsOK n dp bs) (hd : dRow σ M t bs dp) (ho : o < 3) : fL_wanted N σ (iN (codB 0 bs).length) (iN o) = some (iW (w2 (pW M T G V t bs o) T 1 (bs.length - 1))) := by
  obtain ⟨b1, b2, b3, b4⟩ := id hbs
  have hn := h.1.2.1
  have hT4 := h.2.1.2
  have hs2 : σ.1 161 2 = iN T := by rw [lw1 hM (by omega)]; exact h.2.1.1
  have hs6 : σ.1 161 6 = iN dp := by rw [lw1 hM (by omega)]; exact h6
  have t162 : σ.1 162 = M.1 162 := lw1 hM (by omega)
  have h100 : ∀ l ∈ bs, ∀ c ∈ l, c < 100 := fun l hl c hc => by have := (b3 l hl).2 c hc; omega
  -- one test of one batch: whose it is
  have e93 : ∀ (rec3 rec68 : Int32 → Option Int32) (b q : Nat), b < bs.length → q < T → lp (fL_wanted_93 N rec3 rec68 σ (iN (codB 0 bs).length) (iN o) (iN b) (iN (bs.take b).flatten.length) (iN (bs.getD b []).length) (iN q)) N (3, (iN (bs.take b).flatten.length + iN (bs.getD b []).length) - 1) = if pW M T G V t bs o b q = true then some (iN (100 * b + q)) else rec68 (iN (q + 1)) := fun rec3 rec68 b q hb hq => by
    have hlb : (bs.getD b []).length ≤ 16 ∧ (bs.take b).flatten.length + (bs.getD b []).length ≤ (codB 0 bs).length := by
      rw [codB_len]
      have : bs = bs.take b ++ bs.getD b [] :: bs.drop (b + 1) := by
        have e1 := (List.take_append_drop b bs).symm
        have e2 : bs.drop b = bs.getD b [] :: bs.drop (b + 1) := by
          rw [List.drop_eq_getElem_cons hb, List.getD_eq_getElem?_getD, List.getElem?_eq_getElem hb]; rfl
        rw [e2] at e1; exact e1
      have hl := congrArg (fun x => (List.flatten x).length) this
      simp only [List.flatten_append, List.length_append, List.flatten_cons] at hl
      rw [codB_len] at b4
      omega
    generalize hfr : (bs.take b).flatten.length = fr at hlb ⊢
    have hsz : (bs.getD b []).length = (bs.getD b []).length := rfl
    have hpos : ∀ i, i < (bs.getD b []).length → σ.1 179 (fr + i) = iN ((bs.getD b []).getD i 0 + 100 * b) := fun i hi => by
      rw [hd.1 (fr + i) (by omega), ← hfr, codB_pos bs 0 b i hb hi, Nat.zero_add]
    have hcn : ∀ i, i < (bs.getD b []).length → (bs.getD b []).getD i 0 < n := fun i hi => (b3 _ (gD_memL hb)).2 _ (gD_mem hi)
    have key : ∀ (i N' : Nat), i ≤ (bs.getD b []).length → i < N' → lp (fL_wanted_93 N rec3 rec68 σ (iN (codB 0 bs).length) (iN o) (iN b) (iN fr) (iN (bs.getD b []).length) (iN q)) N' (iN (tmL M T G q ((bs.getD b []).drop i)), iP (fr + i)) = if pW M T G V t bs o b q = true then some (iN (100 * b + q)) else rec68 (iN (q + 1)) := by
      intro i
      induction i with
      | zero =>
        intro N' _ hN'
        obtain ⟨N', rfl⟩ : ∃ j, N' = j + 1 := ⟨N' - 1, by omega⟩
        rw [lp_1, List.drop_zero]
        have hlt : iP (fr + 0) < iN fr := by
          cases fr with
          | zero => decide
          | succ f => show iN f < iN (f + 1); rw [iN_lt (by omega) (by omega)]; omega
        have e212 : fL_wanted_212 N rec3 rec68 σ (iN (codB 0 bs).length) (iN o) (iN b) (iN fr) (iN (bs.getD b []).length) (iN q) = rec68 (iN (q + 1)) := by
          unfold fL_wanted_212
          rw [i_1, iN_add]
        have hle := tmL_le M T G q (bs.getD b [])
        unfold fL_wanted_93
        dsimp only
        rw [if_pos hlt]
        unfold pW
        by_cases c1 : tmL M T G q (bs.getD b []) = o
        · rw [if_pos (show iN (tmL M T G q (bs.getD b [])) = iN o by rw [c1]), if_neg (gi (show b < 5 by omega) (by decide)), iN_cl (show b < 2147483648 by omega), hd.2 b (by omega) (by omega), L_isFree hN hM h (show q < 4 by omega) hy, Option.bind_some, decide_eq_true c1, Bool.true_and]
          cases c2 : frM M V q (oB M t bs b) with
          | false => rw [if_pos (show iB false = (0 : Int32) from rfl), e212]; rfl
          | true =>
            rw [if_neg (show ¬ iB true = (0 : Int32) by decide), L_isAhead hN hM h (show q < 4 by omega) hb hbs hd, Option.bind_some, Bool.true_and]
            cases c3 : aheadC M T G t bs b q with
            | false =>
              rw [if_pos (show iB false = (0 : Int32) from rfl), i_100, iN_mul, iN_add]; rfl
            | true => rw [if_neg (show ¬ iB true = (0 : Int32) by decide), e212]; rfl
        · rw [if_neg (show ¬ iN (tmL M T G q (bs.getD b [])) = iN o by rw [iN_eq (by omega) (by omega)]; exact c1), e212, decide_eq_false c1]; rfl
      | succ i ih =>
        intro N' hi hN'
        obtain ⟨N', rfl⟩ : ∃ j, N' = j + 1 := ⟨N' - 1, by omega⟩
        have ih2 := ih N' (by omega) (by omega)
        have hc := hcn i (by omega)
        have ha := h.2.2.2.1 _ hc
        rw [drop_c (show i < (bs.getD b []).length by omega), tmL_c] at ih2
        rw [lp_1]
        generalize lp (fL_wanted_93 N rec3 rec68 σ (iN (codB 0 bs).length) (iN o) (iN b) (iN fr) (iN (bs.getD b []).length) (iN q)) N' = R at ih2
        rw [← ih2]
        have e143 : ∀ w, fL_wanted_143 N rec3 rec68 R σ (iN (codB 0 bs).length) (iN o) (iN b) (iN fr) (iN (bs.getD b []).length) (iN q) (iN (fr + i)) w = R (w, iP (fr + i)) := fun w => by
          unfold fL_wanted_143
          rw [iP_m]
        show fL_wanted_93 N rec3 rec68 σ (iN (codB 0 bs).length) (iN o) (iN b) (iN fr) (iN (bs.getD b []).length) (iN q) R (iN (tmL M T G q ((bs.getD b []).drop (i + 1))), iN (fr + i)) = _
        unfold fL_wanted_93
        dsimp only
        have ed : (iN ((bs.getD b []).getD i 0 + 100 * b) / 100 : Int32) = iN b := by rw [i_100, iN_div (by omega) (by omega), show ((bs.getD b []).getD i 0 + 100 * b) / 100 = b by omega]
        have em : (iN ((bs.getD b []).getD i 0 + 100 * b) - iN b * 100 : Int32) = iN ((bs.getD b []).getD i 0) := by rw [i_100, iN_mul, iN_sub (by omega) (by omega), show (bs.getD b []).getD i 0 + 100 * b - b * 100 = (bs.getD b []).getD i 0 by omega]
        have ebit : ((((rqG M ((bs.getD b []).getD i 0) T G) >>> (iN q &&& 31)) &&& 1) = (1 : Int32)) = (tb (rqG M ((bs.getD b []).getD i 0) T G) q = true) := tb_sh1 _ (show q < 32 by omega)
        rw [if_neg (show ¬ iN (fr + i) < iN fr by rw [iN_lt (by omega) (by omega)]; omega), if_neg (gi (show fr + i < 32 by omega) (by decide)), iN_cl (show fr + i < 2147483648 by omega), hpos i (by omega), ed, em, L_req hN hM h hc, Option.bind_some]
        by_cases c : tb (rqG M ((bs.getD b []).getD i 0) T G) q = true
        · rw [if_pos (ebit.mpr c), if_neg (gj (show fr + i < 32 by omega) (by decide)), if_neg (gi (show (bs.getD b []).getD i 0 < 24 by omega) (by decide)), iN_cl (show (bs.getD b []).getD i 0 < 2147483648 by omega), t162, ha.1, i_3, iN_div (by omega) (by omega), iN_mul, iN_sub (by omega) (by omega), e143, if_pos c]
          rfl
        · rw [if_neg (fun x => c (ebit.mp x)), e143, if_neg c]
    rw [iN_add, iP_eq _ (by omega)]
    have := key (bs.getD b []).length N (Nat.le_refl _) (by omega)
    rw [List.drop_length] at this
    exact this
  -- a batch's tests
  have e68 : ∀ (rec3 : Int32 → Option Int32) (b : Nat), b < bs.length → lp (fL_wanted_68 N rec3 σ (iN (codB 0 bs).length) (iN o) (iN b) (iN (bs.take b).flatten.length) (iN (bs.getD b []).length)) N 0 = (match lo (pW M T G V t bs o b) T with
      | some q => some (iN (100 * b + q))
      | none => rec3 (iN (b + 1))) := fun rec3 b hb => by
    have hne : 0 < (bs.getD b []).length := by
      rcases Nat.eq_zero_or_pos (bs.getD b []).length with z | z
      · exact absurd (List.length_eq_zero_iff.mp z) (b3 _ (gD_memL hb)).1
      · exact z
    have hl16 : (bs.getD b []).length ≤ 16 := by
      have h1 : ∀ (bs : List (List Nat)) (b : Nat), b < bs.length → (bs.getD b []).length ≤ bs.flatten.length := by
        intro bs
        induction bs with
        | nil => intro b h; exact absurd h (Nat.not_lt_zero b)
        | cons l r ih =>
          intro b h
          rw [List.flatten_cons, List.length_append]
          cases b with
          | zero => exact Nat.le_add_right _ _
          | succ b => have := ih b (by simpa using h); exact Nat.le_trans this (Nat.le_add_left _ _)
      have := h1 bs b hb
      rw [codB_len] at b4; omega
    have key : ∀ (m q N' : Nat), q + m = T → m < N' → lp (fL_wanted_68 N rec3 σ (iN (codB 0 bs).length) (iN o) (iN b) (iN (bs.take b).flatten.length) (iN (bs.getD b []).length)) N' (iN q) = (match loF (pW M T G V t bs o b) q m with
        | some q => some (iN (100 * b + q))
        | none => rec3 (iN (b + 1))) := by
      intro m
      induction m with
      | zero =>
        intro q N' hq hN'
        obtain ⟨N', rfl⟩ : ∃ j, N' = j + 1 := ⟨N' - 1, by omega⟩
        rw [lp_1]
        unfold fL_wanted_68
        rw [hs2, if_pos (show iN T ≤ iN q by rw [iN_le (by omega) (by omega)]; omega)]
        unfold fL_wanted_218
        rw [i_1, iN_add]; rfl
      | succ m ih =>
        intro q N' hq hN'
        obtain ⟨N', rfl⟩ : ∃ j, N' = j + 1 := ⟨N' - 1, by omega⟩
        have ih2 := ih (q + 1) N' (by omega) (by omega)
        have h93 := e93 rec3 (lp (fL_wanted_68 N rec3 σ (iN (codB 0 bs).length) (iN o) (iN b) (iN (bs.take b).flatten.length) (iN (bs.getD b []).length)) N') b q hb (by omega)
        rw [lp_1]
        generalize lp (fL_wanted_68 N rec3 σ (iN (codB 0 bs).length) (iN o) (iN b) (iN (bs.take b).flatten.length) (iN (bs.getD b []).length)) N' = R at ih2 h93
        unfold fL_wanted_68
        rw [hs2, if_neg (show ¬ iN T ≤ iN q by rw [iN_le (by omega) (by omega)]; omega), if_neg (show ¬ iN (bs.getD b []).length ≤ (0 : Int32) by rw [i_0, iN_le (by omega) (by omega)]; omega), h93]
        show _ = (match (if pW M T G V t bs o b q = true then some q else loF (pW M T G V t bs o b) (q + 1) m) with
          | some q => some (iN (100 * b + q))
          | none => rec3 (iN (b + 1)))
        by_cases c : pW M T G V t bs o b q = true
        · rw [if_pos c, if_pos c]
        · rw [if_neg c, if_neg c]; exact ih2
    have := key T 0 N (by omega) (by omega)
    rw [loF_lo] at this; exact this
  -- a batch
  have e18 : ∀ (rec3 : Int32 → Option Int32) (b : Nat), b < bs.length → lp (fL_wanted_18 N rec3 σ (iN (codB 0 bs).length) (iN o) (iN b)) N (0, 0) = (match lo (pW M T G V t bs o b) T with
      | some q => some (iN (100 * b + q))
      | none => rec3 (iN (b + 1))) := fun rec3 b hb => by
    refine lp_run (F := fL_wanted_18 N rec3 σ (iN (codB 0 bs).length) (iN o) (iN b)) (fun j => (iN (cntD b ((codB 0 bs).take j)), iN j)) (codB 0 bs).length (fun j hj rec => ?_) (fun rec => ?_) N (by omega)
    · have hv : (codB 0 bs).getD j 0 < 500 := by
        obtain ⟨b', c, x1, x2, x3⟩ := (codB_mem bs 0 _).mp (gD_mem hj)
        have := h100 _ (gD_memL x1) c x2
        omega
      have e1 : cntD b ((codB 0 bs).take (j + 1)) = cntD b ((codB 0 bs).take j) + (if (codB 0 bs).getD j 0 / 100 < b then 1 else 0) := by
        rw [take_snoc hj, cntD_app]; rfl
      rw [e1]
      unfold fL_wanted_18 fL_wanted_45
      dsimp only
      rw [if_neg (show ¬ iN (codB 0 bs).length ≤ iN j by rw [iN_le (by omega) (by omega)]; omega), if_neg (gi (show j < 32 by omega) (by decide)), iN_cl (show j < 2147483648 by omega), hd.1 j hj, i_100, iN_div (by omega) (by omega), i_1, iN_add]
      by_cases c : (codB 0 bs).getD j 0 / 100 < b
      · rw [if_neg (show ¬ iN b ≤ iN ((codB 0 bs).getD j 0 / 100) by rw [iN_le (by omega) (by omega)]; omega), if_pos c, iN_add]
      · rw [if_pos (show iN b ≤ iN ((codB 0 bs).getD j 0 / 100) by rw [iN_le (by omega) (by omega)]; omega), if_neg c, i_0, iN_add]
    · have hm := L_many (N := N) (σ := σ) (b := b) (l := codB 0 bs) hN (by omega) (by omega) hd.1 (fun v hv => by
        obtain ⟨b', c, x1, x2, x3⟩ := (codB_mem bs 0 v).mp hv
        have := h100 _ (gD_memL x1) c x2
        omega)
      rw [cntC_cod bs 0 h100, if_pos (Nat.zero_le b), Nat.sub_zero] at hm
      have hcd := cntD_cod (b := b) bs 0 h100 (Nat.zero_le b)
      rw [Nat.sub_zero] at hcd
      unfold fL_wanted_18
      dsimp only
      rw [if_pos (show iN (codB 0 bs).length ≤ iN (codB 0 bs).length by rw [iN_le (by omega) (by omega)]; omega), hm, Option.bind_some, List.take_length, hcd]
      exact e68 rec3 b hb
  -- behind the last batch
  have e18z : ∀ (rec3 : Int32 → Option Int32) (b : Nat), bs.length ≤ b → b < 5 → lp (fL_wanted_18 N rec3 σ (iN (codB 0 bs).length) (iN o) (iN b)) N (0, 0) = rec3 (iN (b + 1)) := fun rec3 b hb hb5 => by
    refine lp_run (F := fL_wanted_18 N rec3 σ (iN (codB 0 bs).length) (iN o) (iN b)) (fun j => (iN (cntD b ((codB 0 bs).take j)), iN j)) (codB 0 bs).length (fun j hj rec => ?_) (fun rec => ?_) N (by omega)
    · have hv : (codB 0 bs).getD j 0 < 500 := by
        obtain ⟨b', c, x1, x2, x3⟩ := (codB_mem bs 0 _).mp (gD_mem hj)
        have := h100 _ (gD_memL x1) c x2
        omega
      have e1 : cntD b ((codB 0 bs).take (j + 1)) = cntD b ((codB 0 bs).take j) + (if (codB 0 bs).getD j 0 / 100 < b then 1 else 0) := by
        rw [take_snoc hj, cntD_app]; rfl
      rw [e1]
      unfold fL_wanted_18 fL_wanted_45
      dsimp only
      rw [if_neg (show ¬ iN (codB 0 bs).length ≤ iN j by rw [iN_le (by omega) (by omega)]; omega), if_neg (gi (show j < 32 by omega) (by decide)), iN_cl (show j < 2147483648 by omega), hd.1 j hj, i_100, iN_div (by omega) (by omega), i_1, iN_add]
      by_cases c : (codB 0 bs).getD j 0 / 100 < b
      · rw [if_neg (show ¬ iN b ≤ iN ((codB 0 bs).getD j 0 / 100) by rw [iN_le (by omega) (by omega)]; omega), if_pos c, iN_add]
      · rw [if_pos (show iN b ≤ iN ((codB 0 bs).getD j 0 / 100) by rw [iN_le (by omega) (by omega)]; omega), if_neg c, i_0, iN_add]
    · have hm := L_many (N := N) (σ := σ) (b := b) (l := codB 0 bs) hN (by omega) (by omega) hd.1 (fun v hv => by
        obtain ⟨b', c, x1, x2, x3⟩ := (codB_mem bs 0 v).mp hv
        have := h100 _ (gD_memL x1) c x2
        omega)
      rw [cntC_cod bs 0 h100, if_pos (Nat.zero_le b), Nat.sub_zero, gD_ge hb] at hm
      obtain ⟨k, rfl⟩ : ∃ k, N = k + 1 := ⟨N - 1, by omega⟩
      unfold fL_wanted_18
      dsimp only
      rw [if_pos (show iN (codB 0 bs).length ≤ iN (codB 0 bs).length by rw [iN_le (by omega) (by omega)]; omega), hm, Option.bind_some, lp_1]
      unfold fL_wanted_68 fL_wanted_218
      rw [if_pos (show iN ([] : List Nat).length ≤ (0 : Int32) by decide), i_1, iN_add]
      split <;> rfl
  have hend : ∀ (m b N' : Nat), bs.length ≤ b → b + m = dp → m < N' → lp (fL_wanted_3 N σ (iN (codB 0 bs).length) (iN o)) N' (iN b) = some iM := by
    intro m
    induction m with
    | zero =>
      intro b N' hb hm hN'
      obtain ⟨N', rfl⟩ : ∃ j, N' = j + 1 := ⟨N' - 1, by omega⟩
      rw [lp_1]
      unfold fL_wanted_3
      rw [hs6, if_pos (show iN dp ≤ iN b by rw [iN_le (by omega) (by omega)]; omega)]
      rfl
    | succ m ih =>
      intro b N' hb hm hN'
      obtain ⟨N', rfl⟩ : ∃ j, N' = j + 1 := ⟨N' - 1, by omega⟩
      have ih2 := ih (b + 1) N' (by omega) (by omega) (by omega)
      rw [lp_1]
      generalize lp (fL_wanted_3 N σ (iN (codB 0 bs).length) (iN o)) N' = R at ih2
      unfold fL_wanted_3
      rw [hs6, if_neg (show ¬ iN dp ≤ iN b by rw [iN_le (by omega) (by omega)]; omega), e18z R b hb (by omega), ih2]
  have key : ∀ (m b N' : Nat), b + m = bs.length → dp - b < N' → lp (fL_wanted_3 N σ (iN (codB 0 bs).length) (iN o)) N' (iN b) = some (iW (w2 (pW M T G V t bs o) T b m)) := by
    intro m
    induction m with
    | zero =>
      intro b N' hb hN'
      exact hend (dp - b) b N' (by omega) (by omega) hN'
    | succ m ih =>
      intro b N' hb hN'
      obtain ⟨N', rfl⟩ : ∃ j, N' = j + 1 := ⟨N' - 1, by omega⟩
      have ih2 := ih (b + 1) N' (by omega) (by omega)
      rw [lp_1]
      generalize lp (fL_wanted_3 N σ (iN (codB 0 bs).length) (iN o)) N' = R at ih2
      unfold fL_wanted_3
      rw [hs6, if_neg (show ¬ iN dp ≤ iN b by rw [iN_le (by omega) (by omega)]; omega), e18 R b (by omega), w2_s]
      cases lo (pW M T G V t bs o b) T with
      | some q => rfl
      | none => exact ih2
  unfold fL_wanted
  by_cases hz : bs.length = 0
  · rw [hz]
    exact hend (dp - 1) 1 N (by omega) (by omega) (by omega)
  · exact key (bs.length - 1) 1 N (by omega) (by omega)
