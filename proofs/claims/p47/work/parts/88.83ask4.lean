/-! which batch a change is in, on both sides -/
theorem takeB_inn {M : gS} : ∀ (l : List Nat) (sz : Nat) (inn : Nat → Bool) (t : Int64), ∀ c ∈ takeB M l sz inn t, inn c = false
  | [], _, _, _ => by unfold takeB; intro c h; cases h
  | _ :: _, 0, _, _ => by unfold takeB; intro c h; cases h
  | d :: r, sz + 1, inn, t => by
    unfold takeB
    intro c hc
    by_cases h : freeB M inn d t = true
    · rw [if_pos h] at hc
      rcases List.mem_cons.mp hc with e | e
      · rw [e]
        unfold freeB at h
        cases hi : inn d with
        | false => rfl
        | true => rw [hi] at h; exact absurd h (by simp)
      · have := takeB_inn r sz (inU inn d) (ontoM M t d) c e
        unfold inU at this
        rw [Bool.or_eq_false_iff] at this
        exact this.1
    · rw [if_neg h] at hc
      exact takeB_inn r (sz + 1) inn t c hc
theorem batL_dis {M : gS} {ord : List Nat} {sz : Nat} : ∀ (k : Nat) (inn : Nat → Bool) (t : Int64), (∀ l ∈ batL M ord sz k inn t, ∀ c ∈ l, inn c = false) ∧ ∀ i j, i < j → j < (batL M ord sz k inn t).length → ∀ c, c ∈ (batL M ord sz k inn t).getD i [] → c ∉ (batL M ord sz k inn t).getD j []
  | 0, inn, t => ⟨fun l hl => (by cases hl), fun i j _ hj => absurd hj (Nat.not_lt_zero j)⟩
  | k + 1, inn, t => by
    cases e : takeB M ord sz inn t with
    | nil =>
      rw [batL_nil e]
      exact ⟨fun l hl => (by cases hl), fun i j _ hj => absurd hj (Nat.not_lt_zero j)⟩
    | cons d r =>
      rw [batL_cons e]
      have ih := batL_dis (M := M) (ord := ord) (sz := sz) k (inL inn (d :: r)) (treeL M t (d :: r))
      have hin := takeB_inn (M := M) ord sz inn t
      rw [e] at hin
      refine ⟨fun l hl c hc => ?_, fun i j hij hj c hci => ?_⟩
      · rcases List.mem_cons.mp hl with el | el
        · rw [el] at hc; exact hin c hc
        · have := ih.1 l el c hc
          rw [inL_eq, Bool.or_eq_false_iff] at this
          exact this.1
      · cases j with
        | zero => omega
        | succ j' =>
          rw [List.getD_cons_succ]
          rw [List.length_cons] at hj
          cases i with
          | zero =>
            rw [List.getD_cons_zero] at hci
            intro hcj
            have := ih.1 _ (gD_memL (show j' < _ by omega)) c hcj
            rw [inL_eq, Bool.or_eq_false_iff, decide_eq_false_iff_not] at this
            exact this.2 hci
          | succ i' =>
            rw [List.getD_cons_succ] at hci
            exact ih.2 i' j' (by omega) (by omega) c hci
/-- the law's: the last code that names it -/
def boF (c : Nat) (b : Option Nat) (v : Nat) : Option Nat := if v - v / 100 * 100 = c then some (v / 100) else b
def boL (c : Nat) (b : Option Nat) (l : List Nat) : Option Nat := l.foldl (boF c) b
theorem boL_map {c a : Nat} (hc : c < 100) : ∀ (l : List Nat) (b : Option Nat), (∀ d ∈ l, d < 100) → boL c b (l.map (fun d => d + 100 * a)) = if c ∈ l then some a else b
  | [], b, _ => by rw [if_neg (by simp)]; rfl
  | d :: r, b, h => by
    have hd := h d List.mem_cons_self
    have ih := boL_map (c := c) (a := a) hc r (boF c b (d + 100 * a)) (fun e he => h e (List.mem_cons_of_mem _ he))
    show boL c (boF c b (d + 100 * a)) (r.map (fun d => d + 100 * a)) = _
    rw [ih]
    have e1 : d + 100 * a - (d + 100 * a) / 100 * 100 = d := by omega
    have e2 : (d + 100 * a) / 100 = a := by omega
    unfold boF
    rw [e1, e2]
    by_cases c1 : c ∈ r
    · rw [if_pos c1, if_pos (List.mem_cons_of_mem _ c1)]
    · rw [if_neg c1]
      by_cases c2 : d = c
      · rw [if_pos c2, if_pos (by rw [c2]; exact List.mem_cons_self)]
      · rw [if_neg c2, if_neg (fun x => by rcases List.mem_cons.mp x with y | y; exact c2 y.symm; exact c1 y)]
theorem boL_app (c : Nat) (b : Option Nat) (l m : List Nat) : boL c b (l ++ m) = boL c (boL c b l) m := List.foldl_append
theorem boL_out {c : Nat} (hc : c < 100) : ∀ (bs : List (List Nat)) (a : Nat) (b : Option Nat), (∀ l ∈ bs, ∀ d ∈ l, d < 100) → (∀ l ∈ bs, c ∉ l) → boL c b (codB a bs) = b
  | [], _, _, _, _ => rfl
  | l :: r, a, b, h, hn => by
    rw [codB_cons, boL_app, boL_map hc l b (h l List.mem_cons_self), if_neg (hn l List.mem_cons_self)]
    exact boL_out hc r (a + 1) b (fun m hm => h m (List.mem_cons_of_mem _ hm)) (fun m hm => hn m (List.mem_cons_of_mem _ hm))
theorem boL_in {c : Nat} (hc : c < 100) : ∀ (bs : List (List Nat)) (a k : Nat) (b : Option Nat), (∀ l ∈ bs, ∀ d ∈ l, d < 100) → k < bs.length → c ∈ bs.getD k [] → (∀ j, k < j → j < bs.length → c ∉ bs.getD j []) → boL c b (codB a bs) = some (a + k)
  | [], _, _, _, _, hk, _, _ => absurd hk (Nat.not_lt_zero _)
  | l :: r, a, k, b, h, hk, hin, hno => by
    have h' : ∀ m ∈ r, ∀ d ∈ m, d < 100 := fun m hm => h m (List.mem_cons_of_mem _ hm)
    rw [codB_cons, boL_app, boL_map hc l b (h l List.mem_cons_self)]
    rw [List.length_cons] at hk
    cases k with
    | zero =>
      rw [List.getD_cons_zero] at hin
      rw [if_pos hin, Nat.add_zero a]
      refine boL_out hc r (a + 1) _ h' (fun m hm => ?_)
      obtain ⟨j, hj, e⟩ := List.getElem_of_mem hm
      have := hno (j + 1) (by omega) (by rw [List.length_cons]; omega)
      rw [List.getD_cons_succ, List.getD_eq_getElem?_getD, List.getElem?_eq_getElem hj, Option.getD_some, e] at this
      exact this
    | succ k' =>
      rw [List.getD_cons_succ] at hin
      rw [boL_in hc r (a + 1) k' _ h' (by omega) hin (fun j h1 h2 => by
        have := hno (j + 1) (by omega) (by rw [List.length_cons]; omega)
        rw [List.getD_cons_succ] at this; exact this)]
      rw [show a + 1 + k' = a + (k' + 1) by omega]
/-- the class's: the first place of a row that holds it -/
def posL (c : Nat) : List Nat → Option Nat
  | [] => none
  | v :: r => if v = c then some 0 else (posL c r).map (· + 1)
theorem posL_some {c : Nat} : ∀ (l : List Nat) (p : Nat), posL c l = some p → p < l.length ∧ l.getD p 0 = c
  | [], _, h => (nomatch h)
  | v :: r, p, h => by
    unfold posL at h
    by_cases e : v = c
    · rw [if_pos e] at h; cases h
      exact ⟨by rw [List.length_cons]; omega, by rw [List.getD_cons_zero]; exact e⟩
    · rw [if_neg e] at h
      cases q : posL c r with
      | none => rw [q] at h; exact (nomatch h)
      | some p' =>
        rw [q] at h; cases h
        obtain ⟨h1, h2⟩ := posL_some r p' q
        exact ⟨by show p' + 1 < (v :: r).length; rw [List.length_cons]; omega, by show (v :: r).getD (p' + 1) 0 = c; rw [List.getD_cons_succ]; exact h2⟩
theorem posL_none {c : Nat} : ∀ (l : List Nat), posL c l = none → c ∉ l
  | [], _ => by simp
  | v :: r, h => by
    unfold posL at h
    by_cases e : v = c
    · rw [if_pos e] at h; exact (nomatch h)
    · rw [if_neg e] at h
      cases q : posL c r with
      | none =>
        intro hc
        rcases List.mem_cons.mp hc with y | y
        · exact e y.symm
        · exact posL_none r q y
      | some p' => rw [q] at h; exact (nomatch h)
theorem X_posL {N : Nat} {σ : gS} {l : List Nat} {c : Nat} (hN : 100 ≤ N) (hl : l.length ≤ 24) (h1 : σ.1 112 1 = iN l.length) (h2 : ∀ j, j < l.length → σ.2.1 113 j = jN (l.getD j 0)) (hs : ∀ x ∈ l, x < 1000) (hc1 : c < 1000) : fX8_placeOf N σ 112 (jN c) = some (iO (posL c l)) := by
  have key : ∀ m j N', j + m = l.length → m < N' → lp (fX8_placeOf_2 N σ 112 (jN c)) N' (iN j) = some (iO ((posL c (l.drop j)).map (· + j))) := by
    intro m
    induction m with
    | zero =>
      intro j N' hj hN'
      obtain ⟨N2, rfl⟩ : ∃ k, N' = k + 1 := ⟨N' - 1, by omega⟩
      rw [lp_1, List.drop_eq_nil_of_le (by omega)]
      generalize lp (fX8_placeOf_2 N σ 112 (jN c)) N2 = R
      unfold fX8_placeOf_2 fX8_placeOf_38
      rw [h1, if_pos (show iN l.length ≤ iN j by rw [iN_le (by omega) (by omega)]; omega)]
      rfl
    | succ m ih =>
      intro j N' hj hN'
      obtain ⟨N2, rfl⟩ : ∃ k, N' = k + 1 := ⟨N' - 1, by omega⟩
      have hx := h2 j (by omega)
      have hmem : l.getD j 0 ∈ l := gD_mem (by omega)
      have hxs := hs _ hmem
      have ed : l.drop j = l.getD j 0 :: l.drop (j + 1) := by
        rw [List.drop_eq_getElem_cons (show j < l.length by omega), List.getD_eq_getElem?_getD, List.getElem?_eq_getElem (show j < l.length by omega), Option.getD_some]
      have ih' := ih (j + 1) N2 (by omega) (by omega)
      rw [lp_1]
      generalize lp (fX8_placeOf_2 N σ 112 (jN c)) N2 = R at ih'
      have hg : gle σ.2.2 (112 + 1) = 32 := rfl
      unfold fX8_placeOf_2
      rw [h1, if_neg (show ¬ iN l.length ≤ iN j by rw [iN_le (by omega) (by omega)]; omega), hg, if_neg (show ¬ Int32.ofNat 32 ≤ iN j by rw [show Int32.ofNat 32 = iN 32 from rfl, iN_le (by omega) (by omega)]; omega), if_neg (gi (show j < 32 by omega) (by decide)), iN_cl (show j < 2147483648 by omega), hx, ed]
      have ec : (lg_cmp (jN (l.getD j 0)) (jN c) = 0) = (l.getD j 0 = c) := by
        rw [show (lg_cmp (jN (l.getD j 0)) (jN c) = 0) = (jN (l.getD j 0) = jN c) from lgc0]
        refine propext ⟨fun e => ?_, fun e => by rw [e]⟩
        have := congrArg Int64.toInt e
        rw [jN_toInt (by omega), jN_toInt (by omega)] at this
        omega
      unfold posL
      by_cases e : l.getD j 0 = c
      · rw [if_pos (by rw [ec]; exact e), if_pos e]
        show some (iN j) = some (iN (0 + j))
        rw [Nat.zero_add]
      · rw [if_neg (by rw [ec]; exact e), if_neg e, show iN j + (1 : Int32) = iN (j + 1) from iN_add _ 1, ih']
        cases posL c (l.drop (j + 1)) with
        | none => rfl
        | some p => show some (iN (p + (j + 1))) = some (iN (p + 1 + j)); rw [show p + (j + 1) = p + 1 + j by omega]
  have := key l.length 0 N (by omega) (by omega)
  unfold fX8_placeOf
  rw [show (0 : Int32) = iN 0 from rfl, this, List.drop_zero]
  cases posL c l with
  | none => rfl
  | some p => rfl
/-- where a place of the lane lies -/
theorem flat_plc : ∀ (bs : List (List Nat)) (p : Nat), p < bs.flatten.length → ∃ k, k < bs.length ∧ (bs.take k).flatten.length ≤ p ∧ p < (bs.take (k + 1)).flatten.length ∧ bs.flatten.getD p 0 ∈ bs.getD k []
  | [], p, h => absurd h (Nat.not_lt_zero p)
  | l :: r, p, h => by
    rw [List.flatten_cons, List.length_append] at h
    by_cases c : p < l.length
    · refine ⟨0, by rw [List.length_cons]; omega, Nat.zero_le _, ?_, ?_⟩
      · rw [take1, List.getD_cons_zero]; exact c
      · rw [List.getD_cons_zero, List.flatten_cons, List.getD_eq_getElem?_getD, List.getElem?_append_left c, ← List.getD_eq_getElem?_getD]
        exact gD_mem c
    · obtain ⟨k, h1, h2, h3, h4⟩ := flat_plc r (p - l.length) (by omega)
      refine ⟨k + 1, by rw [List.length_cons]; omega, ?_, ?_, ?_⟩
      · rw [List.take_succ_cons, List.flatten_cons, List.length_append]; omega
      · rw [List.take_succ_cons, List.flatten_cons, List.length_append]; omega
      · have e : (l ++ r.flatten).getD p 0 = r.flatten.getD (p - l.length) 0 := by
          rw [List.getD_eq_getElem?_getD, List.getElem?_append_right (by omega), ← List.getD_eq_getElem?_getD]
        rw [List.getD_cons_succ, List.flatten_cons, e]
        exact h4
theorem flat_mono (bs : List (List Nat)) {i j : Nat} (h : i ≤ j) : (bs.take i).flatten.length ≤ (bs.take j).flatten.length := by
  have e : bs.take i = (bs.take j).take i := by rw [List.take_take, Nat.min_eq_left h]
  have := List.take_append_drop i (bs.take j)
  rw [e]
  conv => { rhs; rw [← this] }
  rw [List.flatten_append, List.length_append]
  omega
/-- the class's answer -/
theorem X_batchWith {N : Nat} {σ M : gS} {bs : List (List Nat)} {t : Int64} {c : Nat} (hN : 100 ≤ N) (hm : FmB σ M bs t) (hl : bs.flatten.length ≤ 16) (hb : bs.length ≤ 4) (hs : ∀ l ∈ bs, ∀ d ∈ l, d < 100) (hc : c < 100) (hdis : ∀ i j, i < j → j < bs.length → ∀ d, d ∈ bs.getD i [] → d ∉ bs.getD j []) : fX4_batchWith N σ (iN c) = some (iO (boL c none (codB 0 bs))) := by
  obtain ⟨f1, f2, f3, f4, _, _⟩ := hm
  have hs' : ∀ x ∈ bs.flatten, x < 1000 := fun x hx => by
    obtain ⟨l, h1, h2⟩ := List.mem_flatten.mp hx
    have := hs l h1 x h2; omega
  unfold fX4_batchWith
  rw [iN_64 (show c < 2147483648 by omega), X_posL hN (by omega) f1 f2 hs' (by omega), Option.bind_some]
  cases e : posL c bs.flatten with
  | none =>
    have hno := posL_none _ e
    have ho : boL c none (codB 0 bs) = none := boL_out hc bs 0 none hs (fun l hl hcl => hno (List.mem_flatten.mpr ⟨l, hl, hcl⟩))
    rw [ho]
    obtain ⟨N2, rfl⟩ : ∃ k, N = k + 1 := ⟨N - 1, by omega⟩
    rw [lp_1]
    generalize lp (fX4_batchWith_12 (N2 + 1) σ (iO none)) N2 = R
    unfold fX4_batchWith_12 fX4_batchWith_48
    by_cases c0 : σ.1 114 1 ≤ 0
    · rw [if_pos c0]; rfl
    · rw [if_neg c0, if_pos (show iO none = (-1 : Int32) from rfl)]; rfl
  | some p =>
    obtain ⟨p1, p2⟩ := posL_some _ _ e
    obtain ⟨k, k1, k2, k3, k4⟩ := flat_plc bs p p1
    rw [p2] at k4
    have hi : boL c none (codB 0 bs) = some k := by
      rw [boL_in hc bs 0 k none hs k1 k4 (fun j h1 h2 => hdis k j h1 h2 c k4), Nat.zero_add]
    rw [hi]
    have hfl : ∀ j, (bs.take j).flatten.length ≤ 16 := fun j => by
      by_cases hj : j ≤ bs.length
      · have := flat_mono bs hj
        rw [List.take_length] at this; omega
      · rw [List.take_of_length_le (by omega)]; exact hl
    have hw : ∀ j, j < bs.length → fX8_whole N σ 114 (iN j) = some (iN (bs.take (j + 1)).flatten.length) := fun j hj => by
      rw [X_whole (r := 114) (len := 4) rfl (show j < 4 by omega) (show (4 : Nat) < 1000 by decide), show σ.2.1 (114 + 1) j = _ from f4 j hj, jN_32 (by have := hfl (j + 1); omega)]
    refine lp_run (F := fX4_batchWith_12 N σ (iO (some p))) (fun j => iN j) k (fun j hj rec => ?_) (fun rec => ?_) N (by omega)
    · unfold fX4_batchWith_12
      have h1 := flat_mono bs (show j + 1 ≤ k by omega)
      have h2 := hfl (j + 1)
      rw [f3, if_neg (show ¬ iN bs.length ≤ iN j by rw [iN_le (by omega) (by omega)]; omega), show iO (some p) = iN p from rfl, if_neg (show ¬ iN p = (-1 : Int32) from iM_ne (by omega)), hw j (by omega), Option.bind_some, if_pos (show iN (bs.take (j + 1)).flatten.length ≤ iN p by rw [iN_le (by omega) (by omega)]; omega), show iN j + (1 : Int32) = iN (j + 1) from iN_add _ 1]
    · unfold fX4_batchWith_12
      have h2 := hfl (k + 1)
      rw [f3, if_neg (show ¬ iN bs.length ≤ iN k by rw [iN_le (by omega) (by omega)]; omega), show iO (some p) = iN p from rfl, if_neg (show ¬ iN p = (-1 : Int32) from iM_ne (by omega)), hw k k1, Option.bind_some, if_neg (show ¬ iN (bs.take (k + 1)).flatten.length ≤ iN p by rw [iN_le (by omega) (by omega)]; omega)]
      rfl
