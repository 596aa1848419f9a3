/-! a run that is open and on no machine -/
def onB (M : gS) (q : Nat) (t : Int64) (j : Nat) : Bool := decide (M.1 176 (6 * j) = iN q) && (decide (M.1 176 (6 * j + 2) = iN 0) && decide (gKey M q (M.2.1 177 j) = gKey M q t))
def frM (M : gS) (V q : Nat) (t : Int64) : Bool := (sVer M V q t == 0) && !sAny (onB M q t) 3
theorem L_isFree {N : Nat} {σ M : gS} {n T G V q : Nat} {t : Int64} (hN : 100 ≤ N) (hM : lawOf σ = M) (h : LF M n T G V) (hq : q < 4) (hy : ∀ j, j < 3 → M.1 176 (6 * j + 2) = iN 0 ∨ M.1 176 (6 * j + 2) = iN 1) : fL_isFree N σ (iN q) t = some (iB (frM M V q t)) := by
  have t176 : σ.1 176 = M.1 176 := lw1 hM (by omega)
  have t177 : σ.2.1 177 = M.2.1 177 := lw2 hM (by omega)
  have h3 := sVer3 M V q t
  have key : ∀ b : Bool, fL_isFree_19 N σ (iN q) t (iB b) = some (iB (b && !sAny (onB M q t) 3)) := fun b => by
    unfold fL_isFree_19
    have := lp_run (F := fL_isFree_24 N σ (iN q) t) (out := some (iB (b && !sAny (onB M q t) 3))) (fun j => (iB (b && !sAny (onB M q t) j), iN j)) 3 (fun j hj rec => ?_) (fun rec => ?_) N (by omega)
    · have e : (b && !sAny (onB M q t) 0) = b := by show (b && !false) = b; simp
      rw [e] at this; exact this
    · have e88 : fL_isFree_88 N rec σ (iN q) t (iN j) = rec (iB false, iN (j + 1)) := by
        unfold fL_isFree_88 fL_isFree_89
        rw [i_1, iN_add]; rfl
      have e84 : fL_isFree_84 N rec σ (iN q) t (iN j) = rec (iB true, iN (j + 1)) := by
        unfold fL_isFree_84 fL_isFree_89
        rw [i_1, iN_add]; rfl
      unfold fL_isFree_24
      dsimp only
      rw [if_neg (show ¬ (3 : Int32) ≤ iN j by rw [i_3, iN_le (by omega) (by omega)]; omega), sAny_s]
      cases c : (b && !sAny (onB M q t) j) with
      | false =>
        have e : (b && !(sAny (onB M q t) j || onB M q t j)) = false := by
          revert c; cases b <;> cases sAny (onB M q t) j <;> simp
        rw [if_pos (show iB false = (0 : Int32) from rfl), e88, e]
      | true =>
        have e : (b && !(sAny (onB M q t) j || onB M q t j)) = !onB M q t j := by
          revert c; cases b <;> cases sAny (onB M q t) j <;> simp
        rw [if_neg (show ¬ iB true = (0 : Int32) by decide), e, i_6, iN_mul, if_neg (gi (show 6 * j < 18 by omega) (by decide)), iN_cl (show 6 * j < 2147483648 by omega), t176]
        unfold onB
        by_cases c1 : M.1 176 (6 * j) = iN q
        · rw [if_pos c1, i_2, iN_add, if_neg (gi (show 6 * j + 2 < 18 by omega) (by decide)), iN_cl (show 6 * j + 2 < 2147483648 by omega), decide_eq_true c1]
          by_cases c2 : M.1 176 (6 * j + 2) = iN 0
          · rw [if_pos (show M.1 176 (6 * j + 2) = (0 : Int32) from c2), if_neg (gi hj (by decide)), iN_cl (show j < 2147483648 by omega), t177, L_key hN hM hq, Option.bind_some, L_key hN hM hq, Option.bind_some, decide_eq_true c2]
            by_cases c3 : gKey M q (M.2.1 177 j) = gKey M q t
            · rw [if_pos (show lg_cmp _ _ = (0 : Int32) from by rw [i_0, lgc0]; exact c3), e88, decide_eq_true c3]; rfl
            · rw [if_neg (show ¬ lg_cmp _ _ = (0 : Int32) from by rw [i_0, lgc0]; exact c3), e84, decide_eq_false c3]; rfl
          · rw [if_neg (show ¬ M.1 176 (6 * j + 2) = (0 : Int32) from c2), e84, decide_eq_false c2]; rfl
        · rw [if_neg c1, e84, decide_eq_false c1]; rfl
    · unfold fL_isFree_24
      dsimp only
      rw [if_pos (show (3 : Int32) ≤ iN 3 by decide), if_neg]
      cases (b && !sAny (onB M q t) 3) <;> decide
  unfold fL_isFree
  rw [L_ver hN hM h hq, Option.bind_some]
  unfold frM
  by_cases c : sVer M V q t = 0
  · rw [c, if_pos (show iN 0 = (0 : Int32) from rfl)]; exact key true
  · have e : (sVer M V q t == 0) = false := by simpa using c
    rw [if_neg (show ¬ iN (sVer M V q t) = (0 : Int32) by rw [i_0, iN_eq (by omega) (by omega)]; exact c), e]; exact key false
/-- the least that is so -/
def lo (p : Nat → Bool) : Nat → Option Nat
  | 0 => none
  | n + 1 => match lo p n with
    | some k => some k
    | none => if p n = true then some n else none
theorem lo_s (p : Nat → Bool) (n : Nat) : lo p (n + 1) = (match lo p n with
    | some k => some k
    | none => if p n = true then some n else none) := rfl
theorem lo_some {p : Nat → Bool} {k : Nat} : ∀ n, lo p n = some k ↔ (k < n ∧ p k = true ∧ ∀ j, j < k → p j = false)
  | 0 => ⟨fun h => (nomatch h), fun h => absurd h.1 (Nat.not_lt_zero k)⟩
  | n + 1 => by
    have ih := fun k => lo_some (p := p) (k := k) n
    have ihn : lo p n = none ↔ ∀ j, j < n → p j = false := by
      constructor
      · intro h j hj
        cases c : p j with
        | false => rfl
        | true =>
          obtain ⟨i, i1, i2, i3⟩ := least (p := fun j => p j = true) j c
          have := (ih i).mpr ⟨by omega, i2, fun x hx => by simpa using i3 x hx⟩
          rw [h] at this; cases this
      · intro h
        cases c : lo p n with
        | none => rfl
        | some i => have := (ih i).mp c; rw [h i this.1] at this; exact absurd this.2.1 (by decide)
    rw [lo_s]
    cases c : lo p n with
    | some i =>
      have hi := (ih i).mp c
      constructor
      · intro h
        have e : i = k := by simpa using h
        subst e
        exact ⟨by omega, hi.2.1, hi.2.2⟩
      · rintro ⟨h1, h2, h3⟩
        have e : i = k := by
          rcases Nat.lt_trichotomy i k with x | x | x
          · rw [h3 i x] at hi; exact absurd hi.2.1 (by decide)
          · exact x
          · rw [hi.2.2 k x] at h2; exact absurd h2 (by decide)
        rw [e]
    | none =>
      have hno := ihn.mp c
      dsimp only
      by_cases e : p n = true
      · rw [if_pos e]
        constructor
        · intro h
          have ek : n = k := by simpa using h
          subst ek
          exact ⟨by omega, e, hno⟩
        · rintro ⟨h1, h2, h3⟩
          have ek : n = k := by
            rcases Nat.lt_or_ge k n with x | x
            · rw [hno k x] at h2; exact absurd h2 (by decide)
            · omega
          rw [ek]
      · rw [if_neg e]
        constructor
        · intro h; cases h
        · rintro ⟨h1, h2, h3⟩
          rcases Nat.lt_or_ge k n with x | x
          · rw [hno k x] at h2; exact absurd h2 (by decide)
          · have : k = n := by omega
            rw [this] at h2; exact absurd h2 e
theorem lo_none {p : Nat → Bool} {n : Nat} : lo p n = none ↔ ∀ j, j < n → p j = false := by
  constructor
  · intro h j hj
    cases c : p j with
    | false => rfl
    | true =>
      obtain ⟨i, i1, i2, i3⟩ := least (p := fun j => p j = true) j c
      have := (lo_some (p := p) (k := i) n).mpr ⟨by omega, i2, fun x hx => by simpa using i3 x hx⟩
      rw [h] at this; cases this
  · intro h
    cases c : lo p n with
    | none => rfl
    | some i => have := (lo_some n).mp c; rw [h i this.1] at this; exact absurd this.2.1 (by decide)
theorem lo_congr {p p' : Nat → Bool} : ∀ n, (∀ j, j < n → p j = p' j) → lo p n = lo p' n
  | 0, _ => rfl
  | n + 1, h => by rw [lo_s, lo_s, lo_congr n (fun j hj => h j (by omega)), h n (by omega)]
def loD (p : Nat → Bool) : Nat → Option Nat → Option Nat
  | 0, f => f
  | k + 1, f => loD p k (if p k = true then some k else f)
theorem loD_lo (p : Nat → Bool) : ∀ (k : Nat) (f : Option Nat), loD p k f = match lo p k with
    | some x => some x
    | none => f
  | 0, f => rfl
  | k + 1, f => by
    show loD p k (if p k = true then some k else f) = _
    rw [loD_lo p k, lo_s]
    cases lo p k with
    | some x => rfl
    | none =>
      dsimp only
      by_cases c : p k = true
      · rw [if_pos c, if_pos c]
      · rw [if_neg c, if_neg c]
def iP : Nat → Int32
  | 0 => iM
  | k + 1 => iN k
theorem iP_eq (k : Nat) (h : k < 2147483648) : iN k - 1 = iP k := by
  cases k with
  | zero => exact iN_01
  | succ k =>
    show iN (k + 1) - iN 1 = iN k
    rw [iN_sub (by omega) (by omega), Nat.add_sub_cancel]
theorem iP_m (k : Nat) : iN k + (-1) = iP k := by
  cases k with
  | zero => decide
  | succ k =>
    show iN (k + 1) + iM = iN k
    rw [← iN_add, Int32.add_assoc, Int32.add_comm (iN 1), iM_1]
    rw [iN_add, Nat.add_zero]
theorem L_free {N : Nat} {σ M : gS} {n T G V : Nat} {t : Int64} {set : Int32} (hN : 100 ≤ N) (hM : lawOf σ = M) (h : LF M n T G V) (hy : ∀ j, j < 3 → M.1 176 (6 * j + 2) = iN 0 ∨ M.1 176 (6 * j + 2) = iN 1) : fL_free N σ set t = some (iO (lo (fun q => tb set q && frM M V q t) T)) := by
  have hT : σ.1 161 2 = iN T := by rw [lw1 hM (by omega)]; exact h.2.1.1
  have hT4 := h.2.1.2
  have key : ∀ (k N' : Nat) (f : Option Nat), k ≤ T → k < N' → lp (fL_free_10 N σ set t) N' (iO f, iP k) = some (iO (loD (fun q => tb set q && frM M V q t) k f)) := by
    intro k
    induction k with
    | zero =>
      intro N' f _ hN'
      obtain ⟨N', rfl⟩ : ∃ j, N' = j + 1 := ⟨N' - 1, by omega⟩
      rw [lp_1]
      unfold fL_free_10
      dsimp only
      rw [if_pos (show iP 0 < (0 : Int32) by decide)]
      rfl
    | succ k ih =>
      intro N' f hk hN'
      obtain ⟨N', rfl⟩ : ∃ j, N' = j + 1 := ⟨N' - 1, by omega⟩
      have ih2 := fun f => ih N' f (by omega) (by omega)
      show lp (fL_free_10 N σ set t) (N' + 1) (iO f, iN k) = some (iO (loD (fun q => tb set q && frM M V q t) k (if (tb set k && frM M V k t) = true then some k else f)))
      rw [lp_1]
      have e49 : fL_free_49 N (lp (fL_free_10 N σ set t) N') σ set t (iO f) (iN k) = lp (fL_free_10 N σ set t) N' (iO f, iP k) := by
        unfold fL_free_49 fL_free_51
        rw [iP_m]
      have e51 : fL_free_51 N (lp (fL_free_10 N σ set t) N') σ set t (iN k) (iN k) = lp (fL_free_10 N σ set t) N' (iO (some k), iP k) := by
        unfold fL_free_51
        rw [iP_m]; rfl
      have ebit : ((((set >>> (iN k &&& 31)) &&& 1) = (1 : Int32)) = (tb set k = true)) := tb_sh1 set (show k < 32 by omega)
      generalize lp (fL_free_10 N σ set t) N' = R at e49 e51 ih2 ⊢
      unfold fL_free_10
      dsimp only
      rw [if_neg (show ¬ iN k < (0 : Int32) by rw [i_0, iN_lt (by omega) (by omega)]; omega)]
      by_cases c : tb set k = true
      · rw [if_pos (ebit.mpr c), L_isFree hN hM h (show k < 4 by omega) hy, Option.bind_some, c]
        cases c2 : frM M V k t with
        | true => rw [if_neg (show ¬ iB true = (0 : Int32) by decide), e51, ih2]; rfl
        | false => rw [if_pos (show iB false = (0 : Int32) from rfl), e49, ih2]; rfl
      · have c0 : tb set k = false := by simpa using c
        rw [if_neg (fun x => c (ebit.mp x)), e49, ih2, c0]; rfl
  unfold fL_free
  rw [hT, iP_eq T (by omega)]
  have := key T N none (Nat.le_refl _) (by omega)
  rw [loD_lo] at this
  rw [show (-1 : Int32) = iO none from rfl, this]
  cases lo (fun q => tb set q && frM M V q t) T <;> rfl
