/-! a change leaves the queue with what hangs on it: the law -/
def lvG (M : gS) (c : Nat) : Nat → Nat → Bool
  | 0 => fun d => decide (d = c)
  | k + 1 => fun d => lvG M c k d || (decide (d = k) && (decide (M.1 164 k = iN 1) && hangB (lvG M c k) (par M k)))
theorem lvG_s (M : gS) (c k d : Nat) : lvG M c (k + 1) d = (lvG M c k d || (decide (d = k) && (decide (M.1 164 k = iN 1) && hangB (lvG M c k) (par M k)))) := rfl
theorem lvG_c (M : gS) (c : Nat) : ∀ k, lvG M c k c = true
  | 0 => decide_eq_true rfl
  | k + 1 => by rw [lvG_s, lvG_c M c k]; rfl
theorem lvG_hi (M : gS) (c : Nat) : ∀ k d, k ≤ d → d ≠ c → lvG M c k d = false
  | 0, d, _, h => decide_eq_false h
  | k + 1, d, h, h2 => by rw [lvG_s, lvG_hi M c k d (by omega) h2, decide_eq_false (show ¬ d = k by omega)]; rfl
theorem lvG_st (M : gS) (c d : Nat) : ∀ k, d < k → lvG M c k d = lvG M c (d + 1) d
  | 0, h => absurd h (Nat.not_lt_zero _)
  | k + 1, h => by
    by_cases e : d = k
    · rw [e]
    · rw [lvG_s, decide_eq_false e, Bool.false_and, Bool.or_false]; exact lvG_st M c d k (by omega)
theorem lvG_low {M : gS} {n c : Nat} (hp : parOK M n) (hc : c < n) : ∀ k, k ≤ c + 1 → ∀ d, lvG M c k d = decide (d = c)
  | 0, _, _ => rfl
  | k + 1, h, d => by
    have ih := lvG_low hp hc k (by omega)
    have e : hangB (lvG M c k) (par M k) = false := by
      cases q : par M k with
      | none => rfl
      | some r =>
        have := (hp k (by omega)).2 r q
        show lvG M c k r = false
        rw [ih r]; exact decide_eq_false (by omega)
    rw [lvG_s, ih d, e, Bool.and_false, Bool.and_false, Bool.or_false]
/-- queued ones stand on queued or landed ones -/
def qpOK (M : gS) (n : Nat) : Prop := ∀ c, c < n → M.1 164 c = iN 1 → ∀ q, par M c = some q → M.1 164 q = iN 1 ∨ M.1 164 q = iN 2
def stOK (M : gS) (n : Nat) : Prop := ∀ c, c < n → ∃ v, v ≤ 5 ∧ M.1 164 c = iN v
def row4 (σ : gS) (f : Nat → Int32) : gS := (fun k => if k = 164 then f else σ.1 k, σ.2)
theorem row4_1 (σ : gS) (f : Nat → Int32) : (row4 σ f).1 164 = f := by
  show (if (164 : Nat) = 164 then f else σ.1 164) = f
  exact if_pos rfl
theorem row4_far (σ : gS) (f : Nat → Int32) {k : Nat} (h : k ≠ 164) : (row4 σ f).1 k = σ.1 k := by
  unfold row4; exact if_neg h
theorem row4_sI (σ : gS) (f : Nat → Int32) (j : Nat) (v : Int32) : sI (row4 σ f) 164 j v = row4 σ (fun d => if d = j then v else f d) := by
  refine Prod.ext ?_ rfl
  funext k d
  rw [sI_1]
  by_cases h : k = 164
  · subst h
    rw [row4_1, row4_1]
    by_cases e : d = j
    · rw [if_pos ⟨rfl, e⟩, if_pos e]
    · rw [if_neg (fun x => e x.2), if_neg e]
  · rw [if_neg (fun x => h x.1), row4_far _ _ h, row4_far _ _ h]
theorem row4_id (σ : gS) : row4 σ (σ.1 164) = σ := by
  refine Prod.ext ?_ rfl
  funext k
  by_cases h : k = 164
  · subst h; exact row4_1 _ _
  · exact row4_far _ _ h
theorem sI_row4 (σ : gS) (j : Nat) (v : Int32) : sI σ 164 j v = row4 σ (fun d => if d = j then v else σ.1 164 d) := by
  have := row4_sI σ (σ.1 164) j v
  rw [row4_id] at this; exact this
theorem lawOf_row4 (σ : gS) (f : Nat → Int32) : lawOf (row4 σ f) = row4 (lawOf σ) f := by
  refine Prod.ext ?_ rfl
  funext k
  by_cases h : k = 164
  · subst h
    rw [row4_1]
    show (if 161 ≤ 164 ∧ 164 < 179 then (row4 σ f).1 164 else fun _ => 0) = f
    rw [if_pos (by omega), row4_1]
  · rw [row4_far _ _ h]
    show (if 161 ≤ k ∧ k < 179 then (row4 σ f).1 k else fun _ => 0) = (if 161 ≤ k ∧ k < 179 then σ.1 k else fun _ => 0)
    rw [row4_far _ _ h]
def lvS (M : gS) (c st k d : Nat) : Int32 := if d = c then iN st else if lvG M c k d = true then iN 5 else M.1 164 d
/-- how many leave besides it -/
def lvC (M : gS) (c : Nat) : Nat → Nat
  | 0 => 0
  | k + 1 => lvC M c k + (if k ≠ c ∧ lvG M c (k + 1) k = true then 1 else 0)
theorem lvC_le (M : gS) (c : Nat) : ∀ k, lvC M c k ≤ k
  | 0 => Nat.le_refl _
  | k + 1 => by
    have := lvC_le M c k
    unfold lvC
    split <;> omega
/-- one place of a sweep -/
theorem lv22a {N : Nat} {rec11 : (gS × Int32 × Int32) → Option (Int32 × gS)} {rec22 : (gS × Int32 × Int32) → Option (Int32 × gS)} {σ : gS} {f : Nat → Int32} {n j m : Nat} {x6 : Int32} (hn : n ≤ 20) (hj : j < n) (h0 : σ.1 161 0 = iN n) (hp : (σ.1 163 j = iM) ∨ ∃ q, σ.1 163 j = iN q ∧ q < j) (hno : f j = iN 1 → ∀ q, σ.1 163 j = iN q → q < j → f q ≤ iN 2) : fL_leaves_22 N rec11 x6 rec22 (row4 σ f, iN m, iN j) = rec22 (row4 σ f, iN m, iN (j + 1)) := by
  have h60 : fL_leaves_59 N rec11 rec22 (row4 σ f) (iN m) x6 (iN j) = rec22 (row4 σ f, iN m, iN (j + 1)) := by
    unfold fL_leaves_59 fL_leaves_60 fL_leaves_78 fL_leaves_91
    rw [if_pos rfl, if_neg (gi (show j < 24 by omega) (by decide)), iN_cl (show j < 2147483648 by omega), if_neg (gj (show j < 24 by omega) (by decide)), if_pos rfl, row4_sI, row4_1, i_0, i_1, iN_add, iN_add, Nat.add_zero]
    rw [show (fun d => if d = j then f j else f d) = f from funext (fun d => by by_cases e : d = j <;> simp [e])]
  unfold fL_leaves_22
  dsimp only
  rw [row4_far _ _ (show 161 ≠ 164 by decide), h0, if_neg (show ¬ iN n ≤ iN j by rw [iN_le (by omega) (by omega)]; omega), if_neg (gi (show j < 24 by omega) (by decide)), iN_cl (show j < 2147483648 by omega), row4_1, row4_far _ _ (show 163 ≠ 164 by decide)]
  by_cases c1 : f j = iN 1
  · rw [if_pos (show f j = (1 : Int32) from c1), if_neg (gj (show j < 24 by omega) (by decide))]
    rcases hp with hp | ⟨q, hp, hq⟩
    · rw [hp, if_pos (show iM < (0 : Int32) by decide)]; exact h60
    · rw [hp, if_neg (show ¬ iN q < (0 : Int32) by rw [i_0, iN_lt (by omega) (by omega)]; omega), if_neg (gj (show j < 24 by omega) (by decide)), if_neg (gi (show q < 24 by omega) (by decide)), iN_cl (show q < 2147483648 by omega), if_pos (show f q ≤ (2 : Int32) from hno c1 q hp hq)]
      exact h60
  · rw [if_neg (show ¬ f j = (1 : Int32) from c1)]; exact h60
theorem lv22b {N : Nat} {rec11 : (gS × Int32 × Int32) → Option (Int32 × gS)} {rec22 : (gS × Int32 × Int32) → Option (Int32 × gS)} {σ : gS} {f : Nat → Int32} {n j m q : Nat} {x6 : Int32} (hn : n ≤ 20) (hj : j < n) (h0 : σ.1 161 0 = iN n) (hp : σ.1 163 j = iN q) (hq : q < j) (h1 : f j = iN 1) (h2 : ¬ f q ≤ iN 2) : fL_leaves_22 N rec11 x6 rec22 (row4 σ f, iN m, iN j) = rec22 (row4 σ (fun d => if d = j then iN 5 else f d), iN (m + 1), iN (j + 1)) := by
  unfold fL_leaves_22
  dsimp only
  rw [row4_far _ _ (show 161 ≠ 164 by decide), h0, if_neg (show ¬ iN n ≤ iN j by rw [iN_le (by omega) (by omega)]; omega), if_neg (gi (show j < 24 by omega) (by decide)), iN_cl (show j < 2147483648 by omega), row4_1, row4_far _ _ (show 163 ≠ 164 by decide), if_pos (show f j = (1 : Int32) from h1), if_neg (gj (show j < 24 by omega) (by decide)), hp, if_neg (show ¬ iN q < (0 : Int32) by rw [i_0, iN_lt (by omega) (by omega)]; omega), if_neg (gj (show j < 24 by omega) (by decide)), if_neg (gi (show q < 24 by omega) (by decide)), iN_cl (show q < 2147483648 by omega), if_neg (show ¬ f q ≤ (2 : Int32) from h2)]
  unfold fL_leaves_60 fL_leaves_78 fL_leaves_91
  rw [if_neg (show ¬ (1 : Int32) = 0 by decide), if_neg (gi (show j < 24 by omega) (by decide)), if_neg (show ¬ (1 : Int32) = 0 by decide), iN_cl (show j < 2147483648 by omega), row4_sI, i_1, iN_add, iN_add]
  rfl
theorem L_leaves {N : Nat} {σ M : gS} {n c st : Nat} (hN : 100 ≤ N) (hM : lawOf σ = M) (h0 : M.1 161 0 = iN n) (hn : n ≤ 20) (hp : parOK M n) (hq : qpOK M n) (hs : stOK M n) (hc : c < n) (hst : 3 ≤ st ∧ st ≤ 5) : fL_leaves N σ (iN c) (iN st) = some (iN (1 + lvC M c n), row4 σ (lvS M c st n)) := by
  have t161 : σ.1 161 = M.1 161 := lw1 hM (by omega)
  have t163 : σ.1 163 = M.1 163 := lw1 hM (by omega)
  have t164 : σ.1 164 = M.1 164 := lw1 hM (by omega)
  have hpj : ∀ j, j < n → (σ.1 163 j = iM) ∨ ∃ q, σ.1 163 j = iN q ∧ q < j := fun j hj => by
    rw [t163]
    rcases par_cases hp hj with ⟨_, e⟩ | ⟨q, _, e, l⟩
    · exact Or.inl e
    · exact Or.inr ⟨q, e, l⟩
  have hpar : ∀ j q, j < n → σ.1 163 j = iN q → q < j → par M j = some q := fun j q hj e l => by
    rw [t163] at e
    rcases par_cases hp hj with ⟨_, e2⟩ | ⟨q2, e1, e2, l2⟩
    · rw [e] at e2; exact absurd e2 (iM_ne (by omega))
    · rw [e] at e2
      rw [iN_inj (show q < 2147483648 by omega) (show q2 < 2147483648 by omega) e2]; exact e1
  -- what a queued one's parent is
  have hbig : ∀ k j q, j < n → M.1 164 j = iN 1 → par M j = some q → q < j → (¬ lvS M c st k q ≤ iN 2 ↔ lvG M c k q = true) := fun k j q hj h1 h2 h3 => by
    have hqs := hq j hj h1 q h2
    unfold lvS
    by_cases e : q = c
    · rw [if_pos e]
      refine ⟨fun _ => by rw [e]; exact lvG_c M c k, fun _ => ?_⟩
      rw [iN_le (by omega) (by omega)]; omega
    · rw [if_neg e]
      by_cases g : lvG M c k q = true
      · rw [if_pos g]
        exact ⟨fun _ => g, fun _ => by decide⟩
      · rw [if_neg g]
        refine ⟨fun h => absurd ?_ h, fun h => absurd h g⟩
        rcases hqs with e1 | e1 <;> rw [e1] <;> decide
  -- a later sweep
  have later : ∀ (rec11 : (gS × Int32 × Int32) → Option (Int32 × gS)) (x6 : Int32) (m : Nat), lp (fL_leaves_22 N rec11 x6) N (row4 σ (lvS M c st n), iN m, 0) = rec11 (row4 σ (lvS M c st n), iN m, x6 + 1) := fun rec11 x6 m => by
    refine lp_run (F := fL_leaves_22 N rec11 x6) (fun j => (row4 σ (lvS M c st n), iN m, iN j)) n (fun j hj rec => ?_) (fun rec => ?_) N (by omega)
    · refine lv22a hn hj (by rw [t161]; exact h0) (hpj j hj) (fun h1 q h2 h3 => ?_)
      have hpq := hpar j q hj h2 h3
      have hjs : M.1 164 j = iN 1 ∧ lvG M c n j = false ∧ j ≠ c := by
        unfold lvS at h1
        by_cases e : j = c
        · rw [if_pos e, iN_eq (by omega) (by omega)] at h1; omega
        · rw [if_neg e] at h1
          cases g : lvG M c n j with
          | true => rw [g, if_pos rfl] at h1; exact absurd h1 (by decide)
          | false => rw [g, if_neg (by decide)] at h1; exact ⟨h1, rfl, e⟩
      apply Classical.byContradiction
      intro hb
      have g := (hbig n j q hj hjs.1 hpq h3).mp hb
      have g1 : lvG M c j q = true := by
        rw [lvG_st M c q j h3, ← lvG_st M c q n (by omega)]; exact g
      have g2 : lvG M c (j + 1) j = true := by
        rw [lvG_s, decide_eq_true rfl, decide_eq_true hjs.1, hpq]
        show (_ || (true && (true && lvG M c j q))) = true
        rw [g1]; simp
      rw [lvG_st M c j n hj, g2] at hjs
      exact absurd hjs.2.1 (by decide)
    · unfold fL_leaves_22
      dsimp only
      rw [row4_far _ _ (show 161 ≠ 164 by decide), t161, h0, if_pos (show iN n ≤ iN n by rw [iN_le (by omega) (by omega)]; omega), i_1]
  -- the first one
  have first : ∀ (rec11 : (gS × Int32 × Int32) → Option (Int32 × gS)) (x6 : Int32), lp (fL_leaves_22 N rec11 x6) N (row4 σ (lvS M c st 0), iN 1, 0) = rec11 (row4 σ (lvS M c st n), iN (1 + lvC M c n), x6 + 1) := fun rec11 x6 => by
    refine lp_run (F := fL_leaves_22 N rec11 x6) (fun j => (row4 σ (lvS M c st j), iN (1 + lvC M c j), iN j)) n (fun j hj rec => ?_) (fun rec => ?_) N (by omega)
    · have hstep : ∀ d, d ≠ j → lvS M c st (j + 1) d = lvS M c st j d := fun d hd => by
        unfold lvS
        rw [lvG_s, decide_eq_false hd, Bool.false_and, Bool.or_false]
      by_cases ec : j = c
      · have e1 : lvS M c st (j + 1) = lvS M c st j := funext (fun d => by
          by_cases e : d = j
          · unfold lvS; rw [if_pos (e.trans ec), if_pos (e.trans ec)]
          · exact hstep d e)
        have e2 : lvC M c (j + 1) = lvC M c j := by
          show lvC M c j + (if j ≠ c ∧ _ then 1 else 0) = _
          rw [if_neg (fun h => h.1 ec)]; rfl
        rw [e1, e2]
        refine lv22a hn hj (by rw [t161]; exact h0) (hpj j hj) (fun h1 => ?_)
        unfold lvS at h1
        rw [if_pos ec, iN_eq (by omega) (by omega)] at h1; omega
      · have hg0 : lvG M c j j = false := lvG_hi M c j j (Nat.le_refl _) ec
        have hsj : lvS M c st j j = M.1 164 j := by unfold lvS; rw [if_neg ec, hg0, if_neg (by decide)]
        by_cases g : (decide (M.1 164 j = iN 1) && hangB (lvG M c j) (par M j)) = true
        · have gg := Bool.and_eq_true_iff.mp g
          have h1 : M.1 164 j = iN 1 := of_decide_eq_true gg.1
          have hgj : lvG M c (j + 1) j = true := by rw [lvG_s, decide_eq_true rfl, g]; simp
          rcases par_cases hp hj with ⟨e1, _⟩ | ⟨q, e1, e2, l⟩
          · rw [e1] at gg; exact absurd (show false = true from gg.2) (by decide)
          · rw [e1] at gg
            have hb := (hbig j j q hj h1 e1 l).mpr gg.2
            have e3 : lvC M c (j + 1) = lvC M c j + 1 := by
              show lvC M c j + (if j ≠ c ∧ lvG M c (j + 1) j = true then 1 else 0) = _
              rw [if_pos ⟨ec, hgj⟩]
            have e4 : (fun d => if d = j then iN 5 else lvS M c st j d) = lvS M c st (j + 1) := funext (fun d => by
              by_cases e : d = j
              · rw [if_pos e, e]; unfold lvS; rw [if_neg ec, hgj, if_pos rfl]
              · rw [if_neg e, hstep d e])
            rw [e3, ← Nat.add_assoc, ← e4]
            exact lv22b hn hj (by rw [t161]; exact h0) (by rw [t163]; exact e2) l (hsj.trans h1) hb
        · have g0 : (decide (M.1 164 j = iN 1) && hangB (lvG M c j) (par M j)) = false := by simpa using g
          have hgj : lvG M c (j + 1) j = false := by rw [lvG_s, decide_eq_true rfl, g0, hg0]; rfl
          have e3 : lvC M c (j + 1) = lvC M c j := by
            show lvC M c j + (if j ≠ c ∧ lvG M c (j + 1) j = true then 1 else 0) = _
            rw [if_neg (fun h => by rw [hgj] at h; exact absurd h.2 (by decide))]; rfl
          have e4 : lvS M c st (j + 1) = lvS M c st j := funext (fun d => by
            by_cases e : d = j
            · rw [e]; unfold lvS; rw [if_neg ec, if_neg ec, hgj, hg0]
            · exact hstep d e)
          rw [e3, e4]
          refine lv22a hn hj (by rw [t161]; exact h0) (hpj j hj) (fun h1 q h2 h3 => ?_)
          rw [hsj] at h1
          have hpq := hpar j q hj h2 h3
          apply Classical.byContradiction
          intro hb
          have gq := (hbig j j q hj h1 hpq h3).mp hb
          rw [decide_eq_true h1, hpq, Bool.true_and] at g0
          rw [show hangB (lvG M c j) (some q) = lvG M c j q from rfl, gq] at g0
          exact absurd g0 (by decide)
    · unfold fL_leaves_22
      dsimp only
      rw [row4_far _ _ (show 161 ≠ 164 by decide), t161, h0, if_pos (show iN n ≤ iN n by rw [iN_le (by omega) (by omega)]; omega), i_1]
  have hstart : sI σ 164 c (iN st) = row4 σ (lvS M c st 0) := by
    rw [sI_row4]
    congr 1
    funext d
    unfold lvS
    by_cases e : d = c
    · rw [if_pos e, if_pos e]
    · rw [if_neg e, if_neg e, show lvG M c 0 d = false from decide_eq_false e, if_neg (by decide), t164]
  unfold fL_leaves
  rw [if_neg (gi (show c < 24 by omega) (by decide)), iN_cl (show c < 2147483648 by omega), hstart]
  obtain ⟨k, rfl⟩ : ∃ k, N = k + 1 := ⟨N - 1, by omega⟩
  have h11 : ∀ (i m : Nat) (f : Nat → Int32) (rec : (gS × Int32 × Int32) → Option (Int32 × gS)), i < n → fL_leaves_11 (k + 1) rec (row4 σ f, iN m, iN i) = lp (fL_leaves_22 (k + 1) rec (iN i)) (k + 1) (row4 σ f, iN m, 0) := fun i m f rec hi => by
    unfold fL_leaves_11
    dsimp only
    rw [row4_far _ _ (show 161 ≠ 164 by decide), t161, h0, if_neg (show ¬ iN n ≤ iN i by rw [iN_le (by omega) (by omega)]; omega)]
  rw [i_0, i_1, lp_1, h11 0 1 _ _ (by omega), first, i_1, iN_add]
  refine lp_run (F := fL_leaves_11 (k + 1)) (fun j => (row4 σ (lvS M c st n), iN (1 + lvC M c n), iN (1 + j))) (n - 1) (fun j hj rec => ?_) (fun rec => ?_) k (by omega)
  · rw [h11 (1 + j) _ _ rec (by omega), later, i_1, iN_add, Nat.add_assoc]
  · unfold fL_leaves_11
    dsimp only
    rw [row4_far _ _ (show 161 ≠ 164 by decide), t161, h0, if_pos (show iN n ≤ iN (1 + (n - 1)) by rw [iN_le (by omega) (by omega)]; omega)]
