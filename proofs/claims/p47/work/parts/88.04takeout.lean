/-! a change leaves the queue with what hangs on it: the class -/
def chS (σ : gS) (f : Nat → Int32) (n : Nat) : gS := (fun k i => if 5 ≤ k ∧ k < 5 + n ∧ i = 3 then f (k - 5) else σ.1 k i, σ.2)
theorem chS_in (σ : gS) (f : Nat → Int32) {n c : Nat} (h : c < n) : (chS σ f n).1 (5 + c) 3 = f c := by
  show (if 5 ≤ 5 + c ∧ 5 + c < 5 + n ∧ 3 = 3 then f (5 + c - 5) else σ.1 (5 + c) 3) = _
  rw [if_pos (by omega), Nat.add_sub_cancel_left]
theorem chS_out (σ : gS) (f : Nat → Int32) (n : Nat) {k i : Nat} (h : ¬ (5 ≤ k ∧ k < 5 + n ∧ i = 3)) : (chS σ f n).1 k i = σ.1 k i := if_neg h
theorem chS_sI (σ : gS) (f : Nat → Int32) {n c : Nat} (h : c < n) (v : Int32) : sI (chS σ f n) (5 + c) 3 v = chS σ (fun d => if d = c then v else f d) n := by
  refine Prod.ext ?_ rfl
  funext k i
  rw [sI_1]
  by_cases e : 5 ≤ k ∧ k < 5 + n ∧ i = 3
  · obtain ⟨d, rfl⟩ : ∃ d, k = 5 + d := ⟨k - 5, by omega⟩
    obtain ⟨e1, e2, rfl⟩ := e
    rw [chS_in σ f (show d < n by omega), chS_in σ _ (show d < n by omega)]
    by_cases q : d = c
    · rw [if_pos ⟨by omega, rfl⟩, if_pos q]
    · rw [if_neg (by omega), if_neg q]
  · rw [if_neg (by omega), chS_out σ f n e, chS_out σ _ n e]
theorem chS_same {σ : gS} {f : Nat → Int32} {n : Nat} (h : ∀ c, c < n → σ.1 (5 + c) 3 = f c) : chS σ f n = σ := by
  refine Prod.ext ?_ rfl
  funext k i
  by_cases e : 5 ≤ k ∧ k < 5 + n ∧ i = 3
  · obtain ⟨d, rfl⟩ : ∃ d, k = 5 + d := ⟨k - 5, by omega⟩
    obtain ⟨e1, e2, rfl⟩ := e
    rw [chS_in σ f (show d < n by omega)]; exact (h d (by omega)).symm
  · exact chS_out σ f n e
theorem chS_congr {σ : gS} {f g : Nat → Int32} {n : Nat} (h : ∀ c, c < n → f c = g c) : chS σ f n = chS σ g n := by
  refine Prod.ext ?_ rfl
  funext k i
  by_cases e : 5 ≤ k ∧ k < 5 + n ∧ i = 3
  · obtain ⟨d, rfl⟩ : ∃ d, k = 5 + d := ⟨k - 5, by omega⟩
    obtain ⟨e1, e2, rfl⟩ := e
    rw [chS_in σ f (show d < n by omega), chS_in σ g (show d < n by omega)]; exact h d (by omega)
  · rw [chS_out σ f n e, chS_out σ g n e]
def gJ (M : gS) (c : Nat) : Nat → Int64
  | 0 => (1 : Int64) <<< (jN c &&& 63)
  | k + 1 => if (decide (M.1 164 k = iN 1) && hangB (lvG M c k) (par M k)) = true then gJ M c k ||| ((1 : Int64) <<< (jN k &&& 63)) else gJ M c k
theorem gJ_s (M : gS) (c k : Nat) : gJ M c (k + 1) = if (decide (M.1 164 k = iN 1) && hangB (lvG M c k) (par M k)) = true then gJ M c k ||| ((1 : Int64) <<< (jN k &&& 63)) else gJ M c k := rfl
theorem tj_gJ {M : gS} {c : Nat} (hc : c < 64) : ∀ k, k ≤ 64 → ∀ d, tj (gJ M c k) d = lvG M c k d
  | 0, _, d => tj_one hc d
  | k + 1, h, d => by
    have ih := tj_gJ (M := M) hc k (by omega) d
    rw [gJ_s, lvG_s]
    by_cases g : (decide (M.1 164 k = iN 1) && hangB (lvG M c k) (par M k)) = true
    · rw [if_pos g, tj_or, tj_one (by omega), ih, g, Bool.and_true]
    · have g0 : (decide (M.1 164 k = iN 1) && hangB (lvG M c k) (par M k)) = false := by simpa using g
      rw [if_neg g, ih, g0, Bool.and_false, Bool.or_false]
theorem gJ_low {M : gS} {n c : Nat} (hp : parOK M n) (hc : c < n) : ∀ k, k ≤ c + 1 → gJ M c k = (1 : Int64) <<< (jN c &&& 63)
  | 0, _ => rfl
  | k + 1, h => by
    have e : hangB (lvG M c k) (par M k) = false := by
      cases q : par M k with
      | none => rfl
      | some r =>
        have := (hp k (by omega)).2 r q
        show lvG M c k r = false
        rw [lvG_low hp hc k (by omega) r]; exact decide_eq_false (by omega)
    rw [gJ_s, e, Bool.and_false, if_neg (by decide)]
    exact gJ_low hp hc k (by omega)
/-- what it leaves -/
def toS (σ M : gS) (c st n : Nat) : gS := sI (sI (chS σ (lvS M c st n) n) 109 3 (iN 0)) 0 18 (iN 0)
theorem X_takeOut {N : Nat} {σ M : gS} {n c st : Nat} (hN : 100 ≤ N) (h0 : σ.1 1 4 = iN n) (hn : n ≤ 20) (hp : parOK M n) (hc : c < n) (hst : 3 ≤ st ∧ st ≤ 5) (hnum : σ.1 (5 + c) 0 = iN c) (hs : ∀ d, d < n → σ.1 (5 + d) 3 = M.1 164 d) (hpa : ∀ d, d < n → σ.1 (5 + d) 2 = M.1 163 d) : fX11_takeOutOfQueue N σ (5 + c) (iN st) = (fJ13_bitCount_95d88 N (toS σ M c st n) (gJ M c n)).bind fun r => some (r, toS σ M c st n) := by
  have hstart : sI σ (5 + c) 3 (iN st) = chS σ (lvS M c st (c + 1)) n := by
    have e := chS_sI σ (fun d => M.1 164 d) hc (iN st)
    rw [chS_same hs] at e
    rw [e]
    refine chS_congr (fun d hd => ?_)
    unfold lvS
    by_cases q : d = c
    · rw [if_pos q, if_pos q]
    · rw [if_neg q, if_neg q, lvG_low hp hc (c + 1) (Nat.le_refl _) d, decide_eq_false q, if_neg (by decide)]
  have hnum2 : (sI σ (5 + c) 3 (iN st)).1 (5 + c) 0 = iN c := by rw [sI_1, if_neg (by omega)]; exact hnum
  unfold fX11_takeOutOfQueue
  rw [hnum2, iN_64 (show c < 2147483648 by omega), i_1, iN_add, hstart, ← gJ_low hp hc (c + 1) (Nat.le_refl _)]
  have key : ∀ (m k N' : Nat), k + m = n → m < N' → c + 1 ≤ k → lp (fX11_takeOutOfQueue_20 N) N' (chS σ (lvS M c st k) n, gJ M c k, iN k) = (fJ13_bitCount_95d88 N (toS σ M c st n) (gJ M c n)).bind fun r => some (r, toS σ M c st n) := by
    intro m
    induction m with
    | zero =>
      intro k N' hk hN' hck
      obtain ⟨N', rfl⟩ : ∃ j, N' = j + 1 := ⟨N' - 1, by omega⟩
      have e : k = n := by omega
      subst e
      rw [lp_1]
      unfold fX11_takeOutOfQueue_20 fX11_stir
      dsimp only
      rw [chS_out _ _ _ (by omega), h0, if_pos (show iN k ≤ iN k by rw [iN_le (by omega) (by omega)]; omega), Option.bind_some]
      rfl
    | succ m ih =>
      intro k N' hk hN' hck
      obtain ⟨N', rfl⟩ : ∃ j, N' = j + 1 := ⟨N' - 1, by omega⟩
      have hkn : k < n := by omega
      have hkc : k ≠ c := by omega
      have ih2 := ih (k + 1) N' (by omega) (by omega) (by omega)
      have hgk : lvG M c k k = false := lvG_hi M c k k (Nat.le_refl _) hkc
      have hsk : lvS M c st k k = M.1 164 k := by unfold lvS; rw [if_neg hkc, hgk, if_neg (by decide)]
      have hstep : ∀ d, d ≠ k → lvS M c st (k + 1) d = lvS M c st k d := fun d hd => by
        unfold lvS
        rw [lvG_s, decide_eq_false hd, Bool.false_and, Bool.or_false]
      have hno : (decide (M.1 164 k = iN 1) && hangB (lvG M c k) (par M k)) = false → fX11_takeOutOfQueue_88 N (lp (fX11_takeOutOfQueue_20 N) N') (chS σ (lvS M c st k) n) (gJ M c k) (iN k) = (fJ13_bitCount_95d88 N (toS σ M c st n) (gJ M c n)).bind fun r => some (r, toS σ M c st n) := fun g0 => by
        have e1 : gJ M c (k + 1) = gJ M c k := by rw [gJ_s, g0, if_neg (by decide)]
        have e2 : lvS M c st (k + 1) = lvS M c st k := funext (fun d => by
          by_cases e : d = k
          · rw [e]; unfold lvS; rw [lvG_s, g0, Bool.and_false, Bool.or_false]
          · exact hstep d e)
        rw [e1, e2] at ih2
        unfold fX11_takeOutOfQueue_88
        rw [i_1, iN_add]; exact ih2
      rw [lp_1]
      unfold fX11_takeOutOfQueue_20
      dsimp only
      rw [chS_out _ _ _ (by omega), h0, if_neg (show ¬ iN n ≤ iN k by rw [iN_le (by omega) (by omega)]; omega), X2_at (show k < 60 by omega), Option.bind_some, chS_in _ _ hkn, hsk, chS_out _ _ _ (show ¬ (5 ≤ 5 + k ∧ 5 + k < 5 + n ∧ 2 = 3) by omega), hpa k hkn]
      by_cases c1 : M.1 164 k = iN 1
      · rw [if_pos (show M.1 164 k = (1 : Int32) from c1)]
        rcases par_cases hp hkn with ⟨p1, p2⟩ | ⟨q, p1, p2, p3⟩
        · rw [p2, if_pos (show iM = (-1 : Int32) from rfl)]
          exact hno (by rw [p1]; simp [hangB])
        · rw [p2, if_neg (show ¬ iN q = (-1 : Int32) from iM_ne (by omega)), iN_64 (show q < 2147483648 by omega)]
          have ecmp : (lg_cmp ((((gJ M c k).toUInt64 >>> ((jN q).toUInt64 &&& Int64.toUInt64 63)).toInt64) &&& 1) 0 = (0 : Int32)) = (lvG M c k q = false) := by
            rw [i_0, lgc0, tj_us0 _ (show q < 64 by omega), tj_gJ (show c < 64 by omega) k (by omega)]
          by_cases c2 : lvG M c k q = true
          · have g : (decide (M.1 164 k = iN 1) && hangB (lvG M c k) (par M k)) = true := by
              rw [decide_eq_true c1, p1]; exact c2
            rw [if_neg (by rw [ecmp, c2]; decide)]
            have e1 : gJ M c (k + 1) = gJ M c k ||| ((1 : Int64) <<< (jN k &&& 63)) := by rw [gJ_s, g, if_pos rfl]
            have e4 : (fun d => if d = k then iN 5 else lvS M c st k d) = lvS M c st (k + 1) := funext (fun d => by
              by_cases e : d = k
              · rw [if_pos e, e]; unfold lvS; rw [if_neg hkc, lvG_s, decide_eq_true rfl, g, if_pos (by simp)]
              · rw [if_neg e, hstep d e])
            rw [i_5, chS_sI _ _ hkn, e4, iN_64 (show k < 2147483648 by omega), ← e1]
            unfold fX11_takeOutOfQueue_88
            rw [i_1, iN_add]; exact ih2
          · have c3 : lvG M c k q = false := by simpa using c2
            rw [if_pos (by rw [ecmp]; exact c3)]
            exact hno (by rw [p1]; show (_ && lvG M c k q) = false; rw [c3, Bool.and_false])
      · rw [if_neg (show ¬ M.1 164 k = (1 : Int32) from c1)]
        exact hno (by rw [decide_eq_false c1]; rfl)
  exact key (n - (c + 1)) (c + 1) N (by omega) (by omega) (Nat.le_refl _)
