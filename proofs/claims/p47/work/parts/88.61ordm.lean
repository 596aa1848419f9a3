/-! all that are queued are in the order; places and owners -/
theorem nx_least {M : gS} {n : Nat} (hp : parOK M n) {W : Nat → Bool} : ∀ c, c < n → W c = true → (∀ d, d < c → W d = false) → nx M W (c + 1) = some c := fun c hc hW hl => by
  have e : nx M W c = none := nx_none hl
  have hh : hangB W (par M c) = false := by
    cases q : par M c with
    | none => rfl
    | some r => exact hl r ((hp c hc).2 r q)
  show (if (W c && !hangB W (par M c) && isB M c (nx M W c)) = true then some c else nx M W c) = some c
  rw [hW, hh, e, if_pos (by rfl)]
theorem nx_up {M : gS} {W : Nat → Bool} {c : Nat} : ∀ k, nx M W c ≠ none → nx M W (c + k) ≠ none
  | 0, h => h
  | k + 1, h => by
    have ih := nx_up k h
    show (if (W (c + k) && !hangB W (par M (c + k)) && isB M (c + k) (nx M W (c + k))) = true then some (c + k) else nx M W (c + k)) ≠ none
    split
    · exact fun e => by cases e
    · exact ih
theorem nx_any {M : gS} {n : Nat} (hp : parOK M n) {W : Nat → Bool} : ∀ c, c < n → W c = true → nx M W n ≠ none := by
  intro c
  induction c using Nat.strongRecOn with
  | ind c ih =>
    intro hc hW
    by_cases h : ∃ d, d < c ∧ W d = true
    · obtain ⟨d, h1, h2⟩ := h
      exact ih d h1 (by omega) h2
    · have hl : ∀ d, d < c → W d = false := fun d hd => by
        cases e : W d with
        | false => rfl
        | true => exact absurd ⟨d, hd, e⟩ h
      have := nx_up (M := M) (W := W) (c := c + 1) (n - (c + 1)) (by rw [nx_least hp c hc hW hl]; exact fun e => by cases e)
      rwa [show c + 1 + (n - (c + 1)) = n by omega] at this
theorem ordL_all {M : gS} {n : Nat} (hp : parOK M n) : ∀ (k : Nat) (W : Nat → Bool), sCnt W n ≤ k → ∀ c, c < n → W c = true → c ∈ ordL M n k W
  | 0, W, hk, c, hc, hW => by
    have := sCnt_wm hc hW
    omega
  | k + 1, W, hk, c, hc, hW => by
    cases e : nx M W n with
    | none => exact absurd e (nx_any hp c hc hW)
    | some d =>
      rw [ordL_some e]
      obtain ⟨d1, d2, _⟩ := nx_lt e
      by_cases ed : c = d
      · rw [ed]; exact List.mem_cons_self
      · have := sCnt_wm d1 d2
        refine List.mem_cons_of_mem _ (ordL_all hp k (Wm W d) (by omega) c hc ?_)
        show (W c && !decide (c = d)) = true
        rw [hW, decide_eq_false ed]; rfl
theorem ordM_all {M : gS} {n c : Nat} (hp : parOK M n) (hc : c < n) (h : M.1 164 c = iN 1) : c ∈ ordM M n := ordL_all hp n _ (sCnt_le n) c hc (decide_eq_true h)
theorem X_placeOf {N : Nat} {σ : gS} {l : List Nat} {c : Nat} (hN : 100 ≤ N) (hl : l.length ≤ 60) (h1 : σ.1 110 1 = iN l.length) (h2 : ∀ j, j < l.length → σ.2.1 111 j = jN (l.getD j 0)) (hs : ∀ x ∈ l, x < 1000) (hc : c ∈ l) (hc1 : c < 1000) : ∃ j, j < l.length ∧ fX8_placeOf N σ 110 (jN c) = some (iN j) ∧ l.getD j 0 = c := by
  have key : ∀ m j N', j + m = l.length → m < N' → (∀ i, i < j → l.getD i 0 ≠ c) → ∃ i, i < l.length ∧ lp (fX8_placeOf_2 N σ 110 (jN c)) N' (iN j) = some (iN i) ∧ l.getD i 0 = c := by
    intro m
    induction m with
    | zero =>
      intro j N' hj _ hno
      obtain ⟨i, hi, e⟩ := List.getElem_of_mem hc
      exfalso
      refine hno i (by omega) ?_
      rw [List.getD_eq_getElem?_getD, List.getElem?_eq_getElem hi, Option.getD_some]; exact e
    | succ m ih =>
      intro j N' hj hN' hno
      obtain ⟨N2, rfl⟩ : ∃ k, N' = k + 1 := ⟨N' - 1, by omega⟩
      have hx := h2 j (by omega)
      have hxs : l.getD j 0 < 1000 := by
        refine hs _ ?_
        rw [List.getD_eq_getElem?_getD, List.getElem?_eq_getElem (show j < l.length by omega), Option.getD_some]
        exact List.getElem_mem _
      have step : fX8_placeOf_2 N σ 110 (jN c) (lp (fX8_placeOf_2 N σ 110 (jN c)) N2) (iN j) = if l.getD j 0 = c then some (iN j) else lp (fX8_placeOf_2 N σ 110 (jN c)) N2 (iN (j + 1)) := by
        generalize lp (fX8_placeOf_2 N σ 110 (jN c)) N2 = R
        unfold fX8_placeOf_2
        have hg : gle σ.2.2 (110 + 1) = 60 := rfl
        rw [h1, hg, if_neg (show ¬ iN l.length ≤ iN j by rw [iN_le (by omega) (by omega)]; omega), if_neg (show ¬ Int32.ofNat 60 ≤ iN j by rw [iN_of, iN_le (by omega) (by omega)]; omega), if_neg (gi (show j < 60 by omega) (by decide)), iN_cl (show j < 2147483648 by omega), hx]
        by_cases e : l.getD j 0 = c
        · rw [e, if_pos (show lg_cmp (jN c) (jN c) = (0 : Int32) from lgc0.mpr rfl), if_pos rfl]
        · rw [if_neg (show ¬ lg_cmp (jN (l.getD j 0)) (jN c) = (0 : Int32) from fun h => jN_ne hxs hc1 e (lgc0.mp h)), if_neg e, i_1, iN_add]
      rw [lp_1, step]
      by_cases e : l.getD j 0 = c
      · rw [if_pos e]; exact ⟨j, by omega, rfl, e⟩
      · rw [if_neg e]
        exact ih (j + 1) N2 (by omega) (by omega) (fun i hi => by
          by_cases e2 : i = j
          · rw [e2]; exact e
          · exact hno i (by omega))
  obtain ⟨i, a, b, d⟩ := key l.length 0 N (by omega) (by omega) (fun i hi => absurd hi (Nat.not_lt_zero i))
  exact ⟨i, a, b, d⟩
theorem X_approved {N : Nat} {σ : gS} {r : Nat} (hN : 100 ≤ N) (h : ∀ f, f < 12 → σ.2.1 154 f = -1) : fX11_isApproved N σ r = some 1 := by
  unfold fX11_isApproved
  refine lp_run (F := fX11_isApproved_2 N σ r) (fun j => iN j) 12 (fun j hj rec => ?_) (fun rec => ?_) N (by omega)
  · unfold fX11_isApproved_2 fX11_isApproved_43
    have hw := X_whole (N := N) (σ := σ) (r := 153) (j := j) (len := 12) rfl hj (by decide)
    rw [if_neg (show ¬ (12 : Int32) ≤ iN j by rw [i_12, iN_le (by omega) (by omega)]; omega), hw, h j hj, Option.bind_some, X_hasBit (by omega), Option.bind_some, show iN j + (1 : Int32) = iN (j + 1) from iN_add j 1]
    cases tb (σ.1 r 5) j with
    | false => rw [if_pos (show iB false = (0 : Int32) from rfl)]
    | true => rw [if_neg (show ¬ iB true = (0 : Int32) by decide), if_pos (show (-1 : Int64).toInt32 = (-1 : Int32) by decide)]
  · unfold fX11_isApproved_2
    rw [if_pos (show (12 : Int32) ≤ iN 12 by decide)]
