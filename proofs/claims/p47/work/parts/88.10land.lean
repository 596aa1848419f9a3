/-! the first batch lands: both sides stay alike -/
def clS (σ : gS) (F : List Nat) (h : Nat) : gS := (fun k i => if 5 ≤ k ∧ k - 5 ∈ F ∧ i = 3 then iN 2 else if 5 ≤ k ∧ k - 5 ∈ F ∧ i = 4 then iN h else σ.1 k i, σ.2)
theorem clS_3 (σ : gS) (F : List Nat) (h c : Nat) : (clS σ F h).1 (5 + c) 3 = if c ∈ F then iN 2 else σ.1 (5 + c) 3 := by
  show (if 5 ≤ 5 + c ∧ 5 + c - 5 ∈ F ∧ 3 = 3 then iN 2 else if 5 ≤ 5 + c ∧ 5 + c - 5 ∈ F ∧ 3 = 4 then iN h else σ.1 (5 + c) 3) = _
  rw [Nat.add_sub_cancel_left]
  by_cases e : c ∈ F
  · rw [if_pos ⟨by omega, e, rfl⟩, if_pos e]
  · rw [if_neg (fun x => e x.2.1), if_neg (fun x => e x.2.1), if_neg e]
theorem clS_4 (σ : gS) (F : List Nat) (h c : Nat) : (clS σ F h).1 (5 + c) 4 = if c ∈ F then iN h else σ.1 (5 + c) 4 := by
  show (if 5 ≤ 5 + c ∧ 5 + c - 5 ∈ F ∧ 4 = 3 then iN 2 else if 5 ≤ 5 + c ∧ 5 + c - 5 ∈ F ∧ 4 = 4 then iN h else σ.1 (5 + c) 4) = _
  rw [Nat.add_sub_cancel_left, if_neg (by omega)]
  by_cases e : c ∈ F
  · rw [if_pos ⟨by omega, e, rfl⟩, if_pos e]
  · rw [if_neg (fun x => e x.2.1), if_neg e]
theorem clS_out (σ : gS) (F : List Nat) (h k i : Nat) (hk : i ≠ 3 ∧ i ≠ 4 ∨ k < 5 ∨ ∀ c ∈ F, k ≠ 5 + c) : (clS σ F h).1 k i = σ.1 k i := by
  show (if 5 ≤ k ∧ k - 5 ∈ F ∧ i = 3 then iN 2 else if 5 ≤ k ∧ k - 5 ∈ F ∧ i = 4 then iN h else σ.1 k i) = _
  have g : ∀ x, (x = 3 ∨ x = 4) → ¬ (5 ≤ k ∧ k - 5 ∈ F ∧ i = x) := fun x hx q => by
    rcases hk with hk | hk | hk
    · omega
    · omega
    · exact hk _ q.2.1 (by omega)
  rw [if_neg (g 3 (Or.inl rfl)), if_neg (g 4 (Or.inr rfl))]
theorem clS_0 (σ : gS) (h : Nat) : clS σ [] h = σ := by
  refine Prod.ext ?_ rfl
  funext k i
  exact clS_out σ [] h k i (Or.inr (Or.inr (fun c hc => by cases hc)))
theorem clS_s (σ : gS) (F : List Nat) (h c : Nat) : sI (sI (clS σ F h) (5 + c) 3 (iN 2)) (5 + c) 4 (iN h) = clS σ (F ++ [c]) h := by
  refine Prod.ext ?_ rfl
  funext k i
  rw [sI_1, sI_1]
  by_cases e : k = 5 + c
  · subst e
    by_cases e4 : i = 4
    · subst e4
      rw [if_pos ⟨rfl, rfl⟩, clS_4, if_pos (by simp)]
    · rw [if_neg (fun x => e4 x.2)]
      by_cases e3 : i = 3
      · subst e3
        rw [if_pos ⟨rfl, rfl⟩, clS_3, if_pos (by simp)]
      · rw [if_neg (fun x => e3 x.2), clS_out _ _ _ _ _ (Or.inl ⟨e3, e4⟩), clS_out _ _ _ _ _ (Or.inl ⟨e3, e4⟩)]
  · rw [if_neg (fun x => e x.1), if_neg (fun x => e x.1)]
    by_cases e5 : 5 ≤ k
    · obtain ⟨d, rfl⟩ : ∃ d, k = 5 + d := ⟨k - 5, by omega⟩
      have hdc : d ≠ c := fun x => e (by rw [x])
      by_cases e3 : i = 3
      · subst e3
        rw [clS_3, clS_3]
        by_cases m : d ∈ F
        · rw [if_pos m, if_pos (by simp [m])]
        · rw [if_neg m, if_neg (by simp [m, hdc])]
      · by_cases e4 : i = 4
        · subst e4
          rw [clS_4, clS_4]
          by_cases m : d ∈ F
          · rw [if_pos m, if_pos (by simp [m])]
          · rw [if_neg m, if_neg (by simp [m, hdc])]
        · rw [clS_out _ _ _ _ _ (Or.inl ⟨e3, e4⟩), clS_out _ _ _ _ _ (Or.inl ⟨e3, e4⟩)]
    · rw [clS_out _ _ _ _ _ (Or.inr (Or.inl (by omega))), clS_out _ _ _ _ _ (Or.inr (Or.inl (by omega)))]
def ldS (σ : gS) (F : List Nat) (h L : Nat) (tr : Int64) : gS := sI (sI (gAdd (sI (clS σ F h) 0 15 (iN (L + F.length))) 151 h tr) 109 3 (iN 0)) 0 18 (iN 0)
theorem X_land {N : Nat} {σ M : gS} {n T G h L : Nat} {F : List Nat} {tr : Int64} (hN : 100 ≤ N) (hn : n ≤ 20) (hl : LkH σ M n T G F) (hF : F.length ≤ 8) (hF0 : F ≠ []) (hh : σ.1 151 1 = iN h) (h60 : h ≤ 25) (hL : σ.1 0 15 = iN L) (ht : σ.2.1 117 0 = tr) : fX11_landFirstBatch N σ = some (1, ldS σ F h L tr) := by
  have hend := X_endOf0 (N := N) hl hF
  have hpos : 0 < F.length := by
    rcases Nat.eq_zero_or_pos F.length with z | z
    · exact absurd (List.length_eq_zero_iff.mp z) hF0
    · exact z
  have hk9 : ∀ c ∈ F, c < n := fun c hc => (hl.1 c hc).1
  have e0 := clS_0 σ h
  have hfar : ∀ (G' : List Nat), (∀ c ∈ G', c < n) → ∀ k i, ¬ (5 ≤ k ∧ k < 65) → (clS σ G' h).1 k i = σ.1 k i := fun G' hG k i hk => clS_out _ _ _ _ _ (Or.inr (by
    by_cases e : k < 5
    · exact Or.inl e
    · exact Or.inr (fun c hc => by have := hG c hc; omega)))
  have hrun := lp_run (F := fX11_landFirstBatch_17 N (iN F.length)) (out := some ((1 : Int32), ldS σ F h L tr)) (fun j => (clS σ (F.take j) h, iN j)) F.length (fun j hj rec => ?_) (fun rec => ?_) N (by omega)
  · simp only [List.take_zero] at hrun
    rw [e0] at hrun
    unfold fX11_landFirstBatch
    rw [hend, Option.bind_some, if_neg (show ¬ iN F.length = (0 : Int32) by rw [i_0, iN_eq (by omega) (by omega)]; omega), i_0]
    exact hrun
  · have hc := hl.1 _ (gD_mem hj)
    have hG : ∀ c ∈ F.take j, c < n := fun c hc => hk9 c (List.mem_of_mem_take hc)
    have g1 := X_whole (N := N) (σ := clS σ (F.take j) h) (r := 112) (j := j) (len := 32) rfl (show j < 32 by omega) (show (32 : Nat) < 1000 by decide)
    rw [show (clS σ (F.take j) h).2.1 113 j = σ.2.1 113 j from rfl, hl.2.2.2 j hj, jN_32 (by omega)] at g1
    have f2 : ∀ v, (sI (clS σ (F.take j) h) (5 + F.getD j 0) 3 v).1 151 1 = iN h := fun v => by rw [sI_1, if_neg (by omega), hfar _ hG _ _ (by omega)]; exact hh
    unfold fX11_landFirstBatch_17
    dsimp only
    rw [if_neg (show ¬ iN F.length ≤ iN j by rw [iN_le (by omega) (by omega)]; omega), g1, Option.bind_some, X2_at (show F.getD j 0 < 60 by omega), Option.bind_some, f2, i_2, clS_s, take_snoc hj, i_1, iN_add]
  · have hG : ∀ c ∈ F, c < n := hk9
    have g1 := X_get (N := N) (σ := sI (clS σ F h) 0 15 (iN (L + F.length))) (r := 116) (j := 0) (len := 4) rfl (show 0 < 4 by omega) (show (4 : Nat) < 1000 by decide)
    rw [show (sI (clS σ F h) 0 15 (iN (L + F.length))).2.1 117 0 = σ.2.1 117 0 from rfl, ht] at g1
    have g2 := X_add (N := N) (σ := sI (clS σ F h) 0 15 (iN (L + F.length))) (r := 151) (n := h) (v := tr) (by rw [sI_1, if_neg (by omega), hfar _ hG _ _ (by omega)]; exact hh) (show gle _ 152 = 61 from rfl) (show h < 61 by omega) (show (61 : Nat) < 1000 by decide)
    unfold fX11_landFirstBatch_17
    dsimp only
    rw [if_pos (show iN F.length ≤ iN F.length by rw [iN_le (by omega) (by omega)]; omega), List.take_length, hfar _ hG _ _ (by omega), hL, iN_add, i_0, g1, Option.bind_some, g2, Option.bind_some]
    unfold fX11_stir
    rw [Option.bind_some]
    rfl
/-- the first batch is the first that can be taken -/
theorem FF_take {M : gS} {n sz dp : Nat} {t : Int64} (hdp : 1 ≤ dp) : FF M n sz dp t = takeB M (ordM M n) sz (fun _ => false) t := by
  obtain ⟨k, rfl⟩ : ∃ k, dp = k + 1 := ⟨dp - 1, by omega⟩
  unfold FF batM
  cases e : takeB M (ordM M n) sz (fun _ => false) t with
  | nil => rw [batL_nil e]; rfl
  | cons c r => rw [batL_cons e]; rfl
theorem FF_cnt {M : gS} {n sz dp : Nat} {t : Int64} (hdp : 1 ≤ dp) : sCnt (fun d => decide (d ∈ FF M n sz dp t)) n = (FF M n sz dp t).length := by
  rw [FF_take hdp]
  have := takeB_cnt (M := M) (n := n) (ordM M n) sz (fun _ => false) t (fun c hc => (ordM_mem c hc).1)
  rw [sCnt_f, Nat.zero_add] at this
  rw [← this]
  refine sCnt_congr n (fun d _ => ?_)
  rw [inL_eq]; rfl
theorem nx_ord {M : gS} {n c : Nat} (h : nx M (Wl M (iN 0)) n = some c) : ∃ r, ordM M n = c :: r := by
  rw [Wl_0] at h
  have hc := (nx_lt h).1
  obtain ⟨k, rfl⟩ : ∃ k, n = k + 1 := ⟨n - 1, by omega⟩
  unfold ordM
  rw [ordL_some h]
  exact ⟨_, rfl⟩
theorem nx_ord0 {M : gS} {n : Nat} (h : nx M (Wl M (iN 0)) n = none) : ordM M n = [] := by
  rw [Wl_0] at h
  cases n with
  | zero => rfl
  | succ k => unfold ordM; rw [ordL_none h]
theorem FF_ne {M : gS} {n sz dp c : Nat} {t : Int64} (hq : qpOK M n) (hsz : 1 ≤ sz) (hdp : 1 ≤ dp) (h : nx M (Wl M (iN 0)) n = some c) (hf : bFit (M.1 168 c) (M.2.1 169 c) t = true) : FF M n sz dp t ≠ [] := by
  obtain ⟨r, hr⟩ := nx_ord h
  rw [Wl_0] at h
  have hl := nx_lt h
  have hs : M.1 164 c = iN 1 := of_decide_eq_true hl.2.1
  have hst : standB M (fun _ => false) (par M c) = true := by
    cases e : par M c with
    | none => rfl
    | some q =>
      have h1 := hl.2.2
      rw [e] at h1
      have h1 : decide (M.1 164 q = iN 1) = false := h1
      have h2 := of_decide_eq_false h1
      rcases hq c hl.1 hs q e with h3 | h3
      · exact absurd h3 h2
      · show (decide (M.1 164 q = iN 2) || false) = true
        rw [decide_eq_true h3]; rfl
  obtain ⟨k, rfl⟩ : ∃ k, sz = k + 1 := ⟨sz - 1, by omega⟩
  rw [FF_take hdp, hr, show takeB M (c :: r) (k + 1) (fun _ => false) t = if freeB M (fun _ => false) c t = true then c :: takeB M r k (inU (fun _ => false) c) (ontoM M t c) else takeB M r (k + 1) (fun _ => false) t from rfl, if_pos (by unfold freeB; rw [hf, hst]; rfl)]
  simp
