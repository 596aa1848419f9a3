/-! the first batch's beginnings in the law -/
theorem take_snoc {l : List Nat} : ∀ {j : Nat} (h : j < l.length), l.take (j + 1) = l.take j ++ [l.getD j 0] := by
  induction l with
  | nil => intro j h; exact absurd h (by simp)
  | cons c r ih =>
    intro j h
    cases j with
    | zero => rfl
    | succ j =>
      have := ih (j := j) (by simpa using h)
      rw [List.take_succ_cons, this]; rfl
/-- what the law's rows are like -/
def LF (M : gS) (n T G V : Nat) : Prop := (M.1 161 0 = iN n ∧ n ≤ 20 ∧ parOK M n) ∧ (M.1 161 2 = iN T ∧ T ≤ 4) ∧ (M.1 161 3 = iN G ∧ G ≤ 12 ∧ ∀ k, k < G → M.1 173 k = iN (vN M 173 k) ∧ vN M 173 k < 200) ∧ (∀ c, c < n → M.1 162 c = iN (vN M 162 c) ∧ vN M 162 c < 8) ∧ (M.1 161 4 = iN V ∧ V ≤ 64 ∧ ∀ j, j < V → M.1 175 j = iN (vN M 175 j) ∧ vN M 175 j < 100000) ∧ ∀ a, a < 8 → M.1 178 (6 + a) = iN (vN M 178 (6 + a)) ∧ vN M 178 (6 + a) < 1000
theorem L_req {N : Nat} {σ M : gS} {n T G V c : Nat} (hN : 100 ≤ N) (hM : lawOf σ = M) (h : LF M n T G V) (hc : c < n) : fL_required N σ (iN c) = some (rqG M c T G) :=
  L_required hN hM h.2.1.1 h.2.1.2 h.2.2.1.1 h.2.2.1.2.1 (by have := h.1.2.1; omega) h.2.2.1.2.2 (h.2.2.2.1 c hc).1 (h.2.2.2.1 c hc).2
theorem L_vers {N : Nat} {σ M : gS} {n T G V : Nat} {set : Int32} {t : Int64} (hN : 100 ≤ N) (hM : lawOf σ = M) (h : LF M n T G V) : fL_verdicts N σ set t = some (iN (sTog set (fun q => sVer M V q t) T)) :=
  L_verdicts hN hM h.2.1.1 h.2.1.2 h.2.2.2.2.1.1 h.2.2.2.2.1.2.1 h.2.2.2.2.1.2.2
theorem L_ver {N : Nat} {σ M : gS} {n T G V q : Nat} {t : Int64} (hN : 100 ≤ N) (hM : lawOf σ = M) (h : LF M n T G V) (hq : q < 4) : fL_verdict N σ (iN q) t = some (iN (sVer M V q t)) :=
  L_verdict hN hM hq h.2.2.2.2.1.1 h.2.2.2.2.1.2.1 h.2.2.2.2.1.2.2
def rqL (M : gS) (T G : Nat) (l : List Nat) : Int32 := l.foldl (fun s c => s ||| rqG M c T G) (iN 0)
/-- the law's row d holds these, the first ones of it -/
def dHas (σ : gS) (F : List Nat) : Prop := F.length ≤ 32 ∧ ∀ j, j < F.length → σ.1 179 j = iN (F.getD j 0)
theorem L_requiredOf {N : Nat} {σ M : gS} {n T G V k : Nat} {F : List Nat} (hN : 100 ≤ N) (hM : lawOf σ = M) (h : LF M n T G V) (hd : dHas σ F) (hF : ∀ c ∈ F, c < n) (hk : k ≤ F.length) : fL_requiredOf N σ (0 : Int32) (iN k) = some (rqL M T G (F.take k)) := by
  have hn := h.1.2.1
  have hd1 := hd.1
  unfold fL_requiredOf
  refine lp_run (fun j => (rqL M T G (F.take j), iN j)) k (fun j hj rec => ?_) (fun rec => ?_) N (by omega)
  · have hj2 : j < F.length := by omega
    have hc : F.getD j 0 < n := hF _ (gD_mem hj2)
    have e1 : F.getD j 0 - F.getD j 0 / 100 * 100 = F.getD j 0 := by omega
    simp (disch := omega) only [fL_requiredOf_7, hd.2 j hj2, i_0, i_1, i_2, i_3, i_4, i_5, i_6, i_7, i_8, i_9, i_10, i_11, i_12, i_14, i_15, i_16, i_24, i_30, i_31, i_32, i_48, i_60, i_64, i_80, i_99, i_100, i_m1, iN_of, iN_add, iN_mul, iN_sub, iN_01, iM_1, iN_div, iN_lt, iN_le, iN_eq, iN_cl, iM_lt, iM_gt, iM_le, iM_ge, iM_eq, iM_eq2, iN_64, jN_32, if_pos, if_neg, if_true, if_false, true_or, or_true, false_or, or_false, not_true_eq_false, not_false_eq_true, Option.bind_some]
    rw [e1, L_req hN hM h hc, Option.bind_some, take_snoc hj2]
    unfold rqL
    rw [List.foldl_append]; rfl
  · simp (disch := omega) only [fL_requiredOf_7, i_0, i_1, i_2, i_3, i_4, i_5, i_6, i_7, i_8, i_9, i_10, i_11, i_12, i_14, i_15, i_16, i_24, i_30, i_31, i_32, i_48, i_60, i_64, i_80, i_99, i_100, i_m1, iN_of, iN_add, iN_mul, iN_sub, iN_01, iM_1, iN_div, iN_lt, iN_le, iN_eq, iN_cl, iM_lt, iM_gt, iM_le, iM_ge, iM_eq, iM_eq2, iN_64, jN_32, if_pos, if_neg, if_true, if_false, true_or, or_true, false_or, or_false, not_true_eq_false, not_false_eq_true, Option.bind_some]
theorem L_beginning {N : Nat} {σ M : gS} {n k : Nat} {t : Int64} {F : List Nat} (hN : 100 ≤ N) (hM : lawOf σ = M) (hn : n ≤ 20) (hd : dHas σ F) (hF : ∀ c ∈ F, c < n) (hk : k ≤ F.length) : fL_beginning N σ (iN k) t = some (treeL M t (F.take k)) := by
  have hd1 := hd.1
  unfold fL_beginning
  refine lp_run (fun j => (treeL M t (F.take j), iN j)) k (fun j hj rec => ?_) (fun rec => ?_) N (by omega)
  · have hj2 : j < F.length := by omega
    have hc : F.getD j 0 < n := hF _ (gD_mem hj2)
    simp (disch := omega) only [fL_beginning_7, hd.2 j hj2, L_onto hN hM, i_0, i_1, i_2, i_3, i_4, i_5, i_6, i_7, i_8, i_9, i_10, i_11, i_12, i_14, i_15, i_16, i_24, i_30, i_31, i_32, i_48, i_60, i_64, i_80, i_99, i_100, i_m1, iN_of, iN_add, iN_mul, iN_sub, iN_01, iM_1, iN_div, iN_lt, iN_le, iN_eq, iN_cl, iM_lt, iM_gt, iM_le, iM_ge, iM_eq, iM_eq2, iN_64, jN_32, if_pos, if_neg, if_true, if_false, true_or, or_true, false_or, or_false, not_true_eq_false, not_false_eq_true, Option.bind_some]
    rw [take_snoc hj2]
    unfold treeL
    rw [List.foldl_append]; rfl
  · simp (disch := omega) only [fL_beginning_7, i_0, i_1, i_2, i_3, i_4, i_5, i_6, i_7, i_8, i_9, i_10, i_11, i_12, i_14, i_15, i_16, i_24, i_30, i_31, i_32, i_48, i_60, i_64, i_80, i_99, i_100, i_m1, iN_of, iN_add, iN_mul, iN_sub, iN_01, iM_1, iN_div, iN_lt, iN_le, iN_eq, iN_cl, iM_lt, iM_gt, iM_le, iM_ge, iM_eq, iM_eq2, iN_64, jN_32, if_pos, if_neg, if_true, if_false, true_or, or_true, false_or, or_false, not_true_eq_false, not_false_eq_true, Option.bind_some]
/-! bisecting -/
def wtA (M : gS) (c : Nat) : Nat := 1 + vN M 178 (6 + vN M 162 c)
def wtL (M : gS) (l : List Nat) : Nat := l.foldl (fun s c => s + wtA M c) 0
def nxF (w : Nat → Nat) (g b : Nat) : Nat → Nat → Nat
  | 0, k => k
  | f + 1, k => if k < b - 1 ∧ 2 * (w k - w g) < w b - w g then nxF w g b f (k + 1) else k
def nxB (w : Nat → Nat) (g b : Nat) : Nat := nxF w g b b (g + 1)
def bisB (vd : Nat → Nat) (w : Nat → Nat) : Nat → Nat → Nat → Nat × Nat × Option Nat
  | 0, g, b => (g, b, none)
  | f + 1, g, b => if b - g ≤ 1 then (g, b, none) else if vd (nxB w g b) = 0 then (g, b, some (nxB w g b)) else if vd (nxB w g b) = 1 then bisB vd w f (nxB w g b) b else bisB vd w f g (nxB w g b)
def wtF (M : gS) (F : List Nat) (k : Nat) : Nat := wtL M (F.take k)
def vdF (M : gS) (T G V : Nat) (t : Int64) (F : List Nat) (k : Nat) : Nat := sTog (rqL M T G (F.take k)) (fun q => sVer M V q (treeL M t (F.take k))) T
theorem wtF_step {M : gS} {F : List Nat} {j : Nat} (h : j < F.length) : wtF M F (j + 1) = wtF M F j + wtA M (F.getD j 0) := by
  unfold wtF wtL
  rw [take_snoc h, List.foldl_append]; rfl
theorem wtF_mono {M : gS} {F : List Nat} {g : Nat} : ∀ (d : Nat), g + d ≤ F.length → wtF M F g + d ≤ wtF M F (g + d)
  | 0, _ => Nat.le_refl _
  | d + 1, h => by
    have := wtF_mono (M := M) (F := F) (g := g) d (by omega)
    rw [show g + (d + 1) = g + d + 1 by omega, wtF_step (by omega)]
    unfold wtA; omega
theorem nxF_bd {w : Nat → Nat} {g b : Nat} (hb : g + 2 ≤ b) : ∀ (f k : Nat), g + 1 ≤ k → k ≤ b - 1 → g + 1 ≤ nxF w g b f k ∧ nxF w g b f k ≤ b - 1
  | 0, k, h1, h2 => ⟨h1, h2⟩
  | f + 1, k, h1, h2 => by
    unfold nxF
    by_cases h : k < b - 1 ∧ 2 * (w k - w g) < w b - w g
    · rw [if_pos h]; exact nxF_bd hb f (k + 1) (by omega) (by omega)
    · rw [if_neg h]; exact ⟨h1, h2⟩
theorem nxB_bd {w : Nat → Nat} {g b : Nat} (hb : g + 2 ≤ b) : g + 1 ≤ nxB w g b ∧ nxB w g b ≤ b - 1 := nxF_bd hb b (g + 1) (Nat.le_refl _) (by omega)
