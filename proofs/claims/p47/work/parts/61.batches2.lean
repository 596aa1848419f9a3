/-! the law's batches, all of them -/
def ordM (M : gS) (n : Nat) : List Nat := ordL M n n (fun c => decide (M.1 164 c = iN 1))
theorem tb_z (d : Nat) : tb (iN 0) d = false := by
  unfold tb; simp [iN]
theorem Wl_0 {M : gS} : Wl M (iN 0) = fun c => decide (M.1 164 c = iN 1) := by
  funext d
  show (decide (M.1 164 d = iN 1) && !tb (iN 0) d) = _
  rw [tb_z]; simp
theorem ordM_0 {M : gS} {n : Nat} : ordL M n n (Wl M (iN 0)) = ordM M n := by rw [Wl_0]; rfl
def codB : Nat → List (List Nat) → List Nat
  | _, [] => []
  | b, l :: r => l.map (fun c => c + 100 * b) ++ codB (b + 1) r
theorem codB_cons {b : Nat} {l : List Nat} {r : List (List Nat)} : codB b (l :: r) = l.map (fun c => c + 100 * b) ++ codB (b + 1) r := rfl
theorem sCnt_inU {inn : Nat → Bool} {c n : Nat} (hc : c < n) (h : inn c = false) : sCnt (inU inn c) n = sCnt inn n + 1 := by
  have e : Wm (inU inn c) c = inn := by
    funext d
    unfold Wm inU
    by_cases q : d = c
    · rw [q, h]; simp
    · rw [decide_eq_false q]; simp
  have := sCnt_wm (W := inU inn c) hc (by unfold inU; simp)
  rw [e] at this
  exact this.symm
theorem takeB_cnt {M : gS} {n : Nat} : ∀ (l : List Nat) (sz : Nat) (inn : Nat → Bool) (t : Int64), (∀ c ∈ l, c < n) → sCnt (inL inn (takeB M l sz inn t)) n = sCnt inn n + (takeB M l sz inn t).length
  | [], _, _, _, _ => by unfold takeB; rfl
  | _ :: _, 0, _, _, _ => by unfold takeB; rfl
  | c :: r, sz + 1, inn, t, hl => by
    unfold takeB
    have hr : ∀ d ∈ r, d < n := fun d hd => hl d (List.mem_cons_of_mem _ hd)
    by_cases h : freeB M inn c t = true
    · rw [if_pos h]
      have hf : inn c = false := by
        unfold freeB at h
        revert h; cases inn c <;> simp
      have := takeB_cnt (M := M) r sz (inU inn c) (ontoM M t c) hr
      rw [sCnt_inU (hl c List.mem_cons_self) hf] at this
      show sCnt (inL (inU inn c) _) n = _
      rw [this, List.length_cons]; omega
    · rw [if_neg h]; exact takeB_cnt r (sz + 1) inn t hr
theorem tb_orL : ∀ (l : List Nat) (x : Int32) (inn : Nat → Bool), (∀ c ∈ l, c < 32) → (∀ d, d < 32 → tb x d = inn d) → ∀ d, d < 32 → tb (orL x l) d = inL inn l d
  | [], _, _, _, h => h
  | c :: r, x, inn, hl, h => tb_orL r (x ||| (iN 1 <<< (iN c &&& iN 31))) (inU inn c) (fun d hd => hl d (List.mem_cons_of_mem _ hd)) (fun d hd => by rw [tb_or, tb_one (hl c List.mem_cons_self), h d hd]; rfl)
theorem L_b13 {N : Nat} {M : gS} {n sz dep : Nat} (hN : 100 ≤ N) (h0 : M.1 161 0 = iN n) (hn : n ≤ 20) (h5 : M.1 161 5 = iN sz) (hsz : sz ≤ 8) (h6 : M.1 161 6 = iN dep) (hdep : dep ≤ 4) (hp : parOK M n) : ∀ (k b : Nat) (σ : gS) (fr : Nat) (x13 : Int32) (inn : Nat → Bool) (t : Int64) (N' : Nat), b + k = dep → k < N' → lawOf σ = M → sCnt inn n = fr → (∀ d, d < 32 → tb x13 d = inn d) →
    ∃ σ' : gS, lp (fL_batches_13 N) N' (σ, iN fr, x13, t, iN b) = some (iN (fr + (codB b (batL M (ordM M n) sz k inn t)).length), σ') ∧ lawOf σ' = M ∧ σ'.2.2 = σ.2.2 ∧ (∀ k', k' ≠ 179 → σ'.1 k' = σ.1 k') ∧ (∀ k', k' ≠ 180 → σ'.2.1 k' = σ.2.1 k') ∧ (∀ j, j < fr → σ'.1 179 j = σ.1 179 j) ∧ (∀ j, j < (codB b (batL M (ordM M n) sz k inn t)).length → σ'.1 179 (fr + j) = iN ((codB b (batL M (ordM M n) sz k inn t)).getD j 0)) ∧ (∀ i, i < b → σ'.2.1 180 i = σ.2.1 180 i) ∧ ∀ i, i < k → i ≤ (batL M (ordM M n) sz k inn t).length → σ'.2.1 180 (b + i) = treeL M t ((batL M (ordM M n) sz k inn t).take (i + 1)).flatten := by
  intro k
  induction k with
  | zero =>
    intro b σ fr x13 inn t N' hb hN' hM hfr hin
    obtain ⟨N', rfl⟩ : ∃ k, N' = k + 1 := ⟨N' - 1, by omega⟩
    refine ⟨σ, ?_, hM, rfl, fun _ _ => rfl, fun _ _ => rfl, fun _ _ => rfl, fun j h => absurd h (Nat.not_lt_zero j), fun _ _ => rfl, fun i h => absurd h (Nat.not_lt_zero i)⟩
    rw [lp_1]
    simp (disch := omega) only [fL_batches_13, lw1 hM, h6, i_0, i_1, i_2, i_3, i_4, i_5, i_6, i_7, i_8, i_9, i_10, i_11, i_12, i_14, i_15, i_16, i_24, i_30, i_31, i_32, i_48, i_60, i_64, i_80, i_99, i_100, i_m1, iN_of, iN_add, iN_mul, iN_sub, iN_01, iM_1, iN_div, iN_lt, iN_le, iN_eq, iN_cl, iM_lt, iM_gt, iM_le, iM_ge, iM_eq, iM_eq2, iN_64, jN_32, if_pos, if_neg, if_true, if_false, true_or, or_true, false_or, or_false, not_true_eq_false, not_false_eq_true, Option.bind_some]
    rfl
  | succ k ih =>
    intro b σ fr x13 inn t N' hb hN' hM hfr hin
    obtain ⟨N', rfl⟩ : ∃ k, N' = k + 1 := ⟨N' - 1, by omega⟩
    have hfrn : fr ≤ n := hfr ▸ sCnt_le n
    obtain ⟨σ1, r1, r2, r3, r4, r5, r6⟩ := L_b41 (rec13 := lp (fL_batches_13 N) N') (b := b) (fr := fr) hN h0 hn h5 (by omega) (by omega) hp n (iN 0) σ fr x13 inn t N (sCnt_le n) (by omega) hM (Nat.le_refl _) (by omega) hin
    rw [Nat.add_sub_cancel_left] at r1 r6
    have hmem : ∀ c ∈ takeB M (ordM M n) sz inn t, c < n := fun c hc => (ordL_mem n _ c (takeB_mem _ _ _ _ c hc)).1
    have hcnt := takeB_cnt (M := M) (n := n) (ordM M n) sz inn t (fun c hc => (ordL_mem n _ c hc).1)
    have hlen := takeB_len (M := M) (ordM M n) sz inn t
    have horb := tb_orL (takeB M (ordM M n) sz inn t) x13 inn (fun c hc => by have := hmem c hc; omega) hin
    have hM2 : ∀ v, lawOf (sJ σ1 180 b v) = M := fun v => (lawOf_sJ (by omega)).trans r2
    rw [lp_1]
    change ∃ σ', fL_batches_13 N (lp (fL_batches_13 N) N') _ = _ ∧ _
    rw [ordM_0] at r1 r6
    have e13 : fL_batches_13 N (lp (fL_batches_13 N) N') (σ, iN fr, x13, t, iN b) = fL_batches_186 N (lp (fL_batches_13 N) N') σ1 (iN (fr + (takeB M (ordM M n) sz inn t).length)) (orL x13 (takeB M (ordM M n) sz inn t)) (treeL M t (takeB M (ordM M n) sz inn t)) (iN b) (iN fr) := by
      simp (disch := omega) only [fL_batches_13, lw1 hM, h6, L_next hN hM h0 hn hp, i_0, i_1, i_2, i_3, i_4, i_5, i_6, i_7, i_8, i_9, i_10, i_11, i_12, i_14, i_15, i_16, i_24, i_30, i_31, i_32, i_48, i_60, i_64, i_80, i_99, i_100, i_m1, iN_of, iN_add, iN_mul, iN_sub, iN_01, iM_1, iN_div, iN_lt, iN_le, iN_eq, iN_cl, iM_lt, iM_gt, iM_le, iM_ge, iM_eq, iM_eq2, iN_64, jN_32, if_pos, if_neg, if_true, if_false, true_or, or_true, false_or, or_false, not_true_eq_false, not_false_eq_true, Option.bind_some]
      exact r1
    rw [e13]
    cases hB : takeB M (ordM M n) sz inn t with
    | nil =>
      rw [hB] at r6
      rw [batL_nil hB]
      refine ⟨sJ σ1 180 b t, ?_, hM2 t, by rw [sJ_3, r3], fun k' hk' => r4 k' hk', fun k' hk' => ?_, fun j hj => r5 j hj, fun j h => absurd h (Nat.not_lt_zero j), fun i hi => ?_, fun i hi hi2 => ?_⟩
      · simp (disch := omega) only [fL_batches_186, List.length_nil, i_0, i_1, i_2, i_3, i_4, i_5, i_6, i_7, i_8, i_9, i_10, i_11, i_12, i_14, i_15, i_16, i_24, i_30, i_31, i_32, i_48, i_60, i_64, i_80, i_99, i_100, i_m1, iN_of, iN_add, iN_mul, iN_sub, iN_01, iM_1, iN_div, iN_lt, iN_le, iN_eq, iN_cl, iM_lt, iM_gt, iM_le, iM_ge, iM_eq, iM_eq2, iN_64, jN_32, if_pos, if_neg, if_true, if_false, true_or, or_true, false_or, or_false, not_true_eq_false, not_false_eq_true, Option.bind_some]
        rfl
      · funext j; rw [sJ_2, if_neg (by omega), r3]
      · rw [sJ_2, if_neg (by omega), r3]
      · have : i = 0 := by simpa using hi2
        rw [this, sJ_2, if_pos ⟨rfl, rfl⟩]; rfl
    | cons c r =>
      rw [hB] at r6 hcnt hlen horb
      rw [batL_cons hB]
      obtain ⟨σ', w1, w2, w3, w4, w5, w6, w7, w8, w9⟩ := ih (b + 1) (sJ σ1 180 b (treeL M t (c :: r))) (fr + (c :: r).length) (orL x13 (c :: r)) (inL inn (c :: r)) (treeL M t (c :: r)) N' (by omega) (by omega) (hM2 _) (by rw [hcnt, hfr]) horb
      have hml : ((c :: r).map (fun c => c + 100 * b)).length = (c :: r).length := List.length_map _
      refine ⟨σ', ?_, w2, by rw [w3, sJ_3, r3], fun k' hk' => (w4 k' hk').trans (r4 k' hk'), fun k' hk' => ?_, fun j hj => ?_, fun j hj => ?_, fun i hi => ?_, fun i hi hi2 => ?_⟩
      · have hl0 : (c :: r).length ≠ 0 := by simp
        simp (disch := omega) only [fL_batches_186, i_0, i_1, i_2, i_3, i_4, i_5, i_6, i_7, i_8, i_9, i_10, i_11, i_12, i_14, i_15, i_16, i_24, i_30, i_31, i_32, i_48, i_60, i_64, i_80, i_99, i_100, i_m1, iN_of, iN_add, iN_mul, iN_sub, iN_01, iM_1, iN_div, iN_lt, iN_le, iN_eq, iN_cl, iM_lt, iM_gt, iM_le, iM_ge, iM_eq, iM_eq2, iN_64, jN_32, if_pos, if_neg, if_true, if_false, true_or, or_true, false_or, or_false, not_true_eq_false, not_false_eq_true, Option.bind_some]
        rw [w1, show (codB b ((c :: r) :: batL M (ordM M n) sz k (inL inn (c :: r)) (treeL M t (c :: r)))).length = (c :: r).length + (codB (b + 1) (batL M (ordM M n) sz k (inL inn (c :: r)) (treeL M t (c :: r)))).length by rw [codB_cons, List.length_append, hml], Nat.add_assoc]
      · rw [w5 k' hk']; funext j; rw [sJ_2, if_neg (by omega), r3]
      · rw [w6 j (by omega)]; exact r5 j hj
      · rw [codB_cons] at hj ⊢
        rw [List.length_append, hml] at hj
        by_cases hj2 : j < (c :: r).length
        · rw [w6 (fr + j) (by omega)]
          show σ1.1 179 (fr + j) = _
          rw [r6 j hj2, gD_app1 (by rw [hml]; exact hj2)]
          rw [show ((c :: r).map (fun c => c + 100 * b)).getD j 0 = (c :: r).getD j 0 + 100 * b from ?_]
          have : ∀ (l : List Nat) (j : Nat), j < l.length → (l.map (fun c => c + 100 * b)).getD j 0 = l.getD j 0 + 100 * b := by
            intro l
            induction l with
            | nil => intro j h; exact absurd h (Nat.not_lt_zero j)
            | cons a l ih =>
              intro j h
              cases j with
              | zero => rfl
              | succ j => exact ih j (by simpa using h)
          exact this (c :: r) j hj2
        · have h3 := w7 (j - (c :: r).length) (by omega)
          rw [show fr + (c :: r).length + (j - (c :: r).length) = fr + j by omega] at h3
          rw [h3]
          have h4 := gD_app2 (l := (c :: r).map (fun c => c + 100 * b)) (r := codB (b + 1) (batL M (ordM M n) sz k (inL inn (c :: r)) (treeL M t (c :: r)))) (j := j - (c :: r).length)
          rw [hml, show (c :: r).length + (j - (c :: r).length) = j by omega] at h4
          rw [h4]
      · rw [w8 i (by omega), sJ_2, if_neg (by omega), r3]
      · cases i with
        | zero =>
          rw [show b + 0 = b from rfl, w8 b (by omega), sJ_2, if_pos ⟨rfl, rfl⟩]
          simp
        | succ i =>
          have := w9 i (by omega) (by simpa using hi2)
          rw [show b + (i + 1) = b + 1 + i by omega, this]
          rw [List.take_succ_cons, List.flatten_cons]
          unfold treeL
          rw [List.foldl_append]
/-- the batches of a memory of the law -/
def batM (M : gS) (n sz dep : Nat) (t : Int64) : List (List Nat) := batL M (ordM M n) sz dep (fun _ => false) t
theorem sCnt_f : ∀ n, sCnt (fun _ => false) n = 0
  | 0 => rfl
  | n + 1 => by unfold sCnt; rw [sCnt_f n]; rfl
theorem L_batches {N : Nat} {σ M : gS} {n sz dep : Nat} {t : Int64} (hN : 100 ≤ N) (hM : lawOf σ = M) (h0 : M.1 161 0 = iN n) (hn : n ≤ 20) (h5 : M.1 161 5 = iN sz) (hsz : sz ≤ 8) (h6 : M.1 161 6 = iN dep) (hdep : dep ≤ 4) (hp : parOK M n) :
    ∃ σ' : gS, fL_batches N σ t = some (iN (codB 0 (batM M n sz dep t)).length, σ') ∧ lawOf σ' = M ∧ σ'.2.2 = σ.2.2 ∧ (∀ k', k' ≠ 179 → σ'.1 k' = σ.1 k') ∧ (∀ k', k' ≠ 180 → σ'.2.1 k' = σ.2.1 k') ∧ (∀ j, j < (codB 0 (batM M n sz dep t)).length → σ'.1 179 j = iN ((codB 0 (batM M n sz dep t)).getD j 0)) ∧ ∀ i, i < dep → i ≤ (batM M n sz dep t).length → σ'.2.1 180 i = treeL M t ((batM M n sz dep t).take (i + 1)).flatten := by
  obtain ⟨σ', w1, w2, w3, w4, w5, w6, w7, w8, w9⟩ := L_b13 hN h0 hn h5 hsz h6 hdep hp dep 0 σ 0 (iN 0) (fun _ => false) t N (by omega) (by omega) hM (sCnt_f n) (fun d _ => tb_z d)
  refine ⟨σ', ?_, w2, w3, w4, w5, fun j hj => ?_, fun i hi hi2 => ?_⟩
  · unfold fL_batches
    rw [Nat.zero_add] at w1
    exact w1
  · have := w7 j hj
    rw [Nat.zero_add] at this; exact this
  · have := w9 i hi hi2
    rw [Nat.zero_add] at this; exact this
/-! how many of a batch -/
def cntC (b : Nat) : List Nat → Nat
  | [] => 0
  | v :: r => (if v / 100 = b then 1 else 0) + cntC b r
theorem cntC_cons {b v : Nat} {r : List Nat} : cntC b (v :: r) = (if v / 100 = b then 1 else 0) + cntC b r := rfl
theorem cntC_app {b : Nat} : ∀ (l r : List Nat), cntC b (l ++ r) = cntC b l + cntC b r
  | [], r => by rw [List.nil_append]; unfold cntC; exact (Nat.zero_add _).symm
  | v :: l, r => by
    rw [List.cons_append, cntC_cons, cntC_cons, cntC_app l r]; omega
theorem cntC_le {b : Nat} : ∀ (l : List Nat), cntC b l ≤ l.length
  | [] => Nat.le_refl _
  | v :: l => by
    rw [cntC_cons, List.length_cons]
    have := cntC_le (b := b) l
    split <;> omega
theorem cntC_map {a b : Nat} : ∀ (l : List Nat), (∀ c ∈ l, c < 100) → cntC b (l.map (fun c => c + 100 * a)) = if a = b then l.length else 0
  | [], _ => by unfold cntC; simp
  | c :: l, h => by
    have h1 := h c List.mem_cons_self
    have := cntC_map (a := a) (b := b) l (fun d hd => h d (List.mem_cons_of_mem _ hd))
    rw [List.map_cons, cntC_cons, this, show (c + 100 * a) / 100 = a by omega, List.length_cons]
    split <;> omega
theorem cntC_cod {b : Nat} : ∀ (bs : List (List Nat)) (a : Nat), (∀ l ∈ bs, ∀ c ∈ l, c < 100) → cntC b (codB a bs) = if a ≤ b then (bs.getD (b - a) []).length else 0
  | [], a, _ => by unfold codB cntC; simp
  | l :: bs, a, h => by
    have h2 := cntC_cod (b := b) bs (a + 1) (fun m hm => h m (List.mem_cons_of_mem _ hm))
    rw [codB_cons, cntC_app, cntC_map l (h l List.mem_cons_self), h2]
    by_cases e : a = b
    · subst e
      rw [if_pos rfl, if_neg (by omega), if_pos (Nat.le_refl _), Nat.sub_self]; rfl
    · rw [if_neg e]
      by_cases e2 : a ≤ b
      · rw [if_pos (by omega), if_pos e2, Nat.zero_add, show b - a = b - (a + 1) + 1 by omega]; rfl
      · rw [if_neg (by omega), if_neg e2]
theorem L_many {N : Nat} {σ : gS} {b : Nat} {l : List Nat} (hN : 100 ≤ N) (hl : l.length ≤ 32) (hb : b < 100) (hd : ∀ j, j < l.length → σ.1 179 j = iN (l.getD j 0)) (hv : ∀ v ∈ l, v < 1000) : fL_many N σ (iN l.length) (iN b) = some (iN (cntC b l)) := by
  unfold fL_many
  refine lp_run (fun j => (iN (cntC b (l.take j)), iN j)) l.length (fun j hj rec => ?_) (fun rec => ?_) N (by omega)
  · have hv1 := hv _ (gD_mem hj)
    rw [take_snoc hj, cntC_app]
    unfold cntC
    by_cases e : l.getD j 0 / 100 = b
    · simp (disch := omega) only [fL_many_5, fL_many_28, hd j hj, e, i_0, i_1, i_2, i_3, i_4, i_5, i_6, i_7, i_8, i_9, i_10, i_11, i_12, i_14, i_15, i_16, i_24, i_30, i_31, i_32, i_48, i_60, i_64, i_80, i_99, i_100, i_m1, iN_of, iN_add, iN_mul, iN_sub, iN_01, iM_1, iN_div, iN_lt, iN_le, iN_eq, iN_cl, iM_lt, iM_gt, iM_le, iM_ge, iM_eq, iM_eq2, iN_64, jN_32, if_pos, if_neg, if_true, if_false, true_or, or_true, false_or, or_false, not_true_eq_false, not_false_eq_true, Option.bind_some]
      rfl
    · simp (disch := omega) only [fL_many_5, fL_many_28, hd j hj, e, i_0, i_1, i_2, i_3, i_4, i_5, i_6, i_7, i_8, i_9, i_10, i_11, i_12, i_14, i_15, i_16, i_24, i_30, i_31, i_32, i_48, i_60, i_64, i_80, i_99, i_100, i_m1, iN_of, iN_add, iN_mul, iN_sub, iN_01, iM_1, iN_div, iN_lt, iN_le, iN_eq, iN_cl, iM_lt, iM_gt, iM_le, iM_ge, iM_eq, iM_eq2, iN_64, jN_32, if_pos, if_neg, if_true, if_false, true_or, or_true, false_or, or_false, not_true_eq_false, not_false_eq_true, Option.bind_some]
      rfl
  · simp (disch := omega) only [fL_many_5, List.take_length, i_0, i_1, i_2, i_3, i_4, i_5, i_6, i_7, i_8, i_9, i_10, i_11, i_12, i_14, i_15, i_16, i_24, i_30, i_31, i_32, i_48, i_60, i_64, i_80, i_99, i_100, i_m1, iN_of, iN_add, iN_mul, iN_sub, iN_01, iM_1, iN_div, iN_lt, iN_le, iN_eq, iN_cl, iM_lt, iM_gt, iM_le, iM_ge, iM_eq, iM_eq2, iN_64, jN_32, if_pos, if_neg, if_true, if_false, true_or, or_true, false_or, or_false, not_true_eq_false, not_false_eq_true, Option.bind_some]
theorem dHas_cod {σ : gS} {F : List Nat} {bs : List (List Nat)} (h : (codB 0 (F :: bs)).length ≤ 32) (hd : ∀ j, j < (codB 0 (F :: bs)).length → σ.1 179 j = iN ((codB 0 (F :: bs)).getD j 0)) : dHas σ F := by
  have e : codB 0 (F :: bs) = F ++ codB 1 bs := by
    rw [codB_cons, show F.map (fun c => c + 100 * 0) = F by simp]
  rw [e] at h hd
  rw [List.length_append] at h
  refine ⟨by omega, fun j hj => ?_⟩
  rw [hd j (by rw [List.length_append]; omega), gD_app1 hj]
