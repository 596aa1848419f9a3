/-! the order as a list; the batches -/
theorem gD_app1 {l r : List Nat} : ∀ {j : Nat}, j < l.length → (l ++ r).getD j 0 = l.getD j 0 := by
  induction l with
  | nil => intro j h; exact absurd h (by simp)
  | cons c l ih =>
    intro j h
    cases j with
    | zero => rfl
    | succ j => exact ih (j := j) (by simpa using h)
theorem gD_app2 {l r : List Nat} : ∀ {j : Nat}, (l ++ r).getD (l.length + j) 0 = r.getD j 0 := by
  induction l with
  | nil => intro j; simp
  | cons c l ih =>
    intro j
    rw [List.length_cons, show l.length + 1 + j = (l.length + j) + 1 by omega]
    exact ih
theorem gD_mem {l : List Nat} : ∀ {j : Nat}, j < l.length → l.getD j 0 ∈ l := by
  induction l with
  | nil => intro j h; exact absurd h (by simp)
  | cons c l ih =>
    intro j h
    cases j with
    | zero => exact List.mem_cons_self
    | succ j => exact List.mem_cons_of_mem _ (ih (j := j) (by simpa using h))
def Wm (W : Nat → Bool) (c : Nat) : Nat → Bool := fun d => W d && !decide (d = c)
theorem Wl_step {M : gS} {x : Int32} {c : Nat} (hc : c < 32) : Wl M (x ||| (iN 1 <<< (iN c &&& iN 31))) = Wm (Wl M x) c := by
  funext d
  show (decide (M.1 164 d = iN 1) && !tb (x ||| (iN 1 <<< (iN c &&& iN 31))) d) = ((decide (M.1 164 d = iN 1) && !tb x d) && !decide (d = c))
  rw [tb_or, tb_one hc]
  cases decide (M.1 164 d = iN 1) <;> cases tb x d <;> cases decide (d = c) <;> rfl
theorem nx_congr {M : gS} {W W' : Nat → Bool} {n : Nat} (hp : parOK M n) (h : ∀ c, c < n → W c = W' c) : ∀ m, m ≤ n → nx M W m = nx M W' m := by
  intro m
  induction m with
  | zero => intro _; rfl
  | succ m ih =>
    intro hm
    have e := ih (by omega)
    have e2 : hangB W (par M m) = hangB W' (par M m) := by
      cases q : par M m with
      | none => rfl
      | some r => exact h r (by have := (hp m (by omega)).2 r q; omega)
    unfold nx
    rw [e, e2, h m (by omega)]
theorem sCnt_wm {W : Nat → Bool} {c n : Nat} (hc : c < n) (hW : W c = true) : sCnt (Wm W c) n + 1 = sCnt W n := by
  induction n with
  | zero => omega
  | succ n ih =>
    unfold sCnt
    by_cases e : c = n
    · subst e
      have e1 : sCnt (Wm W c) c = sCnt W c := by
        have : ∀ m, m ≤ c → sCnt (Wm W c) m = sCnt W m := by
          intro m
          induction m with
          | zero => intro _; rfl
          | succ m ih2 =>
            intro hm
            unfold sCnt
            rw [ih2 (by omega)]
            have : Wm W c m = W m := by unfold Wm; rw [decide_eq_false (show ¬ m = c by omega)]; simp
            rw [this]
        exact this c (Nat.le_refl _)
      have e2 : Wm W c c = false := by unfold Wm; simp
      rw [e1, e2, hW]; simp
    · have := ih (by omega)
      have e2 : Wm W c n = W n := by unfold Wm; rw [decide_eq_false (show ¬ n = c by omega)]; simp
      rw [e2]; omega
theorem nx_zero {M : gS} {W : Nat → Bool} {n : Nat} (h : sCnt W n = 0) : nx M W n = none := by
  cases q : nx M W n with
  | none => rfl
  | some c =>
    have := nx_lt q
    have h2 := sCnt_wm this.1 this.2.1
    omega
def ordL (M : gS) (n : Nat) : Nat → (Nat → Bool) → List Nat
  | 0, _ => []
  | k + 1, W => match nx M W n with
    | none => []
    | some c => c :: ordL M n k (Wm W c)
theorem ordL_none {M : gS} {n k : Nat} {W : Nat → Bool} (h : nx M W n = none) : ordL M n (k + 1) W = [] := by
  show (match nx M W n with
    | none => []
    | some c => c :: ordL M n k (Wm W c)) = _
  rw [h]
theorem ordL_some {M : gS} {n k c : Nat} {W : Nat → Bool} (h : nx M W n = some c) : ordL M n (k + 1) W = c :: ordL M n k (Wm W c) := by
  show (match nx M W n with
    | none => []
    | some c => c :: ordL M n k (Wm W c)) = _
  rw [h]
def standB (M : gS) (inn : Nat → Bool) : Option Nat → Bool
  | none => true
  | some q => decide (M.1 164 q = iN 2) || inn q
def freeB (M : gS) (inn : Nat → Bool) (c : Nat) (t : Int64) : Bool := !inn c && bFit (M.1 168 c) (M.2.1 169 c) t && standB M inn (par M c)
def inU (inn : Nat → Bool) (c : Nat) : Nat → Bool := fun d => inn d || decide (d = c)
def ontoM (M : gS) (t : Int64) (c : Nat) : Int64 := gOnto (M.1 168 c) (M.2.1 170 c) t
/-- the next batch out of an order -/
def takeB (M : gS) : List Nat → Nat → (Nat → Bool) → Int64 → List Nat
  | [], _, _, _ => []
  | _ :: _, 0, _, _ => []
  | c :: r, sz + 1, inn, t => if freeB M inn c t = true then c :: takeB M r sz (inU inn c) (ontoM M t c) else takeB M r (sz + 1) inn t
def inL (inn : Nat → Bool) (l : List Nat) : Nat → Bool := l.foldl inU inn
def treeL (M : gS) (t : Int64) (l : List Nat) : Int64 := l.foldl (ontoM M) t
def orL (x : Int32) (l : List Nat) : Int32 := l.foldl (fun x c => x ||| (iN 1 <<< (iN c &&& iN 31))) x
/-- all batches -/
def batL (M : gS) (ord : List Nat) (sz : Nat) : Nat → (Nat → Bool) → Int64 → List (List Nat)
  | 0, _, _ => []
  | k + 1, inn, t => match takeB M ord sz inn t with
    | [] => []
    | c :: r => (c :: r) :: batL M ord sz k (inL inn (c :: r)) (treeL M t (c :: r))
theorem batL_nil {M : gS} {ord : List Nat} {sz k : Nat} {inn : Nat → Bool} {t : Int64} (h : takeB M ord sz inn t = []) : batL M ord sz (k + 1) inn t = [] := by
  show (match takeB M ord sz inn t with
    | [] => []
    | c :: r => (c :: r) :: batL M ord sz k (inL inn (c :: r)) (treeL M t (c :: r))) = _
  rw [h]
theorem batL_cons {M : gS} {ord r : List Nat} {sz k c : Nat} {inn : Nat → Bool} {t : Int64} (h : takeB M ord sz inn t = c :: r) : batL M ord sz (k + 1) inn t = (c :: r) :: batL M ord sz k (inL inn (c :: r)) (treeL M t (c :: r)) := by
  show (match takeB M ord sz inn t with
    | [] => []
    | c :: r => (c :: r) :: batL M ord sz k (inL inn (c :: r)) (treeL M t (c :: r))) = _
  rw [h]
theorem takeB_len {M : gS} : ∀ (l : List Nat) (sz : Nat) (inn : Nat → Bool) (t : Int64), (takeB M l sz inn t).length ≤ sz
  | [], _, _, _ => by unfold takeB; exact Nat.zero_le _
  | _ :: _, 0, _, _ => by unfold takeB; exact Nat.zero_le _
  | c :: r, sz + 1, inn, t => by
    unfold takeB
    by_cases h : freeB M inn c t = true
    · rw [if_pos h]
      have := takeB_len (M := M) r sz (inU inn c) (ontoM M t c)
      simp only [List.length_cons]; omega
    · rw [if_neg h]; exact takeB_len r (sz + 1) inn t
theorem takeB_mem {M : gS} : ∀ (l : List Nat) (sz : Nat) (inn : Nat → Bool) (t : Int64), ∀ c ∈ takeB M l sz inn t, c ∈ l
  | [], _, _, _ => by unfold takeB; intro c h; cases h
  | _ :: _, 0, _, _ => by unfold takeB; intro c h; cases h
  | d :: r, sz + 1, inn, t => by
    unfold takeB
    intro c hc
    by_cases h : freeB M inn d t = true
    · rw [if_pos h] at hc
      rcases List.mem_cons.mp hc with e | e
      · exact e ▸ List.mem_cons_self
      · exact List.mem_cons_of_mem _ (takeB_mem r sz _ _ c e)
    · rw [if_neg h] at hc; exact List.mem_cons_of_mem _ (takeB_mem r (sz + 1) inn t c hc)
theorem ordL_mem {M : gS} {n : Nat} : ∀ (k : Nat) (W : Nat → Bool), ∀ c ∈ ordL M n k W, c < n ∧ W c = true
  | 0, _ => by intro c h; cases h
  | k + 1, W => by
    intro c hc
    unfold ordL at hc
    cases q : nx M W n with
    | none => rw [q] at hc; cases hc
    | some d =>
      rw [q] at hc
      have hd := nx_lt q
      rcases List.mem_cons.mp hc with e | e
      · exact e ▸ ⟨hd.1, hd.2.1⟩
      · have := ordL_mem k (Wm W d) c e
        have h2 := this.2
        unfold Wm at h2
        exact ⟨this.1, by revert h2; cases W c <;> simp⟩
/-- what stands at the head of a turn of the law's inner loop, and what behind it -/
theorem L_b41 {N : Nat} {M : gS} {n sz b fr : Nat} {rec13 : (gS × Int32 × Int32 × Int64 × Int32) → Option (Int32 × gS)} (hN : 100 ≤ N) (h0 : M.1 161 0 = iN n) (hn : n ≤ 20) (h5 : M.1 161 5 = iN sz) (hfr : fr + sz ≤ 32) (hb : b < 10) (hp : parOK M n) : ∀ (k : Nat) (x18 : Int32) (σ : gS) (many : Nat) (x13 : Int32) (inn : Nat → Bool) (t : Int64) (N' : Nat), sCnt (Wl M x18) n ≤ k → k < N' → lawOf σ = M → fr ≤ many → many ≤ fr + sz → (∀ d, d < 32 → tb x13 d = inn d) →
    ∃ σ' : gS, lp (fL_batches_41 N rec13 (iN b) (iN fr)) N' (σ, iN many, x13, t, x18, iO (nx M (Wl M x18) n)) = fL_batches_186 N rec13 σ' (iN (many + (takeB M (ordL M n k (Wl M x18)) (fr + sz - many) inn t).length)) (orL x13 (takeB M (ordL M n k (Wl M x18)) (fr + sz - many) inn t)) (treeL M t (takeB M (ordL M n k (Wl M x18)) (fr + sz - many) inn t)) (iN b) (iN fr)
      ∧ lawOf σ' = M ∧ σ'.2 = σ.2 ∧ (∀ k', k' ≠ 179 → σ'.1 k' = σ.1 k') ∧ (∀ j, j < many → σ'.1 179 j = σ.1 179 j) ∧ ∀ j, j < (takeB M (ordL M n k (Wl M x18)) (fr + sz - many) inn t).length → σ'.1 179 (many + j) = iN ((takeB M (ordL M n k (Wl M x18)) (fr + sz - many) inn t).getD j 0 + 100 * b) := by
  intro k
  induction k with
  | zero =>
    intro x18 σ many x13 inn t N' hk hN' hM hf1 hf2 hin
    obtain ⟨N', rfl⟩ : ∃ k, N' = k + 1 := ⟨N' - 1, by omega⟩
    rw [nx_zero (show sCnt (Wl M x18) n = 0 by omega)]
    refine ⟨σ, ?_, hM, rfl, fun _ _ => rfl, fun _ _ => rfl, fun j h => absurd h (Nat.not_lt_zero j)⟩
    rw [lp_1]
    simp (disch := omega) only [fL_batches_41, iO, i_0, i_1, i_2, i_3, i_4, i_5, i_6, i_7, i_8, i_9, i_10, i_11, i_12, i_14, i_15, i_16, i_24, i_30, i_31, i_32, i_48, i_60, i_64, i_80, i_99, i_100, i_m1, iN_of, iN_add, iN_mul, iN_sub, iN_01, iM_1, iN_div, iN_lt, iN_le, iN_eq, iN_cl, iM_lt, iM_gt, iM_le, iM_ge, iM_eq, iM_eq2, iN_64, jN_32, if_pos, if_neg, if_true, if_false, true_or, or_true, false_or, or_false, not_true_eq_false, not_false_eq_true, Option.bind_some]
    rfl
  | succ k ih =>
    intro x18 σ many x13 inn t N' hk hN' hM hf1 hf2 hin
    obtain ⟨N', rfl⟩ : ∃ k, N' = k + 1 := ⟨N' - 1, by omega⟩
    rw [lp_1]
    cases q : nx M (Wl M x18) n with
    | none =>
      rw [ordL_none q]
      refine ⟨σ, ?_, hM, rfl, fun _ _ => rfl, fun _ _ => rfl, fun j h => absurd h (Nat.not_lt_zero j)⟩
      simp (disch := omega) only [fL_batches_41, iO, i_0, i_1, i_2, i_3, i_4, i_5, i_6, i_7, i_8, i_9, i_10, i_11, i_12, i_14, i_15, i_16, i_24, i_30, i_31, i_32, i_48, i_60, i_64, i_80, i_99, i_100, i_m1, iN_of, iN_add, iN_mul, iN_sub, iN_01, iM_1, iN_div, iN_lt, iN_le, iN_eq, iN_cl, iM_lt, iM_gt, iM_le, iM_ge, iM_eq, iM_eq2, iN_64, jN_32, if_pos, if_neg, if_true, if_false, true_or, or_true, false_or, or_false, not_true_eq_false, not_false_eq_true, Option.bind_some]
      rfl
    | some c =>
      have hc := nx_lt q
      have hc32 : c < 32 := by omega
      rw [ordL_some q]
      by_cases hfull : fr + sz ≤ many
      · have e0 : fr + sz - many = 0 := by omega
        rw [e0]
        refine ⟨σ, ?_, hM, rfl, fun _ _ => rfl, fun _ _ => rfl, fun j h => absurd h (Nat.not_lt_zero j)⟩
        simp (disch := omega) only [fL_batches_41, iO, lw1 hM, h5, i_0, i_1, i_2, i_3, i_4, i_5, i_6, i_7, i_8, i_9, i_10, i_11, i_12, i_14, i_15, i_16, i_24, i_30, i_31, i_32, i_48, i_60, i_64, i_80, i_99, i_100, i_m1, iN_of, iN_add, iN_mul, iN_sub, iN_01, iM_1, iN_div, iN_lt, iN_le, iN_eq, iN_cl, iM_lt, iM_gt, iM_le, iM_ge, iM_eq, iM_eq2, iN_64, jN_32, if_pos, if_neg, if_true, if_false, true_or, or_true, false_or, or_false, not_true_eq_false, not_false_eq_true, Option.bind_some]
        rfl
      · obtain ⟨rm, erm⟩ : ∃ rm, fr + sz - many = rm + 1 := ⟨fr + sz - many - 1, by omega⟩
        rw [erm]
        have hcnt := sCnt_wm hc.1 hc.2.1
        have hstep := Wl_step (M := M) (x := x18) hc32
        -- goes on without it
        have e170 : ∀ (σ2 : gS) (m2 : Nat) (x2 : Int32) (i2 : Nat → Bool) (t2 : Int64), lawOf σ2 = M → fr ≤ m2 → m2 ≤ fr + sz → (∀ d, d < 32 → tb x2 d = i2 d) →
            ∃ σ' : gS, fL_batches_170 N rec13 (lp (fL_batches_41 N rec13 (iN b) (iN fr)) N') σ2 (iN m2) x2 t2 (iN b) (iN fr) (x18 ||| (iN 1 <<< (iN c &&& iN 31))) = fL_batches_186 N rec13 σ' (iN (m2 + (takeB M (ordL M n k (Wm (Wl M x18) c)) (fr + sz - m2) i2 t2).length)) (orL x2 (takeB M (ordL M n k (Wm (Wl M x18) c)) (fr + sz - m2) i2 t2)) (treeL M t2 (takeB M (ordL M n k (Wm (Wl M x18) c)) (fr + sz - m2) i2 t2)) (iN b) (iN fr)
              ∧ lawOf σ' = M ∧ σ'.2 = σ2.2 ∧ (∀ k', k' ≠ 179 → σ'.1 k' = σ2.1 k') ∧ (∀ j, j < m2 → σ'.1 179 j = σ2.1 179 j) ∧ ∀ j, j < (takeB M (ordL M n k (Wm (Wl M x18) c)) (fr + sz - m2) i2 t2).length → σ'.1 179 (m2 + j) = iN ((takeB M (ordL M n k (Wm (Wl M x18) c)) (fr + sz - m2) i2 t2).getD j 0 + 100 * b) := by
          intro σ2 m2 x2 i2 t2 hM2 hm1 hm2 hi2
          have := ih (x18 ||| (iN 1 <<< (iN c &&& iN 31))) σ2 m2 x2 i2 t2 N' (by rw [hstep]; omega) (by omega) hM2 hm1 hm2 hi2
          rw [hstep] at this
          unfold fL_batches_170
          rw [L_next hN hM2 h0 hn hp, hstep]
          exact this
        -- by its parent's place: what is asked of it
        have e101 : ∀ sb : Bool, ∃ σ' : gS, fL_batches_101 N rec13 (lp (fL_batches_41 N rec13 (iN b) (iN fr)) N') σ (iN many) x13 t (iN b) (iN fr) (x18 ||| (iN 1 <<< (iN c &&& iN 31))) (iN c) (iB sb) = fL_batches_186 N rec13 σ' (iN (many + (if (!inn c && bFit (M.1 168 c) (M.2.1 169 c) t && sb) = true then c :: takeB M (ordL M n k (Wm (Wl M x18) c)) rm (inU inn c) (ontoM M t c) else takeB M (ordL M n k (Wm (Wl M x18) c)) (rm + 1) inn t).length)) (orL x13 (if (!inn c && bFit (M.1 168 c) (M.2.1 169 c) t && sb) = true then c :: takeB M (ordL M n k (Wm (Wl M x18) c)) rm (inU inn c) (ontoM M t c) else takeB M (ordL M n k (Wm (Wl M x18) c)) (rm + 1) inn t)) (treeL M t (if (!inn c && bFit (M.1 168 c) (M.2.1 169 c) t && sb) = true then c :: takeB M (ordL M n k (Wm (Wl M x18) c)) rm (inU inn c) (ontoM M t c) else takeB M (ordL M n k (Wm (Wl M x18) c)) (rm + 1) inn t)) (iN b) (iN fr)
              ∧ lawOf σ' = M ∧ σ'.2 = σ.2 ∧ (∀ k', k' ≠ 179 → σ'.1 k' = σ.1 k') ∧ (∀ j, j < many → σ'.1 179 j = σ.1 179 j) ∧ ∀ j, j < (if (!inn c && bFit (M.1 168 c) (M.2.1 169 c) t && sb) = true then c :: takeB M (ordL M n k (Wm (Wl M x18) c)) rm (inU inn c) (ontoM M t c) else takeB M (ordL M n k (Wm (Wl M x18) c)) (rm + 1) inn t).length → σ'.1 179 (many + j) = iN ((if (!inn c && bFit (M.1 168 c) (M.2.1 169 c) t && sb) = true then c :: takeB M (ordL M n k (Wm (Wl M x18) c)) rm (inU inn c) (ontoM M t c) else takeB M (ordL M n k (Wm (Wl M x18) c)) (rm + 1) inn t).getD j 0 + 100 * b) := by
          intro sb
          unfold fL_batches_101
          have eno := e170 σ many x13 inn t hM hf1 hf2 hin
          rw [erm] at eno
          simp (disch := omega) only [i_31, i_1, i_0, tb_sh0 x13 hc32, hin c hc32]
          cases hi : inn c with
          | true =>
            rw [if_neg (by simp)]
            simpa using eno
          | false =>
            rw [if_pos (by simp), L_fits hN hM (by omega), Option.bind_some]
            simp only [iB0]
            by_cases hf : bFit (M.1 168 c) (M.2.1 169 c) t = false
            · rw [if_pos hf, hf]; simpa using eno
            · rw [if_neg hf]
              have hf2 : bFit (M.1 168 c) (M.2.1 169 c) t = true := by simpa using hf
              rw [hf2]
              cases sb with
              | false => rw [if_pos rfl]; simpa using eno
              | true =>
                rw [if_neg (by simp), L_onto hN hM (by omega), Option.bind_some]
                simp (disch := omega) only [i_0, i_1, i_2, i_3, i_4, i_5, i_6, i_7, i_8, i_9, i_10, i_11, i_12, i_14, i_15, i_16, i_24, i_30, i_31, i_32, i_48, i_60, i_64, i_80, i_99, i_100, i_m1, iN_of, iN_add, iN_mul, iN_sub, iN_01, iM_1, iN_div, iN_lt, iN_le, iN_eq, iN_cl, iM_lt, iM_gt, iM_le, iM_ge, iM_eq, iM_eq2, iN_64, jN_32, if_pos, if_neg, if_true, if_false, true_or, or_true, false_or, or_false, not_true_eq_false, not_false_eq_true, Option.bind_some]
                have hcond : (!false && true && true) = true := rfl
                rw [if_pos hcond]
                have hM2 : lawOf (sI σ 179 many (iN (c + 100 * b))) = M := (lawOf_sI (by omega)).trans hM
                obtain ⟨σ', r1, r2, r3, r4, r5, r6⟩ := e170 (sI σ 179 many (iN (c + 100 * b))) (many + 1) (x13 ||| (iN 1 <<< (iN c &&& iN 31))) (inU inn c) (ontoM M t c) hM2 (by omega) (by omega) (fun d hd => by rw [tb_or, tb_one hc32, hin d hd]; rfl)
                rw [show fr + sz - (many + 1) = rm by omega] at r1 r6
                refine ⟨σ', ?_, r2, r3.trans rfl, fun k' hk' => (r4 k' hk').trans (gU_ne _ _ _ hk'), fun j hj => (r5 j (by omega)).trans ?_, fun j hj => ?_⟩
                · rw [List.length_cons, show many + ((takeB M (ordL M n k (Wm (Wl M x18) c)) rm (inU inn c) (ontoM M t c)).length + 1) = many + 1 + (takeB M (ordL M n k (Wm (Wl M x18) c)) rm (inU inn c) (ontoM M t c)).length by omega]
                  exact r1
                · rw [sI_1, if_neg (by omega)]
                · cases j with
                  | zero =>
                    rw [show many + 0 = many from rfl, r5 many (by omega), sI_1, if_pos ⟨rfl, rfl⟩]; rfl
                  | succ j =>
                    have := r6 j (by simpa using hj)
                    rw [show many + (j + 1) = many + 1 + j by omega, this]; rfl
        rw [show takeB M (c :: ordL M n k (Wm (Wl M x18) c)) (rm + 1) inn t = if freeB M inn c t = true then c :: takeB M (ordL M n k (Wm (Wl M x18) c)) rm (inU inn c) (ontoM M t c) else takeB M (ordL M n k (Wm (Wl M x18) c)) (rm + 1) inn t from rfl]
        simp (disch := omega) only [fL_batches_41, fL_batches_96, iO, lw1 hM, h5, i_0, i_1, i_2, i_3, i_4, i_5, i_6, i_7, i_8, i_9, i_10, i_11, i_12, i_14, i_15, i_16, i_24, i_30, i_31, i_32, i_48, i_60, i_64, i_80, i_99, i_100, i_m1, iN_of, iN_add, iN_mul, iN_sub, iN_01, iM_1, iN_div, iN_lt, iN_le, iN_eq, iN_cl, iM_lt, iM_gt, iM_le, iM_ge, iM_eq, iM_eq2, iN_64, jN_32, if_pos, if_neg, if_true, if_false, true_or, or_true, false_or, or_false, not_true_eq_false, not_false_eq_true, Option.bind_some]
        unfold freeB
        rcases par_cases hp hc.1 with ⟨p1, p2⟩ | ⟨q2, p1, p2, p3⟩
        · simp (disch := omega) only [p2, i_0, i_1, i_2, i_3, i_4, i_5, i_6, i_7, i_8, i_9, i_10, i_11, i_12, i_14, i_15, i_16, i_24, i_30, i_31, i_32, i_48, i_60, i_64, i_80, i_99, i_100, i_m1, iN_of, iN_add, iN_mul, iN_sub, iN_01, iM_1, iN_div, iN_lt, iN_le, iN_eq, iN_cl, iM_lt, iM_gt, iM_le, iM_ge, iM_eq, iM_eq2, iN_64, jN_32, if_pos, if_neg, if_true, if_false, true_or, or_true, false_or, or_false, not_true_eq_false, not_false_eq_true, Option.bind_some]
          rw [p1]
          exact e101 true
        · simp (disch := omega) only [p2, i_0, i_1, i_2, i_3, i_4, i_5, i_6, i_7, i_8, i_9, i_10, i_11, i_12, i_14, i_15, i_16, i_24, i_30, i_31, i_32, i_48, i_60, i_64, i_80, i_99, i_100, i_m1, iN_of, iN_add, iN_mul, iN_sub, iN_01, iM_1, iN_div, iN_lt, iN_le, iN_eq, iN_cl, iM_lt, iM_gt, iM_le, iM_ge, iM_eq, iM_eq2, iN_64, jN_32, if_pos, if_neg, if_true, if_false, true_or, or_true, false_or, or_false, not_true_eq_false, not_false_eq_true, Option.bind_some]
          rw [p1]
          show ∃ σ' : gS, _ ∧ _
          unfold standB
          by_cases c1 : M.1 164 q2 = iN 2
          · rw [if_pos c1]
            simp only [c1, decide_true, Bool.true_or]
            exact e101 true
          · rw [if_neg c1]
            simp only [tb_sh1 x13 (show q2 < 32 by omega), hin q2 (show q2 < 32 by omega)]
            by_cases c2 : inn q2 = true
            · rw [if_pos c2]
              simp only [c2, Bool.or_true]
              exact e101 true
            · rw [if_neg c2]
              have c3 : inn q2 = false := by simpa using c2
              simp only [c1, c3, decide_false, Bool.false_or]
              exact e101 false
