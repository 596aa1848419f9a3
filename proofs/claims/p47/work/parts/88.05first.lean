/-! the first batch of the law -/
theorem batL_ok {M : gS} {ord : List Nat} {sz : Nat} : ∀ (k : Nat) (inn : Nat → Bool) (t : Int64), (batL M ord sz k inn t).length ≤ k ∧ ∀ l ∈ batL M ord sz k inn t, l ≠ [] ∧ l.length ≤ sz ∧ ∀ c ∈ l, c ∈ ord
  | 0, _, _ => ⟨Nat.le_refl _, fun l h => by cases h⟩
  | k + 1, inn, t => by
    cases e : takeB M ord sz inn t with
    | nil => rw [batL_nil e]; exact ⟨Nat.zero_le _, fun l h => by cases h⟩
    | cons c r =>
      have ih := batL_ok (M := M) (ord := ord) (sz := sz) k (inL inn (c :: r)) (treeL M t (c :: r))
      rw [batL_cons e]
      refine ⟨by rw [List.length_cons]; omega, fun l hl => ?_⟩
      rcases List.mem_cons.mp hl with h | h
      · rw [h]
        refine ⟨by simp, ?_, fun d hd => ?_⟩
        · have := takeB_len (M := M) ord sz inn t
          rw [e] at this; exact this
        · rw [← e] at hd; exact takeB_mem ord sz inn t d hd
      · exact ih.2 l h
theorem codB_len : ∀ (bs : List (List Nat)) (b : Nat), (codB b bs).length = bs.flatten.length
  | [], _ => rfl
  | l :: r, b => by rw [codB_cons, List.length_append, List.length_map, List.flatten_cons, List.length_append, codB_len r (b + 1)]
theorem codB_lt : ∀ (bs : List (List Nat)) (b : Nat), (∀ l ∈ bs, ∀ c ∈ l, c < 100) → ∀ v ∈ codB b bs, v < 100 * (b + bs.length)
  | [], _, _, v, h => by cases h
  | l :: r, b, hl, v, h => by
    rw [codB_cons] at h
    rw [List.length_cons]
    rcases List.mem_append.mp h with h1 | h1
    · obtain ⟨c, hc, rfl⟩ := List.mem_map.mp h1
      have := hl l List.mem_cons_self c hc
      omega
    · have := codB_lt r (b + 1) (fun m hm => hl m (List.mem_cons_of_mem _ hm)) v h1
      omega
theorem flat_le {sz : Nat} : ∀ (bs : List (List Nat)), (∀ l ∈ bs, l.length ≤ sz) → bs.flatten.length ≤ sz * bs.length
  | [], _ => Nat.zero_le _
  | l :: r, h => by
    have h1 := h l List.mem_cons_self
    have h2 := flat_le (sz := sz) r (fun m hm => h m (List.mem_cons_of_mem _ hm))
    rw [List.flatten_cons, List.length_append, List.length_cons, Nat.mul_succ]; omega
def FF (M : gS) (n sz dp : Nat) (t : Int64) : List Nat := (batM M n sz dp t).getD 0 []
theorem bat_ok {M : gS} {n sz dp : Nat} {t : Int64} (hn : n ≤ 20) (hsz : sz ≤ 4) (hdp : dp ≤ 4) : (batM M n sz dp t).length ≤ 4 ∧ (∀ l ∈ batM M n sz dp t, l ≠ [] ∧ l.length ≤ sz ∧ ∀ c ∈ l, c < n ∧ M.1 164 c = iN 1) ∧ (codB 0 (batM M n sz dp t)).length ≤ 16 ∧ (∀ v ∈ codB 0 (batM M n sz dp t), v < 1000) := by
  have h := batL_ok (M := M) (ord := ordM M n) (sz := sz) dp (fun _ => false) t
  have hl : (batM M n sz dp t).length ≤ 4 := Nat.le_trans h.1 hdp
  have hm : ∀ l ∈ batM M n sz dp t, l ≠ [] ∧ l.length ≤ sz ∧ ∀ c ∈ l, c < n ∧ M.1 164 c = iN 1 := fun l hl => ⟨(h.2 l hl).1, (h.2 l hl).2.1, fun c hc => ordM_mem c ((h.2 l hl).2.2 c hc)⟩
  refine ⟨hl, hm, ?_, fun v hv => ?_⟩
  · rw [codB_len]
    have h1 := flat_le (sz := sz) (batM M n sz dp t) (fun l hl => (hm l hl).2.1)
    have h2 : sz * (batM M n sz dp t).length ≤ 4 * 4 := Nat.mul_le_mul hsz hl
    omega
  · have := codB_lt (batM M n sz dp t) 0 (fun l hl c hc => by have := ((hm l hl).2.2 c hc).1; omega) v hv
    omega
theorem FF_ok {M : gS} {n sz dp : Nat} {t : Int64} (hn : n ≤ 20) (hsz : sz ≤ 4) (hdp : dp ≤ 4) : (FF M n sz dp t).length ≤ sz ∧ ∀ c ∈ FF M n sz dp t, c < n ∧ M.1 164 c = iN 1 := by
  have h := (bat_ok (M := M) (t := t) hn hsz hdp).2.1
  unfold FF
  cases e : batM M n sz dp t with
  | nil => exact ⟨Nat.zero_le _, fun c h => by cases h⟩
  | cons l r =>
    rw [e] at h
    have := h l List.mem_cons_self
    exact ⟨this.2.1, this.2.2⟩
theorem take1 (bs : List (List Nat)) : (bs.take 1).flatten = bs.getD 0 [] := by
  cases bs with
  | nil => rfl
  | cons l r => show (l :: List.take 0 r).flatten = l; simp
theorem L_first {N : Nat} {σ M : gS} {n T G V sz dp : Nat} {t : Int64} (hN : 100 ≤ N) (hM : lawOf σ = M) (h : LF M n T G V) (h5 : M.1 161 5 = iN sz) (hsz : sz ≤ 4) (h6 : M.1 161 6 = iN dp) (hdp : 1 ≤ dp ∧ dp ≤ 4) :
    ∃ σ' : gS, fL_batches N σ t = some (iN (codB 0 (batM M n sz dp t)).length, σ') ∧ lawOf σ' = M ∧ σ'.2.2 = σ.2.2 ∧ (∀ k', k' ≠ 179 → σ'.1 k' = σ.1 k') ∧ (∀ k', k' ≠ 180 → σ'.2.1 k' = σ.2.1 k') ∧ (∀ j, j < (codB 0 (batM M n sz dp t)).length → σ'.1 179 j = iN ((codB 0 (batM M n sz dp t)).getD j 0)) ∧ (∀ i, i < dp → i ≤ (batM M n sz dp t).length → σ'.2.1 180 i = treeL M t ((batM M n sz dp t).take (i + 1)).flatten) ∧ dHas σ' (FF M n sz dp t) ∧ σ'.2.1 180 0 = treeL M t (FF M n sz dp t) ∧ ∀ s : gS, s.1 179 = σ'.1 179 → fL_many N s (iN (codB 0 (batM M n sz dp t)).length) (0 : Int32) = some (iN (FF M n sz dp t).length) := by
  obtain ⟨b1, b2, b3, b4⟩ := bat_ok (M := M) (t := t) h.1.2.1 hsz hdp.2
  obtain ⟨σ', w1, w2, w3, w4, w5, w6, w7⟩ := L_batches (t := t) hN hM h.1.1 h.1.2.1 h5 (by omega) h6 hdp.2 h.1.2.2
  refine ⟨σ', w1, w2, w3, w4, w5, w6, w7, ?_, ?_, fun s hs => ?_⟩
  · unfold FF
    cases e : batM M n sz dp t with
    | nil => exact ⟨by simp, fun j hj => absurd hj (Nat.not_lt_zero j)⟩
    | cons l r =>
      rw [e] at w6 b3
      exact dHas_cod (F := l) (bs := r) (by omega) w6
  · have := w7 0 (by omega) (Nat.zero_le _)
    rw [take1] at this; exact this
  · have := L_many (N := N) (σ := s) (b := 0) (l := codB 0 (batM M n sz dp t)) hN (by omega) (by omega) (fun j hj => by rw [hs]; exact w6 j hj) b4
    rw [i_0, this, cntC_cod _ 0 (fun l hl c hc => by have := ((b2 l hl).2.2 c hc).1; have := h.1.2.1; omega), if_pos (Nat.le_refl _)]
    rfl
theorem zI_law (σ : gS) {k : Nat} (h : 179 ≤ k) : lawOf (zI σ k) = lawOf σ := lawOf_ext (fun k' h1 h2 => ⟨by
  funext j
  show (if k' = k then 0 else σ.1 k' j) = _
  rw [if_neg (by omega)], rfl⟩)
theorem zJ_law (σ : gS) {k : Nat} (h : 179 ≤ k) : lawOf (zJ σ k) = lawOf σ := lawOf_ext (fun k' h1 h2 => ⟨rfl, by
  funext j
  show (if k' = k then 0 else σ.2.1 k' j) = _
  rw [if_neg (by omega)]⟩)
theorem SmL.zI (σ : gS) {k : Nat} (h : 161 ≤ k) : SmL σ (zI σ k) := ⟨fun k' hk => ⟨by
  funext j
  show (if k' = k then 0 else σ.1 k' j) = _
  rw [if_neg (by omega)], rfl⟩, rfl⟩
theorem SmL.zJ (σ : gS) {k : Nat} (h : 161 ≤ k) : SmL σ (zJ σ k) := ⟨fun k' hk => ⟨rfl, by
  funext j
  show (if k' = k then 0 else σ.2.1 k' j) = _
  rw [if_neg (by omega)]⟩, rfl⟩
/-- the law's scratch rows, new -/
def scr (σ : gS) : gS := zI (zJ (zI σ 179) 180) 181
theorem scr_law (σ : gS) : lawOf (scr σ) = lawOf σ := (zI_law _ (by omega)).trans ((zJ_law _ (by omega)).trans (zI_law _ (by omega)))
theorem scr_sm (σ : gS) : SmL σ (scr σ) := (SmL.zI σ (by omega)).trans ((SmL.zJ _ (by omega)).trans (SmL.zI _ (by omega)))
theorem vdF_all {M : gS} {T G V : Nat} {t : Int64} {F : List Nat} : vdF M T G V t F F.length = sTog (rqL M T G F) (fun q => sVer M V q (treeL M t F)) T := by
  unfold vdF
  rw [List.take_length]
