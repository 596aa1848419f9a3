/-! the law's choice, by places -/
def pkK (M : gS) (V : Nat) (cd : Nat → Option wEn) (wh : Nat) (f : Nat → Bool) (k : Nat) : Bool := match cd k with
  | none => false
  | some x => frM M V x.1 x.2.1 && (!dupK M cd k && (decide (x.2.2.2 = wh) && f x.2.2.1))
theorem pkK_some {M : gS} {V wh k : Nat} {cd : Nat → Option wEn} {f : Nat → Bool} {x : wEn} (h : cd k = some x) : pkK M V cd wh f k = (frM M V x.1 x.2.1 && (!dupK M cd k && (decide (x.2.2.2 = wh) && f x.2.2.1))) := by
  unfold pkK; rw [h]
theorem pkK_none {M : gS} {V wh k : Nat} {cd : Nat → Option wEn} {f : Nat → Bool} (h : cd k = none) : pkK M V cd wh f k = false := by
  unfold pkK; rw [h]
theorem lo_ext {p p' : Nat → Bool} {T K : Nat} (hT : T ≤ K) (h1 : ∀ k, k < T → p k = p' k) (h2 : ∀ k, T ≤ k → k < K → p k = false) : lo p K = lo p' T := by
  cases c : lo p' T with
  | some k =>
    obtain ⟨e1, e2, e3⟩ := (lo_some T).mp c
    exact (lo_some K).mpr ⟨by omega, by rw [h1 k e1]; exact e2, fun j hj => by rw [h1 j (by omega)]; exact e3 j hj⟩
  | none =>
    refine lo_none.mpr (fun j hj => ?_)
    by_cases e : j < T
    · rw [h1 j e]; exact lo_none.mp c j e
    · exact h2 j (by omega) hj
theorem loF_add (p : Nat → Bool) : ∀ (a q c : Nat), loF p q (a + c) = (match loF p q a with
    | some k => some k
    | none => loF p (q + a) c)
  | 0, q, c => by rw [Nat.zero_add]; rfl
  | a + 1, q, c => by
    rw [show a + 1 + c = (a + c) + 1 by omega]
    show (if p q = true then some q else loF p (q + 1) (a + c)) = (match (if p q = true then some q else loF p (q + 1) a) with
      | some k => some k
      | none => loF p (q + (a + 1)) c)
    by_cases e : p q = true
    · rw [if_pos e, if_pos e]
    · rw [if_neg e, if_neg e, loF_add p a (q + 1) c, show q + 1 + a = q + (a + 1) by omega]
theorem loF_sh {p p' : Nat → Bool} {s : Nat} : ∀ (m q : Nat), (∀ i, i < m → p (s + (q + i)) = p' (q + i)) → loF p (s + q) m = (loF p' q m).map (fun x => s + x)
  | 0, q, _ => rfl
  | m + 1, q, h => by
    have h0 := h 0 (by omega)
    rw [Nat.add_zero] at h0
    have ih := loF_sh m (q + 1) (fun i hi => by
      have := h (i + 1) (by omega)
      rw [show q + (i + 1) = q + 1 + i by omega] at this; exact this)
    show (if p (s + q) = true then some (s + q) else loF p (s + q + 1) m) = (if p' q = true then some q else loF p' (q + 1) m).map (fun x => s + x)
    rw [h0]
    by_cases c : p' q = true
    · rw [if_pos c, if_pos c]; rfl
    · rw [if_neg c, if_neg c, Nat.add_assoc]; exact ih
theorem w2_lo {p : Nat → Bool} {P : Nat → Nat → Bool} {T : Nat} (hT : T ≤ 4) : ∀ (m b : Nat), (∀ b' q, b ≤ b' → b' < b + m → q < 4 → p (4 * b' + q) = (decide (q < T) && P b' q)) → loF p (4 * b) (4 * m) = (w2 P T b m).map (fun x => 4 * x.1 + x.2)
  | 0, b, _ => rfl
  | m + 1, b, h => by
    have ih := w2_lo (p := p) (P := P) hT m (b + 1) (fun b' q h1 h2 h3 => h b' q (by omega) (by omega) h3)
    have e1 : loF p (4 * b) 4 = (lo (P b) T).map (fun x => 4 * b + x) := by
      have := loF_sh (p := p) (p' := fun q => decide (q < T) && P b q) (s := 4 * b) 4 0 (fun i hi => by
        rw [Nat.zero_add]; exact h b i (by omega) (by omega) hi)
      rw [Nat.add_zero] at this
      rw [this, loF_lo, lo_ext (p := fun q => decide (q < T) && P b q) (p' := P b) hT (fun k hk => by rw [decide_eq_true hk, Bool.true_and]) (fun k hk _ => by rw [decide_eq_false (by omega), Bool.false_and])]
    rw [show 4 * (m + 1) = 4 + 4 * m by omega, loF_add, e1, w2_s]
    cases lo (P b) T with
    | some q => rfl
    | none =>
      show loF p (4 * b + 4) (4 * m) = (w2 P T (b + 1) m).map (fun x => 4 * x.1 + x.2)
      rw [show 4 * b + 4 = 4 * (b + 1) by omega]; exact ih
theorem tb_rqL {M : gS} {T G q : Nat} : ∀ (l : List Nat) (s : Int32), tb (l.foldl (fun s c => s ||| rqG M c T G) s) q = (tb s q || decide (tmL M T G q l < 3))
  | [], s => by
    rw [decide_eq_false (show ¬ tmL M T G q [] < 3 by unfold tmL; omega), Bool.or_false]; rfl
  | c :: r, s => by
    rw [List.foldl_cons, tb_rqL r, tb_or, tmL_c]
    by_cases e : tb (rqG M c T G) q = true
    · rw [if_pos e, e, decide_eq_true (show tmC M c < 3 by unfold tmC; omega)]; simp
    · have e0 : tb (rqG M c T G) q = false := by simpa using e
      rw [if_neg e, e0, Bool.or_false]
theorem tb_rq {M : gS} {T G q : Nat} (l : List Nat) : tb (rqL M T G l) q = decide (tmL M T G q l < 3) := by
  unfold rqL
  rw [tb_rqL, tb_z, Bool.false_or]
/-- a place's parts -/
theorem cd_lo {M : gS} {n T G V h sz dp b q : Nat} (hq : q < 4) : cdO M n T G V h sz dp (4 * b + q) = cdM M n T G V h sz dp b q := by
  unfold cdO
  rw [show (4 * b + q) / 4 = b by omega, show 4 * b + q - b * 4 = q by omega]
theorem cd_split (k : Nat) : ∃ b q, q < 4 ∧ k = 4 * b + q := ⟨k / 4, k - k / 4 * 4, by omega, by omega⟩
theorem cdM_bad {M : gS} {n T G V h sz dp q : Nat} (c : fvd M n T G V h sz dp = 2) (hq : q < T) : cdM M n T G V h sz dp 0 q = if tb (setM M n T G V h sz dp) q = true then some (q, onM M n T G V h sz dp, 3, 0) else none := by
  unfold cdM
  rw [if_pos hq, if_pos (show 0 < nBM M n T G V h sz dp by rw [bad_nB c]; omega), if_pos c]
theorem cdM_good {M : gS} {n T G V h sz dp b q : Nat} (c : ¬ fvd M n T G V h sz dp = 2) (hq : q < T) (hb : b < nBM M n T G V h sz dp) : cdM M n T G V h sz dp b q = if tmL M T G q ((batM M n sz dp (trT M h)).getD b []) < 3 then some (q, oB M (trT M h) (batM M n sz dp (trT M h)) b, tmL M T G q ((batM M n sz dp (trT M h)).getD b []), if b = 0 then 0 else 1) else none := by
  unfold cdM
  rw [if_pos hq, if_pos hb, if_neg c]
theorem cdM_full {M : gS} {n T G V h sz dp q : Nat} (hq : q < T) : cdM M n T G V h sz dp (nBM M n T G V h sz dp) q = if M.1 161 8 = iN 1 then some (q, trT M h, 3, 2) else none := by
  unfold cdM
  rw [if_pos hq, if_neg (Nat.lt_irrefl _)]
  by_cases c : M.1 161 8 = iN 1
  · rw [if_pos ⟨rfl, c⟩, if_pos c]
  · rw [if_neg (fun x => c x.2), if_neg c]
theorem cdM_far {M : gS} {n T G V h sz dp b q : Nat} (hb : nBM M n T G V h sz dp < b) : cdM M n T G V h sz dp b q = none := by
  unfold cdM
  by_cases c : q < T
  · rw [if_pos c, if_neg (by omega), if_neg (fun x => by omega)]
  · rw [if_neg c]
/-- of one group a test is there once -/
theorem dup_same {M : gS} {n T G V h sz dp q : Nat} (hq : q < 4) : dupK M (cdO M n T G V h sz dp) q = false := by
  cases hx : cdO M n T G V h sz dp q with
  | none => unfold dupK; rw [hx]
  | some x =>
    rw [dupK_some hx]
    refine sAny_false.mpr (fun j hj => ?_)
    cases c : sameK M x (cdO M n T G V h sz dp j) with
    | false => rfl
    | true =>
      obtain ⟨y, y1, y2, y3⟩ := sameK_iff.mp c
      have e1 := (cdM_q (b := q / 4) hx).2
      have e2 := (cdM_q (b := j / 4) y1).2
      exfalso
      omega
theorem pick0 {M : gS} {n T G V h sz dp : Nat} (hT : T ≤ 4) : lo (pkK M V (cdO M n T G V h sz dp) 0 (fun _ => true)) (4 * (nBM M n T G V h sz dp + 1)) = lo (fun q => tb (setM M n T G V h sz dp) q && frM M V q (onM M n T G V h sz dp)) T := by
  refine lo_ext (by omega) (fun k hk => ?_) (fun k hk hk2 => ?_)
  · have hcd : cdO M n T G V h sz dp k = cdM M n T G V h sz dp 0 k := by
      have := cd_lo (M := M) (n := n) (T := T) (G := G) (V := V) (h := h) (sz := sz) (dp := dp) (b := 0) (q := k) (by omega)
      rw [show 4 * 0 + k = k by omega] at this; exact this
    have hdup := dup_same (M := M) (n := n) (T := T) (G := G) (V := V) (h := h) (sz := sz) (dp := dp) (q := k) (by omega)
    by_cases ev : fvd M n T G V h sz dp = 2
    · rw [cdM_bad ev hk] at hcd
      by_cases c : tb (setM M n T G V h sz dp) k = true
      · rw [if_pos c] at hcd
        rw [pkK_some hcd, hdup, c]
        simp
      · have c0 : tb (setM M n T G V h sz dp) k = false := by simpa using c
        rw [if_neg c] at hcd
        rw [pkK_none hcd, c0]; rfl
    · have hset : tb (setM M n T G V h sz dp) k = decide (tmL M T G k (FF M n sz dp (trT M h)) < 3) := by
        unfold setM
        rw [if_neg ev, tb_rq]
      have hon : onM M n T G V h sz dp = oB M (trT M h) (batM M n sz dp (trT M h)) 0 := by
        unfold onM oB
        rw [if_neg ev, take1]; rfl
      rw [hset, hon]
      by_cases hz : 0 < nBM M n T G V h sz dp
      · rw [cdM_good ev hk hz] at hcd
        show _ = (decide (tmL M T G k ((batM M n sz dp (trT M h)).getD 0 []) < 3) && _)
        by_cases c : tmL M T G k ((batM M n sz dp (trT M h)).getD 0 []) < 3
        · rw [if_pos c, if_pos rfl] at hcd
          rw [pkK_some hcd, hdup, decide_eq_true c]
          simp
        · rw [if_neg c] at hcd
          rw [pkK_none hcd, decide_eq_false c]; rfl
      · have hz0 : nBM M n T G V h sz dp = 0 := by omega
        have hbn : (batM M n sz dp (trT M h)) = [] := by
          rw [good_nB ev] at hz0; exact List.length_eq_zero_iff.mp hz0
        have hff : FF M n sz dp (trT M h) = [] := by unfold FF; rw [hbn]; rfl
        rw [hff, decide_eq_false (show ¬ tmL M T G k [] < 3 by unfold tmL; omega), Bool.false_and]
        have hcf := cdM_full (M := M) (n := n) (T := T) (G := G) (V := V) (h := h) (sz := sz) (dp := dp) hk
        rw [hz0] at hcf
        rw [hcf] at hcd
        by_cases c : M.1 161 8 = iN 1
        · rw [if_pos c] at hcd
          rw [pkK_some hcd]
          simp
        · rw [if_neg c] at hcd
          exact pkK_none hcd
  · obtain ⟨b, q, hq, rfl⟩ := cd_split k
    have hcd := cd_lo (M := M) (n := n) (T := T) (G := G) (V := V) (h := h) (sz := sz) (dp := dp) (b := b) hq
    by_cases hqT : q < T
    · have hb0 : b ≠ 0 := fun e => by subst e; omega
      by_cases hbn : b < nBM M n T G V h sz dp
      · by_cases ev : fvd M n T G V h sz dp = 2
        · rw [bad_nB ev] at hbn; omega
        · rw [cdM_good ev hqT hbn, if_neg hb0] at hcd
          by_cases c : tmL M T G q ((batM M n sz dp (trT M h)).getD b []) < 3
          · rw [if_pos c] at hcd
            rw [pkK_some hcd]; simp
          · rw [if_neg c] at hcd
            exact pkK_none hcd
      · have e : b = nBM M n T G V h sz dp := by omega
        rw [e, cdM_full hqT] at hcd
        rw [e]
        by_cases c : M.1 161 8 = iN 1
        · rw [if_pos c] at hcd
          rw [pkK_some hcd]; simp
        · rw [if_neg c] at hcd
          exact pkK_none hcd
    · rw [cdM_T (by omega)] at hcd
      exact pkK_none hcd
