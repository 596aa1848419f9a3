/-! the law's choice, by places, whole -/
def rsl (cd : Nat → Option wEn) (o : Option Nat) : Option (Nat × Int64 × Nat) := match o with
  | none => none
  | some k => match cd k with
    | none => none
    | some x => some (x.1, x.2.1, x.2.2.1)
theorem rsl_some {cd : Nat → Option wEn} {k : Nat} {x : wEn} (h : cd k = some x) : rsl cd (some k) = some (x.1, x.2.1, x.2.2.1) := by
  unfold rsl
  dsimp only
  rw [h]
theorem dup_ahead {M : gS} {n T G V h sz dp b q : Nat} (ev : ¬ fvd M n T G V h sz dp = 2) (hT : T ≤ 4) (hq : q < T) (hb : b < nBM M n T G V h sz dp) (ht : tmL M T G q ((batM M n sz dp (trT M h)).getD b []) < 3) : dupK M (cdO M n T G V h sz dp) (4 * b + q) = aheadC M T G (trT M h) (batM M n sz dp (trT M h)) b q := by
  have hcd := cd_lo (M := M) (n := n) (T := T) (G := G) (V := V) (h := h) (sz := sz) (dp := dp) (b := b) (q := q) (by omega)
  rw [cdM_good ev hq hb, if_pos ht] at hcd
  rw [dupK_some hcd, Bool.eq_iff_iff]
  unfold aheadC
  rw [sAny_iff, sAny_iff]
  constructor
  · rintro ⟨k', h1, h2⟩
    obtain ⟨y, y1, y2, y3⟩ := sameK_iff.mp h2
    obtain ⟨b', q', hq', rfl⟩ := cd_split k'
    rw [cd_lo hq'] at y1
    have e1 := cdM_q y1
    have e2 : q' = q := e1.2.symm.trans y2
    subst e2
    have hb' : b' < b := by omega
    rw [cdM_good ev hq (by omega)] at y1
    by_cases c : tmL M T G q' ((batM M n sz dp (trT M h)).getD b' []) < 3
    · rw [if_pos c] at y1
      have ey := Option.some.inj y1
      refine ⟨b', hb', ?_⟩
      rw [Bool.and_eq_true]
      refine ⟨decide_eq_true c, decide_eq_true ?_⟩
      rw [← ey] at y3; exact y3
    · rw [if_neg c] at y1; cases y1
  · rintro ⟨b', h1, h2⟩
    rw [Bool.and_eq_true] at h2
    have c := of_decide_eq_true h2.1
    refine ⟨4 * b' + q, by omega, sameK_iff.mpr ⟨(q, oB M (trT M h) (batM M n sz dp (trT M h)) b', tmL M T G q ((batM M n sz dp (trT M h)).getD b' []), if b' = 0 then 0 else 1), ?_, ?_, ?_⟩⟩
    · rw [cd_lo (by omega), cdM_good ev hq (by omega), if_pos c]
    · rfl
    · exact of_decide_eq_true h2.2
theorem loF_none {p : Nat → Bool} : ∀ (m q : Nat), (∀ j, q ≤ j → j < q + m → p j = false) → loF p q m = none
  | 0, _, _ => rfl
  | m + 1, q, h => by
    show (if p q = true then some q else loF p (q + 1) m) = none
    rw [h q (by omega) (by omega), if_neg (by decide)]
    exact loF_none m (q + 1) (fun j h1 h2 => h j (by omega) (by omega))
theorem pick1 {M : gS} {n T G V h sz dp o : Nat} (ev : ¬ fvd M n T G V h sz dp = 2) (hT : T ≤ 4) (ho : o < 3) : lo (pkK M V (cdO M n T G V h sz dp) 1 (fun tm => decide (tm = o))) (4 * (nBM M n T G V h sz dp + 1)) = (wtO M T G V (trT M h) (batM M n sz dp (trT M h)) o).map (fun x => 4 * x.1 + x.2) := by
  have hlast : ∀ q, q < 4 → pkK M V (cdO M n T G V h sz dp) 1 (fun tm => decide (tm = o)) (4 * nBM M n T G V h sz dp + q) = false := fun q hq => by
    have hcd := cd_lo (M := M) (n := n) (T := T) (G := G) (V := V) (h := h) (sz := sz) (dp := dp) (b := nBM M n T G V h sz dp) hq
    by_cases hqT : q < T
    · rw [cdM_full hqT] at hcd
      by_cases c : M.1 161 8 = iN 1
      · rw [if_pos c] at hcd
        rw [pkK_some hcd]; simp
      · rw [if_neg c] at hcd
        exact pkK_none hcd
    · rw [cdM_T (by omega)] at hcd
      exact pkK_none hcd
  rw [← loF_lo]
  unfold wtO
  rw [← good_nB ev]
  by_cases hz : nBM M n T G V h sz dp = 0
  · rw [hz] at hlast ⊢
    exact loF_none 4 0 (fun j _ hj => by
      have := hlast j (by omega)
      rw [show 4 * 0 + j = j by omega] at this; exact this)
  · obtain ⟨B, hB⟩ : ∃ B, nBM M n T G V h sz dp = B + 1 := ⟨nBM M n T G V h sz dp - 1, by omega⟩
    have hfirst : loF (pkK M V (cdO M n T G V h sz dp) 1 (fun tm => decide (tm = o))) 0 4 = none := loF_none 4 0 (fun j _ hj => by
      have hcd := cd_lo (M := M) (n := n) (T := T) (G := G) (V := V) (h := h) (sz := sz) (dp := dp) (b := 0) (q := j) (by omega)
      rw [show 4 * 0 + j = j by omega] at hcd
      by_cases hjT : j < T
      · rw [cdM_good ev hjT (by omega), if_pos rfl] at hcd
        by_cases c : tmL M T G j ((batM M n sz dp (trT M h)).getD 0 []) < 3
        · rw [if_pos c] at hcd
          rw [pkK_some hcd]; simp
        · rw [if_neg c] at hcd
          exact pkK_none hcd
      · rw [cdM_T (by omega)] at hcd
        exact pkK_none hcd)
    have hmid := w2_lo (p := pkK M V (cdO M n T G V h sz dp) 1 (fun tm => decide (tm = o))) (P := pW M T G V (trT M h) (batM M n sz dp (trT M h)) o) hT B 1 (fun b q h1 h2 hq => by
      have hcd := cd_lo (M := M) (n := n) (T := T) (G := G) (V := V) (h := h) (sz := sz) (dp := dp) (b := b) hq
      by_cases hqT : q < T
      · rw [cdM_good ev hqT (by omega), if_neg (show ¬ b = 0 by omega)] at hcd
        rw [decide_eq_true hqT, Bool.true_and]
        unfold pW
        by_cases c : tmL M T G q ((batM M n sz dp (trT M h)).getD b []) < 3
        · rw [if_pos c] at hcd
          rw [pkK_some hcd, dup_ahead ev hT hqT (by omega) c]
          cases frM M V q (oB M (trT M h) (batM M n sz dp (trT M h)) b) <;> cases aheadC M T G (trT M h) (batM M n sz dp (trT M h)) b q <;> by_cases e : tmL M T G q ((batM M n sz dp (trT M h)).getD b []) = o <;> simp [e]
        · rw [if_neg c] at hcd
          rw [pkK_none hcd, decide_eq_false (show ¬ tmL M T G q ((batM M n sz dp (trT M h)).getD b []) = o by omega)]; rfl
      · rw [cdM_T (by omega)] at hcd
        rw [pkK_none hcd, decide_eq_false hqT]; rfl)
    have hl2 : loF (pkK M V (cdO M n T G V h sz dp) 1 (fun tm => decide (tm = o))) (4 * (B + 1)) 4 = none := loF_none 4 _ (fun j h1 h2 => by
      have := hlast (j - 4 * (B + 1)) (by omega)
      rw [hB, show 4 * (B + 1) + (j - 4 * (B + 1)) = j by omega] at this; exact this)
    rw [hB, show 4 * (B + 1 + 1) = 4 + (4 * B + 4) by omega, loF_add, hfirst, Nat.add_sub_cancel]
    show loF _ (0 + 4) (4 * B + 4) = _
    rw [show 0 + 4 = 4 * 1 from rfl, loF_add, hmid]
    cases w2 (pW M T G V (trT M h) (batM M n sz dp (trT M h)) o) T 1 B with
    | some x => rfl
    | none =>
      show loF _ (4 * 1 + 4 * B) 4 = none
      rw [show 4 * 1 + 4 * B = 4 * (B + 1) by omega]; exact hl2
theorem pick1b {M : gS} {n T G V h sz dp : Nat} {f : Nat → Bool} (ev : fvd M n T G V h sz dp = 2) : lo (pkK M V (cdO M n T G V h sz dp) 1 f) (4 * (nBM M n T G V h sz dp + 1)) = none := by
  refine lo_none.mpr (fun k hk => ?_)
  obtain ⟨b, q, hq, rfl⟩ := cd_split k
  have hcd := cd_lo (M := M) (n := n) (T := T) (G := G) (V := V) (h := h) (sz := sz) (dp := dp) (b := b) hq
  have hn1 := bad_nB ev
  by_cases hqT : q < T
  · by_cases hb : b = 0
    · subst hb
      rw [cdM_bad ev hqT] at hcd
      by_cases c : tb (setM M n T G V h sz dp) q = true
      · rw [if_pos c] at hcd
        rw [pkK_some hcd]; simp
      · rw [if_neg c] at hcd
        exact pkK_none hcd
    · have e : b = nBM M n T G V h sz dp := by omega
      rw [e, cdM_full hqT] at hcd
      rw [e]
      by_cases c : M.1 161 8 = iN 1
      · rw [if_pos c] at hcd
        rw [pkK_some hcd]; simp
      · rw [if_neg c] at hcd
        exact pkK_none hcd
  · rw [cdM_T (by omega)] at hcd
    exact pkK_none hcd
/-- whom a candidate is for -/
theorem cd_what {M : gS} {n T G V h sz dp k : Nat} {x : wEn} (hx : cdO M n T G V h sz dp k = some x) : x.2.2.2 = 0 ∨ (x.2.2.2 = 1 ∧ x.2.2.1 < 3 ∧ ¬ fvd M n T G V h sz dp = 2) ∨ (x.2.2.2 = 2 ∧ 4 * nBM M n T G V h sz dp ≤ k) := by
  obtain ⟨b, q, hq, rfl⟩ := cd_split k
  rw [cd_lo hq] at hx
  have hqT := (cdM_q hx).1
  by_cases hb : b < nBM M n T G V h sz dp
  · by_cases ev : fvd M n T G V h sz dp = 2
    · have e : b = 0 := by rw [bad_nB ev] at hb; omega
      subst e
      rw [cdM_bad ev hqT] at hx
      split at hx
      · have e := Option.some.inj hx
        rw [← e]; exact Or.inl rfl
      · cases hx
    · rw [cdM_good ev hqT hb] at hx
      split at hx
      · rename_i c
        have e := Option.some.inj hx
        rw [← e]
        by_cases hb0 : b = 0
        · exact Or.inl (if_pos hb0)
        · exact Or.inr (Or.inl ⟨if_neg hb0, c, ev⟩)
      · cases hx
  · by_cases hb2 : b = nBM M n T G V h sz dp
    · rw [hb2, cdM_full hqT] at hx
      split at hx
      · have e := Option.some.inj hx
        rw [← e]; exact Or.inr (Or.inr ⟨rfl, by omega⟩)
      · cases hx
    · rw [cdM_far (by omega)] at hx; cases hx
theorem pick2 {M : gS} {n T G V h sz dp : Nat} (hT : T ≤ 4) (h0 : lo (pkK M V (cdO M n T G V h sz dp) 0 (fun _ => true)) (4 * (nBM M n T G V h sz dp + 1)) = none) (h1 : ∀ o, o < 3 → lo (pkK M V (cdO M n T G V h sz dp) 1 (fun tm => decide (tm = o))) (4 * (nBM M n T G V h sz dp + 1)) = none) : c2M M T V (trT M h) = rsl (cdO M n T G V h sz dp) (lo (pkK M V (cdO M n T G V h sz dp) 2 (fun _ => true)) (4 * (nBM M n T G V h sz dp + 1))) := by
  have hlow : ∀ k, k < 4 * nBM M n T G V h sz dp → pkK M V (cdO M n T G V h sz dp) 2 (fun _ => true) k = false := fun k hk => by
    cases hx : cdO M n T G V h sz dp k with
    | none => exact pkK_none hx
    | some x =>
      rw [pkK_some hx]
      rcases cd_what hx with e | ⟨e, _⟩ | ⟨_, e⟩
      · rw [e]; simp
      · rw [e]; simp
      · omega
  have hlast : ∀ q, q < 4 → pkK M V (cdO M n T G V h sz dp) 2 (fun _ => true) (4 * nBM M n T G V h sz dp + q) = (decide (q < T) && (decide (M.1 161 8 = iN 1) && frM M V q (trT M h))) := fun q hq => by
    have hcd := cd_lo (M := M) (n := n) (T := T) (G := G) (V := V) (h := h) (sz := sz) (dp := dp) (b := nBM M n T G V h sz dp) hq
    by_cases hqT : q < T
    · rw [cdM_full hqT] at hcd
      rw [decide_eq_true hqT, Bool.true_and]
      by_cases c : M.1 161 8 = iN 1
      · rw [if_pos c] at hcd
        rw [pkK_some hcd, decide_eq_true c]
        cases hf : frM M V q (trT M h) with
        | false => simp
        | true =>
          have hnd : dupK M (cdO M n T G V h sz dp) (4 * nBM M n T G V h sz dp + q) = false := by
            cases hd : dupK M (cdO M n T G V h sz dp) (4 * nBM M n T G V h sz dp + q) with
            | false => rfl
            | true =>
              exfalso
              obtain ⟨k', y, y1, y2, y3, y4, y5⟩ := dup_sel hcd hf hd
              have hfy : frM M V y.1 y.2.1 = true ∧ dupK M (cdO M n T G V h sz dp) k' = false := by
                rw [selK_some y2, Bool.and_eq_true] at y5
                exact ⟨y5.1, by simpa using y5.2⟩
              have hK : k' < 4 * (nBM M n T G V h sz dp + 1) := by omega
              rcases cd_what y2 with e | ⟨e, e3, _⟩ | ⟨_, e⟩
              · have := lo_none.mp h0 k' hK
                rw [pkK_some y2, hfy.1, hfy.2, e] at this
                exact absurd this (by decide)
              · have := lo_none.mp (h1 y.2.2.1 e3) k' hK
                rw [pkK_some y2, hfy.1, hfy.2, e, decide_eq_true (show y.2.2.1 = y.2.2.1 from rfl)] at this
                exact absurd this (by decide)
              · obtain ⟨b', q', hq', rfl⟩ := cd_split k'
                have e1 := (cdM_q (b := (4 * b' + q') / 4) y2).2
                rw [show 4 * b' + q' - (4 * b' + q') / 4 * 4 = q' by omega] at e1
                have e2 : y.1 = q := y3
                omega
          show (true && (!dupK M (cdO M n T G V h sz dp) (4 * nBM M n T G V h sz dp + q) && _)) = _
          rw [hnd]; simp
      · rw [if_neg c] at hcd
        rw [pkK_none hcd, decide_eq_false c]; rfl
    · rw [cdM_T (by omega)] at hcd
      rw [pkK_none hcd, decide_eq_false hqT]; rfl
  have hlo : lo (pkK M V (cdO M n T G V h sz dp) 2 (fun _ => true)) (4 * (nBM M n T G V h sz dp + 1)) = (lo (fun q => decide (M.1 161 8 = iN 1) && frM M V q (trT M h)) T).map (fun x => 4 * nBM M n T G V h sz dp + x) := by
    rw [← loF_lo, show 4 * (nBM M n T G V h sz dp + 1) = 4 * nBM M n T G V h sz dp + 4 by omega, loF_add, loF_none _ 0 (fun j _ hj => hlow j (by omega)), Nat.zero_add]
    have := loF_sh (p := pkK M V (cdO M n T G V h sz dp) 2 (fun _ => true)) (p' := fun q => decide (q < T) && (decide (M.1 161 8 = iN 1) && frM M V q (trT M h))) (s := 4 * nBM M n T G V h sz dp) 4 0 (fun i hi => by rw [Nat.zero_add]; exact hlast i hi)
    rw [Nat.add_zero] at this
    show loF _ (4 * nBM M n T G V h sz dp) 4 = _
    rw [this, loF_lo, lo_ext (p' := fun q => decide (M.1 161 8 = iN 1) && frM M V q (trT M h)) hT (fun k hk => by rw [decide_eq_true hk, Bool.true_and]) (fun k hk _ => by rw [decide_eq_false (by omega), Bool.false_and])]
  rw [hlo]
  unfold c2M
  by_cases c : M.1 161 8 = iN 1
  · rw [if_pos c, lo_congr (p := fun q => decide (M.1 161 8 = iN 1) && frM M V q (trT M h)) (p' := fun q => frM M V q (trT M h)) T (fun q _ => by rw [decide_eq_true c, Bool.true_and])]
    cases el : lo (fun q => frM M V q (trT M h)) T with
    | none => rfl
    | some q =>
      have hqT := ((lo_some T).mp el).1
      have hcd := cd_lo (M := M) (n := n) (T := T) (G := G) (V := V) (h := h) (sz := sz) (dp := dp) (b := nBM M n T G V h sz dp) (q := q) (by omega)
      rw [cdM_full hqT, if_pos c] at hcd
      exact (rsl_some hcd).symm
  · rw [if_neg c, lo_none.mpr (fun q _ => by rw [decide_eq_false c]; rfl)]; rfl
