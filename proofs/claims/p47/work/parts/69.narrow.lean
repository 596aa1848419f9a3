/-! narrowed down: what failed behind the bad one, and what that says behind the good one -/
theorem vd_pos {M : gS} {T G V : Nat} {t : Int64} {F : List Nat} (c : vdF M T G V t F F.length = 2) : 0 < F.length := by
  rcases Nat.eq_zero_or_pos F.length with z | z
  · have hz : F = [] := List.length_eq_zero_iff.mp z
    subst hz
    exfalso
    unfold vdF sTog rqL at c
    have hf : ∀ v : Nat, sAny (fun q => tb (iN 0) q && (sVer M V q (treeL M t (List.take ([] : List Nat).length []))) == v) T = false := fun v => sAny_false.mpr (fun j _ => by rw [tb_z]; simp)
    have h2 := hf 2
    have h0 := hf 0
    simp only [List.length_nil, List.take_nil, List.foldl_nil] at c h2 h0
    rw [h2, h0] at c
    exact absurd c (by decide)
  · exact z
/-- the search ends with a good one and the bad one behind it -/
def narB (M : gS) (T G V : Nat) (t : Int64) (F : List Nat) : Bool := decide (vdF M T G V t F F.length = 2) && decide ((bisM M T G V t F).2.1 - (bisM M T G V t F).1 = 1)
theorem X_narrowed {N : Nat} {σ M : gS} {T G V : Nat} {t : Int64} {F : List Nat} (h : Lk σ M T G V t F) (hF8 : F.length ≤ 8) : fX0_isNarrowed N σ = some (iB (narB M T G V t F)) := by
  obtain ⟨h1, h2, h3, h4⟩ := h
  have hvd : vdF M T G V t F F.length = 0 ∨ vdF M T G V t F F.length = 1 ∨ vdF M T G V t F F.length = 2 := sTog3 _ _ _
  unfold narB
  by_cases c : vdF M T G V t F F.length = 2
  · obtain ⟨a1, a2, a3⟩ := h4 c
    have hbd : (bisM M T G V t F).1 < (bisM M T G V t F).2.1 ∧ 0 ≤ (bisM M T G V t F).1 ∧ (bisM M T G V t F).2.1 ≤ F.length ∧ _ := bisB_bd (vd := vdF M T G V t F) (w := wtF M F) F.length 0 F.length (vd_pos c)
    rw [c] at h2
    rw [decide_eq_true c]
    generalize (bisM M T G V t F).1 = g at a1 hbd
    generalize (bisM M T G V t F).2.1 = b at a2 hbd
    by_cases e : b - g = 1
    · rw [decide_eq_true e]
      simp (disch := omega) only [fX0_isNarrowed, fX0_isNarrowed_26, h2, a1, a2, i10, i_0, i_1, i_2, i_3, i_4, i_5, i_6, i_7, i_8, i_9, i_10, i_11, i_12, i_14, i_15, i_16, i_24, i_30, i_31, i_32, i_48, i_60, i_64, i_80, i_99, i_100, i_m1, iN_of, iN_add, iN_mul, iN_sub, iN_01, iM_1, iN_div, iN_lt, iN_le, iN_eq, iN_cl, iM_lt, iM_gt, iM_le, iM_ge, iM_eq, iM_eq2, iN_64, jN_32, if_pos, if_neg, if_true, if_false, true_or, or_true, false_or, or_false, not_true_eq_false, not_false_eq_true, Option.bind_some, e]
      rfl
    · rw [decide_eq_false e]
      simp (disch := omega) only [fX0_isNarrowed, fX0_isNarrowed_25, fX0_isNarrowed_26, h2, a1, a2, i_0, i_1, i_2, i_3, i_4, i_5, i_6, i_7, i_8, i_9, i_10, i_11, i_12, i_14, i_15, i_16, i_24, i_30, i_31, i_32, i_48, i_60, i_64, i_80, i_99, i_100, i_m1, iN_of, iN_add, iN_mul, iN_sub, iN_01, iM_1, iN_div, iN_lt, iN_le, iN_eq, iN_cl, iM_lt, iM_gt, iM_le, iM_ge, iM_eq, iM_eq2, iN_64, jN_32, if_pos, if_neg, if_true, if_false, true_or, or_true, false_or, or_false, not_true_eq_false, not_false_eq_true, Option.bind_some, e]
      rfl
  · rw [decide_eq_false c]
    simp (disch := omega) only [fX0_isNarrowed, fX0_isNarrowed_25, fX0_isNarrowed_26, h2, i_0, i_1, i_2, i_3, i_4, i_5, i_6, i_7, i_8, i_9, i_10, i_11, i_12, i_14, i_15, i_16, i_24, i_30, i_31, i_32, i_48, i_60, i_64, i_80, i_99, i_100, i_m1, iN_of, iN_add, iN_mul, iN_sub, iN_01, iM_1, iN_div, iN_lt, iN_le, iN_eq, iN_cl, iM_lt, iM_gt, iM_le, iM_ge, iM_eq, iM_eq2, iN_64, jN_32, if_pos, if_neg, if_true, if_false, true_or, or_true, false_or, or_false, not_true_eq_false, not_false_eq_true, Option.bind_some, c]
    rfl
theorem X_ffb {N : Nat} {σ M : gS} {T G V g b K : Nat} {t : Int64} {F : List Nat} (hN : 100 ≤ N) (hv : verS N σ M T V) (hB : BgR σ M T G t F K) (hb : b ≤ K) (hK : K ≤ 8) (h5 : σ.1 118 5 = iN b) : fX11_failedForBad N σ = some (orT (flB M T G V t F g b 3) T) := by
  obtain ⟨⟨b2, b3⟩, ⟨b4, b5⟩, ⟨b6, b7⟩⟩ := hB
  obtain ⟨v1, v2, v3⟩ := hv
  have g1 := X_whole (N := N) (σ := σ) (r := 121) (j := b) (len := gle σ.2.2 122) rfl (show b < 9 by omega) (show (9 : Nat) < 1000 by decide)
  have g2 := X_get (N := N) (σ := σ) (r := 119) (j := b) (len := gle σ.2.2 120) rfl (show b < 9 by omega) (show (9 : Nat) < 1000 by decide)
  rw [b5 b hb, Int32.toInt32_toInt64] at g1
  rw [b3 b hb] at g2
  have e : flB M T G V t F g b 3 = fun q => tb (rqL M T G (F.take b)) q && sVer M V q (treeL M t (F.take b)) == 2 := by
    funext q
    unfold flB
    simp
  rw [e]
  unfold fX11_failedForBad
  rw [h5, g1, Option.bind_some, g2, Option.bind_some]
  exact X_ffb42 (ver := fun q => sVer M V q (treeL M t (F.take b))) hN v1 v2 (fun q hq => v3 q hq _) (fun q _ => sVer3 M V q _)
theorem X_vbg {N : Nat} {σ M : gS} {T G V g b K : Nat} {t : Int64} {F : List Nat} (hN : 100 ≤ N) (hv : verS N σ M T V) (hB : BgR σ M T G t F K) (hb : b ≤ K) (hg : g ≤ K) (hK : K ≤ 8) (h4 : σ.1 118 4 = iN g) (h5 : σ.1 118 5 = iN b) : fX11_verdictBehindGood N σ = some (iN (vbG (orT (flB M T G V t F g b 3) T) (fun q => sVer M V q (treeL M t (F.take g))) T)) := by
  have hff := X_ffb (g := g) hN hv hB hb hK h5
  obtain ⟨⟨b2, b3⟩, ⟨b4, b5⟩, ⟨b6, b7⟩⟩ := hB
  obtain ⟨v1, v2, v3⟩ := hv
  have g2 := X_get (N := N) (σ := σ) (r := 119) (j := g) (len := gle σ.2.2 120) rfl (show g < 9 by omega) (show (9 : Nat) < 1000 by decide)
  rw [b3 g hg] at g2
  unfold fX11_verdictBehindGood
  rw [hff, Option.bind_some, h4, g2, Option.bind_some]
  exact X_vbg29 (ver := fun q => sVer M V q (treeL M t (F.take g))) v1 v2 (fun q hq => v3 q hq _) (fun q _ => sVer3 M V q _) T 0 N (by omega) (by omega) (fun i hi => absurd hi (Nat.not_lt_zero i))
/-- what fails and says v behind the good one: none of it if and only if none of the failing ones says v there -/
theorem orT_0 {p : Nat → Bool} : ∀ T, T ≤ 32 → ((orT p T = iN 0) = (sAny p T = false))
  | T, hT => by
    refine propext ⟨fun h => sAny_false.mpr (fun j hj => ?_), fun h => ?_⟩
    · have := tb_orT (p := p) T j hT (by omega)
      rw [h, tb_z, decide_eq_true hj] at this
      simpa using this.symm
    · apply Int32.toBitVec_inj.mp
      apply BitVec.eq_of_getLsbD_eq
      intro j hj
      have := tb_orT (p := p) T j hT hj
      show tb (orT p T) j = tb (iN 0) j
      rw [this, tb_z]
      by_cases c : j < T
      · rw [sAny_false.mp h j c]; simp
      · simp [c]
theorem vbG_1 {M : gS} {T G V g b v : Nat} {t : Int64} {F : List Nat} (hT : T ≤ 32) (hv : v < 3) : sAny (fun q => tb (orT (flB M T G V t F g b 3) T) q && (sVer M V q (treeL M t (F.take g))) == v) T = sAny (flB M T G V t F g b v) T := by
  rw [Bool.eq_iff_iff, sAny_iff, sAny_iff]
  have e : ∀ q, q < T → (tb (orT (flB M T G V t F g b 3) T) q && (sVer M V q (treeL M t (F.take g))) == v) = flB M T G V t F g b v q := fun q hq => by
    rw [tb_orT T q hT (by omega), decide_eq_true hq]
    unfold flB
    rw [show (v == 3) = false by simp; omega]
    simp
  constructor
  · rintro ⟨q, h1, h2⟩; exact ⟨q, h1, by rw [← e q h1]; exact h2⟩
  · rintro ⟨q, h1, h2⟩; exact ⟨q, h1, by rw [e q h1]; exact h2⟩
theorem bisB_nar {vd w : Nat → Nat} : ∀ (f g b : Nat), g < b → b - g ≤ f → ((bisB vd w f g b).2.2 = none ∧ (bisB vd w f g b).2.1 - (bisB vd w f g b).1 = 1) ∨ (∃ k, (bisB vd w f g b).2.2 = some k ∧ (bisB vd w f g b).1 < k ∧ k < (bisB vd w f g b).2.1)
  | 0, g, b, h, hf => by omega
  | f + 1, g, b, h, hf => by
    unfold bisB
    by_cases e : b - g ≤ 1
    · rw [if_pos e]; exact Or.inl ⟨rfl, by dsimp only; omega⟩
    · rw [if_neg e]
      have hbd := nxB_bd (w := w) (g := g) (b := b) (by omega)
      by_cases e0 : vd (nxB w g b) = 0
      · rw [if_pos e0]; exact Or.inr ⟨nxB w g b, rfl, by dsimp only; omega, by dsimp only; omega⟩
      · rw [if_neg e0]
        by_cases e1 : vd (nxB w g b) = 1
        · rw [if_pos e1]; exact bisB_nar f (nxB w g b) b (by omega) (by omega)
        · rw [if_neg e1]; exact bisB_nar f g (nxB w g b) (by omega) (by omega)
