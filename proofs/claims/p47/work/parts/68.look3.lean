/-! the class looks at the first batch, whole -/
def LkH (σ M : gS) (n T G : Nat) (F : List Nat) : Prop := (∀ c ∈ F, c < n ∧ chB σ M c ∧ σ.1 (5 + c) 13 = rqG M c T G ∧ σ.1 (5 + c) 1 = iN (vN M 162 c) ∧ vN M 162 c < 8) ∧ RCw σ M ∧ ((F = [] ∧ σ.1 114 1 = iN 0) ∨ ∃ m, m < 10 ∧ σ.1 114 1 = iN (m + 1) ∧ σ.2.1 115 0 = jN F.length) ∧ ∀ j, j < F.length → σ.2.1 113 j = jN (F.getD j 0)
theorem LkH.sm {σ σ' M : gS} {n T G : Nat} {F : List Nat} (h : LkH σ M n T G F) (hn : n ≤ 20) (hs : Sm σ σ' 118 125) : LkH σ' M n T G F := by
  obtain ⟨h1, h2, h3, h4⟩ := h
  refine ⟨fun c hc => ?_, fun a ha => by rw [(hs.1 160 (by omega)).2]; exact h2 a ha, ?_, fun j hj => by rw [(hs.1 113 (by omega)).2]; exact h4 j hj⟩
  · have := h1 c hc
    have hcn := this.1
    unfold chB at this ⊢
    rw [(hs.1 (5 + c) (by omega)).1, (hs.1 (5 + c) (by omega)).2]; exact this
  · rw [(hs.1 114 (by omega)).1, (hs.1 115 (by omega)).2]; exact h3
theorem X_endOf0 {N : Nat} {σ M : gS} {n T G : Nat} {F : List Nat} (h : LkH σ M n T G F) (hF : F.length ≤ 8) : fX4_endOf N σ (0 : Int32) = some (iN F.length) := by
  obtain ⟨h1, h2, h3, h4⟩ := h
  rcases h3 with ⟨e1, e2⟩ | ⟨m, e1, e2, e3⟩
  · rw [e1]
    simp (disch := omega) only [fX4_endOf, fX4_endOf_26, fX4_endOf_27, e2, i_0, i_1, i_2, i_3, i_4, i_5, i_6, i_7, i_8, i_9, i_10, i_11, i_12, i_14, i_15, i_16, i_24, i_30, i_31, i_32, i_48, i_60, i_64, i_80, i_99, i_100, i_m1, iN_of, iN_add, iN_mul, iN_sub, iN_01, iM_1, iN_div, iN_lt, iN_le, iN_eq, iN_cl, iM_lt, iM_gt, iM_le, iM_ge, iM_eq, iM_eq2, iN_64, jN_32, if_pos, if_neg, if_true, if_false, true_or, or_true, false_or, or_false, not_true_eq_false, not_false_eq_true, Option.bind_some]
    rfl
  · have g := X_whole (N := N) (σ := σ) (r := 114) (j := 0) (len := gle σ.2.2 115) rfl (show 0 < 4 by omega) (show (4 : Nat) < 1000 by decide)
    rw [e3, jN_32 (by omega)] at g
    simp (disch := omega) only [fX4_endOf, fX4_endOf_27, e2, g, i_0, i_1, i_2, i_3, i_4, i_5, i_6, i_7, i_8, i_9, i_10, i_11, i_12, i_14, i_15, i_16, i_24, i_30, i_31, i_32, i_48, i_60, i_64, i_80, i_99, i_100, i_m1, iN_of, iN_add, iN_mul, iN_sub, iN_01, iM_1, iN_div, iN_lt, iN_le, iN_eq, iN_cl, iM_lt, iM_gt, iM_le, iM_ge, iM_eq, iM_eq2, iN_64, jN_32, if_pos, if_neg, if_true, if_false, true_or, or_true, false_or, or_false, not_true_eq_false, not_false_eq_true, Option.bind_some]
theorem X_look13 {N : Nat} {M : gS} {n T G V : Nat} {t : Int64} {F : List Nat} (h : LF M n T G V) (hF8 : F.length ≤ 8) : ∀ (m k : Nat) (σ : gS) (N' : Nat), k + m = F.length → m < N' → LkH σ M n T G F → Bg σ M T G t F k →
    ∃ σ' : gS, lp (fX11_lookAtFirstBatch_13 N) N' (σ, iN k) = ((fX11_verdictOfBeginning N σ' (iN F.length)).bind fun r_4 => if r_4 = iN 2 then (lp (fX11_lookAtFirstBatch_103 N) N ((sI σ' 118 3 r_4), iN 0)) else (some (sI σ' 118 3 r_4))) ∧ Sm σ σ' 118 125 ∧ Bg σ' M T G t F F.length ∧ ∀ i, i ≠ 5 → σ'.1 118 i = σ.1 118 i := by
  intro m
  induction m with
  | zero =>
    intro k σ N' hk hN' hl hB
    obtain ⟨N', rfl⟩ : ∃ k, N' = k + 1 := ⟨N' - 1, by omega⟩
    have e : k = F.length := by omega
    subst e
    refine ⟨σ, ?_, Sm.refl _ _ _, hB, fun _ _ => rfl⟩
    have hend := X_endOf0 (N := N) hl hF8
    rw [lp_1]
    unfold fX11_lookAtFirstBatch_13
    dsimp only
    rw [hend, Option.bind_some, if_pos (by rw [iN_le (by omega) (by omega)]; omega), hB.1]
    simp only [sI_1, true_and, if_true, i_2, i_0]
  | succ m ih =>
    intro k σ N' hk hN' hl hB
    obtain ⟨N', rfl⟩ : ∃ k, N' = k + 1 := ⟨N' - 1, by omega⟩
    have hkF : k < F.length := by omega
    have hend := X_endOf0 (N := N) hl hF8
    have hn := h.1.2.1
    obtain ⟨a1, a2, a3, a4, a5⟩ := hl.1 _ (gD_mem hkF)
    have g1 := X_whole (N := N) (σ := σ) (r := 112) (j := k) (len := gle σ.2.2 113) rfl (show k < 32 by omega) (show (32 : Nat) < 1000 by decide)
    rw [hl.2.2.2 k hkF, jN_32 (by omega)] at g1
    have hu := h.2.2.2.2.2 _ a5
    have g2 := X_whole (N := N) (σ := σ) (r := 159) (j := vN M 162 (F.getD k 0)) (len := gle σ.2.2 160) rfl (show vN M 162 (F.getD k 0) < 8 by omega) (show (8 : Nat) < 1000 by decide)
    rw [hl.2.1 _ a5, jN_32 (by omega)] at g2
    obtain ⟨σ1, w1, w2, w3, w4⟩ := X_addB (N := N) hB hkF hF8 rfl a2 a3 (by omega) (by unfold wtA; omega)
    unfold wtA at w1
    obtain ⟨σ', r1, r2, r3, r4⟩ := ih (k + 1) σ1 N' (by omega) (by omega) (hl.sm hn w2) w3
    refine ⟨σ', ?_, w2.trans r2, r3, fun i hi => (r4 i hi).trans (w4 i hi)⟩
    rw [lp_1]
    unfold fX11_lookAtFirstBatch_13
    dsimp only
    rw [hend, Option.bind_some, if_neg (by rw [iN_le (by omega) (by omega)]; omega), g1, Option.bind_some, X2_at (by omega), Option.bind_some, a4, g2, Option.bind_some, i_1, iN_add, w1, Option.bind_some, iN_add]
    exact r1
/-- what looking leaves -/
def Lk (σ M : gS) (T G V : Nat) (t : Int64) (F : List Nat) : Prop := BgR σ M T G t F F.length ∧ σ.1 118 3 = iN (vdF M T G V t F F.length) ∧ (vdF M T G V t F F.length ≠ 2 → σ.1 118 4 = iN 0 ∧ σ.1 118 5 = iN F.length ∧ σ.1 118 6 = iM) ∧ (vdF M T G V t F F.length = 2 → σ.1 118 4 = iN (bisM M T G V t F).1 ∧ σ.1 118 5 = iN (bisM M T G V t F).2.1 ∧ σ.1 118 6 = iO (bisM M T G V t F).2.2)
theorem X_look {N : Nat} {σ M : gS} {n T G V h : Nat} {F : List Nat} (hN : 100 ≤ N) (hL : LF M n T G V) (hF8 : F.length ≤ 8) (hl : LkH σ M n T G F) (ht : RCt σ M h) (hv : ∀ σ', Sm σ σ' 118 125 → verS N σ' M T V) :
    ∃ σ' : gS, fX11_lookAtFirstBatch N σ = some σ' ∧ Sm σ σ' 118 125 ∧ Lk σ' M T G V (trT M h) F := by
  obtain ⟨σ1, a1, a2, a3, a4, a5⟩ := X_start (N := N) (σ := σ) (M := M) (T := T) (G := G) (t := trT M h) (F := F)
  obtain ⟨σ2, b1, b2, b3, b4⟩ := X_look13 (N := N) hL hF8 F.length 0 σ1 N (by omega) (by omega) (hl.sm hL.1.2.1 a2) a3
  have hs2 : Sm σ σ2 118 125 := a2.trans b2
  have hvb := X_vob (k := F.length) hN (hv σ2 hs2) b3.2 (Nat.le_refl _) hF8
  have e0 : fX11_lookAtFirstBatch N σ = if iN (vdF M T G V (trT M h) F F.length) = iN 2 then (lp (fX11_lookAtFirstBatch_103 N) N ((sI σ2 118 3 (iN (vdF M T G V (trT M h) F F.length))), iN 0)) else (some (sI σ2 118 3 (iN (vdF M T G V (trT M h) F F.length)))) := by
    unfold fX11_lookAtFirstBatch
    rw [X_trunk ht, Option.bind_some, a1, Option.bind_some, i_0, b1, hvb, Option.bind_some]
  have hvd : vdF M T G V (trT M h) F F.length = 0 ∨ vdF M T G V (trT M h) F F.length = 1 ∨ vdF M T G V (trT M h) F F.length = 2 := sTog3 _ _ _
  have h4 : σ2.1 118 4 = iN 0 := (b4 4 (by omega)).trans a4
  have h6 : σ2.1 118 6 = iM := (b4 6 (by omega)).trans a5
  by_cases c : vdF M T G V (trT M h) F F.length = 2
  · have hpos : 0 < F.length := by
      rcases Nat.eq_zero_or_pos F.length with z | z
      · have hz : F = [] := List.length_eq_zero_iff.mp z
        subst hz
        exfalso
        unfold vdF sTog rqL at c
        have hf : ∀ v : Nat, sAny (fun q => tb (iN 0) q && (sVer M V q (treeL M (trT M h) (List.take ([] : List Nat).length []))) == v) T = false := fun v => sAny_false.mpr (fun j _ => by rw [tb_z]; simp)
        have h2 := hf 2
        have h0 := hf 0
        simp only [List.length_nil, List.take_nil, List.foldl_nil] at c h2 h0
        rw [h2, h0] at c
        exact absurd c (by decide)
      · exact z
    rw [e0, if_pos (by rw [c])]
    have hsm3 : Sm σ2 (sI σ2 118 3 (iN (vdF M T G V (trT M h) F F.length))) 118 125 := Sm.sI (by omega)
    obtain ⟨σ', w1, w2, w3, w3b, w4, w5, w6⟩ := X_nar (N := N) (t := trT M h) hN hL (fun c hc => (hl.1 c hc).1) hF8 rfl F.length 0 F.length 0 (sI σ2 118 3 (iN (vdF M T G V (trT M h) F F.length))) N (fun σ3 hs => hv σ3 (hs2.trans (hsm3.trans hs))) b3.2 hpos (Nat.le_refl _) (by omega) (by omega) (by omega) (by rw [sI_1, if_neg (by omega)]; exact h4) (by rw [sI_1, if_neg (by omega)]; exact b3.1) (by rw [sI_1, if_neg (by omega)]; exact h6)
    refine ⟨σ', w1, hs2.trans (hsm3.trans (w2.wide (by omega) (by omega))), ?_, ?_, fun hne => absurd c hne, fun _ => ⟨w4, w5, w6⟩⟩
    · obtain ⟨⟨c1, c2⟩, ⟨c3, c4⟩, ⟨c5, c6⟩⟩ := b3.2
      refine ⟨⟨by rw [(w2.1 119 (by omega)).1]; exact c1, fun j hj => by rw [w3b]; exact c2 j hj⟩, ⟨by rw [(w2.1 121 (by omega)).1]; exact c3, fun j hj => by rw [w3b]; exact c4 j hj⟩, ⟨by rw [(w2.1 123 (by omega)).1]; exact c5, fun j hj => by rw [w3b]; exact c6 j hj⟩⟩
    · rw [w3 3 (by omega) (by omega) (by omega), sI_1, if_pos ⟨rfl, rfl⟩]
  · rw [e0, if_neg (by rw [iN_eq (by omega) (by omega)]; exact c)]
    refine ⟨_, rfl, hs2.trans (Sm.sI (by omega)), b3.2, by rw [sI_1, if_pos ⟨rfl, rfl⟩], fun _ => ⟨by rw [sI_1, if_neg (by omega)]; exact h4, by rw [sI_1, if_neg (by omega)]; exact b3.1, by rw [sI_1, if_neg (by omega)]; exact h6⟩, fun hc => absurd hc c⟩
