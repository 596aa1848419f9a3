/-! the class looks at the first batch -/
/-- the class's weights and the law's -/
def RCw (σ M : gS) : Prop := ∀ a, a < 8 → σ.2.1 160 a = jN (vN M 178 (6 + a))
def verS (N : Nat) (σ M : gS) (T V : Nat) : Prop := σ.1 65 5 = iN T ∧ T ≤ 4 ∧ ∀ q, q < T → ∀ t, fX9_verdictOf N σ (76 + 3 * q) t = some (iN (sVer M V q t))
theorem verS_of {N : Nat} {σ M : gS} {T V U : Nat} {ag : Nat → Nat} (hN : 5000 ≤ N) (hT : σ.1 65 5 = iN T) (hT4 : T ≤ 4) (h : RCv σ M T V U ag) (hk : ∀ q, q < T → RCk σ M ag q) (hv : ∀ j, j < V → vN M 175 j < 100000) : verS N σ M T V :=
  ⟨hT, hT4, fun q hq t => X_verdictOf hN h (hk q hq) hq hT4 hv⟩
theorem X_vob {N : Nat} {σ M : gS} {T G V k K : Nat} {t : Int64} {F : List Nat} (hN : 100 ≤ N) (hv : verS N σ M T V) (hB : BgR σ M T G t F K) (hk : k ≤ K) (hK : K ≤ 8) : fX11_verdictOfBeginning N σ (iN k) = some (iN (vdF M T G V t F k)) := by
  obtain ⟨⟨b2, b3⟩, ⟨b4, b5⟩, ⟨b6, b7⟩⟩ := hB
  obtain ⟨v1, v2, v3⟩ := hv
  have g1 := X_whole (N := N) (σ := σ) (r := 121) (j := k) (len := gle σ.2.2 122) rfl (show k < 9 by omega) (show (9 : Nat) < 1000 by decide)
  have g2 := X_get (N := N) (σ := σ) (r := 119) (j := k) (len := gle σ.2.2 120) rfl (show k < 9 by omega) (show (9 : Nat) < 1000 by decide)
  rw [b5 k hk, Int32.toInt32_toInt64] at g1
  rw [b3 k hk] at g2
  unfold fX11_verdictOfBeginning
  rw [g1, Option.bind_some, g2, Option.bind_some]
  exact X_vob30 (ver := fun q => sVer M V q (treeL M t (F.take k))) v1 v2 (fun q hq => v3 q hq _) (fun q _ => sVer3 M V q _) T 0 N (by omega) (by omega) (fun i hi => absurd hi (Nat.not_lt_zero i))
theorem X_between {N : Nat} {σ M : gS} {T G g b K : Nat} {t : Int64} {F : List Nat} (hN : 100 ≤ N) (hB : BgR σ M T G t F K) (hK : K ≤ 8) (hb : b ≤ K) (hg : g + 2 ≤ b) (hKF : K ≤ F.length) (h4 : σ.1 118 4 = iN g) (h5 : σ.1 118 5 = iN b) (hup : wtF M F b < 1000000) : fX0_between N σ = some (iN (nxB (wtF M F) g b)) := by
  obtain ⟨⟨b2, b3⟩, ⟨b4, b5⟩, ⟨b6, b7⟩⟩ := hB
  have gg : ∀ j, j ≤ K → fX8_get N σ 123 (iN j) = some (jN (wtF M F j)) := fun j hj => by
    rw [X_get (N := N) (σ := σ) (r := 123) (j := j) (len := gle σ.2.2 124) rfl (show j < 9 by omega) (show (9 : Nat) < 1000 by decide), b7 j hj]
  have hmono : ∀ j, g ≤ j → j ≤ K → wtF M F g ≤ wtF M F j := fun j h1 h2 => wtF_le h1 (by omega)
  have hmono2 : ∀ j, j ≤ b → wtF M F j ≤ wtF M F b := fun j h1 => wtF_le h1 (by omega)
  have jsub : ∀ x y : Nat, y ≤ x → jN x - jN y = jN (x - y) := fun x y h => by
    have e : jN (x - y) + jN y = jN x := by rw [jN_add, Nat.sub_add_cancel h]
    rw [← e]; exact Int64.add_sub_cancel _ _
  have jlt : ∀ x y : Nat, x < 10000000 → y < 10000000 → (lg_cmp (jN x) (jN y) < (0 : Int32)) = (x < y) := fun x y hx hy => by
    unfold lg_cmp
    have hgt : (jN x > jN y) = (y < x) := by
      rw [gt_iff_lt, Int64.lt_iff_toInt_lt, jN_toInt (by omega), jN_toInt (by omega)]; exact propext (by omega)
    have heq : (jN x = jN y) = (x = y) := propext ⟨fun h => by
      have := congrArg Int64.toInt h
      rw [jN_toInt (by omega), jN_toInt (by omega)] at this; omega, fun h => by rw [h]⟩
    simp only [hgt, heq]
    by_cases c1 : y < x
    · rw [if_pos c1]; exact propext ⟨fun h => absurd h (by decide), fun h => by omega⟩
    · rw [if_neg c1]
      by_cases c2 : x = y
      · rw [if_pos c2]; exact propext ⟨fun h => absurd h (by decide), fun h => by omega⟩
      · rw [if_neg c2]; exact propext ⟨fun _ => by omega, fun _ => by decide⟩
  have jmul : ∀ x : Nat, (2 : Int64) * jN x = jN (2 * x) := fun x => (Int64.ofNat_mul 2 x).symm
  have hrun : ∀ (f k N' : Nat), g + 1 ≤ k → k ≤ b → b - k ≤ f → f < N' → lp (fX0_between_31 N σ (jN (wtF M F b - wtF M F g))) N' (iN k) = some (iN (if k = b then b - 1 else nxF (wtF M F) g b f k)) := by
    intro f
    induction f with
    | zero =>
      intro k N' h1 h2 h3 hN'
      obtain ⟨N', rfl⟩ : ∃ k, N' = k + 1 := ⟨N' - 1, by omega⟩
      have e : k = b := by omega
      subst e
      rw [lp_1, if_pos rfl]
      simp (disch := omega) only [fX0_between_31, h5, i_0, i_1, i_2, i_3, i_4, i_5, i_6, i_7, i_8, i_9, i_10, i_11, i_12, i_14, i_15, i_16, i_24, i_30, i_31, i_32, i_48, i_60, i_64, i_80, i_99, i_100, i_m1, iN_of, iN_add, iN_mul, iN_sub, iN_01, iM_1, iN_div, iN_lt, iN_le, iN_eq, iN_cl, iM_lt, iM_gt, iM_le, iM_ge, iM_eq, iM_eq2, iN_64, jN_32, if_pos, if_neg, if_true, if_false, true_or, or_true, false_or, or_false, not_true_eq_false, not_false_eq_true, Option.bind_some]
    | succ f ih =>
      intro k N' h1 h2 h3 hN'
      obtain ⟨N', rfl⟩ : ∃ k, N' = k + 1 := ⟨N' - 1, by omega⟩
      rw [lp_1]
      by_cases e : k = b
      · subst e
        rw [if_pos rfl]
        simp (disch := omega) only [fX0_between_31, h5, i_0, i_1, i_2, i_3, i_4, i_5, i_6, i_7, i_8, i_9, i_10, i_11, i_12, i_14, i_15, i_16, i_24, i_30, i_31, i_32, i_48, i_60, i_64, i_80, i_99, i_100, i_m1, iN_of, iN_add, iN_mul, iN_sub, iN_01, iM_1, iN_div, iN_lt, iN_le, iN_eq, iN_cl, iM_lt, iM_gt, iM_le, iM_ge, iM_eq, iM_eq2, iN_64, jN_32, if_pos, if_neg, if_true, if_false, true_or, or_true, false_or, or_false, not_true_eq_false, not_false_eq_true, Option.bind_some]
      · rw [if_neg e]
        have hm1 := hmono k (by omega) (by omega)
        have hm2 := hmono2 k h2
        have e31 : fX0_between_31 N σ (jN (wtF M F b - wtF M F g)) (lp (fX0_between_31 N σ (jN (wtF M F b - wtF M F g))) N') (iN k) = if 2 * (wtF M F k - wtF M F g) < wtF M F b - wtF M F g then lp (fX0_between_31 N σ (jN (wtF M F b - wtF M F g))) N' (iN (k + 1)) else some (iN k) := by
          unfold fX0_between_31
          rw [h5, h4, if_neg (by rw [iN_le (by omega) (by omega)]; omega), gg k (by omega), Option.bind_some, gg g (by omega), Option.bind_some, jsub _ _ hm1, jmul, i_1, iN_add]
          simp only [jlt _ _ (show 2 * (wtF M F k - wtF M F g) < 10000000 by omega) (show wtF M F b - wtF M F g < 10000000 by omega)]
        rw [e31]
        by_cases c : 2 * (wtF M F k - wtF M F g) < wtF M F b - wtF M F g
        · rw [if_pos c, ih (k + 1) N' (by omega) (by omega) (by omega) (by omega)]
          by_cases c2 : k + 1 = b
          · rw [if_pos c2, show nxF (wtF M F) g b (f + 1) k = k by unfold nxF; rw [if_neg (by omega)]]
            exact congrArg (fun x => some (iN x)) (by omega)
          · rw [if_neg c2, show nxF (wtF M F) g b (f + 1) k = nxF (wtF M F) g b f (k + 1) by conv => { lhs; unfold nxF }; rw [if_pos ⟨by omega, c⟩]]
        · rw [if_neg c, show nxF (wtF M F) g b (f + 1) k = k by unfold nxF; rw [if_neg (by omega)]]
  unfold fX0_between
  rw [h5, h4, gg b hb, Option.bind_some, gg g (by omega), Option.bind_some, jsub _ _ (hmono b (by omega) hb), i_1, iN_add, hrun b (g + 1) N (Nat.le_refl _) (by omega) (by omega) (by omega), if_neg (by omega)]
  rfl
/-- narrowing down -/
theorem verS.sm {N : Nat} {σ σ' M : gS} {T V U : Nat} {ag : Nat → Nat} (hN : 5000 ≤ N) (hT : σ.1 65 5 = iN T) (hT4 : T ≤ 4) (h : RCv σ M T V U ag) (hk : ∀ q, q < T → RCk σ M ag q) (hv : ∀ j, j < V → vN M 175 j < 100000) (hs : Sm σ σ' 118 125) : verS N σ' M T V :=
  verS_of hN (by rw [(hs.1 65 (by omega)).1]; exact hT) hT4 (h.sm hs (by omega)) (fun q hq => (hk q hq).sm hs (by omega) (by omega)) hv
theorem X_nar {N : Nat} {M : gS} {n T G V K : Nat} {t : Int64} {F : List Nat} (hN : 100 ≤ N) (h : LF M n T G V) (hF : ∀ c ∈ F, c < n) (hK : K ≤ 8) (hKF : K = F.length) : ∀ (f g b x : Nat) (σ : gS) (N' : Nat), (∀ σ', Sm σ σ' 118 125 → verS N σ' M T V) → BgR σ M T G t F K → g < b → b ≤ K → b - g ≤ f → f + x ≤ 8 → f < N' → σ.1 118 4 = iN g → σ.1 118 5 = iN b → σ.1 118 6 = iM →
    ∃ σ' : gS, lp (fX11_lookAtFirstBatch_103 N) N' (σ, iN x) = some σ' ∧ Sm σ σ' 118 119 ∧ (∀ i, i ≠ 4 → i ≠ 5 → i ≠ 6 → σ'.1 118 i = σ.1 118 i) ∧ σ'.2.1 = σ.2.1 ∧ σ'.1 118 4 = iN (bisB (vdF M T G V t F) (wtF M F) f g b).1 ∧ σ'.1 118 5 = iN (bisB (vdF M T G V t F) (wtF M F) f g b).2.1 ∧ σ'.1 118 6 = iO (bisB (vdF M T G V t F) (wtF M F) f g b).2.2 := by
  intro f
  induction f with
  | zero => intro g b x σ N' _ _ h1 h2 h3; omega
  | succ f ih =>
    intro g b x σ N' hv hB hgb hb hf hx hN' h4 h5 h6
    obtain ⟨N', rfl⟩ : ∃ k, N' = k + 1 := ⟨N' - 1, by omega⟩
    rw [lp_1]
    by_cases e : b - g ≤ 1
    · rw [show bisB (vdF M T G V t F) (wtF M F) (f + 1) g b = (g, b, none) by unfold bisB; rw [if_pos e]]
      refine ⟨σ, ?_, Sm.refl _ _ _, fun _ _ _ _ => rfl, rfl, h4, h5, h6⟩
      simp (disch := omega) only [fX11_lookAtFirstBatch_103, fX11_lookAtFirstBatch_185, h4, h5, i_0, i_1, i_2, i_3, i_4, i_5, i_6, i_7, i_8, i_9, i_10, i_11, i_12, i_14, i_15, i_16, i_24, i_30, i_31, i_32, i_48, i_60, i_64, i_80, i_99, i_100, i_m1, iN_of, iN_add, iN_mul, iN_sub, iN_01, iM_1, iN_div, iN_lt, iN_le, iN_eq, iN_cl, iM_lt, iM_gt, iM_le, iM_ge, iM_eq, iM_eq2, iN_64, jN_32, if_pos, if_neg, if_true, if_false, true_or, or_true, false_or, or_false, not_true_eq_false, not_false_eq_true, Option.bind_some]
    · have hbd := nxB_bd (w := wtF M F) (g := g) (b := b) (by omega)
      have hup := wtF_up h hF b (by omega)
      have hbt := X_between hN hB hK hb (by omega) (by omega) h4 h5 (by omega)
      have eb : bisB (vdF M T G V t F) (wtF M F) (f + 1) g b = if vdF M T G V t F (nxB (wtF M F) g b) = 0 then (g, b, some (nxB (wtF M F) g b)) else if vdF M T G V t F (nxB (wtF M F) g b) = 1 then bisB (vdF M T G V t F) (wtF M F) f (nxB (wtF M F) g b) b else bisB (vdF M T G V t F) (wtF M F) f g (nxB (wtF M F) g b) := by
        conv => { lhs; unfold bisB }
        rw [if_neg e]
      rw [eb]
      generalize nxB (wtF M F) g b = k at hbd hbt ⊢
      have hvk := X_vob (k := k) hN (hv σ (Sm.refl _ _ _)) hB (by omega) hK
      have hv3 : vdF M T G V t F k = 0 ∨ vdF M T G V t F k = 1 ∨ vdF M T G V t F k = 2 := sTog3 _ _ _
      have hfr : ∀ i v, Sm σ (sI σ 118 i v) 118 119 := fun i v => Sm.sI (by omega)
      rcases hv3 with e0 | e0 | e0
      · simp only [e0, if_true]
        rw [e0] at hvk
        refine ⟨sI σ 118 6 (iN k), ?_, hfr _ _, fun i _ _ h => by rw [sI_1, if_neg (by omega)], rfl, by rw [sI_1, if_neg (by omega)]; exact h4, by rw [sI_1, if_neg (by omega)]; exact h5, by rw [sI_1, if_pos ⟨rfl, rfl⟩]; rfl⟩
        simp (disch := omega) only [fX11_lookAtFirstBatch_103, h4, h5, hbt, hvk, i_0, i_1, i_2, i_3, i_4, i_5, i_6, i_7, i_8, i_9, i_10, i_11, i_12, i_14, i_15, i_16, i_24, i_30, i_31, i_32, i_48, i_60, i_64, i_80, i_99, i_100, i_m1, iN_of, iN_add, iN_mul, iN_sub, iN_01, iM_1, iN_div, iN_lt, iN_le, iN_eq, iN_cl, iM_lt, iM_gt, iM_le, iM_ge, iM_eq, iM_eq2, iN_64, jN_32, if_pos, if_neg, if_true, if_false, true_or, or_true, false_or, or_false, not_true_eq_false, not_false_eq_true, Option.bind_some]
      · simp only [e0, Nat.reduceEqDiff, if_true, if_false]
        rw [e0] at hvk
        obtain ⟨σ', w1, w2, w3, w3b, w4, w5, w6⟩ := ih k b (x + 1) (sI σ 118 4 (iN k)) N' (fun σ2 hs => hv σ2 (((hfr 4 (iN k)).wide (by omega) (by omega)).trans hs)) hB (by omega) hb (by omega) (by omega) (by omega) (by rw [sI_1, if_pos ⟨rfl, rfl⟩]) (by rw [sI_1, if_neg (by omega)]; exact h5) (by rw [sI_1, if_neg (by omega)]; exact h6)
        refine ⟨σ', ?_, (hfr _ _).trans w2, fun i a1 a2 a3 => (w3 i a1 a2 a3).trans (by rw [sI_1, if_neg (by omega)]), w3b, w4, w5, w6⟩
        simp (disch := omega) only [fX11_lookAtFirstBatch_103, fX11_lookAtFirstBatch_179, h4, h5, hbt, hvk, i_0, i_1, i_2, i_3, i_4, i_5, i_6, i_7, i_8, i_9, i_10, i_11, i_12, i_14, i_15, i_16, i_24, i_30, i_31, i_32, i_48, i_60, i_64, i_80, i_99, i_100, i_m1, iN_of, iN_add, iN_mul, iN_sub, iN_01, iM_1, iN_div, iN_lt, iN_le, iN_eq, iN_cl, iM_lt, iM_gt, iM_le, iM_ge, iM_eq, iM_eq2, iN_64, jN_32, if_pos, if_neg, if_true, if_false, true_or, or_true, false_or, or_false, not_true_eq_false, not_false_eq_true, Option.bind_some]
        exact w1
      · simp only [e0, Nat.reduceEqDiff, if_true, if_false]
        rw [e0] at hvk
        obtain ⟨σ', w1, w2, w3, w3b, w4, w5, w6⟩ := ih g k (x + 1) (sI σ 118 5 (iN k)) N' (fun σ2 hs => hv σ2 (((hfr 5 (iN k)).wide (by omega) (by omega)).trans hs)) hB (by omega) (by omega) (by omega) (by omega) (by omega) (by rw [sI_1, if_neg (by omega)]; exact h4) (by rw [sI_1, if_pos ⟨rfl, rfl⟩]) (by rw [sI_1, if_neg (by omega)]; exact h6)
        refine ⟨σ', ?_, (hfr _ _).trans w2, fun i a1 a2 a3 => (w3 i a1 a2 a3).trans (by rw [sI_1, if_neg (by omega)]), w3b, w4, w5, w6⟩
        simp (disch := omega) only [fX11_lookAtFirstBatch_103, fX11_lookAtFirstBatch_179, h4, h5, hbt, hvk, i_0, i_1, i_2, i_3, i_4, i_5, i_6, i_7, i_8, i_9, i_10, i_11, i_12, i_14, i_15, i_16, i_24, i_30, i_31, i_32, i_48, i_60, i_64, i_80, i_99, i_100, i_m1, iN_of, iN_add, iN_mul, iN_sub, iN_01, iM_1, iN_div, iN_lt, iN_le, iN_eq, iN_cl, iM_lt, iM_gt, iM_le, iM_ge, iM_eq, iM_eq2, iN_64, jN_32, if_pos, if_neg, if_true, if_false, true_or, or_true, false_or, or_false, not_true_eq_false, not_false_eq_true, Option.bind_some]
        exact w1
