/-! a machine takes on both sides -/
def KI (σ M M0 : gS) (n T G V U h sz dp Bu K : Nat) (ag : Nat → Nat) : Prop := (LD M n T G V h sz dp ∧ LU M) ∧ ((∀ a, a < 3 → M.1 178 a = iN (vN M 178 a) ∧ vN M 178 a ≤ Bu) ∧ ∀ a, a < 3 → M.1 178 (3 + a) = iN (vN M 178 (3 + a)) ∧ 1 ≤ vN M 178 (3 + a) ∧ vN M 178 (3 + a) ≤ 10) ∧ (∀ j, j < 3 → M.1 176 (6 * j + 2) = iN 0 ∨ M.1 176 (6 * j + 2) = iN 1) ∧ ((cdO M n T G V h sz dp = cdO M0 n T G V h sz dp ∧ nBM M n T G V h sz dp = nBM M0 n T G V h sz dp) ∧ (∀ q, q < 4 → M.1 172 (12 * q) = M0.1 172 (12 * q)) ∧ frLe M M0 V) ∧ WT σ M V (cdO M0 n T G V h sz dp) (oLs M0 V (cdO M0 n T G V h sz dp) K) ∧ US σ M ∧ WC σ M T V U ag ∧ (∀ q, q < T → σ.1 (76 + 3 * q) 4 = M.1 172 (12 * q + 1) ∧ M.1 172 (12 * q + 1) = iN (vN M 172 (12 * q + 1)) ∧ 1 ≤ vN M 172 (12 * q + 1) ∧ vN M 172 (12 * q + 1) ≤ 3) ∧ ∀ j, 3 ≤ j → j < 6 → σ.1 (144 + j) 0 = iN 0
def idB (M : gS) (j : Nat) : Prop := M.1 176 (6 * j + 4) = iN 1 ∧ M.1 176 (6 * j) = iM
def QT (M : gS) (n T G V h sz dp j : Nat) : Prop := (∃ j', j' < j ∧ idB M j') → chM M n T G V h sz dp = none
def FrT (σ σ' : gS) : Prop := (∀ k, ¬ (144 ≤ k ∧ k < 147) → σ'.1 k = σ.1 k) ∧ (∀ k, ¬ (144 ≤ k ∧ k < 147) → k ≠ 133 → k ≠ 158 → σ'.2.1 k = σ.2.1 k) ∧ σ'.2.2 = σ.2.2
theorem FrT.refl (σ : gS) : FrT σ σ := ⟨fun _ _ => rfl, fun _ _ _ _ => rfl, rfl⟩
theorem FrT.trans {a b c : gS} (h1 : FrT a b) (h2 : FrT b c) : FrT a c := ⟨fun k e => (h2.1 k e).trans (h1.1 k e), fun k e1 e2 e3 => (h2.2.1 k e1 e2 e3).trans (h1.2.1 k e1 e2 e3), h2.2.2.trans h1.2.2⟩
def FrU (M M' : gS) : Prop := (∀ k x, k ≠ 176 → ¬ (k = 178 ∧ x < 3) → M'.1 k x = M.1 k x) ∧ ∀ k, k ≠ 177 → M'.2.1 k = M.2.1 k
theorem FrU.refl (M : gS) : FrU M M := ⟨fun _ _ _ _ => rfl, fun _ _ => rfl⟩
theorem FrU.trans {a b c : gS} (h1 : FrU a b) (h2 : FrU b c) : FrU a c := ⟨fun k x e1 e2 => (h2.1 k x e1 e2).trans (h1.1 k x e1 e2), fun k e => (h2.2 k e).trans (h1.2 k e)⟩
theorem tkF_I {σ : gS} {i j q v a tm u : Nat} {w : Int64} (k : Nat) (h : k ≠ 144 + j) : (tkF σ i j q v a tm u w).1 k = σ.1 k := by
  funext x
  have e : (tkS σ j q v a w).1 k x = σ.1 k x := by
    unfold tkS
    rw [sI_1, if_neg (by omega), sI_1, if_neg (by omega), sJ_1, sI_1, if_neg (by omega)]
  unfold tkF
  by_cases c : tm = 3
  · rw [if_pos c, sJ_1]; exact e
  · rw [if_neg c, sJ_1, sJ_1]; exact e
theorem tkF_J {σ : gS} {i j q v a tm u : Nat} {w : Int64} (k x : Nat) (h1 : ¬ (k = 144 + j ∧ x = 3)) (h2 : ¬ (k = 133 ∧ x = i)) (h3 : ¬ (k = 158 ∧ x = tm ∧ tm ≠ 3)) : (tkF σ i j q v a tm u w).2.1 k x = σ.2.1 k x := by
  have e : (tkS σ j q v a w).2.1 k x = σ.2.1 k x := by
    unfold tkS
    rw [sI_2, sI_2, sJ_2, if_neg h1]; rfl
  unfold tkF
  by_cases c : tm = 3
  · rw [if_pos c, sJ_2, if_neg h2]; exact e
  · rw [if_neg c, sJ_2, if_neg h2, sJ_2, if_neg (fun y => h3 ⟨y.1, y.2, c⟩)]; exact e
theorem tkF_133 {σ : gS} {i j q v a tm u : Nat} {w : Int64} : (tkF σ i j q v a tm u w).2.1 133 i = jN 3 := by
  unfold tkF
  by_cases c : tm = 3
  · rw [if_pos c, sJ_2, if_pos ⟨rfl, rfl⟩]; rfl
  · rw [if_neg c, sJ_2, if_pos ⟨rfl, rfl⟩]; rfl
theorem tkF_158 {σ : gS} {i j q v a tm u : Nat} {w : Int64} (h : tm ≠ 3) : (tkF σ i j q v a tm u w).2.1 158 tm = jN (u + v) := by
  unfold tkF
  rw [if_neg h, sJ_2, if_neg (by omega), sJ_2, if_pos ⟨rfl, rfl⟩]
theorem tkF_m {σ : gS} {i j q v a tm u : Nat} {w : Int64} (hj : j < 3) : (tkF σ i j q v a tm u w).1 (144 + j) 0 = σ.1 (144 + j) 0 ∧ (tkF σ i j q v a tm u w).1 (144 + j) 2 = iN q ∧ (tkF σ i j q v a tm u w).1 (144 + j) 4 = iN a ∧ (tkF σ i j q v a tm u w).1 (144 + j) 5 = iN v ∧ (tkF σ i j q v a tm u w).2.1 (144 + j) 3 = w := by
  have e : ∀ k, (tkF σ i j q v a tm u w).1 (144 + j) k = (tkS σ j q v a w).1 (144 + j) k := fun k => by
    unfold tkF
    by_cases c : tm = 3
    · rw [if_pos c, sJ_1]
    · rw [if_neg c, sJ_1, sJ_1]
  have e3 : (tkF σ i j q v a tm u w).2.1 (144 + j) 3 = (tkS σ j q v a w).2.1 (144 + j) 3 := by
    unfold tkF
    by_cases c : tm = 3
    · rw [if_pos c, sJ_2, if_neg (by omega)]
    · rw [if_neg c, sJ_2, if_neg (by omega), sJ_2, if_neg (by omega)]
  refine ⟨?_, ?_, ?_, ?_, ?_⟩
  · rw [e]; unfold tkS; rw [sI_1, if_neg (by omega), sI_1, if_neg (by omega), sJ_1, sI_1, if_neg (by omega)]
  · rw [e]; unfold tkS; rw [sI_1, if_neg (by omega), sI_1, if_neg (by omega), sJ_1, sI_1, if_pos ⟨rfl, rfl⟩]
  · rw [e]; unfold tkS; rw [sI_1, if_neg (by omega), sI_1, if_pos ⟨rfl, rfl⟩]
  · rw [e]; unfold tkS; rw [sI_1, if_pos ⟨rfl, rfl⟩]
  · rw [e3]; unfold tkS; rw [sI_2, sI_2, sJ_2, if_pos ⟨rfl, rfl⟩]
theorem oLs_inj {M : gS} {V : Nat} {cd : Nat → Option wEn} : ∀ (K i i' : Nat), i < (oLs M V cd K).length → i' < (oLs M V cd K).length → (oLs M V cd K).getD i 0 = (oLs M V cd K).getD i' 0 → i = i'
  | 0, i, i', h, _, _ => absurd h (Nat.not_lt_zero i)
  | K + 1, i, i', h, h', e => by
    rw [oLs_s] at h h' e
    by_cases c : selK M V cd K = true
    · rw [if_pos c] at h h' e
      rw [List.length_append] at h h'
      have h1 : i < (oLs M V cd K).length + 1 := h
      have h2 : i' < (oLs M V cd K).length + 1 := h'
      have last : (oLs M V cd K ++ [K]).getD (oLs M V cd K).length 0 = K := by
        have := gD_app2 (l := oLs M V cd K) (r := [K]) (j := 0)
        rw [Nat.add_zero] at this; rw [this]; rfl
      by_cases a : i = (oLs M V cd K).length
      · by_cases b : i' = (oLs M V cd K).length
        · omega
        · exfalso
          rw [a, last, gD_app1 (show i' < (oLs M V cd K).length by omega)] at e
          have := ((oLs_mem K _).mp (gD_mem (show i' < (oLs M V cd K).length by omega))).1
          omega
      · by_cases b : i' = (oLs M V cd K).length
        · exfalso
          rw [b, last, gD_app1 (show i < (oLs M V cd K).length by omega)] at e
          have := ((oLs_mem K _).mp (gD_mem (show i < (oLs M V cd K).length by omega))).1
          omega
        · rw [gD_app1 (show i < (oLs M V cd K).length by omega), gD_app1 (show i' < (oLs M V cd K).length by omega)] at e
          exact oLs_inj K i i' (by omega) (by omega) e
    · rw [if_neg c] at h h' e
      exact oLs_inj K i i' h h' e
/-- listed ones are different -/
theorem sel_diff {M : gS} {V k k' : Nat} {cd : Nat → Option wEn} {x y : wEn} (hk : selK M V cd k = true) (hk' : selK M V cd k' = true) (hx : cd k = some x) (hy : cd k' = some y) (hne : k ≠ k') : ¬ (x.1 = y.1 ∧ gKey M x.1 x.2.1 = gKey M x.1 y.2.1) := fun h => by
  rw [selK_some hx, Bool.and_eq_true] at hk
  rw [selK_some hy, Bool.and_eq_true] at hk'
  rcases Nat.lt_or_gt_of_ne hne with c | c
  · have hd : dupK M cd k' = true := by
      rw [dupK_some hy]
      refine sAny_iff.mpr ⟨k, c, sameK_iff.mpr ⟨x, hx, h.1, ?_⟩⟩
      rw [← h.1]; exact h.2
    rw [hd] at hk'; exact absurd hk'.2 (by decide)
  · have hd : dupK M cd k = true := by
      rw [dupK_some hx]
      exact sAny_iff.mpr ⟨k', c, sameK_iff.mpr ⟨y, hy, h.1.symm, h.2.symm⟩⟩
    rw [hd] at hk; exact absurd hk.2 (by decide)
