/-! deeds: machines come and vanish -/
theorem TI.mach {σ σ' M M' : gS} {T V U B j : Nat} {ag : Nat → Nat} (t : TI σ M T V U B ag) (hj : j < 3) (hI : ∀ k, ((76 ≤ k ∧ k < 109) ∨ (144 ≤ k ∧ k < 150 ∧ k ≠ 144 + j)) → σ'.1 k = σ.1 k) (hJ : σ'.2 = σ.2) (mI : ∀ k x, ¬ (k = 176 ∧ 6 * j ≤ x ∧ x < 6 * j + 6) → M'.1 k x = M.1 k x) (mJ : M'.2.1 = M.2.1) (hm : MC σ' M' T V ag j) (h2 : M'.1 176 (6 * j + 2) = M.1 176 (6 * j + 2)) (h0 : M'.1 176 (6 * j) = M.1 176 (6 * j) ∨ M'.1 176 (6 * j) = iM) : TI σ' M' T V U B ag := by
  obtain ⟨hT, hVM, hen, hck, hmc, hlu, hrv, hoth⟩ := t
  have e172 : M'.1 172 = M.1 172 := funext (fun x => mI 172 x (by omega))
  have e175 : M'.1 175 = M.1 175 := funext (fun x => mI 175 x (by omega))
  have ek : ∀ q t, gKey M' q t = gKey M q t := fun q t => gKey_same (by rw [e172])
  have ev : ∀ q t, sVer M' V q t = sVer M V q t := fun q t => by
    rw [sVer_ev, sVer_ev, ek]
    unfold ev vN
    rw [sEnt_congr (M := M) (M' := M') (by rw [mJ]) V, e175]
  refine ⟨hT, (mI 161 4 (by omega)).trans hVM, fun i hi => ?_, fun q hq => (hck q hq).fr (hI _ (by omega)) (by rw [hI _ (by omega)]) (by rw [hJ]) (by rw [hJ]) (fun x _ _ => by rw [e172]) (sumR_congr V (fun i _ => ⟨by rw [mJ], by rw [e175]⟩)) (Nat.le_refl _), fun j' hj' => ?_, fun j1 j2 w1 w2 w3 q w4 w5 w6 w7 w8 => ?_, (hrv.places (by rw [hJ]) (hI 106 (by omega)) (by rw [hJ]) (hI 108 (by omega))).fr2 (fun q _ => by rw [e172]) (fun j _ => by rw [mJ]) (fun j _ => by rw [e175]), fun j w1 w2 => by rw [hI _ (by omega)]; exact hoth j w1 w2⟩
  · obtain ⟨x1, x2, q, t, x3, x4⟩ := hen i hi
    refine ⟨?_, ?_, q, t, x3, ?_⟩
    · unfold vN at x1 ⊢; rw [e175]; exact x1
    · unfold vN at x2 ⊢; rw [e175]; exact x2
    · rw [mJ, ek]; exact x4
  · by_cases e : j' = j
    · rw [e]; exact hm
    · exact (hmc j' hj').fr (hI _ (by omega)) (by rw [hJ]) (fun x _ _ => mI 176 x (by omega)) (by rw [mJ]) (fun q _ => by rw [e172]) (fun q _ _ _ hz => by rw [ev]; exact hz)
  · have k0 : ∀ j', j' < 3 → ∀ q : Nat, q < 4 → M'.1 176 (6 * j') = iN q → M.1 176 (6 * j') = iN q := fun j' hj' q hq e => by
      by_cases ej : j' = j
      · subst ej
        rcases h0 with h0 | h0
        · rw [← h0]; exact e
        · rw [h0] at e; exact absurd e.symm (iM_ne (show q < 2147483648 by omega))
      · rw [← mI 176 _ (by omega)]; exact e
    have k2 : ∀ j', j' < 3 → M'.1 176 (6 * j' + 2) = M.1 176 (6 * j' + 2) := fun j' hj' => by
      by_cases ej : j' = j
      · subst ej; exact h2
      · exact mI 176 _ (by omega)
    rw [k2 j1 w1] at w7
    rw [k2 j2 w2] at w8
    rw [ek, ek, mJ]
    exact hlu j1 j2 w1 w2 w3 q w4 (k0 j1 w1 q w4 w5) (k0 j2 w2 q w4 w6) w7 w8
section DD
variable {N : Nat} {xs : Nat → Int32} {Lx : Nat} {rec221 : (gS × Int32 × Int32) → Option Int32} {x21 x24 x27 : Int32} {x25 : Int64} {s : gS} {j V U B A : Nat}
theorem D_come (hj : j < 3) (a0 : AI s V U B A) : ∃ s', fL_law_1737 N xs Lx rec221 s x21 x24 (iN j) 1 = fL_law_2698 N xs Lx rec221 s' 1 x21 x24 ∧ DR s' V U B A := by
  obtain ⟨n, T, G, h, sz, dp, ag, g, x, hA⟩ := a0
  have hn := g.1.1.1.1.2.1
  have hT := g.1.1.1.2.1.2
  obtain ⟨m0, m1, m2, m3⟩ := g.2.1.2.2.2.2.1 j hj
  have hl : lawOf (sI (sI (sI (sI s (144 + j) 0 (iN 1)) 109 3 (iN 0)) 0 18 (iN 0)) 176 (6 * j + 4) (iN 1)) = sI (lawOf s) 176 (6 * j + 4) (iN 1) := by
    rw [lawOf_in (by omega), lawOf_sI (by omega), lawOf_sI (by omega), lawOf_sI (by omega)]
  have hI : ∀ k i, ¬ (k = 0 ∧ i = 18) → ¬ (k = 109 ∧ i = 3) → ¬ (k = 144 + j ∧ i = 0) → k < 161 → (sI (sI (sI (sI s (144 + j) 0 (iN 1)) 109 3 (iN 0)) 0 18 (iN 0)) 176 (6 * j + 4) (iN 1)).1 k i = s.1 k i := fun k i e1 e2 e3 e4 => by
    rw [sI_1, if_neg (by omega), sI_1, if_neg (by omega), sI_1, if_neg (by omega), sI_1, if_neg (by omega)]
  have mI : ∀ k i, ¬ (k = 176 ∧ i = 6 * j + 4) → (sI (lawOf s) 176 (6 * j + 4) (iN 1)).1 k i = (lawOf s).1 k i := fun k i e => by rw [sI_1, if_neg e]
  have e6 : (6 : Int32) * iN j = iN (6 * j) := iN_mul 6 j
  have e64 : iN (6 * j) + (4 : Int32) = iN (6 * j + 4) := iN_add _ 4
  have e63 : iN (6 * j) + (3 : Int32) = iN (6 * j + 3) := iN_add _ 3
  refine ⟨sI (sI (sI (sI s (144 + j) 0 (iN 1)) 109 3 (iN 0)) 0 18 (iN 0)) 176 (6 * j + 4) (iN 1), ?_, DR.of ⟨n, T, G, h, sz, dp, ag, ?_, ?_, hA⟩⟩
  · have e1 : fX11_come N s (iN j) = some ((if s.1 (144 + j) 0 = 0 then 1 else 0), sI (sI (sI s (144 + j) 0 (iN 1)) 109 3 (iN 0)) 0 18 (iN 0)) := by
      unfold fX11_come
      rw [show fX11_needPlace N s (iN j) (6 : Int32) = some () from X_place (n := 6) (by omega) (by omega), Option.bind_some, X_mach (by omega), Option.bind_some, show fX11_stir N (sI s (144 + j) 0 1) = some (sI (sI (sI s (144 + j) 0 (iN 1)) 109 3 (iN 0)) 0 18 (iN 0)) from rfl, Option.bind_some]
      by_cases c0 : s.1 (144 + j) 0 = 0
      · rw [if_pos c0, if_pos c0]; rfl
      · rw [if_neg c0, if_neg c0]; rfl
    have e2 : ∀ i, (sI (sI (sI s (144 + j) 0 (iN 1)) 109 3 (iN 0)) 0 18 (iN 0)).1 176 i = s.1 176 i := fun i => by
      rw [sI_1, if_neg (by omega), sI_1, if_neg (by omega), sI_1, if_neg (by omega)]
    have e3 : s.1 (144 + j) 0 = s.1 176 (6 * j + 4) := m0.trans (lw0 s (by omega))
    unfold fL_law_1737
    rw [if_neg (show ¬ (1 : Int32) = 0 by decide), e1, Option.bind_some]
    dsimp only
    rw [e6, e64, if_neg (gi (show 6 * j + 4 < 18 by omega) (by decide)), iN_cl (show 6 * j + 4 < 2147483648 by omega), e2, e3]
    generalize sI (sI (sI s (144 + j) 0 (iN 1)) 109 3 (iN 0)) 0 18 (iN 0) = σ1
    have fin : fL_law_1809 N xs Lx rec221 σ1 x21 x24 (iN j) 1 1 = fL_law_2698 N xs Lx rec221 (sI σ1 176 (6 * j + 4) (iN 1)) 1 x21 x24 := by
      unfold fL_law_1809
      rw [if_neg (show ¬ (1 : Int32) = 0 by decide)]
      unfold fL_law_1830
      rw [e6, e64, if_neg (gi (show 6 * j + 4 < 18 by omega) (by decide)), if_neg (show ¬ (1 : Int32) = 0 by decide), if_neg (gi (show 6 * j < 18 by omega) (by decide)), iN_cl (show 6 * j + 4 < 2147483648 by omega), iN_cl (show 6 * j < 2147483648 by omega)]
      unfold fL_law_1855
      rw [if_neg (gi (show 6 * j < 18 by omega) (by decide)), if_neg (show ¬ (1 : Int32) = 0 by decide), iN_cl (show 6 * j < 2147483648 by omega), sI_same rfl, e6, e63, if_neg (gi (show 6 * j + 3 < 18 by omega) (by decide)), iN_cl (show 6 * j + 3 < 2147483648 by omega)]
      unfold fL_law_1884
      rw [if_neg (gi (show 6 * j + 3 < 18 by omega) (by decide)), iN_cl (show 6 * j + 3 < 2147483648 by omega), sI_same rfl]
      rfl
    by_cases c0 : s.1 176 (6 * j + 4) = 0
    · rw [if_pos c0, if_pos c0]
      unfold fL_law_1768
      rw [if_pos rfl]; exact fin
    · rw [if_neg c0, if_neg c0]
      unfold fL_law_1768
      rw [if_pos rfl]; exact fin
  · rw [hl]
    have hs : (sI (lawOf s) 176 (6 * j + 4) (iN 1)).1 176 (6 * j + 4) = iN 1 := by rw [sI_1, if_pos ⟨rfl, rfl⟩]
    refine g.stir ?_ ?_ (fun k i hk => hI k i (by omega) (by omega) (by omega) (by omega)) (fun _ _ => rfl) (fun k i hk => mI k i (by omega)) (fun _ _ => rfl) (g.2.1.mach hj (fun k hk => funext (fun i => hI k i (by omega) (by omega) (by omega) (by omega))) rfl (fun k x hk => mI k x (by omega)) rfl ⟨?_, Or.inr hs, ?_, ?_⟩ (mI _ _ (by omega)) (Or.inl (mI _ _ (by omega)))) (g.2.2.2.1.same (fun _ _ => rfl) (fun i _ => mI 178 i (by omega)) (fun j' _ => mI 176 _ (by omega))) (g.2.2.2.2.1.same (fun i hi => hI 0 i (by omega) (by omega) (by omega) (by omega)) (fun i hi => mI 161 i (by omega)))
    · simp [sI_1]
    · simp [sI_1]
    · rw [hs, sI_1, if_neg (by omega), sI_1, if_neg (by omega), sI_1, if_neg (by omega), sI_1, if_pos ⟨rfl, rfl⟩]
    · rw [hI _ 2 (by omega) (by omega) (by omega) (by omega), mI _ _ (by omega)]; exact m2
    · rw [hI _ 1 (by omega) (by omega) (by omega) (by omega), mI _ (6 * j) (by omega), mI _ (6 * j + 3) (by omega), hs, mI _ (6 * j + 1) (by omega), mI _ (6 * j + 2) (by omega), hI _ 5 (by omega) (by omega) (by omega) (by omega), hI _ 4 (by omega) (by omega) (by omega) (by omega)]
      rcases m3 with m3 | ⟨q, l, b1, b2, b3⟩
      · exact Or.inl m3
      · refine Or.inr ⟨q, l, b1, rfl, ?_⟩
        have EE : E176 (lawOf s) (sI (lawOf s) 176 (6 * j + 4) (iN 1)) := E176.sI
        rw [EE.1 172 (by omega), EE.ver, EE.2]
        exact b3
  · rw [hl]
    exact x.move hn (fun k i hk => hI k i (by omega) (by omega) (by omega) (by omega)) rfl (fun k i hk => mI k i (by omega))
theorem D_vanish (hj : j < 3) (a0 : AI s V U B A) : ∃ s', fL_law_1737 N xs Lx rec221 s x21 x24 (iN j) 0 = fL_law_2698 N xs Lx rec221 s' 1 x21 x24 ∧ DR s' V U B A := by
  obtain ⟨n, T, G, h, sz, dp, ag, g, x, hA⟩ := a0
  have hn := g.1.1.1.1.2.1
  have hT := g.1.1.1.2.1.2
  obtain ⟨m0, m1, m2, m3⟩ := g.2.1.2.2.2.2.1 j hj
  have hl : lawOf (sI (sI (sI (sI (sI (sI (sI (sI s (144 + j) 0 (iN 0)) (144 + j) 1 iM) (144 + j) 2 iM) 109 3 (iN 0)) 0 18 (iN 0)) 176 (6 * j + 4) (iN 0)) 176 (6 * j) iM) 176 (6 * j + 3) iM) = sI (sI (sI (lawOf s) 176 (6 * j + 4) (iN 0)) 176 (6 * j) iM) 176 (6 * j + 3) iM := by
    rw [lawOf_in (by omega), lawOf_in (by omega), lawOf_in (by omega), lawOf_sI (by omega), lawOf_sI (by omega), lawOf_sI (by omega), lawOf_sI (by omega), lawOf_sI (by omega)]
  have hI : ∀ k i, ¬ (k = 0 ∧ i = 18) → ¬ (k = 109 ∧ i = 3) → ¬ (k = 144 + j ∧ i < 3) → k < 161 → (sI (sI (sI (sI (sI (sI (sI (sI s (144 + j) 0 (iN 0)) (144 + j) 1 iM) (144 + j) 2 iM) 109 3 (iN 0)) 0 18 (iN 0)) 176 (6 * j + 4) (iN 0)) 176 (6 * j) iM) 176 (6 * j + 3) iM).1 k i = s.1 k i := fun k i e1 e2 e3 e4 => by
    rw [sI_1, if_neg (by omega), sI_1, if_neg (by omega), sI_1, if_neg (by omega), sI_1, if_neg (by omega), sI_1, if_neg (by omega), sI_1, if_neg (by omega), sI_1, if_neg (by omega), sI_1, if_neg (by omega)]
  have mI : ∀ k i, ¬ (k = 176 ∧ (i = 6 * j + 4 ∨ i = 6 * j ∨ i = 6 * j + 3)) → (sI (sI (sI (lawOf s) 176 (6 * j + 4) (iN 0)) 176 (6 * j) iM) 176 (6 * j + 3) iM).1 k i = (lawOf s).1 k i := fun k i e => by rw [sI_1, if_neg (by omega), sI_1, if_neg (by omega), sI_1, if_neg (by omega)]
  have e6 : (6 : Int32) * iN j = iN (6 * j) := iN_mul 6 j
  have e64 : iN (6 * j) + (4 : Int32) = iN (6 * j + 4) := iN_add _ 4
  have e63 : iN (6 * j) + (3 : Int32) = iN (6 * j + 3) := iN_add _ 3
  have hidle : (lawOf s).1 176 (6 * j) = iM ∨ ∃ q, q < 4 ∧ (lawOf s).1 176 (6 * j) = iN q := by
    rcases m3 with ⟨e, _⟩ | ⟨q, l, b1, _, b3, _⟩
    · exact Or.inl e
    · exact Or.inr ⟨q, by omega, b3⟩
  refine ⟨sI (sI (sI (sI (sI (sI (sI (sI s (144 + j) 0 (iN 0)) (144 + j) 1 iM) (144 + j) 2 iM) 109 3 (iN 0)) 0 18 (iN 0)) 176 (6 * j + 4) (iN 0)) 176 (6 * j) iM) 176 (6 * j + 3) iM, ?_, DR.of ⟨n, T, G, h, sz, dp, ag, ?_, ?_, hA⟩⟩
  · have e1 : fX11_vanish N s (iN j) = some ((if s.1 (144 + j) 2 = -1 then 0 else 1), sI (sI (sI (sI (sI s (144 + j) 0 (iN 0)) (144 + j) 1 iM) (144 + j) 2 iM) 109 3 (iN 0)) 0 18 (iN 0)) := by
      unfold fX11_vanish
      rw [show fX11_needPlace N s (iN j) (6 : Int32) = some () from X_place (n := 6) (by omega) (by omega), Option.bind_some, X_mach (by omega), Option.bind_some]
      by_cases c0 : s.1 (144 + j) 2 = -1
      · rw [if_pos c0, if_pos c0]; rfl
      · rw [if_neg c0, if_neg c0]; rfl
    have e2 : ∀ i, (sI (sI (sI (sI (sI s (144 + j) 0 (iN 0)) (144 + j) 1 iM) (144 + j) 2 iM) 109 3 (iN 0)) 0 18 (iN 0)).1 176 i = s.1 176 i := fun i => by
      rw [sI_1, if_neg (by omega), sI_1, if_neg (by omega), sI_1, if_neg (by omega), sI_1, if_neg (by omega), sI_1, if_neg (by omega)]
    have e3 : s.1 (144 + j) 2 = s.1 176 (6 * j) := m2.trans (lw0 s (by omega))
    rw [lw0 s (by omega)] at hidle
    unfold fL_law_1737
    rw [if_pos (show (0 : Int32) = 0 from rfl), e1, Option.bind_some]
    dsimp only
    rw [e6, if_neg (gi (show 6 * j < 18 by omega) (by decide)), iN_cl (show 6 * j < 2147483648 by omega), e2, e3]
    generalize sI (sI (sI (sI (sI s (144 + j) 0 (iN 0)) (144 + j) 1 iM) (144 + j) 2 iM) 109 3 (iN 0)) 0 18 (iN 0) = σ1
    have fin : fL_law_1809 N xs Lx rec221 σ1 x21 x24 (iN j) 0 1 = fL_law_2698 N xs Lx rec221 (sI (sI (sI σ1 176 (6 * j + 4) (iN 0)) 176 (6 * j) iM) 176 (6 * j + 3) iM) 1 x21 x24 := by
      unfold fL_law_1809
      rw [if_pos (show (0 : Int32) = 0 from rfl)]
      unfold fL_law_1830
      rw [e6, e64, if_neg (gi (show 6 * j + 4 < 18 by omega) (by decide)), if_pos (show (0 : Int32) = 0 from rfl), iN_cl (show 6 * j + 4 < 2147483648 by omega)]
      unfold fL_law_1855
      rw [if_neg (gi (show 6 * j < 18 by omega) (by decide)), if_pos (show (0 : Int32) = 0 from rfl), iN_cl (show 6 * j < 2147483648 by omega), e6, e63]
      unfold fL_law_1884
      rw [if_neg (gi (show 6 * j + 3 < 18 by omega) (by decide)), iN_cl (show 6 * j + 3 < 2147483648 by omega)]
      rfl
    rcases hidle with e | ⟨q, hq, e⟩
    · rw [e, if_pos (show iM = (-1 : Int32) from rfl), if_pos (show iM < (0 : Int32) by decide)]
      unfold fL_law_1801
      rw [if_pos rfl]; exact fin
    · rw [e, if_neg (show ¬ iN q = (-1 : Int32) from iM_ne (by omega)), if_neg (show ¬ iN q < (0 : Int32) by rw [i_0, iN_lt (by omega) (by omega)]; omega)]
      unfold fL_law_1801
      rw [if_pos rfl]; exact fin
  · rw [hl]
    have hs4 : (sI (sI (sI (lawOf s) 176 (6 * j + 4) (iN 0)) 176 (6 * j) iM) 176 (6 * j + 3) iM).1 176 (6 * j + 4) = iN 0 := by rw [sI_1, if_neg (by omega), sI_1, if_neg (by omega), sI_1, if_pos ⟨rfl, rfl⟩]
    have hs0 : (sI (sI (sI (lawOf s) 176 (6 * j + 4) (iN 0)) 176 (6 * j) iM) 176 (6 * j + 3) iM).1 176 (6 * j) = iM := by rw [sI_1, if_neg (by omega), sI_1, if_pos ⟨rfl, rfl⟩]
    have hs3 : (sI (sI (sI (lawOf s) 176 (6 * j + 4) (iN 0)) 176 (6 * j) iM) 176 (6 * j + 3) iM).1 176 (6 * j + 3) = iM := by rw [sI_1, if_pos ⟨rfl, rfl⟩]
    refine g.stir ?_ ?_ (fun k i hk => hI k i (by omega) (by omega) (by omega) (by omega)) (fun _ _ => rfl) (fun k i hk => mI k i (by omega)) (fun _ _ => rfl) (g.2.1.mach hj (fun k hk => funext (fun i => hI k i (by omega) (by omega) (by omega) (by omega))) rfl (fun k x hk => mI k x (by omega)) rfl ⟨?_, Or.inl hs4, ?_, Or.inl ⟨hs0, ?_⟩⟩ (mI _ _ (by omega)) (Or.inr hs0)) (g.2.2.2.1.same (fun _ _ => rfl) (fun i _ => mI 178 i (by omega)) (fun j' _ => mI 176 _ (by omega))) (g.2.2.2.2.1.same (fun i hi => hI 0 i (by omega) (by omega) (by omega) (by omega)) (fun i hi => mI 161 i (by omega)))
    · simp [sI_1]
    · simp [sI_1]
    · rw [hs4]; simp [sI_1]; omega
    · rw [hs0]; simp [sI_1]
    · rw [hs3]; simp [sI_1]
  · rw [hl]
    exact x.move hn (fun k i hk => hI k i (by omega) (by omega) (by omega) (by omega)) rfl (fun k i hk => mI k i (by omega))
end DD
