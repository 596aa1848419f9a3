/-! deeds: a test is let back -/
theorem modT {c T : Nat} (hT : 0 < T) : c - c / T * T < T := by
  have h1 := Nat.div_add_mod c T
  have h2 := Nat.mod_lt c hT
  rw [Nat.mul_comm] at h1
  omega
theorem TI.chk {σ σ' M M' : gS} {T V U B q : Nat} {ag : Nat → Nat} (t : TI σ M T V U B ag) (hq : q < T) (hI : ∀ k, ((76 ≤ k ∧ k < 109 ∧ k ≠ 76 + 3 * q) ∨ (144 ≤ k ∧ k < 150)) → σ'.1 k = σ.1 k) (hJ : σ'.2 = σ.2) (mI : ∀ k x, (k = 175 ∨ k = 176 ∨ (k = 172 ∧ ¬ (12 * q < x ∧ x < 12 * q + 12)) ∨ (k = 161 ∧ x = 4)) → M'.1 k x = M.1 k x) (mJ : M'.2.1 = M.2.1) (hc : CK σ' M' V B ag q) : TI σ' M' T V U B ag := by
  obtain ⟨hT, hVM, hen, hck, hmc, hlu, hrv, hoth⟩ := t
  have e175 : M'.1 175 = M.1 175 := funext (fun x => mI 175 x (by omega))
  have e176 : M'.1 176 = M.1 176 := funext (fun x => mI 176 x (by omega))
  have ek : ∀ q' t, gKey M' q' t = gKey M q' t := fun q' t => gKey_same (mI 172 _ (by omega))
  have ev : ∀ q t, sVer M' V q t = sVer M V q t := fun q t => by
    rw [sVer_ev, sVer_ev, ek]
    unfold ev vN
    rw [sEnt_congr (M := M) (M' := M') (by rw [mJ]) V, e175]
  refine ⟨hT, (mI 161 4 (by omega)).trans hVM, fun i hi => ?_, fun q' hq' => ?_, fun j' hj' => (hmc j' hj').fr (hI _ (by omega)) (by rw [hJ]) (fun x _ _ => by rw [e176]) (by rw [mJ]) (fun q' _ => mI 172 _ (by omega)) (fun q _ _ _ hz => by rw [ev]; exact hz), fun j1 j2 w1 w2 w3 q w4 w5 w6 w7 w8 => ?_, (hrv.places (by rw [hJ]) (hI 106 (by omega)) (by rw [hJ]) (hI 108 (by omega))).fr2 (fun q' _ => mI 172 _ (by omega)) (fun j _ => by rw [mJ]) (fun j _ => by rw [e175]), fun j w1 w2 => by rw [hI _ (by omega)]; exact hoth j w1 w2⟩
  · obtain ⟨x1, x2, q, t, x3, x4⟩ := hen i hi
    refine ⟨?_, ?_, q, t, x3, ?_⟩
    · unfold vN at x1 ⊢; rw [e175]; exact x1
    · unfold vN at x2 ⊢; rw [e175]; exact x2
    · rw [mJ, ek]; exact x4
  · by_cases e : q' = q
    · rw [e]; exact hc
    · exact (hck q' hq').fr (hI _ (by omega)) (by rw [hI _ (by omega)]) (by rw [hJ]) (by rw [hJ]) (fun x h1 h2 => mI 172 x (by omega)) (sumR_congr V (fun i _ => ⟨by rw [mJ], by rw [e175]⟩)) (Nat.le_refl _)
  · rw [e176] at w5 w6 w7 w8
    rw [ek, ek, mJ]
    exact hlu j1 j2 w1 w2 w3 q w4 w5 w6 w7 w8
section DD
variable {N : Nat} {xs : Nat → Int32} {Lx : Nat} {rec221 : (gS × Int32 × Int32) → Option Int32} {x21 x24 x27 : Int32} {x25 : Int64} {s : gS} {c V U B A : Nat}
theorem D_back (hc : c < 100000000) (hBB : B < 1000) (h0 : ¬ s.1 161 2 ≤ 0) (a0 : AI s V U B A) : ∃ s', fL_law_1559 N xs Lx rec221 s x21 (iN 15) (iN c) x25 x27 = fL_law_2698 N xs Lx rec221 s' 1 x21 (iN c) ∧ DR s' V U B A := by
  obtain ⟨n, T, G, h, sz, dp, ag, g, x, hA⟩ := a0
  have hn := g.1.1.1.1.2.1
  have hT := g.1.1.1.2.1.2
  have k2 : s.1 161 2 = iN T := (lw0 s (by omega)).symm.trans g.1.1.1.2.1.1
  have hT0 : 0 < T := by
    rw [k2, i_0, iN_le (by omega) (by omega)] at h0; omega
  obtain ⟨q, hq, hqe⟩ : ∃ q, q < T ∧ c - c / T * T = q := ⟨_, modT hT0, rfl⟩
  have eq : iN c - iN c / iN T * iN T = iN q := by rw [← hqe]; exact iN_rem (by omega) (by omega)
  have hck := g.2.1.2.2.2.1 q hq
  obtain ⟨c1, ⟨r, b, fk, c2, c3, c4, c5, c6, c7, c8, c9⟩, c10, c11, c12, c13, c14⟩ := hck
  have h65 : s.1 65 5 = iN T := g.1.2.2.2.1.1.1
  have hl : lawOf (sI (sI (sI (sI (sI s (76 + 3 * q) 9 (iN 0)) 109 3 (iN 0)) 0 18 (iN 0)) 172 (12 * q + 5) (iN 0)) 172 (12 * q + 6) (iN 0)) = sI (sI (lawOf s) 172 (12 * q + 5) (iN 0)) 172 (12 * q + 6) (iN 0) := by
    rw [lawOf_in (by omega), lawOf_in (by omega), lawOf_sI (by omega), lawOf_sI (by omega), lawOf_sI (by omega)]
  have hI : ∀ k i, ¬ (k = 0 ∧ i = 18) → ¬ (k = 109 ∧ i = 3) → ¬ (k = 76 + 3 * q ∧ i = 9) → k < 161 → (sI (sI (sI (sI (sI s (76 + 3 * q) 9 (iN 0)) 109 3 (iN 0)) 0 18 (iN 0)) 172 (12 * q + 5) (iN 0)) 172 (12 * q + 6) (iN 0)).1 k i = s.1 k i := fun k i e1 e2 e3 e4 => by
    rw [sI_1, if_neg (by omega), sI_1, if_neg (by omega), sI_1, if_neg (by omega), sI_1, if_neg (by omega), sI_1, if_neg (by omega)]
  have mI : ∀ k i, ¬ (k = 172 ∧ (i = 12 * q + 5 ∨ i = 12 * q + 6)) → (sI (sI (lawOf s) 172 (12 * q + 5) (iN 0)) 172 (12 * q + 6) (iN 0)).1 k i = (lawOf s).1 k i := fun k i e => by rw [sI_1, if_neg (by omega), sI_1, if_neg (by omega)]
  have e12 : (12 : Int32) * iN q = iN (12 * q) := iN_mul 12 q
  have e6 : iN (12 * q) + (6 : Int32) = iN (12 * q + 6) := iN_add _ 6
  have e5 : iN (12 * q) + (5 : Int32) = iN (12 * q + 5) := iN_add _ 5
  refine ⟨sI (sI (sI (sI (sI s (76 + 3 * q) 9 (iN 0)) 109 3 (iN 0)) 0 18 (iN 0)) 172 (12 * q + 5) (iN 0)) 172 (12 * q + 6) (iN 0), ?_, DR.of ⟨n, T, G, h, sz, dp, ag, ?_, ?_, hA⟩⟩
  · have e1 : fX11_letBack N s (iN q) = some ((if fk < 2 then 0 else 1), sI (sI (sI s (76 + 3 * q) 9 (iN 0)) 109 3 (iN 0)) 0 18 (iN 0)) := by
      unfold fX11_letBack fX3_isInQuarantine
      rw [h65, X_place hq (by omega), Option.bind_some, X7_at (by omega), Option.bind_some, c7]
      by_cases c0 : fk < 2
      · rw [if_pos (show iN fk < (2 : Int32) by rw [i_2, iN_lt (by omega) (by omega)]; exact c0), if_pos c0]; rfl
      · rw [if_neg (show ¬ iN fk < (2 : Int32) by rw [i_2, iN_lt (by omega) (by omega)]; exact c0), if_neg c0]; rfl
    have e2 : ∀ i, (sI (sI (sI s (76 + 3 * q) 9 (iN 0)) 109 3 (iN 0)) 0 18 (iN 0)).1 172 i = s.1 172 i := fun i => by
      rw [sI_1, if_neg (by omega), sI_1, if_neg (by omega), sI_1, if_neg (by omega)]
    have e3 : s.1 172 (12 * q + 6) = iN (if fk < 2 then 0 else 1) := (lw0 s (by omega)).symm.trans c8
    unfold fL_law_1559
    rw [if_pos (show iN 15 = (15 : Int32) from rfl), if_neg h0, k2, if_neg (show ¬ iN T = (0 : Int32) by rw [i_0, iN_eq (by omega) (by omega)]; omega), eq, e1, Option.bind_some]
    dsimp only
    rw [e12, e6, if_neg (gi (show 12 * q + 6 < 48 by omega) (by decide)), iN_cl (show 12 * q + 6 < 2147483648 by omega), e2, e3]
    have fin : ∀ σ1, fL_law_1614 N xs Lx rec221 σ1 x21 (iN c) (iN q) 1 = fL_law_2698 N xs Lx rec221 (sI (sI σ1 172 (12 * q + 5) (iN 0)) 172 (12 * q + 6) (iN 0)) 1 x21 (iN c) := fun σ1 => by
      unfold fL_law_1614
      rw [e12, e5, e6, if_neg (gi (show 12 * q + 5 < 48 by omega) (by decide)), if_neg (gi (show 12 * q + 6 < 48 by omega) (by decide)), iN_cl (show 12 * q + 5 < 2147483648 by omega), iN_cl (show 12 * q + 6 < 2147483648 by omega)]
      rfl
    unfold fL_law_1606
    by_cases c0 : fk < 2
    · rw [if_pos c0, if_pos c0, if_neg (show ¬ iN 0 = (1 : Int32) by decide), if_pos rfl, fin]
    · rw [if_neg c0, if_neg c0, if_pos (show iN 1 = (1 : Int32) from rfl), if_pos rfl, fin]
  · rw [hl]
    have h9' : (sI (sI (sI (sI (sI s (76 + 3 * q) 9 (iN 0)) 109 3 (iN 0)) 0 18 (iN 0)) 172 (12 * q + 5) (iN 0)) 172 (12 * q + 6) (iN 0)).1 (76 + 3 * q) 9 = iN 0 := by
      rw [sI_1, if_neg (by omega), sI_1, if_neg (by omega), sI_1, if_neg (by omega), sI_1, if_neg (by omega), sI_1, if_pos ⟨rfl, rfl⟩]
    have hm5 : (sI (sI (lawOf s) 172 (12 * q + 5) (iN 0)) 172 (12 * q + 6) (iN 0)).1 172 (12 * q + 5) = iN 0 := by rw [sI_1, if_neg (by omega), sI_1, if_pos ⟨rfl, rfl⟩]
    have hm6 : (sI (sI (lawOf s) 172 (12 * q + 5) (iN 0)) 172 (12 * q + 6) (iN 0)).1 172 (12 * q + 6) = iN 0 := by rw [sI_1, if_pos ⟨rfl, rfl⟩]
    have eA : ∀ i, i ≠ 9 → (sI (sI (sI (sI (sI s (76 + 3 * q) 9 (iN 0)) 109 3 (iN 0)) 0 18 (iN 0)) 172 (12 * q + 5) (iN 0)) 172 (12 * q + 6) (iN 0)).1 (76 + 3 * q) i = s.1 (76 + 3 * q) i := fun i hi => hI _ i (by omega) (by omega) (by omega) (by omega)
    have hCK : CK (sI (sI (sI (sI (sI s (76 + 3 * q) 9 (iN 0)) 109 3 (iN 0)) 0 18 (iN 0)) 172 (12 * q + 5) (iN 0)) 172 (12 * q + 6) (iN 0)) (sI (sI (lawOf s) 172 (12 * q + 5) (iN 0)) 172 (12 * q + 6) (iN 0)) V B ag q := by
      refine ⟨?_, ⟨r, b, 0, c2.fr (hI _ 1 (by omega) (by omega) (by omega) (by omega)) rfl (fun x _ _ h3 h4 => mI 172 x (by omega)), by rw [mI 172 _ (by omega)]; exact c3, by rw [eA 6 (by omega)]; exact c4, hm5, Nat.zero_le _, h9', hm6, ?_⟩, by rw [eA 2 (by omega), mI 172 _ (by omega)]; exact c10, by rw [eA 4 (by omega), mI 172 _ (by omega)]; exact c11, by rw [eA 5 (by omega), mI 172 _ (by omega)]; exact c12, ?_, by rw [mI 172 _ (by omega)]; exact c14⟩
      · unfold RCk at c1 ⊢
        rw [eA 0 (by omega), eA 7 (by omega), mI 172 _ (by omega)]; exact c1
      · have hr5 := c2.2.1
        intro i hi
        have := c9 i hi
        unfold vN at this ⊢
        rw [mI 172 (12 * q + 7 + i) (by omega), mI 172 (12 * q) (by omega)]; exact this
      · rw [eA 8 (by omega)]
        rw [c13]
        exact congrArg iN (sumR_congr (M := lawOf s) (M' := sI (sI (lawOf s) 172 (12 * q + 5) (iN 0)) 172 (12 * q + 6) (iN 0)) V (fun i _ => ⟨rfl, mI 175 i (by omega)⟩)).symm
    refine g.stir ?_ ?_ (fun k i hk => hI k i (by omega) (by omega) (by omega) (by omega)) (fun _ _ => rfl) (fun k i hk => mI k i (by omega)) (fun _ _ => rfl) (g.2.1.chk hq (fun k hk => funext (fun i => hI k i (by omega) (by omega) (by omega) (by omega))) rfl (fun k x hk => mI k x (by omega)) rfl hCK) (g.2.2.2.1.same (fun _ _ => rfl) (fun i _ => mI 178 i (by omega)) (fun j' _ => mI 176 _ (by omega))) (g.2.2.2.2.1.same (fun i hi => hI 0 i (by omega) (by omega) (by omega) (by omega)) (fun i hi => mI 161 i (by omega)))
    · simp [sI_1]
    · simp [sI_1]
  · rw [hl]
    exact x.move hn (fun k i hk => hI k i (by omega) (by omega) (by omega) (by omega)) rfl (fun k i hk => mI k i (by omega))
end DD
