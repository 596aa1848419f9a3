/-! deeds: a test -/
def tsC (s : gS) (T fs tm fl : Nat) : gS := sI (sI (sI (sJ (sI (sI (sI s 109 3 (iN 0)) 0 18 (iN 0)) (76 + 3 * T) 2 (iN fs)) (76 + 3 * T) 3 (gMask (iN fs))) (76 + 3 * T) 4 (iN tm)) (76 + 3 * T) 5 (iN fl)) 65 5 (iN (T + 1))
def tsM (M : gS) (T fs tm fl : Nat) : gS := sI (sI (sI (sI M 172 (12 * T) (iN fs)) 172 (12 * T + 1) (iN tm)) 172 (12 * T + 2) (iN fl)) 161 2 (iN (T + 1))
theorem tsC_I {s : gS} {T fs tm fl : Nat} (k i : Nat) (h1 : ¬ (k = 65 ∧ i = 5)) (h2 : ¬ (k = 0 ∧ i = 18)) (h3 : ¬ (k = 109 ∧ i = 3)) (h4 : ¬ (k = 76 + 3 * T ∧ (i = 2 ∨ i = 4 ∨ i = 5))) : (tsC s T fs tm fl).1 k i = s.1 k i := by
  unfold tsC
  rw [sI_1, if_neg (by omega), sI_1, if_neg (by omega), sI_1, if_neg (by omega), sJ_1, sI_1, if_neg (by omega), sI_1, if_neg (by omega), sI_1, if_neg (by omega)]
theorem tsC_J {s : gS} {T fs tm fl : Nat} (k : Nat) (h1 : k ≠ 76 + 3 * T) : (tsC s T fs tm fl).2.1 k = s.2.1 k := by
  unfold tsC
  rw [sI_2, sI_2, sI_2]
  exact gU_ne _ _ _ h1
theorem tsC_3 {s : gS} {T fs tm fl : Nat} : (tsC s T fs tm fl).2.1 (76 + 3 * T) 3 = gMask (iN fs) := by
  unfold tsC
  rw [sI_2, sI_2, sI_2, sJ_2, if_pos ⟨rfl, rfl⟩]
theorem tsC_v {s : gS} {T fs tm fl : Nat} (hT : T < 10) : (tsC s T fs tm fl).1 (76 + 3 * T) 2 = iN fs ∧ (tsC s T fs tm fl).1 (76 + 3 * T) 4 = iN tm ∧ (tsC s T fs tm fl).1 (76 + 3 * T) 5 = iN fl ∧ (tsC s T fs tm fl).1 65 5 = iN (T + 1) := by
  unfold tsC
  refine ⟨?_, ?_, ?_, ?_⟩
  · rw [sI_1, if_neg (by omega), sI_1, if_neg (by omega), sI_1, if_neg (by omega), sJ_1, sI_1, if_pos ⟨rfl, rfl⟩]
  · rw [sI_1, if_neg (by omega), sI_1, if_neg (by omega), sI_1, if_pos ⟨rfl, rfl⟩]
  · rw [sI_1, if_neg (by omega), sI_1, if_pos ⟨rfl, rfl⟩]
  · rw [sI_1, if_pos ⟨rfl, rfl⟩]
theorem tsM_I {M : gS} {T fs tm fl : Nat} (k i : Nat) (h1 : ¬ (k = 172 ∧ 12 * T ≤ i ∧ i < 12 * T + 3)) (h2 : ¬ (k = 161 ∧ i = 2)) : (tsM M T fs tm fl).1 k i = M.1 k i := by
  unfold tsM
  rw [sI_1, if_neg (by omega), sI_1, if_neg (by omega), sI_1, if_neg (by omega), sI_1, if_neg (by omega)]
theorem tsM_v {M : gS} {T fs tm fl : Nat} : (tsM M T fs tm fl).1 172 (12 * T) = iN fs ∧ (tsM M T fs tm fl).1 172 (12 * T + 1) = iN tm ∧ (tsM M T fs tm fl).1 172 (12 * T + 2) = iN fl ∧ (tsM M T fs tm fl).1 161 2 = iN (T + 1) := by
  unfold tsM
  refine ⟨?_, ?_, ?_, ?_⟩
  · rw [sI_1, if_neg (by omega), sI_1, if_neg (by omega), sI_1, if_neg (by omega), sI_1, if_pos ⟨rfl, rfl⟩]
  · rw [sI_1, if_neg (by omega), sI_1, if_neg (by omega), sI_1, if_pos ⟨rfl, rfl⟩]
  · rw [sI_1, if_neg (by omega), sI_1, if_pos ⟨rfl, rfl⟩]
  · rw [sI_1, if_pos ⟨rfl, rfl⟩]
theorem tsM_law {s : gS} {T fs tm fl : Nat} (hT : T < 4) : lawOf (tsM (tsC s T fs tm fl) T fs tm fl) = tsM (lawOf s) T fs tm fl := by
  unfold tsM tsC
  rw [lawOf_in (by omega), lawOf_in (by omega), lawOf_in (by omega), lawOf_in (by omega), lawOf_sI (by omega), lawOf_sI (by omega), lawOf_sI (by omega), lawOf_sJ (by omega), lawOf_sI (by omega), lawOf_sI (by omega), lawOf_sI (by omega)]
section DD
variable {N : Nat} {xs : Nat → Int32} {Lx : Nat} {rec221 : (gS × Int32 × Int32) → Option Int32} {x21 x24 x27 : Int32} {x25 : Int64} {s : gS} {c V U B A : Nat}
theorem D_test1 {fs tm fl n T G h sz dp : Nat} {ag : Nat → Nat} (hN : 100 ≤ N) (hT4 : T < 4) (hfs : 1 ≤ fs ∧ fs ≤ 4095) (htm : 1 ≤ tm ∧ tm ≤ 3) (hfl : fl ≤ 9) (g : GI s (lawOf s) n T G V U h sz dp B ag) (x : XI s (lawOf s) n T G) (hA : ∀ q, ag q ≤ A) : ∃ s', fL_law_999 N xs Lx rec221 s x21 x24 (iN fs) (iN tm) (iN fl) = fL_law_2698 N xs Lx rec221 s' 1 x21 x24 ∧ DR s' V U B A := by
  have hn := g.1.1.1.1.2.1
  obtain ⟨hF, hh, h5, h6⟩ := id g.1.1
  obtain ⟨⟨a1, a2, a3⟩, ⟨b1, b2⟩, ⟨c1, c2, c3⟩, d, ⟨g1, g2, g3⟩, e178⟩ := id hF
  obtain ⟨p1, p2, p3, p4⟩ := id g.1.2.2.2.1
  obtain ⟨⟨z1, z2, z3, z4⟩, y2, y3, y4, y5, y6⟩ := id x
  obtain ⟨⟨f0, f6, f7⟩, f8, f9, fr⟩ := y5 T (Nat.le_refl T) (by omega)
  obtain ⟨w3, w4, w5, w6⟩ := y6 T (Nat.le_refl T) hT4
  have k2 : s.1 161 2 = iN T := (lw0 s (by omega)).symm.trans b1
  have v := tsC_v (s := s) (fs := fs) (tm := tm) (fl := fl) (show T < 10 by omega)
  have m := tsM_v (M := lawOf s) (T := T) (fs := fs) (tm := tm) (fl := fl)
  have hI : ∀ k i, k < 161 → (tsM (tsC s T fs tm fl) T fs tm fl).1 k i = (tsC s T fs tm fl).1 k i := fun k i hk => tsM_I k i (by omega) (by omega)
  have hI2 : ∀ k i, ¬ (k = 65 ∧ i = 5) → ¬ (k = 0 ∧ i = 18) → ¬ (k = 109 ∧ i = 3) → ¬ (k = 76 + 3 * T ∧ (i = 2 ∨ i = 4 ∨ i = 5)) → k < 161 → (tsM (tsC s T fs tm fl) T fs tm fl).1 k i = s.1 k i := fun k i e1 e2 e3 e4 e5 => (hI k i e5).trans (tsC_I k i e1 e2 e3 e4)
  have hJ : ∀ k, k ≠ 76 + 3 * T → (tsM (tsC s T fs tm fl) T fs tm fl).2.1 k = s.2.1 k := fun k hk => tsC_J (s := s) (T := T) (fs := fs) (tm := tm) (fl := fl) k hk
  have hJ3 : (tsM (tsC s T fs tm fl) T fs tm fl).2.1 (76 + 3 * T) 3 = gMask (iN fs) := tsC_3 (s := s) (T := T) (fs := fs) (tm := tm) (fl := fl)
  have mI : ∀ k i, ¬ (k = 172 ∧ 12 * T ≤ i ∧ i < 12 * T + 3) → ¬ (k = 161 ∧ i = 2) → (tsM (lawOf s) T fs tm fl).1 k i = (lawOf s).1 k i := fun k i e1 e2 => tsM_I k i e1 e2
  refine ⟨tsM (tsC s T fs tm fl) T fs tm fl, ?_, DR.of ⟨n, T + 1, G, h, sz, dp, agT ag T, ?_, ?_, fun q => ?_⟩⟩
  · have e1 : fX11_test N s (iN fs) (iN tm) (iN fl) = some (iN T, tsC s T fs tm fl) := by
      unfold fX11_test fX11_test_39 fX7_addCheck
      have h65 : (sI (sI s 109 3 (iN 0)) 0 18 (iN 0)).1 65 5 = iN T := by rw [sI_1, if_neg (by omega), sI_1, if_neg (by omega)]; exact p1.1
      rw [show fX11_needRange N s (iN fs) (1 : Int32) (4095 : Int32) = some () from X_range (lo := 1) (hi := 4095) (by omega) (by omega) (by omega), Option.bind_some, show fX11_needRange N s (iN tm) (1 : Int32) (6 : Int32) = some () from X_range (lo := 1) (hi := 6) (by omega) (by omega) (by omega), Option.bind_some, show fX11_needRange N s (iN fl) (0 : Int32) (9 : Int32) = some () from X_range (lo := 0) (hi := 9) (by omega) (by omega) (by omega), Option.bind_some, p1.1, if_neg (show ¬ (10 : Int32) ≤ iN T by rw [i_10, iN_le (by omega) (by omega)]; omega), show fX11_needState N s 1 = some () from rfl, Option.bind_some, X_stir, Option.bind_some, h65, X7_at (by omega), Option.bind_some, X_maskOf hN, Option.bind_some, Option.bind_some]
      have e65 : (sI (sI (sJ (sI (sI (sI s 109 3 (iN 0)) 0 18 (iN 0)) (76 + 3 * T) 2 (iN fs)) (76 + 3 * T) 3 (gMask (iN fs))) (76 + 3 * T) 4 (iN tm)) (76 + 3 * T) 5 (iN fl)).1 65 5 = iN T := by
        rw [sI_1, if_neg (by omega), sI_1, if_neg (by omega), sJ_1, sI_1, if_neg (by omega)]; exact h65
      dsimp only
      rw [e65, i_1, iN_add]
      rfl
    have e2 : (tsC s T fs tm fl).1 161 2 = iN T := (tsC_I 161 2 (by omega) (by omega) (by omega) (by omega)).trans k2
    have e12 : (12 : Int32) * iN T = iN (12 * T) := iN_mul 12 T
    have fin : ∀ Z : gS, Z.1 161 2 = iN T → fL_law_1022 N xs Lx rec221 Z x21 x24 (iN fs) (iN tm) (iN fl) 1 = fL_law_2698 N xs Lx rec221 (tsM Z T fs tm fl) 1 x21 x24 := fun Z hZ => by
      have q1 : (sI Z 172 (12 * T) (iN fs)).1 161 2 = iN T := by rw [sI_1, if_neg (by omega)]; exact hZ
      have q2 : (sI (sI Z 172 (12 * T) (iN fs)) 172 (12 * T + 1) (iN tm)).1 161 2 = iN T := by rw [sI_1, if_neg (by omega)]; exact q1
      have q3 : (sI (sI (sI Z 172 (12 * T) (iN fs)) 172 (12 * T + 1) (iN tm)) 172 (12 * T + 2) (iN fl)).1 161 2 = iN T := by rw [sI_1, if_neg (by omega)]; exact q2
      unfold fL_law_1022
      rw [hZ, e12, if_neg (gi (show 12 * T < 48 by omega) (by decide)), iN_cl (show 12 * T < 2147483648 by omega), q1, e12, show iN (12 * T) + (1 : Int32) = iN (12 * T + 1) from iN_add _ 1, if_neg (gi (show 12 * T + 1 < 48 by omega) (by decide)), iN_cl (show 12 * T + 1 < 2147483648 by omega), q2, e12, show iN (12 * T) + (2 : Int32) = iN (12 * T + 2) from iN_add _ 2, if_neg (gi (show 12 * T + 2 < 48 by omega) (by decide)), iN_cl (show 12 * T + 2 < 2147483648 by omega), q3, show iN T + (1 : Int32) = iN (T + 1) from iN_add _ 1]
      rfl
    unfold fL_law_999
    rw [e1, Option.bind_some]
    dsimp only
    rw [e2, if_pos rfl]
    exact fin _ e2
  · rw [tsM_law hT4]
    have hCK : CK (tsM (tsC s T fs tm fl) T fs tm fl) (tsM (lawOf s) T fs tm fl) V B (agT ag T) T := by
      refine ⟨⟨?_, ?_, ?_, ?_⟩, ⟨0, false, 0, ⟨?_, by omega, ?_, fun i hi => absurd hi (Nat.not_lt_zero i)⟩, ?_, ?_, ?_, Nat.zero_le _, ?_, ?_, fun i hi => absurd hi (Nat.not_lt_zero i)⟩, ?_, ?_, ?_, ?_, ⟨tm, m.2.1, htm.1, htm.2⟩⟩
      · rw [hI2 _ 0 (by omega) (by omega) (by omega) (by omega) (by omega)]; exact f0
      · rw [hI2 _ 7 (by omega) (by omega) (by omega) (by omega) (by omega), show agT ag T T = 0 from if_pos rfl]; exact f7
      · rw [show agT ag T T = 0 from if_pos rfl]; omega
      · rw [hJ3, m.1]
      · rw [mI 172 _ (by omega) (by omega)]; exact w4
      · rw [hI2 _ 1 (by omega) (by omega) (by omega) (by omega) (by omega)]; exact fr
      · rw [mI 172 _ (by omega) (by omega)]; exact w3
      · rw [hI2 _ 6 (by omega) (by omega) (by omega) (by omega) (by omega)]; exact f6
      · rw [mI 172 _ (by omega) (by omega)]; exact w5
      · rw [hI2 _ 9 (by omega) (by omega) (by omega) (by omega) (by omega)]; exact f9
      · rw [mI 172 _ (by omega) (by omega)]; exact w6
      · rw [hI _ _ (by omega), v.1, m.1]
      · rw [hI _ _ (by omega), v.2.1, m.2.1]
      · rw [hI _ _ (by omega), v.2.2.1, m.2.2.1]
      · rw [sumR_no (M := lawOf s) (M' := tsM (lawOf s) T fs tm fl) g.2.1.2.2.1 (by omega) rfl, hI2 _ 8 (by omega) (by omega) (by omega) (by omega) (by omega)]; exact f8
    have t := g.2.1.grow (σ' := tsM (tsC s T fs tm fl) T fs tm fl) (M' := tsM (lawOf s) T fs tm fl) hT4 (fun k hk => funext (fun i => hI2 k i (by omega) (by omega) (by omega) (by omega) (by omega))) (fun k hk => hJ k (by omega)) rfl (fun k x hk => mI k x (by omega) (by omega)) rfl hCK
    have hLF : LF (tsM (lawOf s) T fs tm fl) n (T + 1) G V := by
      refine ⟨⟨(mI 161 0 (by omega) (by omega)).trans a1, a2, a3.fr (fun c _ => mI 163 c (by omega) (by omega))⟩, ⟨m.2.2.2, by omega⟩, ⟨(mI 161 3 (by omega) (by omega)).trans c1, c2, fun k hk => ?_⟩, fun c hc => ?_, ⟨(mI 161 4 (by omega) (by omega)).trans g1, g2, fun j hj => ?_⟩, fun a ha => ?_⟩
      · have := c3 k hk
        unfold vN at this ⊢; rw [mI 173 k (by omega) (by omega)]; exact this
      · have := d c hc
        unfold vN at this ⊢; rw [mI 162 c (by omega) (by omega)]; exact this
      · have := g3 j hj
        unfold vN at this ⊢; rw [mI 175 j (by omega) (by omega)]; exact this
      · have := e178 a ha
        unfold vN at this ⊢; rw [mI 178 (6 + a) (by omega) (by omega)]; exact this
    have hRp : RCp (tsM (tsC s T fs tm fl) T fs tm fl) (tsM (lawOf s) T fs tm fl) (T + 1) G := by
      refine ⟨⟨(hI 65 5 (by omega)).trans v.2.2.2, by omega⟩, ⟨(hI2 70 1 (by omega) (by omega) (by omega) (by omega) (by omega)).trans p2.1, p2.2⟩, fun j hj => ?_, fun k hk => ?_⟩
      · by_cases e : j = T
        · rw [e, hI _ _ (by omega), v.1, m.1]
        · rw [hI2 _ 2 (by omega) (by omega) (by omega) (by omega) (by omega), mI 172 _ (by omega) (by omega)]; exact p3 j (by omega)
      · have := p4 k hk
        unfold vN at this ⊢
        rw [hJ 71 (by omega), hJ 73 (by omega), hJ 75 (by omega), mI 173 k (by omega) (by omega)]; exact this
    refine ⟨g.1.gen (fun k i hk => hI2 k i (by omega) (by omega) (by omega) (by omega) (by omega)) (fun k hk => hJ k (by omega)) (fun k x hk => mI k x (by omega) (by omega)) (fun _ _ => rfl) hLF hRp ⟨(mI 161 5 (by omega) (by omega)).trans h5.1, h5.2⟩ ⟨(mI 161 6 (by omega) (by omega)).trans h6.1, h6.2⟩ ⟨(hI2 109 0 (by omega) (by omega) (by omega) (by omega) (by omega)).trans g.1.2.2.2.2.2.2.1.1, (hI2 109 1 (by omega) (by omega) (by omega) (by omega) (by omega)).trans g.1.2.2.2.2.2.2.1.2⟩ t.2.2.2.2.2.2.1 (fun q hq => (t.2.2.2.1 q hq).1) (Or.inl ?_), t, g.2.2.1.same' (fun _ _ => rfl) (funext (fun x => mI 168 x (by omega) (by omega))), g.2.2.2.1.same (fun k hk => hJ k (by omega)) (fun i _ => mI 178 i (by omega) (by omega)) (fun j' _ => mI 176 _ (by omega) (by omega)), g.2.2.2.2.1.same (fun i hi => hI2 0 i (by omega) (by omega) (by omega) (by omega) (by omega)) (fun i hi => mI 161 i (by omega) (by omega)), Or.inl ?_, fun q hq => ?_⟩
    · rw [hI _ _ (by omega)]; unfold tsC; rw [sI_1, if_neg (by omega), sI_1, if_neg (by omega), sI_1, if_neg (by omega), sJ_1, sI_1, if_neg (by omega), sI_1, if_neg (by omega), sI_1, if_pos ⟨rfl, rfl⟩]
    · rw [hI _ _ (by omega)]; unfold tsC; rw [sI_1, if_neg (by omega), sI_1, if_neg (by omega), sI_1, if_neg (by omega), sJ_1, sI_1, if_neg (by omega), sI_1, if_pos ⟨rfl, rfl⟩]
    · unfold agT
      split
      · omega
      · exact g.2.2.2.2.2.2 q (by omega)
  · rw [tsM_law hT4]
    refine ⟨⟨(hI2 1 3 (by omega) (by omega) (by omega) (by omega) (by omega)).trans z1, ?_, (hI2 72 1 (by omega) (by omega) (by omega) (by omega) (by omega)).trans z3, (hI2 74 1 (by omega) (by omega) (by omega) (by omega) (by omega)).trans z4⟩, ⟨fun f hf => by rw [hJ 154 (by omega)]; exact y2.1 f hf, fun c hc e => by rw [hI2 _ 12 (by omega) (by omega) (by omega) (by omega) (by omega)]; exact y2.2 c hc (by rw [← mI 164 c (by omega) (by omega)]; exact e)⟩, fun c h1 h2 => ?_, fun c h1 h2 => ?_, fun q h1 h2 => ?_, fun q h1 h2 => ?_⟩
    · rw [hI2 109 2 (by omega) (by omega) (by omega) (by omega) (by omega), mI 161 7 (by omega) (by omega)]; exact z2
    · have := y3 c h1 h2
      rw [hI2 _ 0 (by omega) (by omega) (by omega) (by omega) (by omega), hI2 _ 3 (by omega) (by omega) (by omega) (by omega) (by omega), hI2 _ 4 (by omega) (by omega) (by omega) (by omega) (by omega), hI2 _ 10 (by omega) (by omega) (by omega) (by omega) (by omega), hI2 _ 11 (by omega) (by omega) (by omega) (by omega) (by omega), hI2 _ 12 (by omega) (by omega) (by omega) (by omega) (by omega), hI2 _ 2 (by omega) (by omega) (by omega) (by omega) (by omega)]; exact this
    · rw [mI 164 c (by omega) (by omega), mI 165 c (by omega) (by omega), mI 166 c (by omega) (by omega)]; exact y4 c h1 h2
    · have := y5 q (by omega) h2
      rw [hI2 _ 0 (by omega) (by omega) (by omega) (by omega) (by omega), hI2 _ 6 (by omega) (by omega) (by omega) (by omega) (by omega), hI2 _ 7 (by omega) (by omega) (by omega) (by omega) (by omega), hI2 _ 8 (by omega) (by omega) (by omega) (by omega) (by omega), hI2 _ 9 (by omega) (by omega) (by omega) (by omega) (by omega), hI2 _ 1 (by omega) (by omega) (by omega) (by omega) (by omega)]; exact this
    · rw [mI 172 _ (by omega) (by omega), mI 172 _ (by omega) (by omega), mI 172 _ (by omega) (by omega), mI 172 _ (by omega) (by omega)]; exact y6 q (by omega) h2
  · unfold agT
    split
    · exact Nat.zero_le _
    · exact hA q
end DD
