/-! deeds: broken from outside -/
theorem GI.reop {σ σ' M M' : gS} {n T G V U h sz dp B q : Nat} {ag : Nat → Nat} (g : GI σ M n T G V U h sz dp B ag) (hq : q < T) (hA : ag q + 1 < 1000) (h93 : σ'.1 109 3 = iN 0) (h18 : σ'.1 0 18 = iN 0)
    (hI : ∀ k i, k < 161 → ¬ (76 + 3 * q ≤ k ∧ k ≤ 76 + 3 * q + 2 ∧ i ≠ 2) → ¬ (k = 109 ∧ i = 3) → ¬ (k = 0 ∧ i = 18) → σ'.1 k i = σ.1 k i)
    (hJ : ∀ k, k < 161 → k ≠ 76 + 3 * q + 2 → σ'.2.1 k = σ.2.1 k) (hl : σ'.2.2 = σ.2.2)
    (mI : ∀ k x, ¬ (k = 172 ∧ 12 * q < x ∧ x < 12 * q + 12) → M'.1 k x = (roM M q V).1 k x) (mJ : M'.2.1 = (roM M q V).2.1)
    (hc : CK σ' M' (cnK M q V) B (agR ag q) q) : GI σ' M' n T G (cnK M q V) U h sz dp B (agR ag q) := by
  have hT := g.2.1.1
  have t := g.2.1.reop hq (fun k hk => funext (fun i => hI k i (by omega) (by omega) (by omega) (by omega))) (fun k hk => hJ k (by omega) (by omega)) hl (fun k x hk => mI k x (by omega)) mJ hc
  have m : ∀ k x, ¬ (k = 172 ∧ 12 * q < x ∧ x < 12 * q + 12) → k ≠ 175 → ¬ (k = 176 ∧ x - x / 6 * 6 = 2) → ¬ (k = 161 ∧ x = 4) → M'.1 k x = M.1 k x := fun k x e1 e2 e3 e4 => (mI k x e1).trans (roM_I _ _ _ _ _ e2 e3 e4)
  have mj : ∀ k, k ≠ 174 → M'.2.1 k = M.2.1 k := fun k hk => by rw [mJ, roM_Jk _ _ _ _ hk]
  have hV64 := g.1.1.1.2.2.2.2.1.2.1
  have hcn := cnK_le M q V
  refine ⟨g.1.move (fun k i hk => hI k i (by omega) (by omega) (by omega) (by omega)) (fun k hk => hJ k (by omega) (by omega)) (fun k x hk => m k x (by omega) (by omega) (by omega) (by omega)) (fun k hk => mj k (by omega)) ⟨t.2.1, by omega, t.2.2.1.lt⟩ t.2.2.2.2.2.2.1 (fun q hq => (t.2.2.2.1 q hq).1) (Or.inl h93), t, g.2.2.1.same' (fun k hk => mj k (by omega)) (funext (fun x => m 168 x (by omega) (by omega) (by omega) (by omega))), ?_, g.2.2.2.2.1.same (fun i hi => hI 0 i (by omega) (by omega) (by omega) (by omega)) (fun x hx => m 161 x (by omega) (by omega) (by omega) (by omega)), Or.inl h18, fun x hx => ?_⟩
  · obtain ⟨⟨u1, u2⟩, u3, u4⟩ := g.2.2.2.1
    have m178 : ∀ x, M'.1 178 x = M.1 178 x := fun x => m 178 x (by omega) (by omega) (by omega) (by omega)
    refine ⟨⟨fun a ha => ?_, fun a ha => ?_⟩, fun a ha => ?_, fun j hj => ?_⟩
    · have := u1 a ha
      unfold vN at this ⊢
      rw [m178]; exact this
    · have := u2 a ha
      unfold vN at this ⊢
      rw [m178]; exact this
    · have := u3 a ha
      unfold vN at this ⊢
      rw [hJ 158 (by omega) (by omega), hJ 156 (by omega) (by omega), m178, m178]; exact this
    · rw [mI 176 _ (by omega), roM_2 M q V j hj]
      split
      · exact Or.inr rfl
      · exact u4 j hj
  · unfold agR
    split
    · exact hA
    · exact g.2.2.2.2.2.2 x hx
theorem SmL.ro (s : gS) (q V : Nat) : SmL s (roM s q V) := ((SmL.rp s q V).trans (SmL.sI (by omega))).trans (SmL.st _ q 3)
theorem sumR_0 {M : gS} {q : Nat} : ∀ {V : Nat}, (∀ i, i < V → kOf M i ≠ jN q) → sumR M q V = 0
  | 0, _ => rfl
  | V + 1, h => by
    rw [sumR_s, sumR_0 (fun i hi => h i (by omega)), if_neg (h V (by omega))]
section DD
variable {N : Nat} {xs : Nat → Int32} {Lx : Nat} {rec221 : (gS × Int32 × Int32) → Option Int32} {x21 x24 x27 : Int32} {x25 : Int64} {s : gS} {c V U B A : Nat}
theorem D_outside1 {q n T G h sz dp : Nat} {b : Bool} {ag : Nat → Nat} (hN : 100 ≤ N) (hq : q < T) (hA9 : A < 900) (g : GI s (lawOf s) n T G V U h sz dp B ag) (x : XI s (lawOf s) n T G) (hA : ∀ q, ag q ≤ A) : ∃ s', fL_law_1337 N xs Lx rec221 s x21 x24 (iN q) (iB b) = fL_law_2698 N xs Lx rec221 s' 1 x21 x24 ∧ DR s' V U B A := by
  have hn := g.1.1.1.1.2.1
  have hT := g.2.1.1
  have hV64 := g.1.1.1.2.2.2.2.1.2.1
  obtain ⟨c1, ⟨r, b0, fk, c2, c3, c4, c5, c6, c7, c8, c9⟩, c10, c11, c12, c13, c14⟩ := id (g.2.1.2.2.2.1 q hq)
  have hag := hA q
  have h65 : s.1 65 5 = iN T := g.1.2.2.2.1.1.1
  have e12 : (12 : Int32) * iN q = iN (12 * q) := iN_mul 12 q
  have e3 : iN (12 * q) + (3 : Int32) = iN (12 * q + 3) := iN_add _ 3
  have k3 : s.1 172 (12 * q + 3) = iB b0 := (lw0 s (by omega)).symm.trans c3
  have bb : ∀ x : Bool, (iB x = (1 : Int32)) = (x = true) := fun x => by cases x <;> simp <;> decide
  have bn : ∀ x : Bool, ¬ ¬ (iB x = (0 : Int32) ∨ iB x = (1 : Int32)) := fun x => by cases x <;> decide
  -- what is left after the class's call
  have law1 : ∀ Z : gS, Z.1 172 (12 * q + 3) = iB b0 → fL_law_1374 N xs Lx rec221 Z x21 x24 (iN q) (iB b) 1 = if b = b0 then fL_law_1412 N xs Lx rec221 Z 1 x21 x24 (iN q) (iB b) else ((fL_reopens N Z (iN q)).bind fun r_2 => fL_law_1412 N xs Lx rec221 r_2 1 x21 x24 (iN q) (iB b)) := fun Z hZ => by
    unfold fL_law_1374 fL_law_1397
    rw [e12, e3, if_neg (gi (show 12 * q + 3 < 48 by omega) (by decide)), iN_cl (show 12 * q + 3 < 2147483648 by omega), hZ]
    cases b0 <;> cases b <;> rfl
  have law2 : ∀ Z : gS, fL_law_1412 N xs Lx rec221 Z 1 x21 x24 (iN q) (iB b) = fL_law_2698 N xs Lx rec221 (sI Z 172 (12 * q + 3) (iB b)) 1 x21 x24 := fun Z => by
    unfold fL_law_1412 fL_law_1431
    rw [e12, e3, if_neg (gi (show 12 * q + 3 < 48 by omega) (by decide)), iN_cl (show 12 * q + 3 < 2147483648 by omega)]
    cases b
    · rfl
    · rw [if_neg (show ¬ iB true = (0 : Int32) by decide), if_neg (gj (show 12 * q + 3 < 48 by omega) (by decide))]
      rfl
  have hcls : ∀ (Z : gS), fX11_outside N s (iN q) (iB b) = some (iB b0, Z) → Z.1 172 (12 * q + 3) = iB b0 → fL_law_1337 N xs Lx rec221 s x21 x24 (iN q) (iB b) = fL_law_1374 N xs Lx rec221 Z x21 x24 (iN q) (iB b) 1 := fun Z h1 h2 => by
    unfold fL_law_1337 fL_law_1366
    rw [h1, Option.bind_some]
    dsimp only
    rw [e12, e3, if_neg (gi (show 12 * q + 3 < 48 by omega) (by decide)), iN_cl (show 12 * q + 3 < 2147483648 by omega), h2]
    cases b0 <;> rfl
  by_cases cb : b = b0
  · -- nothing changes
    refine ⟨s, ?_, DR.of ⟨n, T, G, h, sz, dp, ag, g, x, hA⟩⟩
    have e1 : fX11_outside N s (iN q) (iB b) = some (iB b0, s) := by
      unfold fX11_outside fX11_outside_45
      rw [h65, X_place hq (by omega), Option.bind_some, X7_at (by omega), Option.bind_some, c4, if_pos (by rw [cb]), if_neg (bn b0)]
    rw [hcls s e1 k3, law1 s k3, if_pos cb, law2, sI_same (by rw [k3, cb])]
  · have e1 : fX11_outside N s (iN q) (iB b) = some (iB b0, sI (sI (sI (sI (sI s (76 + 3 * q) 6 (iB b)) (76 + 3 * q) 7 (iN (ag q + 1))) (76 + 3 * q) 8 (iN 0)) 109 3 (iN 0)) 0 18 (iN 0)) := by
      unfold fX11_outside fX11_outside_45 fX3_reopen
      rw [h65, X_place hq (by omega), Option.bind_some, X7_at (by omega), Option.bind_some, c4, if_neg (by
        intro e
        apply cb
        cases b <;> cases b0 <;> first | rfl | exact absurd e (by decide)), if_neg (bn b), Option.bind_some, X_stir, Option.bind_some, if_neg (bn b0), sI_1, if_neg (by omega), c1.2.1, i_1, iN_add]
      rfl
    have hZ3 : (sI (sI (sI (sI (sI s (76 + 3 * q) 6 (iB b)) (76 + 3 * q) 7 (iN (ag q + 1))) (76 + 3 * q) 8 (iN 0)) 109 3 (iN 0)) 0 18 (iN 0)).1 172 (12 * q + 3) = iB b0 := by
      rw [sI_1, if_neg (by omega), sI_1, if_neg (by omega), sI_1, if_neg (by omega), sI_1, if_neg (by omega), sI_1, if_neg (by omega)]; exact k3
    have hZl : lawOf (sI (sI (sI (sI (sI s (76 + 3 * q) 6 (iB b)) (76 + 3 * q) 7 (iN (ag q + 1))) (76 + 3 * q) 8 (iN 0)) 109 3 (iN 0)) 0 18 (iN 0)) = lawOf s := by
      rw [lawOf_sI (by omega), lawOf_sI (by omega), lawOf_sI (by omega), lawOf_sI (by omega), lawOf_sI (by omega)]
    have hZI : ∀ k i, ¬ (k = 76 + 3 * q ∧ (i = 6 ∨ i = 7 ∨ i = 8)) → ¬ (k = 109 ∧ i = 3) → ¬ (k = 0 ∧ i = 18) → (sI (sI (sI (sI (sI s (76 + 3 * q) 6 (iB b)) (76 + 3 * q) 7 (iN (ag q + 1))) (76 + 3 * q) 8 (iN 0)) 109 3 (iN 0)) 0 18 (iN 0)).1 k i = s.1 k i := fun k i z1 z2 z3 => by
      rw [sI_1, if_neg (by omega), sI_1, if_neg (by omega), sI_1, if_neg (by omega), sI_1, if_neg (by omega), sI_1, if_neg (by omega)]
    have hZv : ∀ Z, Z = sI (sI (sI (sI (sI s (76 + 3 * q) 6 (iB b)) (76 + 3 * q) 7 (iN (ag q + 1))) (76 + 3 * q) 8 (iN 0)) 109 3 (iN 0)) 0 18 (iN 0) → Z.1 (76 + 3 * q) 6 = iB b ∧ Z.1 (76 + 3 * q) 7 = iN (ag q + 1) ∧ Z.1 (76 + 3 * q) 8 = iN 0 ∧ Z.1 109 3 = iN 0 ∧ Z.1 0 18 = iN 0 := fun Z hZ => by
      subst hZ
      refine ⟨?_, ?_, ?_, ?_, ?_⟩
      · rw [sI_1, if_neg (by omega), sI_1, if_neg (by omega), sI_1, if_neg (by omega), sI_1, if_neg (by omega), sI_1, if_pos ⟨rfl, rfl⟩]
      · rw [sI_1, if_neg (by omega), sI_1, if_neg (by omega), sI_1, if_neg (by omega), sI_1, if_pos ⟨rfl, rfl⟩]
      · rw [sI_1, if_neg (by omega), sI_1, if_neg (by omega), sI_1, if_pos ⟨rfl, rfl⟩]
      · rw [sI_1, if_neg (by omega), sI_1, if_pos ⟨rfl, rfl⟩]
      · rw [sI_1, if_pos ⟨rfl, rfl⟩]
    have hZJ : (sI (sI (sI (sI (sI s (76 + 3 * q) 6 (iB b)) (76 + 3 * q) 7 (iN (ag q + 1))) (76 + 3 * q) 8 (iN 0)) 109 3 (iN 0)) 0 18 (iN 0)).2 = s.2 := rfl
    have hZv := hZv _ rfl
    generalize sI (sI (sI (sI (sI s (76 + 3 * q) 6 (iB b)) (76 + 3 * q) 7 (iN (ag q + 1))) (76 + 3 * q) 8 (iN 0)) 109 3 (iN 0)) 0 18 (iN 0) = Z at e1 hZ3 hZl hZI hZv hZJ
    have hZ4 : Z.1 161 4 = iN V := (hZI 161 4 (by omega) (by omega) (by omega)).trans ((lw0 s (by omega)).symm.trans g.2.1.2.1)
    have sm := (SmL.ro Z q V).trans (SmL.sI (s := roM Z q V) (k := 172) (j := 12 * q + 3) (v := iB b) (by omega))
    have hl : lawOf (sI (roM Z q V) 172 (12 * q + 3) (iB b)) = sI (roM (lawOf s) q V) 172 (12 * q + 3) (iB b) := by
      rw [lawOf_in (by omega), roM_law, hZl]
    refine ⟨sI (roM Z q V) 172 (12 * q + 3) (iB b), ?_, cnK (lawOf s) q V, U, ⟨n, T, G, h, sz, dp, agR ag q, ?_, ?_, fun y => ?_⟩, by have := cnK_le (lawOf s) q V; omega, by omega⟩
    · rw [hcls Z e1 hZ3, law1 Z hZ3, if_neg cb, L_reopens hN hZ4 hV64 (by omega), Option.bind_some, law2]
    · rw [hl]
      have sI' : ∀ k i, k < 161 → (sI (roM Z q V) 172 (12 * q + 3) (iB b)).1 k i = Z.1 k i := fun k i hk => by rw [(sm.1 k hk).1]
      have mI : ∀ k x, ¬ (k = 172 ∧ x = 12 * q + 3) → (sI (roM (lawOf s) q V) 172 (12 * q + 3) (iB b)).1 k x = (roM (lawOf s) q V).1 k x := fun k x e => by rw [sI_1, if_neg e]
      have m172 : ∀ x, x ≠ 12 * q + 3 → (sI (roM (lawOf s) q V) 172 (12 * q + 3) (iB b)).1 172 x = (lawOf s).1 172 x := fun x e => (mI 172 x (by omega)).trans (roM_I _ _ _ _ _ (by omega) (by omega) (by omega))
      have m3 : (sI (roM (lawOf s) q V) 172 (12 * q + 3) (iB b)).1 172 (12 * q + 3) = iB b := by rw [sI_1, if_pos ⟨rfl, rfl⟩]
      refine GI.mono (B := B) (g.reop hq (by omega) ((sI' _ _ (by omega)).trans hZv.2.2.2.1) ((sI' _ _ (by omega)).trans hZv.2.2.2.2) (fun k i e1 e2 e3 e4 => (sI' k i e1).trans (hZI k i (by omega) e3 e4)) (fun k e1 e2 => by rw [(sm.1 k e1).2, hZJ]) (by rw [sm.2, hZJ]) (fun k x e => mI k x (by omega)) rfl ?_) (by omega)
      have eA : ∀ i, ¬ (i = 6 ∨ i = 7 ∨ i = 8) → (sI (roM Z q V) 172 (12 * q + 3) (iB b)).1 (76 + 3 * q) i = s.1 (76 + 3 * q) i := fun i hi => (sI' _ i (by omega)).trans (hZI _ i (by omega) (by omega) (by omega))
      refine ⟨?_, ⟨r, b, fk, ?_, m3, (sI' _ _ (by omega)).trans hZv.1, by rw [m172 _ (by omega)]; exact c5, c6, by rw [eA 9 (by omega)]; exact c7, by rw [m172 _ (by omega)]; exact c8, ?_⟩, by rw [eA 2 (by omega), m172 _ (by omega)]; exact c10, by rw [eA 4 (by omega), m172 _ (by omega)]; exact c11, by rw [eA 5 (by omega), m172 _ (by omega)]; exact c12, ?_, by rw [m172 _ (by omega)]; exact c14⟩
      · refine ⟨(eA 0 (by omega)).trans c1.1, (sI' _ _ (by omega)).trans (by rw [hZv.2.1, agR_q]), by rw [agR_q]; omega, ?_⟩
        rw [m172 _ (by omega), (sm.1 _ (by omega)).2, hZJ]; exact c1.2.2.2
      · obtain ⟨r1, r2, r3, r4⟩ := c2
        refine ⟨by rw [m172 _ (by omega)]; exact r1, r2, ((sI' _ _ (by omega)).trans (hZI _ _ (by omega) (by omega) (by omega))).trans r3, fun i hi => ?_⟩
        have := r4 i hi
        unfold vN at this ⊢
        rw [m172 (12 * q + 7 + i) (by omega), (sm.1 (76 + 3 * q + 1 + 1) (by omega)).2, hZJ]; exact this
      · intro i hi
        have := c9 i hi
        unfold vN at this ⊢
        rw [m172 (12 * q + 7 + i) (by omega), m172 (12 * q) (by omega)]; exact this
      · rw [(sI' _ _ (by omega)).trans hZv.2.2.1, sumR_0 (fun i hi => ?_)]
        unfold kOf
        rw [show (sI (roM (lawOf s) q V) 172 (12 * q + 3) (iB b)).2.1 174 i = (rpM (lawOf s) q V).2.1 174 i from by rw [sI_2, roM_J]]
        exact (rpM_en (lawOf s) q V i hi).1
    · rw [hl]
      refine x.move hn (fun k i hk => ?_) ?_ (fun k y hk => ?_)
      · have sI' : ∀ k i, k < 161 → (sI (roM Z q V) 172 (12 * q + 3) (iB b)).1 k i = Z.1 k i := fun k i hk => by rw [(sm.1 k hk).1]
        exact (sI' k i (by omega)).trans (hZI k i (by omega) (by omega) (by omega))
      · rw [(sm.1 154 (by omega)).2, hZJ]
      · rw [sI_1, if_neg (by omega)]
        exact roM_I _ _ _ _ _ (by omega) (by omega) (by omega)
    · unfold agR
      split
      · omega
      · have := hA y; omega
end DD
