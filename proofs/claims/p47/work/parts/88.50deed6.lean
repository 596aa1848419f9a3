/-! deeds: a line of the pipeline -/
def lnZ (s : gS) (G v q cd w : Nat) : gS := sI (sJ (sI (sJ (sI (sJ (sI (sI (sI (sI s 173 G (iN v)) 161 3 (iN (G + 1))) 109 3 (iN 0)) 0 18 (iN 0)) 71 G (jN q)) 70 1 (iN (G + 1))) 73 G (jN cd)) 72 1 (iN (G + 1))) 75 G (jN w)) 74 1 (iN (G + 1))
theorem lnZ_I {s : gS} {G v q cd w : Nat} (k i : Nat) (h1 : ¬ ((k = 70 ∨ k = 72 ∨ k = 74) ∧ i = 1)) (h2 : ¬ (k = 0 ∧ i = 18)) (h3 : ¬ (k = 109 ∧ i = 3)) (h4 : ¬ (k = 161 ∧ i = 3)) (h5 : ¬ (k = 173 ∧ i = G)) : (lnZ s G v q cd w).1 k i = s.1 k i := by
  unfold lnZ
  rw [sI_1, if_neg (by omega), sJ_1, sI_1, if_neg (by omega), sJ_1, sI_1, if_neg (by omega), sJ_1, sI_1, if_neg (by omega), sI_1, if_neg (by omega), sI_1, if_neg (by omega), sI_1, if_neg (by omega)]
theorem lnZ_J {s : gS} {G v q cd w : Nat} (k i : Nat) (h1 : ¬ ((k = 71 ∨ k = 73 ∨ k = 75) ∧ i = G)) : (lnZ s G v q cd w).2.1 k i = s.2.1 k i := by
  unfold lnZ
  rw [sI_2, sJ_2, if_neg (by omega), sI_2, sJ_2, if_neg (by omega), sI_2, sJ_2, if_neg (by omega)]; rfl
theorem lnZ_c {s : gS} {G v q cd w : Nat} (k : Nat) (h : k = 70 ∨ k = 72 ∨ k = 74) : (lnZ s G v q cd w).1 k 1 = iN (G + 1) := by
  unfold lnZ
  rcases h with e | e | e <;> subst e <;> simp [sI_1, sJ_1]
theorem lnZ_71 {s : gS} {G v q cd w : Nat} : (lnZ s G v q cd w).2.1 71 G = jN q ∧ (lnZ s G v q cd w).2.1 73 G = jN cd ∧ (lnZ s G v q cd w).2.1 75 G = jN w := by
  unfold lnZ
  refine ⟨?_, ?_, ?_⟩ <;> simp [sI_2, sJ_2]
theorem lnZ_law {s : gS} {G v q cd w : Nat} : lawOf (lnZ s G v q cd w) = sI (sI (lawOf s) 173 G (iN v)) 161 3 (iN (G + 1)) := by
  unfold lnZ
  rw [lawOf_sI (by omega), lawOf_sJ (by omega), lawOf_sI (by omega), lawOf_sJ (by omega), lawOf_sI (by omega), lawOf_sJ (by omega), lawOf_sI (by omega), lawOf_sI (by omega), lawOf_in (by omega), lawOf_in (by omega)]
section DD
variable {N : Nat} {xs : Nat → Int32} {Lx : Nat} {rec221 : (gS × Int32 × Int32) → Option Int32} {x21 x24 x27 : Int32} {x25 : Int64} {s : gS} {c V U B A : Nat}
theorem D_line1 {q cd w n T G h sz dp : Nat} {ag : Nat → Nat} (hq : q < T) (hcd : cd < 3) (hw : w ≤ (if cd = 0 then 0 else if cd = 1 then 11 else 2)) (hG : G < 12) (g : GI s (lawOf s) n T G V U h sz dp B ag) (x : XI s (lawOf s) n T G) (hA : ∀ q, ag q ≤ A) : ∃ s', fL_law_1505 N xs Lx rec221 s x21 x24 (iN q) (iN cd) (iN w) = fL_law_2698 N xs Lx rec221 s' 1 x21 x24 ∧ DR s' V U B A := by
  have hn := g.1.1.1.1.2.1
  have hT := g.1.1.1.2.1.2
  obtain ⟨hF, hh, h5, h6⟩ := id g.1.1
  have hw11 : w ≤ 11 := by
    split at hw
    · omega
    · split at hw <;> omega
  have k3 : s.1 161 3 = iN G := (lw0 s (by omega)).symm.trans hF.2.2.1.1
  obtain ⟨v, hv⟩ : ∃ v, q + 4 * cd + 16 * w = v := ⟨_, rfl⟩
  have hv200 : v < 200 := by omega
  have ev : (iN q + (4 : Int32) * iN cd) + (16 : Int32) * iN w = iN v := by
    rw [show (4 : Int32) * iN cd = iN (4 * cd) from iN_mul 4 cd, show (16 : Int32) * iN w = iN (16 * w) from iN_mul 16 w, iN_add, iN_add, hv]
  have hp := g.1.2.2.2.1
  have mI : ∀ k i, ¬ (k = 161 ∧ i = 3) → ¬ (k = 173 ∧ i = G) → (sI (sI (lawOf s) 173 G (iN v)) 161 3 (iN (G + 1))).1 k i = (lawOf s).1 k i := fun k i e1 e2 => by rw [sI_1, if_neg e1, sI_1, if_neg e2]
  have m173 : ∀ k, (sI (sI (lawOf s) 173 G (iN v)) 161 3 (iN (G + 1))).1 173 k = if k = G then iN v else (lawOf s).1 173 k := fun k => by
    rw [sI_1, if_neg (by omega), sI_1]
    by_cases e : k = G
    · rw [if_pos ⟨rfl, e⟩, if_pos e]
    · rw [if_neg (by omega), if_neg e]
  have hI : ∀ k i, ¬ (k = 0 ∧ i = 18) → ¬ (k = 109 ∧ i = 3) → ¬ (k = 70 ∨ k = 72 ∨ k = 74) → k < 161 → (lnZ s G v q cd w).1 k i = s.1 k i := fun k i e1 e2 e3 e4 => lnZ_I k i (by omega) e1 e2 (by omega) (by omega)
  have hJ : ∀ k, k ≠ 71 → k ≠ 73 → k ≠ 75 → (lnZ s G v q cd w).2.1 k = s.2.1 k := fun k e1 e2 e3 => funext (fun i => lnZ_J k i (by omega))
  refine ⟨lnZ s G v q cd w, ?_, DR.of ⟨n, T, G + 1, h, sz, dp, ag, ?_, ?_, hA⟩⟩
  · have g0 : (sI (sI s 173 G (iN v)) 161 3 (iN (G + 1))).1 65 5 = iN T := by rw [sI_1, if_neg (by omega), sI_1, if_neg (by omega)]; exact hp.1.1
    have g70 : (sI (sI s 173 G (iN v)) 161 3 (iN (G + 1))).1 70 1 = iN G := by rw [sI_1, if_neg (by omega), sI_1, if_neg (by omega)]; exact hp.2.1.1
    have g72 : s.1 72 1 = iN G := x.1.2.2.1
    have g74 : s.1 74 1 = iN G := x.1.2.2.2
    have e38 : ∀ hi : Nat, w ≤ hi → hi < 100 → fX11_line_38 N (sI (sI s 173 G (iN v)) 161 3 (iN (G + 1))) (iN q) (iN cd) (iN w) (iN hi) 0 (iN w) = some (iN (G + 1), lnZ s G v q cd w) := fun hi h1 h2 => by
      unfold fX11_line_38 fX11_line_61 fX7_addLine
      rw [show fX11_needRange N (sI (sI s 173 G (iN v)) 161 3 (iN (G + 1))) (iN w) (0 : Int32) (iN hi) = some () from X_range (lo := 0) (hi := hi) (by omega) h1 (by omega), Option.bind_some, g70, if_neg (show ¬ (12 : Int32) ≤ iN G by rw [i_12, iN_le (by omega) (by omega)]; omega), show fX11_needState N (sI (sI s 173 G (iN v)) 161 3 (iN (G + 1))) 1 = some () from rfl, Option.bind_some, X_stir, Option.bind_some, iN_64 (by omega), iN_64 (by omega), iN_64 (by omega)]
      have q70 : (sI (sI (sI (sI s 173 G (iN v)) 161 3 (iN (G + 1))) 109 3 (iN 0)) 0 18 (iN 0)).1 70 1 = iN G := by rw [sI_1, if_neg (by omega), sI_1, if_neg (by omega)]; exact g70
      have q72 : (sI (sI (sI (sI s 173 G (iN v)) 161 3 (iN (G + 1))) 109 3 (iN 0)) 0 18 (iN 0)).1 72 1 = iN G := by rw [sI_1, if_neg (by omega), sI_1, if_neg (by omega), sI_1, if_neg (by omega), sI_1, if_neg (by omega)]; exact g72
      have q74 : (sI (sI (sI (sI s 173 G (iN v)) 161 3 (iN (G + 1))) 109 3 (iN 0)) 0 18 (iN 0)).1 74 1 = iN G := by rw [sI_1, if_neg (by omega), sI_1, if_neg (by omega), sI_1, if_neg (by omega), sI_1, if_neg (by omega)]; exact g74
      have hZ : lnZ s G v q cd w = gAdd (gAdd (gAdd (sI (sI (sI (sI s 173 G (iN v)) 161 3 (iN (G + 1))) 109 3 (iN 0)) 0 18 (iN 0)) 70 G (jN q)) 72 G (jN cd)) 74 G (jN w) := rfl
      have e70 := lnZ_c (s := s) (G := G) (v := v) (q := q) (cd := cd) (w := w) 70 (Or.inl rfl)
      rw [hZ] at e70 ⊢
      generalize sI (sI (sI (sI s 173 G (iN v)) 161 3 (iN (G + 1))) 109 3 (iN 0)) 0 18 (iN 0) = Z0 at q70 q72 q74 e70 ⊢
      rw [X_add (N := N) (σ := Z0) (r := 70) (n := G) (len := 12) q70 rfl hG (by decide), Option.bind_some, X_add (N := N) (σ := gAdd Z0 70 G (jN q)) (r := 72) (n := G) (len := 12) (by
        show (sI (sJ Z0 71 G (jN q)) 70 1 _).1 72 1 = iN G
        rw [sI_1, if_neg (by omega), sJ_1]; exact q72) rfl hG (by decide), Option.bind_some, X_add (N := N) (σ := gAdd (gAdd Z0 70 G (jN q)) 72 G (jN cd)) (r := 74) (n := G) (len := 12) (by
        show (sI (sJ (sI (sJ Z0 71 G (jN q)) 70 1 _) 73 G (jN cd)) 72 1 _).1 74 1 = iN G
        rw [sI_1, if_neg (by omega), sJ_1, sI_1, if_neg (by omega), sJ_1]; exact q74) rfl hG (by decide), Option.bind_some, Option.bind_some, e70]
    have e1 : fX11_line N (sI (sI s 173 G (iN v)) 161 3 (iN (G + 1))) (iN q) (iN cd) (iN w) = some (iN (G + 1), lnZ s G v q cd w) := by
      unfold fX11_line
      rw [g0, X_place hq (by omega), Option.bind_some, show fX11_needRange N (sI (sI s 173 G (iN v)) 161 3 (iN (G + 1))) (iN cd) (0 : Int32) (2 : Int32) = some () from X_range (lo := 0) (hi := 2) (by omega) (by omega) (by omega), Option.bind_some]
      rcases (show cd = 0 ∨ cd = 1 ∨ cd = 2 by omega) with e | e | e <;> subst e
      · rw [if_pos (show iN 0 = (0 : Int32) from rfl)]; exact e38 0 (by simpa using hw) (by omega)
      · rw [if_neg (show ¬ iN 1 = (0 : Int32) by decide), if_pos (show iN 1 = (1 : Int32) from rfl)]; exact e38 11 (by simpa using hw) (by omega)
      · rw [if_neg (show ¬ iN 2 = (0 : Int32) by decide), if_neg (show ¬ iN 2 = (1 : Int32) by decide)]; exact e38 2 (by simpa using hw) (by omega)
    unfold fL_law_1505
    rw [k3, if_neg (gi (show G < 12 by omega) (by decide)), iN_cl (show G < 2147483648 by omega), ev, show (sI s 173 G (iN v)).1 161 3 = iN G from by rw [sI_1, if_neg (by omega)]; exact k3, i_1, iN_add, e1, Option.bind_some]
    dsimp only
    rw [if_pos (show iN (G + 1) = (lnZ s G v q cd w).1 161 3 by
      unfold lnZ
      simp [sI_1, sJ_1])]
    rfl
  · rw [lnZ_law]
    have t := g.2.1.same (σ' := lnZ s G v q cd w) (M' := sI (sI (lawOf s) 173 G (iN v)) 161 3 (iN (G + 1))) (Nat.le_refl B) (fun k hk => funext (fun i => hI k i (by omega) (by omega) (by omega) (by omega))) (fun k hk => hJ k (by omega) (by omega) (by omega)) rfl (mI 161 4 (by omega) (by omega)) (fun k hk => funext (fun i => mI k i (by omega) (by omega))) (fun _ _ => rfl)
    have v173 : ∀ k, k < G + 1 → vN (sI (sI (lawOf s) 173 G (iN v)) 161 3 (iN (G + 1))) 173 k = if k = G then v else vN (lawOf s) 173 k := fun k hk => by
      unfold vN
      rw [m173]
      by_cases e : k = G
      · rw [if_pos e, if_pos e]; exact iN_cl (by omega)
      · rw [if_neg e, if_neg e]
    obtain ⟨⟨a1, a2, a3⟩, ⟨b1, b2⟩, ⟨c1, c2, c3⟩, d, ⟨g1, g2, g3⟩, e178⟩ := id hF
    have hLF : LF (sI (sI (lawOf s) 173 G (iN v)) 161 3 (iN (G + 1))) n T (G + 1) V := by
      have hx : LF (lawOf s) n T 0 V → False → True := fun _ _ => trivial
      refine ⟨⟨(mI 161 0 (by omega) (by omega)).trans a1, a2, a3.fr (fun c _ => mI 163 c (by omega) (by omega))⟩, ⟨(mI 161 2 (by omega) (by omega)).trans b1, b2⟩, ⟨by rw [sI_1, if_pos ⟨rfl, rfl⟩], by omega, fun k hk => ?_⟩, fun c hc => ?_, ⟨(mI 161 4 (by omega) (by omega)).trans g1, g2, fun j hj => ?_⟩, fun a ha => ?_⟩
      · rw [v173 k hk, m173]
        by_cases e : k = G
        · rw [if_pos e, if_pos e]; exact ⟨rfl, hv200⟩
        · rw [if_neg e, if_neg e]; exact c3 k (by omega)
      · have := d c hc
        unfold vN at this ⊢; rw [mI 162 c (by omega) (by omega)]; exact this
      · have := g3 j hj
        unfold vN at this ⊢; rw [mI 175 j (by omega) (by omega)]; exact this
      · have := e178 a ha
        unfold vN at this ⊢; rw [mI 178 (6 + a) (by omega) (by omega)]; exact this
    have hRp : RCp (lnZ s G v q cd w) (sI (sI (lawOf s) 173 G (iN v)) 161 3 (iN (G + 1))) T (G + 1) := by
      obtain ⟨p1, p2, p3, p4⟩ := hp
      refine ⟨⟨(hI 65 5 (by omega) (by omega) (by omega) (by omega)).trans p1.1, p1.2⟩, ⟨lnZ_c 70 (Or.inl rfl), by omega⟩, fun j hj => by rw [hI _ 2 (by omega) (by omega) (by omega) (by omega), mI 172 _ (by omega) (by omega)]; exact p3 j hj, fun k hk => ?_⟩
      rw [v173 k hk]
      by_cases e : k = G
      · rw [if_pos e, e, lnZ_71.1, lnZ_71.2.1, lnZ_71.2.2]
        refine ⟨hv200, ?_, ?_, ?_⟩
        · rw [show v - v / 4 * 4 = q by omega]
        · rw [show v / 4 - v / 4 / 4 * 4 = cd by omega]
        · rw [show v / 16 = w by omega]
      · rw [if_neg e, lnZ_J 71 k (by omega), lnZ_J 73 k (by omega), lnZ_J 75 k (by omega)]
        exact p4 k (by omega)
    refine ⟨g.1.gen (fun k i hk => hI k i (by omega) (by omega) (by omega) (by omega)) (fun k hk => hJ k (by omega) (by omega) (by omega)) (fun k x hk => mI k x (by omega) (by omega)) (fun _ _ => rfl) hLF hRp ⟨(mI 161 5 (by omega) (by omega)).trans h5.1, h5.2⟩ ⟨(mI 161 6 (by omega) (by omega)).trans h6.1, h6.2⟩ ⟨(hI 109 0 (by omega) (by omega) (by omega) (by omega)).trans g.1.2.2.2.2.2.2.1.1, (hI 109 1 (by omega) (by omega) (by omega) (by omega)).trans g.1.2.2.2.2.2.2.1.2⟩ t.2.2.2.2.2.2.1 (fun q hq => (t.2.2.2.1 q hq).1) (Or.inl ?_), t, g.2.2.1.same' (fun _ _ => rfl) (funext (fun x => mI 168 x (by omega) (by omega))), g.2.2.2.1.same (fun k hk => hJ k (by omega) (by omega) (by omega)) (fun i _ => mI 178 i (by omega) (by omega)) (fun j' _ => mI 176 _ (by omega) (by omega)), g.2.2.2.2.1.same (fun i hi => hI 0 i (by omega) (by omega) (by omega) (by omega)) (fun i hi => mI 161 i (by omega) (by omega)), Or.inl ?_, g.2.2.2.2.2.2⟩
    · unfold lnZ; simp [sI_1, sJ_1]
    · unfold lnZ; simp [sI_1, sJ_1]
  · rw [lnZ_law]
    obtain ⟨⟨z1, z2, z3, z4⟩, y2, y3, y4, y5, y6⟩ := x
    refine ⟨⟨(hI 1 3 (by omega) (by omega) (by omega) (by omega)).trans z1, ?_, lnZ_c 72 (by omega), lnZ_c 74 (by omega)⟩, ⟨fun f hf => by rw [hJ 154 (by omega) (by omega) (by omega)]; exact y2.1 f hf, fun c hc e => by rw [hI _ 12 (by omega) (by omega) (by omega) (by omega)]; exact y2.2 c hc (by rw [← mI 164 c (by omega) (by omega)]; exact e)⟩, fun c h1 h2 => ?_, fun c h1 h2 => ?_, fun q h1 h2 => ?_, fun q h1 h2 => ?_⟩
    · rw [hI 109 2 (by omega) (by omega) (by omega) (by omega), mI 161 7 (by omega) (by omega)]; exact z2
    · have := y3 c h1 h2
      rw [hI _ 0 (by omega) (by omega) (by omega) (by omega), hI _ 3 (by omega) (by omega) (by omega) (by omega), hI _ 4 (by omega) (by omega) (by omega) (by omega), hI _ 10 (by omega) (by omega) (by omega) (by omega), hI _ 11 (by omega) (by omega) (by omega) (by omega), hI _ 12 (by omega) (by omega) (by omega) (by omega), hI _ 2 (by omega) (by omega) (by omega) (by omega)]; exact this
    · rw [mI 164 c (by omega) (by omega), mI 165 c (by omega) (by omega), mI 166 c (by omega) (by omega)]; exact y4 c h1 h2
    · have := y5 q h1 h2
      rw [hI _ 0 (by omega) (by omega) (by omega) (by omega), hI _ 6 (by omega) (by omega) (by omega) (by omega), hI _ 7 (by omega) (by omega) (by omega) (by omega), hI _ 8 (by omega) (by omega) (by omega) (by omega), hI _ 9 (by omega) (by omega) (by omega) (by omega), hI _ 1 (by omega) (by omega) (by omega) (by omega)]; exact this
    · rw [mI 172 _ (by omega) (by omega), mI 172 _ (by omega) (by omega), mI 172 _ (by omega) (by omega), mI 172 _ (by omega) (by omega)]; exact y6 q h1 h2
end DD
