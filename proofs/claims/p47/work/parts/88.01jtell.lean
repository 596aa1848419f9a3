/-! a tick of a machine on both sides -/
def SmL (s s' : gS) : Prop := (∀ k, k < 161 → s'.1 k = s.1 k ∧ s'.2.1 k = s.2.1 k) ∧ s'.2.2 = s.2.2
theorem SmL.refl (s : gS) : SmL s s := ⟨fun _ _ => ⟨rfl, rfl⟩, rfl⟩
theorem SmL.trans {s s1 s2 : gS} (h1 : SmL s s1) (h2 : SmL s1 s2) : SmL s s2 := ⟨fun k hk => ⟨(h2.1 k hk).1.trans (h1.1 k hk).1, (h2.1 k hk).2.trans (h1.1 k hk).2⟩, h2.2.trans h1.2⟩
theorem SmL.sI {s : gS} {k j : Nat} {v : Int32} (h : 161 ≤ k) : SmL s (sI s k j v) := ⟨fun k' hk => ⟨gU_ne _ _ _ (by omega), rfl⟩, rfl⟩
theorem SmL.sJ {s : gS} {k j : Nat} {v : Int64} (h : 161 ≤ k) : SmL s (sJ s k j v) := ⟨fun k' hk => ⟨rfl, gU_ne _ _ _ (by omega)⟩, rfl⟩
def FrC (T : Nat) (σ σ' : gS) : Prop := (∀ k i, ¬ (106 ≤ k ∧ k < 109) → ¬ (144 ≤ k ∧ k < 147) → k ≠ 183 → ¬ (k = 0 ∧ i = 18) → ¬ (76 ≤ k ∧ k < 76 + 3 * T ∧ (i = 8 ∨ i = 9)) → σ'.1 k i = σ.1 k i) ∧ ∀ k, k ≠ 107 → k ≠ 182 → σ'.2.1 k = σ.2.1 k
theorem FrC.refl (T : Nat) (σ : gS) : FrC T σ σ := ⟨fun _ _ _ _ _ _ _ => rfl, fun _ _ _ => rfl⟩
theorem FrC.trans {T : Nat} {σ σ1 σ2 : gS} (h1 : FrC T σ σ1) (h2 : FrC T σ1 σ2) : FrC T σ σ2 := ⟨fun k i a b c d e => (h2.1 k i a b c d e).trans (h1.1 k i a b c d e), fun k a b => (h2.2 k a b).trans (h1.2 k a b)⟩
def FrM (T : Nat) (M M' : gS) : Prop := (∀ k x, ¬ (k = 161 ∧ x = 4) → k ≠ 172 → k ≠ 175 → k ≠ 176 → M'.1 k x = M.1 k x) ∧ (∀ x, ¬ (x < 12 * T ∧ (x - x / 12 * 12 = 5 ∨ x - x / 12 * 12 = 6)) → M'.1 172 x = M.1 172 x) ∧ (∀ x, x - x / 6 * 6 ≠ 0 → x - x / 6 * 6 ≠ 1 → M'.1 176 x = M.1 176 x) ∧ ∀ k, k ≠ 174 → M'.2.1 k = M.2.1 k
theorem FrM.refl (T : Nat) (M : gS) : FrM T M M := ⟨fun _ _ _ _ _ _ => rfl, fun _ _ => rfl, fun _ _ _ => rfl, fun _ _ => rfl⟩
theorem FrM.trans {T : Nat} {M M1 M2 : gS} (h1 : FrM T M M1) (h2 : FrM T M1 M2) : FrM T M M2 := ⟨fun k x a b c d => (h2.1 k x a b c d).trans (h1.1 k x a b c d), fun x a => (h2.2.1 x a).trans (h1.2.1 x a), fun x a b => (h2.2.2.1 x a b).trans (h1.2.2.1 x a b), fun k a => (h2.2.2.2 k a).trans (h1.2.2.2 k a)⟩
theorem lawOf_tlM {σ : gS} {V q f fk : Nat} {fb : Bool} {key : Int64} : lawOf (tlM σ V q f fk fb key) = tlM (lawOf σ) V q f fk fb key := by
  unfold tlM tlW
  rw [lawOf_in (by omega), lawOf_in (by omega), lawOf_in (by omega)]
  cases e : sEnt σ key V with
  | none =>
    have e2 : sEnt (lawOf σ) key V = none := (sEnt_law σ key V).trans e
    rw [tlB_none e, tlB_none e2, tlE_none e, tlE_none e2, lawOf_in (by omega), lawOf_in (by omega), lawOf_inJ (by omega)]
  | some i =>
    have e2 : sEnt (lawOf σ) key V = some i := (sEnt_law σ key V).trans e
    rw [tlB_some e, tlB_some e2, tlE_some e, tlE_some e2]
theorem SmL.tl {s : gS} {V q f fk : Nat} {fb : Bool} {key : Int64} : SmL s (tlM s V q f fk fb key) := by
  refine ⟨fun k hk => ⟨?_, ?_⟩, ?_⟩
  · funext x; exact tlM_I k x (by omega) (by omega) (by omega)
  · funext x; exact tlM_J k x (Or.inl (by omega))
  · unfold tlM
    rw [tlW_J]
    cases e : sEnt s key V with
    | none => rw [tlB_none e]; rfl
    | some i => rw [tlB_some e]
theorem tlK_le (e fk : Nat) (fb : Bool) : tlK e fk fb ≤ fk + 1 := by
  unfold tlK
  by_cases c : fb = false ∧ 0 < e / 4
  · rw [if_pos c]; omega
  · rw [if_neg c]; omega
theorem J_tell1 {N : Nat} {σ M : gS} {T V U B j : Nat} {ag : Nat → Nat} (hN : 5000 ≤ N) (hj : j < 3) (h : TI σ M T V U B ag) (hV : V < 64) (hU : U < 1024) (hB : B < 1000) (hag : ∀ q, q < T → ag q < 1000) :
    ∃ (σ' M' : gS) (V' U' : Nat), (∀ (s : gS) (rec : (gS × Int32) → Option gS), lawOf s = M → ∃ s', fL_tells_3 N rec (s, iN j) = rec (s', iN (j + 1)) ∧ lawOf s' = M' ∧ SmL s s') ∧ (∀ rec : (gS × Int32) → Option gS, fX11_passTick_12 N rec (σ, iN j) = rec (σ', iN (j + 1))) ∧ TI σ' M' T V' U' (B + 1) ag ∧ V ≤ V' ∧ V' ≤ V + 1 ∧ U' ≤ U + 1 ∧ FrC T σ σ' ∧ FrM T M M' ∧ (σ'.1 0 18 = iN 0 ∨ (σ'.1 0 18 = σ.1 0 18 ∧ M'.2.1 = M.2.1 ∧ ∀ k x, ¬ (k = 176 ∧ x - x / 6 * 6 = 1) → M'.1 k x = M.1 k x)) := by
  have h0 := h
  obtain ⟨hT, hVM, hen, hck, hmc, hlu, hrv, hoth⟩ := h
  have hckB : ∀ q, q < T → CK σ M V (B + 1) ag q := fun q hq => (hck q hq).fr rfl rfl rfl rfl (fun _ _ _ => rfl) rfl (by omega)
  obtain ⟨m0, m1, m2, m3⟩ := hmc j hj
  rcases m3 with ⟨a1, a2⟩ | ⟨q, l, a1, a1b, a2, a3, a4, a5, a6, a7, a8⟩
  · -- idle
    refine ⟨σ, M, V, U, fun s rec hs => ⟨s, ?_, hs, SmL.refl s⟩, fun rec => X_p12i (by omega) (m2.trans a1), ⟨hT, hVM, hen, hckB, hmc, hlu, hrv, hoth⟩, by omega, by omega, by omega, FrC.refl T σ, FrM.refl T M, Or.inr ⟨rfl, rfl, fun _ _ _ => rfl⟩⟩
    exact L_t3i hj (by rw [lw1 hs (by omega)]; exact a1)
  · by_cases hl : l = 0
    · subst hl
      -- done
      have hM1 : E176 M (sI (sI M 176 (6 * j + 1) (iN 0)) 176 (6 * j) iM) := E176.sI.trans E176.sI
      have hm1 : ∀ x, x ≠ 6 * j → x ≠ 6 * j + 1 → (sI (sI M 176 (6 * j + 1) (iN 0)) 176 (6 * j) iM).1 176 x = M.1 176 x := fun x h1 h2 => by
        rw [sI_1, if_neg (by omega), sI_1, if_neg (by omega)]
      have hm0 : (sI (sI M 176 (6 * j + 1) (iN 0)) 176 (6 * j) iM).1 176 (6 * j) = iM := by rw [sI_1, if_pos ⟨rfl, rfl⟩]
      have hF1 : FrM T M (sI (sI M 176 (6 * j + 1) (iN 0)) 176 (6 * j) iM) := ⟨fun k x _ _ _ h4 => by rw [hM1.1 k h4], fun x _ => by rw [hM1.1 172 (by omega)], fun x h1 h2 => hm1 x (by omega) (by omega), fun k _ => by rw [hM1.2]⟩
      rcases a8 with ⟨d1, d2, d3⟩ | ⟨d1, a, d2, d3⟩
      · -- it counts
        have hs1 : ∀ k, k ≠ 144 + j → (sI σ (144 + j) 5 (iN 0)).1 k = σ.1 k := fun k hk => gU_ne _ _ _ hk
        have hck1 : CK (sI σ (144 + j) 5 (iN 0)) M V B ag q := (hck q a1).fr (hs1 _ (by omega)) (by rw [hs1 _ (by omega)]) rfl rfl (fun _ _ _ => rfl) rfl (Nat.le_refl _)
        have hrv1 : RCv (sI σ (144 + j) 5 (iN 0)) M T V U ag := hrv.places rfl (hs1 _ (by omega)) rfl (hs1 _ (by omega))
        obtain ⟨f, fk, fb, U', σ', f4, fkB, hev, e5, e6, hfl, hrun, c1, c2, c3, c4, c5, ⟨c6, c7, c8⟩, c9, c10, c11, c12⟩ := X_tellL (z := M.2.1 177 j) hN hT a1 hj hen hck1 hrv1 hU hB hag (by rw [sI_1, if_neg (by omega), m2]; exact a2) (by rw [sI_1, if_neg (by omega)]; exact d2) a7 d3
        have EE := tlM_176 (V := V) (q := q) (f := f) (fk := fk) (fb := fb) (key := gKey M q (M.2.1 177 j)) hM1
        have hU1 := tlU_le (M := M) (V := V) (key := gKey M q (M.2.1 177 j))
        have hsum : ∀ q', q' < 8 → sumR (tlM (sI (sI M 176 (6 * j + 1) (iN 0)) 176 (6 * j) iM) V q f fk fb (gKey M q (M.2.1 177 j))) q' (tlU M V (gKey M q (M.2.1 177 j))) = sumR M q' V + (if q' = q then 1 else 0) := fun q' hq' => by
          rw [EE.sum]; exact sumR_tl hen a1 hT f4 hev q' hq'
        have h172 : ∀ x, x ≠ 12 * q + 5 → x ≠ 12 * q + 6 → (tlM (sI (sI M 176 (6 * j + 1) (iN 0)) 176 (6 * j) iM) V q f fk fb (gKey M q (M.2.1 177 j))).1 172 x = M.1 172 x := fun x h1 h2 => by
          rw [EE.1 172 (by omega), tlM_172 x h1 h2]
        have h176 : ∀ x, x ≠ 6 * j → x ≠ 6 * j + 1 → (tlM (sI (sI M 176 (6 * j + 1) (iN 0)) 176 (6 * j) iM) V q f fk fb (gKey M q (M.2.1 177 j))).1 176 x = M.1 176 x := fun x h1 h2 => by
          rw [tlM_I 176 x (by omega) (by omega) (by omega)]; exact hm1 x h1 h2
        have h1760 : (tlM (sI (sI M 176 (6 * j + 1) (iN 0)) 176 (6 * j) iM) V q f fk fb (gKey M q (M.2.1 177 j))).1 176 (6 * j) = iM := by
          rw [tlM_I 176 _ (by omega) (by omega) (by omega)]; exact hm0
        have h177 : (tlM (sI (sI M 176 (6 * j + 1) (iN 0)) 176 (6 * j) iM) V q f fk fb (gKey M q (M.2.1 177 j))).2.1 177 = M.2.1 177 := by
          funext x; rw [tlM_J 177 x (Or.inl (by omega))]; rfl
        have hkey' : ∀ q', q' < 4 → ∀ t, gKey (tlM (sI (sI M 176 (6 * j + 1) (iN 0)) 176 (6 * j) iM) V q f fk fb (gKey M q (M.2.1 177 j))) q' t = gKey M q' t := fun q' hq' t => gKey_same (h172 _ (by omega) (by omega))
        have hver : ∀ q', q' < 4 → ∀ t, gKey M q' t ≠ gKey M q (M.2.1 177 j) → sVer M V q' t = 0 → sVer (tlM (sI (sI M 176 (6 * j + 1) (iN 0)) 176 (6 * j) iM) V q f fk fb (gKey M q (M.2.1 177 j))) (tlU M V (gKey M q (M.2.1 177 j))) q' t = 0 := fun q' hq' t hne hz => by
          rw [EE.ver, sVer_ev, gKey_same (gMask_tl q' hq' (by omega)), tl_ev f4, if_neg hne, ← sVer_ev]; exact hz
        refine ⟨σ', tlM (sI (sI M 176 (6 * j + 1) (iN 0)) 176 (6 * j) iM) V q f fk fb (gKey M q (M.2.1 177 j)), tlU M V (gKey M q (M.2.1 177 j)), U', fun s rec hs => ?_, fun rec => X_p12d (by omega) (show q < 4 by omega) (m2.trans a2) a6 hrun, ⟨hT, ?_, (EN.tl hen a1 hT f4).e176 EE, fun q' hq' => ?_, fun j' hj' => ?_, fun j1 j2 w1 w2 w3 q' w4 w5 w6 w7 w8 => ?_, c11.e176 EE, fun j' w1 w2 => ?_⟩, hU1.1, hU1.2, c12, ⟨fun k i w1 w2 w3 w4 w5 => ?_, fun k w1 w2 => c5 k w1 w2⟩, ?_, Or.inl c4⟩
        · have t172 : s.1 172 = M.1 172 := lw1 hs (by omega)
          have t176 : s.1 176 = M.1 176 := lw1 hs (by omega)
          have t161 : s.1 161 = M.1 161 := lw1 hs (by omega)
          have t175 : s.1 175 = M.1 175 := lw1 hs (by omega)
          have t177 : s.2.1 177 = M.2.1 177 := lw2 hs (by omega)
          have t174 : s.2.1 174 = M.2.1 174 := lw2 hs (by omega)
          have g : ∀ k, k ≠ 176 → (sI s 176 (6 * j + 1) (iN 0)).1 k = s.1 k := fun k hk => gU_ne _ _ _ hk
          have gk : gKey (sI s 176 (6 * j + 1) (iN 0)) q ((sI s 176 (6 * j + 1) (iN 0)).2.1 177 j) = gKey M q (M.2.1 177 j) := by
            rw [gKey_same (M := M) (by rw [g 172 (by omega), t172]), sI_2, t177]
          have ge : ∀ key, sEnt (sI s 176 (6 * j + 1) (iN 0)) key V = sEnt M key V := fun key => sEnt_congr (by rw [sI_2, t174]) V
          have r39 := L_t39 (N := N) (rec := rec) (σ := sI s 176 (6 * j + 1) (iN 0)) (j := j) (q := q) (f := f) (fk := fk) (V := V) (fb := fb) (by omega) hj (by omega) f4 (by rw [g 161 (by omega), t161]; exact hVM) hV (fun he => by
            rw [gk, ge] at he
            rw [ev_none he] at hev; omega) (fun i he => by
            rw [gk, ge] at he
            rw [ev_some he] at hev
            rw [g 175 (by omega), t175, (hen i (sEnt_lt he).1).1, hev]) (by rw [g 172 (by omega), t172]; exact e5) (by rw [g 172 (by omega), t172]; exact e6) (by omega) (by rw [sI_1, if_pos ⟨rfl, rfl⟩]) (by rw [sI_1, if_neg (by omega), t176]; exact d1) (fun s2 hs2 => by
            rw [sI_2, t177]
            exact hfl s2 (by rw [hs2, g 172 (by omega), t172]))
          rw [gk] at r39
          refine ⟨_, (L_t3d hj (show q < 4 by omega) (by rw [t176]; exact a2) (by rw [t176]; exact a4)).trans r39, ?_, ((SmL.sI (by omega)).trans (SmL.sI (by omega))).trans SmL.tl⟩
          rw [lawOf_tlM, lawOf_in (by omega), lawOf_in (by omega), hs]
        · rw [EE.1 161 (by omega)]; exact tlM_4 hVM
        · by_cases eq : q' = q
          · subst eq
            have w := hsum q' (by omega)
            rw [if_pos rfl] at w
            refine CK.told (fk := fk) (hck q' hq') (fun i h1 h2 => by rw [c2 i h1 h2, hs1 _ (by omega)]) (by rw [w]; exact c9) c10 (by rw [c1 _ (by omega) (by omega) (by omega) (by omega) (by omega), hs1 _ (by omega)]) (c5 _ (by omega) (by omega)) (c5 _ (by omega) (by omega)) (fun x _ _ h3 h4 => h172 x h3 h4) ?_ ?_ (tlK_le _ _ _) fkB
            · rw [EE.1 172 (by omega)]; unfold tlM; rw [tlW_5]
            · rw [EE.1 172 (by omega)]; unfold tlM; rw [tlW_6]
          · have w := hsum q' (by omega)
            rw [if_neg eq, Nat.add_zero] at w
            exact (hck q' hq').fr (by rw [c1 _ (by omega) (by omega) (by omega) (by omega) (by omega), hs1 _ (by omega)]) (by rw [c1 _ (by omega) (by omega) (by omega) (by omega) (by omega), hs1 _ (by omega)]) (c5 _ (by omega) (by omega)) (c5 _ (by omega) (by omega)) (fun x h1 h2 => h172 x (by omega) (by omega)) w (by omega)
        · by_cases ej : j' = j
          · subst ej
            refine ⟨?_, ?_, c7.trans h1760.symm, Or.inl ⟨h1760, ?_⟩⟩
            · rw [c8 0 (by omega) (by omega), sI_1, if_neg (by omega), h176 _ (by omega) (by omega)]; exact m0
            · rw [h176 _ (by omega) (by omega)]; exact m1
            · rw [c6, h176 _ (by omega) (by omega)]; exact a3.symm
          · refine (hmc j' hj').fr (by rw [c1 _ (by omega) (by omega) (by omega) (by omega) (by omega), hs1 _ (by omega)]) (by rw [c5 _ (by omega) (by omega)]; rfl) (fun x h1 h2 => h176 x (by omega) (by omega)) (by rw [h177]) (fun q' hq' => h172 _ (by omega) (by omega)) (fun q' hq' g1 g2 g3 => hver q' (by omega) _ (fun e => ?_) g3)
            obtain ⟨e1, -⟩ := (gKey_inj (show q' < 8 by omega) (show q < 8 by omega)).mp e
            subst e1
            exact hlu j' j hj' hj ej q' (by omega) g1 a2 g2 d1 e
        · have n1 : j1 ≠ j := fun e => by
            subst e
            rw [h1760] at w5
            exact iM_ne (show q' < 2147483648 by omega) w5.symm
          have n2 : j2 ≠ j := fun e => by
            subst e
            rw [h1760] at w6
            exact iM_ne (show q' < 2147483648 by omega) w6.symm
          rw [h176 _ (by omega) (by omega)] at w5 w6 w7 w8
          rw [hkey' q' w4, hkey' q' w4, h177]
          exact hlu j1 j2 w1 w2 w3 q' w4 w5 w6 w7 w8
        · rw [c1 _ (by omega) (by omega) (by omega) (by omega) (by omega), hs1 _ (by omega)]; exact hoth j' w1 w2
        · by_cases e : k = 0
          · subst e
            rw [c3 i (by omega), hs1 _ (by omega)]
          · by_cases e2 : k = 76 + 3 * q
            · subst e2
              rw [c2 i (by omega) (by omega), hs1 _ (by omega)]
            · rw [c1 k (by omega) (by omega) e2 (by omega) e, hs1 _ (by omega)]
        · refine ⟨fun k x w1 w2 w3 w4 => ?_, fun x w1 => h172 x (by omega) (by omega), fun x w1 w2 => h176 x (by omega) (by omega), fun k w1 => ?_⟩
          · rw [tlM_I k x w2 w3 w1, hM1.1 k w4]
          · funext x; rw [tlM_J k x (Or.inl w1)]; rfl
      · -- it counts no more
        have hsσ : ∀ k, k ≠ 144 + j → k ≠ 0 → (sI (sI (sI (sI σ (144 + j) 5 (iN 0)) (144 + j) 1 (iN q)) (144 + j) 2 iM) 0 18 (iN 0)).1 k = σ.1 k := fun k hk hk2 => by
          funext x
          rw [sI_1, if_neg (by omega), sI_1, if_neg (by omega), sI_1, if_neg (by omega), sI_1, if_neg (by omega)]
        refine ⟨sI (sI (sI (sI σ (144 + j) 5 (iN 0)) (144 + j) 1 (iN q)) (144 + j) 2 iM) 0 18 (iN 0), sI (sI M 176 (6 * j + 1) (iN 0)) 176 (6 * j) iM, V, U, fun s rec hs => ?_, fun rec => X_p12d (by omega) (show q < 4 by omega) (m2.trans a2) a6 (X_tellS (M := M) (ag := ag) (a := a) (by omega) hj ?_ ?_ d2 ?_), ⟨hT, ?_, hen.e176 hM1, fun q' hq' => ?_, fun j' hj' => ?_, fun j1 j2 w1 w2 w3 q' w4 w5 w6 w7 w8 => ?_, ?_, fun j' w1 w2 => ?_⟩, by omega, by omega, by omega, ⟨fun k i w1 w2 w3 w4 w5 => ?_, fun k w1 w2 => rfl⟩, hF1, Or.inl ?_⟩
        · have t176 : s.1 176 = M.1 176 := lw1 hs (by omega)
          have t161 : s.1 161 = M.1 161 := lw1 hs (by omega)
          refine ⟨_, (L_t3d hj (show q < 4 by omega) (by rw [t176]; exact a2) (by rw [t176]; exact a4)).trans (L_t39s (V := V) (by omega) hj (by omega) (by rw [sI_1, if_neg (by omega), t161]; exact hVM) hV (by rw [sI_1, if_pos ⟨rfl, rfl⟩]) (by rw [sI_1, if_neg (by omega), t176]; exact d1)), ?_, (SmL.sI (by omega)).trans (SmL.sI (by omega))⟩
          rw [lawOf_in (by omega), lawOf_in (by omega), hs]
        · have := (hck q a1).1
          unfold RCk at this ⊢
          rw [sI_1, if_neg (by omega), sI_1, if_neg (by omega)]; exact this
        · rw [sI_1, if_neg (by omega), m2]; exact a2
        · rw [sI_1, if_neg (by omega)]; exact d3
        · rw [hM1.1 161 (by omega)]; exact hVM
        · exact (hck q' hq').fr (hsσ _ (by omega) (by omega)) (by rw [hsσ _ (by omega) (by omega)]) rfl rfl (fun x _ _ => by rw [hM1.1 172 (by omega)]) (hM1.sum q' V) (by omega)
        · by_cases ej : j' = j
          · subst ej
            refine ⟨?_, ?_, ?_, Or.inl ⟨hm0, ?_⟩⟩
            · rw [hm1 _ (by omega) (by omega), sI_1, if_neg (by omega), sI_1, if_neg (by omega), sI_1, if_neg (by omega), sI_1, if_neg (by omega)]; exact m0
            · rw [hm1 _ (by omega) (by omega)]; exact m1
            · rw [hm0, sI_1, if_neg (by omega), sI_1, if_pos ⟨rfl, rfl⟩]
            · rw [hm1 _ (by omega) (by omega), sI_1, if_neg (by omega), sI_1, if_neg (by omega), sI_1, if_pos ⟨rfl, rfl⟩]; exact a3.symm
          · exact (hmc j' hj').fr (hsσ _ (by omega) (by omega)) rfl (fun x h1 h2 => hm1 x (by omega) (by omega)) rfl (fun q' hq' => by rw [hM1.1 172 (by omega)]) (fun q' hq' _ _ g3 => by rw [hM1.ver]; exact g3)
        · have n1 : j1 ≠ j := fun e => by
            subst e
            rw [hm0] at w5
            exact iM_ne (show q' < 2147483648 by omega) w5.symm
          have n2 : j2 ≠ j := fun e => by
            subst e
            rw [hm0] at w6
            exact iM_ne (show q' < 2147483648 by omega) w6.symm
          rw [hm1 _ (by omega) (by omega)] at w5 w6 w7 w8
          rw [hM1.key, hM1.key]
          exact hlu j1 j2 w1 w2 w3 q' w4 w5 w6 w7 w8
        · exact (hrv.e176 hM1).places rfl (hsσ _ (by omega) (by omega)) rfl (hsσ _ (by omega) (by omega))
        · rw [hsσ _ (by omega) (by omega)]; exact hoth j' w1 w2
        · by_cases e : k = 0
          · subst e
            rw [sI_1, if_neg (by omega), sI_1, if_neg (by omega), sI_1, if_neg (by omega), sI_1, if_neg (by omega)]
          · rw [hsσ k (by omega) e]
        · rw [sI_1, if_pos ⟨rfl, rfl⟩]
    · -- it goes on
      obtain ⟨l', rfl⟩ : ∃ l', l = l' + 1 := ⟨l - 1, by omega⟩
      have hM1 : E176 M (sI M 176 (6 * j + 1) (iN (l' + 1))) := E176.sI
      have hm1 : ∀ x, x ≠ 6 * j + 1 → (sI M 176 (6 * j + 1) (iN (l' + 1))).1 176 x = M.1 176 x := fun x h1 => by
        rw [sI_1, if_neg (by omega)]
      have hsσ : ∀ k, k ≠ 144 + j → (sI σ (144 + j) 5 (iN (l' + 1))).1 k = σ.1 k := fun k hk => gU_ne _ _ _ hk
      refine ⟨sI σ (144 + j) 5 (iN (l' + 1)), sI M 176 (6 * j + 1) (iN (l' + 1)), V, U, fun s rec hs => ?_, fun rec => X_p12r (by omega) (show q < 4 by omega) (m2.trans a2) a6 (by omega) (by omega), ⟨hT, ?_, hen.e176 hM1, fun q' hq' => ?_, fun j' hj' => ?_, fun j1 j2 w1 w2 w3 q' w4 w5 w6 w7 w8 => ?_, ?_, fun j' w1 w2 => ?_⟩, by omega, by omega, by omega, ⟨fun k i w1 w2 w3 w4 w5 => ?_, fun k w1 w2 => rfl⟩, ⟨fun k x _ _ _ h4 => by rw [hM1.1 k h4], fun x _ => by rw [hM1.1 172 (by omega)], fun x h1 h2 => hm1 x (by omega), fun k _ => rfl⟩, Or.inr ⟨?_, rfl, fun k x w1 => ?_⟩⟩
      · have t176 : s.1 176 = M.1 176 := lw1 hs (by omega)
        refine ⟨_, L_t3r hj (show q < 4 by omega) (by rw [t176]; exact a2) (by rw [t176]; exact a4) (by omega) (by omega), ?_, SmL.sI (by omega)⟩
        rw [lawOf_in (by omega), hs]
      · rw [hM1.1 161 (by omega)]; exact hVM
      · exact (hck q' hq').fr (hsσ _ (by omega)) (by rw [hsσ _ (by omega)]) rfl rfl (fun x _ _ => by rw [hM1.1 172 (by omega)]) (hM1.sum q' V) (by omega)
      · by_cases ej : j' = j
        · subst ej
          refine ⟨?_, ?_, ?_, Or.inr ⟨q, l', a1, ?_, ?_, ?_, ?_, by omega, ?_, ?_, ?_⟩⟩
          · rw [hm1 _ (by omega), sI_1, if_neg (by omega)]; exact m0
          · rw [hm1 _ (by omega)]; exact m1
          · rw [hm1 _ (by omega), sI_1, if_neg (by omega)]; exact m2
          · rw [hm1 _ (by omega)]; exact a1b
          · rw [hm1 _ (by omega)]; exact a2
          · rw [hm1 _ (by omega)]; exact a3
          · rw [sI_1, if_pos ⟨rfl, rfl⟩]
          · rw [sI_1, if_pos ⟨rfl, rfl⟩]
          · rw [hM1.1 172 (by omega)]; exact a7
          · rcases a8 with ⟨d1, d2, d3⟩ | ⟨d1, a, d2, d3⟩
            · exact Or.inl ⟨by rw [hm1 _ (by omega)]; exact d1, by rw [sI_1, if_neg (by omega)]; exact d2, by rw [hM1.ver]; exact d3⟩
            · exact Or.inr ⟨by rw [hm1 _ (by omega)]; exact d1, a, d2, by rw [sI_1, if_neg (by omega)]; exact d3⟩
        · exact (hmc j' hj').fr (hsσ _ (by omega)) rfl (fun x h1 h2 => hm1 x (by omega)) rfl (fun q' hq' => by rw [hM1.1 172 (by omega)]) (fun q' hq' _ _ g3 => by rw [hM1.ver]; exact g3)
      · rw [hm1 _ (by omega)] at w5 w6 w7 w8
        rw [hM1.key, hM1.key]
        exact hlu j1 j2 w1 w2 w3 q' w4 w5 w6 w7 w8
      · exact (hrv.e176 hM1).places rfl (hsσ _ (by omega)) rfl (hsσ _ (by omega))
      · rw [hsσ _ (by omega)]; exact hoth j' w1 w2
      · rw [hsσ k (by omega)]
      · rw [hsσ 0 (by omega)]
      · by_cases e : k = 176
        · subst e
          exact hm1 x (by omega)
        · rw [hM1.1 k e]
