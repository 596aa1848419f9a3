/-! a machine takes on both sides, whole -/
theorem RCv.fr2 {σ M M' : gS} {T V U : Nat} {ag : Nat → Nat} (hr : RCv σ M T V U ag) (h2 : ∀ q, q < T → M'.1 172 (12 * q) = M.1 172 (12 * q)) (h4 : ∀ j, j < V → M'.2.1 174 j = M.2.1 174 j) (h5 : ∀ j, j < V → M'.1 175 j = M.1 175 j) : RCv σ M' T V U ag := by
  obtain ⟨len, f, t1, t2, t3⟩ := hr.tab
  refine RCv.of t1 t2 ⟨fun q hq t => ?_, t3.2⟩
  have e4 : ∀ key, entC M' V key = entC M V key := fun key => by
    have es : sEnt M' key V = sEnt M key V := sEnt_pre V h4
    cases e : sEnt M key V with
    | none => rw [entC_ev, entC_ev, ev_none e, ev_none (es.trans e)]
    | some i => rw [entC_ev, entC_ev, ev_some e, ev_some (es.trans e)]; unfold vN; rw [h5 i (sEnt_lt e).1]
  rw [h2 q hq, t3.1 q hq t, e4, gKey_same (h2 q hq)]
theorem J_take1 {N : Nat} {σ M M0 : gS} {n T G V U h sz dp Bu K j : Nat} {ag : Nat → Nat} (hN : 5000 ≤ N) (hj : j < 3) (hI : KI σ M M0 n T G V U h sz dp Bu K ag) (hK : K = 4 * (nBM M0 n T G V h sz dp + 1)) (hB : Bu < 9000) (hQ : QT M n T G V h sz dp j) :
    ∃ σ' M' : gS, (∀ (s : gS) (rec3 : (gS × Int32) → Option gS), lawOf s = M → ∃ s', fL_takes_3 N (trT M h) rec3 (s, iN j) = rec3 (s', iN (j + 1)) ∧ lawOf s' = M' ∧ SmL s s') ∧ (∀ rec84 : (gS × Int32) → Option gS, fX11_passTick_84 N rec84 (σ, iN j) = rec84 (σ', iN (j + 1))) ∧ KI σ' M' M0 n T G V U h sz dp (Bu + 3) K ag ∧ QT M' n T G V h sz dp (j + 1) ∧ FrT σ σ' ∧ FrU M M' := by
  have hI0 := hI
  obtain ⟨⟨hL, hlu⟩, ⟨hu1, hu2⟩, hy, ⟨⟨hcd, hnb⟩, hk, hle⟩, hW, hU, hC, htm, hoth⟩ := hI
  have hmono : KI σ M M0 n T G V U h sz dp (Bu + 3) K ag := ⟨⟨hL, hlu⟩, ⟨fun a ha => ⟨(hu1 a ha).1, by have := (hu1 a ha).2; omega⟩, hu2⟩, hy, ⟨⟨hcd, hnb⟩, hk, hle⟩, hW, hU, hC, htm, hoth⟩
  have hT4 := hC.1.1
  have hUW : UW M := fun a ha => ⟨⟨(hu1 a ha).1, by have := (hu1 a ha).2; omega⟩, hu2 a ha⟩
  have hTF : TF M n T G V dp := ⟨hL.1, hL.2.2.2.1, hL.2.2.2.2.1, hy, hUW, fun q hq => (htm q hq).2⟩
  have hcd4 : ∀ k x, cdO M0 n T G V h sz dp k = some x → x.1 < 4 := fun k x hx => by rw [← hcd] at hx; exact (cd_ok hT4 hx).1
  obtain ⟨m0, m1, m2, m3⟩ := hC.2.2.2.1 j hj
  have h116 : ∀ (rec84 : (gS × Int32) → Option gS) (s : gS), fX11_passTick_116 N rec84 s (iN j) = rec84 (s, iN (j + 1)) := fun rec84 s => by
    unfold fX11_passTick_116
    rw [i_1, iN_add]
  -- it isn't there, or runs
  have hskip : (M.1 176 (6 * j + 4) = iN 0 ∨ (M.1 176 (6 * j + 4) = iN 1 ∧ ∃ q, q < 4 ∧ M.1 176 (6 * j) = iN q)) → ∃ σ' M' : gS, (∀ (s : gS) (rec3 : (gS × Int32) → Option gS), lawOf s = M → ∃ s', fL_takes_3 N (trT M h) rec3 (s, iN j) = rec3 (s', iN (j + 1)) ∧ lawOf s' = M' ∧ SmL s s') ∧ (∀ rec84 : (gS × Int32) → Option gS, fX11_passTick_84 N rec84 (σ, iN j) = rec84 (σ', iN (j + 1))) ∧ KI σ' M' M0 n T G V U h sz dp (Bu + 3) K ag ∧ QT M' n T G V h sz dp (j + 1) ∧ FrT σ σ' ∧ FrU M M' := fun hs => by
    refine ⟨σ, M, fun s rec3 h1 => ⟨s, L_take3n h1 hj hs, h1, SmL.refl s⟩, fun rec84 => ?_, hmono, fun ⟨j', hj', hid⟩ => ?_, FrT.refl σ, FrU.refl M⟩
    · unfold fX11_passTick_84
      dsimp only
      rw [if_neg (show ¬ (6 : Int32) ≤ iN j by rw [i_6, iN_le (by omega) (by omega)]; omega), X_mach (show j < 6 by omega), Option.bind_some, m0, h116]
      rcases hs with e | ⟨e, q, hq, e2⟩
      · rw [e, if_pos (show iN 0 = (0 : Int32) from rfl)]
      · rw [e, if_neg (show ¬ iN 1 = (0 : Int32) by decide), m2, e2, if_neg (show ¬ iN q = (-1 : Int32) from iM_ne (by omega))]
    · refine hQ ⟨j', ?_, hid⟩
      by_cases e : j' = j
      · exfalso
        rw [e] at hid
        unfold idB at hid
        rcases hs with e1 | ⟨e1, q, hq, e2⟩
        · rw [e1] at hid; exact absurd hid.1 (by decide)
        · rw [e2] at hid; exact iM_ne (show q < 2147483648 by omega) hid.2
      · omega
  rcases m3 with ⟨a1, a2⟩ | ⟨q, l, a1, a1b, a3, a4⟩
  · rcases m1 with hth | hth
    · exact hskip (Or.inl hth)
    · -- it is there and idle
      have hch := chM_pick (M := M) (n := n) (G := G) (V := V) (h := h) (sz := sz) (dp := dp) hT4
      rw [hcd, hnb, ← hK] at hch
      have hX := X_takeWanted (r1 := 144 + j) (show 100 ≤ N by omega) hW hU hUW hk hcd4 hle
      have h84 : ∀ (rec84 : (gS × Int32) → Option gS) (s' : gS), fX11_takeWanted N σ (144 + j) = some s' → fX11_passTick_84 N rec84 (σ, iN j) = rec84 (s', iN (j + 1)) := fun rec84 s' hs' => by
        unfold fX11_passTick_84
        dsimp only
        rw [if_neg (show ¬ (6 : Int32) ≤ iN j by rw [i_6, iN_le (by omega) (by omega)]; omega), X_mach (show j < 6 by omega), Option.bind_some, m0, hth, if_neg (show ¬ iN 1 = (0 : Int32) by decide), m2, a1, if_pos (show iM = (-1 : Int32) from rfl), hs', Option.bind_some, h116]
      have hlaw := fun (s : gS) (rec3 : (gS × Int32) → Option gS) (h1 : lawOf s = M) => L_take3 (rec3 := rec3) (show 100 ≤ N by omega) h1 hL hTF hj hth a1
      rcases hX with ⟨x1, x2⟩ | ⟨i, k, x, x1, x2, x3, x4, x5, x6⟩
      · rw [x1] at hch
        have hch : chM M n T G V h sz dp = none := hch
        refine ⟨σ, M, fun s rec3 h1 => ?_, fun rec84 => h84 rec84 σ x2, hmono, fun _ => hch, FrT.refl σ, FrU.refl M⟩
        obtain ⟨s', v1, v2, v3⟩ := hlaw s rec3 h1
        rw [hch] at v2
        exact ⟨s', v1, v2, v3⟩
      · rw [x3, rsl_some x4] at hch
        have hx4 := hcd4 k x x4
        have hxm := cd_ok hT4 (by rw [hcd]; exact x4 : cdO M n T G V h sz dp k = some x)
        have hxT : x.1 < T := by
          have := cdM_q (b := k / 4) (by rw [← hcd] at x4; exact x4)
          rw [this.2]; exact this.1
        obtain ⟨t1, t2, t3, t4⟩ := htm x.1 hxT
        have hrk := (hC.2.2.1 x.1 hxT).1
        have h47 := X_tw47 (N := N) (i := i) (j := j) (ag := ag) (x := x) hj hW x1 (by rw [x2]; exact x4) hrk t1 a2 t2 t3 t4 hU
        have htb := tmT_bd (j := j) t3 t4
        have hfr := fun q' t' (hq' : q' < 4) => fr_tk (n := n) (T := T) (G := G) (V := V) (v := tmT M j x.1) (tm := x.2.2.1) (t := x.2.1) (t' := t') hj a1 hx4 hq'
        have hCg : Cg M (tkM M j x.1 (tmT M j x.1) x.2.1 x.2.2.1) n T G V := Cg.tk
        have hI' : ∀ k' x', k' ≠ 176 → ¬ (k' = 178 ∧ x' < 3) → (tkM M j x.1 (tmT M j x.1) x.2.1 x.2.2.1).1 k' x' = M.1 k' x' := fun k' x' => tkM_I k' x'
        have hJ' : ∀ k', k' ≠ 177 → (tkM M j x.1 (tmT M j x.1) x.2.1 x.2.2.1).2.1 k' = M.2.1 k' := fun k' e => funext (fun y => tkM_J k' y (by omega))
        have htr : trT (tkM M j x.1 (tmT M j x.1) x.2.1 x.2.2.1) h = trT M h := by unfold trT; rw [hJ' 171 (by omega)]
        have h176 := fun y => tkM_176 (M := M) (j := j) (q := x.1) (v := tmT M j x.1) (tm := x.2.2.1) (t := x.2.1) y
        have hkey := fun q' (hq' : q' < 4) t' => cg_key (T := 4) (Cg.tk : Cg M (tkM M j x.1 (tmT M j x.1) x.2.1 x.2.2.1) 0 4 0 0) hq' t'
        have hon : ∀ j', j' < 3 → M.1 176 (6 * j') = iN x.1 → M.1 176 (6 * j' + 2) = iN 0 → gKey M x.1 (M.2.1 177 j') ≠ gKey M x.1 x.2.1 := fun j' hj' e1 e2 e3 => by
          unfold frM at x5
          rw [Bool.and_eq_true] at x5
          have : sAny (onB M x.1 x.2.1) 3 = true := sAny_iff.mpr ⟨j', hj', by
            unfold onB
            rw [decide_eq_true e1, decide_eq_true e2, decide_eq_true e3]; rfl⟩
          rw [this] at x5
          exact absurd x5.2 (by decide)
        have hv178 : ∀ a, a < 3 → vN (tkM M j x.1 (tmT M j x.1) x.2.1 x.2.2.1) 178 a = (if a = x.2.2.1 ∧ x.2.2.1 < 3 then vN M 178 x.2.2.1 + tmT M j x.1 else vN M 178 a) ∧ (tkM M j x.1 (tmT M j x.1) x.2.1 x.2.2.1).1 178 a = iN (vN (tkM M j x.1 (tmT M j x.1) x.2.1 x.2.2.1) 178 a) := fun a ha => by
          have e : (tkM M j x.1 (tmT M j x.1) x.2.1 x.2.2.1).1 178 a = iN (if a = x.2.2.1 ∧ x.2.2.1 < 3 then vN M 178 x.2.2.1 + tmT M j x.1 else vN M 178 a) := by
            rw [tkM_178]
            by_cases c : a = x.2.2.1 ∧ x.2.2.1 < 3
            · rw [if_pos c, if_pos c]
            · rw [if_neg c, if_neg c]; exact (hu1 a ha).1
          have e2 : vN (tkM M j x.1 (tmT M j x.1) x.2.1 x.2.2.1) 178 a = (if a = x.2.2.1 ∧ x.2.2.1 < 3 then vN M 178 x.2.2.1 + tmT M j x.1 else vN M 178 a) := by
            have hb : (if a = x.2.2.1 ∧ x.2.2.1 < 3 then vN M 178 x.2.2.1 + tmT M j x.1 else vN M 178 a) < 2147483648 := by
              have := (hu1 a ha).2
              split
              · rename_i c
                have := (hu1 _ c.2).2
                omega
              · omega
            show ((tkM M j x.1 (tmT M j x.1) x.2.1 x.2.2.1).1 178 a).toNatClampNeg = _
            rw [e, iN_cl hb]
          exact ⟨e2, by rw [e2]; exact e⟩
        have hw178 : ∀ a, a < 3 → vN (tkM M j x.1 (tmT M j x.1) x.2.1 x.2.2.1) 178 (3 + a) = vN M 178 (3 + a) := fun a ha => by
          unfold vN
          rw [hI' 178 (3 + a) (by omega) (by omega)]
        obtain ⟨fm0, fm2, fm4, fm5, fm3⟩ := tkF_m (σ := σ) (i := i) (j := j) (q := x.1) (v := tmT M j x.1) (a := ag x.1) (tm := x.2.2.1) (u := vN M 178 x.2.2.1) (w := x.2.1 &&& gMask (M.1 172 (12 * x.1))) hj
        have hσI := fun k' (e : k' ≠ 144 + j) => tkF_I (σ := σ) (i := i) (j := j) (q := x.1) (v := tmT M j x.1) (a := ag x.1) (tm := x.2.2.1) (u := vN M 178 x.2.2.1) (w := x.2.1 &&& gMask (M.1 172 (12 * x.1))) k' e
        have hσJ := fun k' y => tkF_J (σ := σ) (i := i) (j := j) (q := x.1) (v := tmT M j x.1) (a := ag x.1) (tm := x.2.2.1) (u := vN M 178 x.2.2.1) (w := x.2.1 &&& gMask (M.1 172 (12 * x.1))) k' y
        have h172 : (tkM M j x.1 (tmT M j x.1) x.2.1 x.2.2.1).1 172 = M.1 172 := funext (fun y => hI' 172 y (by omega) (by omega))
        refine ⟨_, tkM M j x.1 (tmT M j x.1) x.2.1 x.2.2.1, fun s rec3 h1 => ?_, fun rec84 => h84 rec84 _ (x6.trans h47), ⟨⟨⟨hL.1.fr ?_ ?_ ?_ ?_ (fun c _ => ?_) (fun c _ => ?_) (fun c _ => ?_) (fun c _ => ?_) (fun a ha => ?_), ⟨?_, hL.2.1.2⟩, ⟨?_, hL.2.2.1.2⟩, ⟨?_, hL.2.2.2.2⟩⟩, fun j1 j2 w1 w2 w3 q' w4 w5 w6 w7 w8 => ?_⟩, ⟨fun a ha => ⟨(hv178 a ha).2, ?_⟩, fun a ha => ?_⟩, fun j' hj' => ?_, ⟨?_, fun q' hq' => ?_, fun q' t' hq' hf => ?_⟩, ?_, fun a ha => ⟨?_, ?_⟩, ⟨⟨hT4, ?_⟩, ⟨?_, fun y hy => ?_⟩, fun q' hq' => ?_, fun j' hj' => ?_, fun j' w1 w2 => ?_⟩, fun q' hq' => ?_, fun j' w1 w2 => ?_⟩, fun ⟨j', hj', hid⟩ => ?_, ⟨fun k' e => hσI k' (by omega), fun k' e1 e2 e3 => funext (fun y => hσJ k' y (by omega) (by omega) (by omega)), ?_⟩, ⟨hI', hJ'⟩⟩
        · obtain ⟨s', v1, v2, v3⟩ := hlaw s rec3 h1
          rw [hch] at v2
          exact ⟨s', v1, v2, v3⟩
        · exact hI' 161 0 (by omega) (by omega)
        · exact hI' 161 2 (by omega) (by omega)
        · exact hI' 161 3 (by omega) (by omega)
        · exact hI' 161 4 (by omega) (by omega)
        · exact hI' 163 c (by omega) (by omega)
        · exact hI' 162 c (by omega) (by omega)
        · exact hI' 173 c (by omega) (by omega)
        · exact hI' 175 c (by omega) (by omega)
        · have := hL.1.2.2.2.2.2 a ha
          unfold vN at this ⊢
          rw [hI' 178 (6 + a) (by omega) (by omega)]; exact this
        · rw [hI' 161 1 (by omega) (by omega)]; exact hL.2.1.1
        · rw [hI' 161 5 (by omega) (by omega)]; exact hL.2.2.1.1
        · rw [hI' 161 6 (by omega) (by omega)]; exact hL.2.2.2.1
        · rw [hkey q' w4, hkey q' w4]
          rw [h176] at w5 w6 w7 w8
          by_cases e1 : j1 = j
          · subst e1
            rw [if_neg (by omega), if_neg (by omega), if_neg (by omega), if_pos rfl] at w5
            rw [if_neg (by omega), if_neg (by omega), if_neg (by omega), if_neg (by omega)] at w6
            rw [if_neg (by omega), if_neg (by omega), if_neg (by omega), if_neg (by omega)] at w8
            have eq := iN_inj (show x.1 < 2147483648 by omega) (show q' < 2147483648 by omega) w5
            subst eq
            rw [tkM_z, tkM_J _ _ (by omega)]
            exact fun e => hon j2 w2 w6 w8 e.symm
          · by_cases e2 : j2 = j
            · subst e2
              rw [if_neg (by omega), if_neg (by omega), if_neg (by omega), if_pos rfl] at w6
              rw [if_neg (by omega), if_neg (by omega), if_neg (by omega), if_neg (by omega)] at w5
              rw [if_neg (by omega), if_neg (by omega), if_neg (by omega), if_neg (by omega)] at w7
              have eq := iN_inj (show x.1 < 2147483648 by omega) (show q' < 2147483648 by omega) w6
              subst eq
              rw [tkM_z, tkM_J _ _ (by omega)]
              exact hon j1 w1 w5 w7
            · rw [if_neg (by omega), if_neg (by omega), if_neg (by omega), if_neg (by omega)] at w5 w6 w7 w8
              rw [tkM_J _ _ (by omega), tkM_J _ _ (by omega)]
              exact hlu j1 j2 w1 w2 w3 q' w4 w5 w6 w7 w8
        · rw [(hv178 a ha).1]
          have := (hu1 a ha).2
          split
          · rename_i c
            have := (hu1 _ c.2).2
            omega
          · omega
        · rw [hw178 a ha, hI' 178 (3 + a) (by omega) (by omega)]; exact hu2 a ha
        · rw [h176]
          by_cases e : j' = j
          · subst e
            rw [if_neg (by omega), if_pos rfl]; exact Or.inl rfl
          · rw [if_neg (by omega), if_neg (by omega), if_neg (by omega), if_neg (by omega)]; exact hy j' hj'
        · obtain ⟨c1, c2⟩ := cg_cdO hCg hL htr (hI' 161 8 (by omega) (by omega))
          exact ⟨c1.trans hcd, c2.trans hnb⟩
        · rw [h172]; exact hk q' hq'
        · rw [hfr q' t' hq', Bool.and_eq_true] at hf
          exact hle q' t' hq' hf.1
        · obtain ⟨⟨c1, c2, c3, c4⟩, h20, hc⟩ := hW
          refine ⟨⟨by rw [hσI 126 (by omega)]; exact c1, by rw [hσI 128 (by omega)]; exact c2, by rw [hσI 130 (by omega)]; exact c3, by rw [hσI 132 (by omega)]; exact c4⟩, h20, fun i' hi' => ?_⟩
          obtain ⟨y, y1, y2, y3, y4, y5, y6⟩ := hc i' hi'
          refine ⟨y, y1, y2, by rw [hσJ 127 i' (by omega) (by omega) (by omega)]; exact y3, by rw [hσJ 129 i' (by omega) (by omega) (by omega), h172]; exact y4, by rw [hσJ 131 i' (by omega) (by omega) (by omega)]; exact y5, ?_⟩
          rw [hfr y.1 y.2.1 y2.1]
          by_cases e : i' = i
          · subst e
            have exy : x = y := by
              rw [x2] at y1
              exact Option.some.inj (x4.symm.trans y1)
            subst exy
            rw [tkF_133, decide_eq_true rfl, decide_eq_true rfl]
            simp
          · have hne : (oLs M0 V (cdO M0 n T G V h sz dp) K).getD i 0 ≠ (oLs M0 V (cdO M0 n T G V h sz dp) K).getD i' 0 := fun ee => e (oLs_inj K i' i hi' x1 ee.symm)
            have s1 := ((oLs_mem K _).mp (gD_mem x1)).2
            have s2 := ((oLs_mem K _).mp (gD_mem hi')).2
            have hx' : cdO M0 n T G V h sz dp ((oLs M0 V (cdO M0 n T G V h sz dp) K).getD i 0) = some x := by rw [x2]; exact x4
            have hdf := sel_diff s1 s2 hx' y1 hne
            have hb : (decide (x.1 = y.1) && decide (gKey M y.1 x.2.1 = gKey M y.1 y.2.1)) = false := by
              by_cases d : x.1 = y.1
              · have : ¬ gKey M y.1 x.2.1 = gKey M y.1 y.2.1 := fun ee => hdf ⟨d, by
                  rw [gKey_same (hk x.1 hx4).symm, gKey_same (hk x.1 hx4).symm, d]; exact ee⟩
                rw [decide_eq_false this, Bool.and_false]
              · rw [decide_eq_false d]; rfl
            rw [hb, Bool.not_false, Bool.and_true, hσJ 133 i' (by omega) (fun ee => e ee.2) (by omega)]; exact y6
        · rw [(hv178 a ha).1]
          by_cases c : a = x.2.2.1 ∧ x.2.2.1 < 3
          · rw [if_pos c, c.1]; exact tkF_158 (by omega)
          · rw [if_neg c, hσJ 158 a (by omega) (by omega) (fun ee => c ⟨ee.2.1, by have := hxm.2.1; omega⟩)]; exact (hU a ha).1
        · rw [hw178 a ha, hσJ 156 a (by omega) (by omega) (by omega)]; exact (hU a ha).2
        · rw [hσI 65 (by omega)]; exact hC.1.2
        · refine (hC.2.1.1.fr2 (fun q' _ => by rw [h172]) (fun y _ => by rw [hJ' 174 (by omega)]) (fun y _ => hI' 175 y (by omega) (by omega))).places ?_ (hσI 106 (by omega)) (funext (fun y => hσJ 107 y (by omega) (by omega) (by omega))) (hσI 108 (by omega))
          unfold tkF tkS
          split <;> rfl
        · have := hC.2.1.2 y hy
          unfold vN at this ⊢
          rw [hI' 175 y (by omega) (by omega)]; exact this
        · refine ⟨?_, (hC.2.2.1 q' hq').2⟩
          have := (hC.2.2.1 q' hq').1
          unfold RCk at this ⊢
          rw [hσI _ (by omega), hσJ _ 3 (by omega) (by omega) (by omega), h172]; exact this
        · by_cases e : j' = j
          · subst e
            refine ⟨?_, ?_, ?_, Or.inr ⟨x.1, tmT M j' x.1 - 1, hxT, ?_, ?_, ?_, ?_, by omega, ?_, ?_, Or.inl ⟨?_, ?_, ?_⟩⟩⟩
            · rw [fm0, h176, if_neg (by omega), if_neg (by omega), if_neg (by omega), if_neg (by omega)]; exact m0
            · rw [h176, if_neg (by omega), if_neg (by omega), if_neg (by omega), if_neg (by omega)]; exact Or.inr hth
            · rw [fm2, h176, if_neg (by omega), if_neg (by omega), if_neg (by omega), if_pos rfl]
            · rw [h176, if_neg (by omega), if_neg (by omega), if_neg (by omega), if_neg (by omega)]; exact hth
            · rw [h176, if_neg (by omega), if_neg (by omega), if_neg (by omega), if_pos rfl]
            · rw [h176, if_pos rfl]
            · rw [h176, if_neg (by omega), if_neg (by omega), if_pos rfl]; exact congrArg iN (by omega)
            · rw [fm5]; exact congrArg iN (by omega)
            · rw [fm3, tkM_z, h172]
            · rw [h176, if_neg (by omega), if_pos rfl]
            · exact fm4
            · rw [tkM_z, cg_ver hCg hxT]
              unfold frM at x5
              rw [Bool.and_eq_true] at x5
              exact eq_of_beq x5.1
          · refine (hC.2.2.2.1 j' hj').fr (hσI _ (by omega)) (hσJ _ 3 (by omega) (by omega) (by omega)) (fun y h1 h2 => ?_) (tkM_J _ _ (by omega)) (fun q' _ => by rw [h172]) (fun q' hq' _ _ hz => ?_)
            · rw [h176, if_neg (by omega), if_neg (by omega), if_neg (by omega), if_neg (by omega)]
            · rw [cg_ver hCg hq']; exact hz
        · rw [hσI _ (by omega)]; exact hC.2.2.2.2 j' w1 w2
        · have v2 : vN (tkM M j x.1 (tmT M j x.1) x.2.1 x.2.2.1) 172 (12 * q' + 1) = vN M 172 (12 * q' + 1) := by unfold vN; rw [h172]
          rw [hσI _ (by omega), h172, v2]; exact htm q' hq'
        · rw [hσI _ (by omega)]; exact hoth j' w1 w2
        · exfalso
          unfold idB at hid
          rw [h176, h176] at hid
          by_cases e : j' = j
          · subst e
            have := hid.2
            rw [if_neg (by omega), if_neg (by omega), if_neg (by omega), if_pos rfl] at this
            exact iM_ne (show x.1 < 2147483648 by omega) this
          · rw [if_neg (by omega), if_neg (by omega), if_neg (by omega), if_neg (by omega), if_neg (by omega), if_neg (by omega), if_neg (by omega), if_neg (by omega)] at hid
            have := hQ ⟨j', by omega, hid⟩
            rw [hch] at this; cases this
        · unfold tkF tkS
          split <;> rfl
  · exact hskip (Or.inr ⟨a1b, q, by omega, a3⟩)
