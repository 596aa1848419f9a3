/-! a turn of deciding on both sides, whole -/
theorem fits_cmp {b : Bool} : (iB b = (0 : Int32)) = (b = false) := iB0
theorem J_dec {N : Nat} {σ M : gS} {n T G V U h sz dp : Nat} {ag : Nat → Nat} (hN : 5000 ≤ N) (hd : DI σ M n T G V U h sz dp ag) :
    (stopD M n T G V h sz dp ∧ ∃ σ', fX11_decideOnce N σ = some ((0 : Int32), σ') ∧ DI σ' M n T G V U h sz dp ag ∧ σ'.1 109 3 = iN 1 ∧ Fm σ' M n T G sz dp (trT M h) ∧ FrD n σ σ' ∧ σ'.1 0 18 = σ.1 0 18) ∨
    ∃ (σ' M' : gS) (h' : Nat), fX11_decideOnce N σ = some ((1 : Int32), σ') ∧ DI σ' M' n T G V U h' sz dp ag ∧ cnS M' n 1 < cnS M n 1 ∧ FrD n σ σ' ∧ FrN n M M' ∧ (DG M n h → DG M' n h') ∧ ∀ (s : gS) (rec3 : (gS × Int32) → Option (Int64 × gS)), lawOf s = M → ∃ s', fL_decides_3 N rec3 (s, iN 1) = rec3 (s', iN 1) ∧ lawOf s' = M' ∧ SmL s s' := by
  have hN1 : 100 ≤ N := by omega
  obtain ⟨σ1, f1, f2, f3, f4, f5⟩ := C_form hN1 hd
  obtain ⟨hLD, ⟨q1, q2, q3, q4⟩, a3, a4, a5, a6, a7, a8, a9, a10, a11⟩ := id f5
  obtain ⟨hF, hh, h5, h6⟩ := id hLD
  have hn := hF.1.2.1
  have hp := hF.1.2.2
  have hol := ordM_len (M := M) (n := n)
  have ho1 := f4.1.1
  have s18 : σ1.1 0 18 = σ.1 0 18 := f2.2.1 0 18 (by omega) (by omega)
  cases e : nx M (Wl M (iN 0)) n with
  | none =>
    refine Or.inl ⟨Or.inl e, σ1, ?_, f5, f3, f4, FrD.smF f2, s18⟩
    rw [nx_ord0 e] at ho1
    unfold fX11_decideOnce
    rw [f1, Option.bind_some, ho1, if_pos (show iN ([] : List Nat).length = (0 : Int32) from rfl)]
  | some c =>
    obtain ⟨rr, hr⟩ := nx_ord e
    have hcn := (nx_lt e).1
    have hcs : M.1 164 c = iN 1 := by
      have := (nx_lt e).2.1
      rw [Wl_0] at this
      exact of_decide_eq_true this
    have ho2 := f4.1.2 0 (by rw [hr]; simp)
    rw [hr] at ho1 ho2 hol
    rw [List.length_cons] at ho1 hol
    have g110 := X_whole (N := N) (σ := σ1) (r := 110) (j := 0) (len := 60) rfl (show 0 < 60 by omega) (show (60 : Nat) < 1000 by decide)
    rw [ho2, show (c :: rr).getD 0 0 = c from rfl, jN_32 (by omega)] at g110
    have hfit := X_fitsC (N := N) (t := trT M h) (a3.2 c hcn).1.2.2.2.1
    have hpre : fX11_decideOnce N σ = if iB (bFit (M.1 168 c) (M.2.1 169 c) (trT M h)) = (0 : Int32) then ((fX11_takeOutOfQueue N σ1 (5 + c) (4 : Int32)).bind fun r_37 => some (1, r_37.2)) else ((fX11_lookAtFirstBatch N σ1).bind fun r_14 => if (r_14.1 118 3) = 1 then ((fX11_landFirstBatch N r_14).bind fun r_34 => if ¬ (r_34.1 = 0 ∨ r_34.1 = 1) then none else (some (r_34.1, r_34.2))) else ((fX0_isNarrowed N r_14).bind fun r_17 => if r_17 = 0 then (fX11_decideOnce_156 N r_14) else ((fX11_verdictBehindGood N r_14).bind fun r_20 => if r_20 = 1 then ((fX8_whole N r_14 112 ((r_14.1 118 5) - 1)).bind fun r_23 => (fX2_at N r_14 r_23).bind fun r_25 => (fX8_get N r_14 159 (r_14.1 r_25 1)).bind fun r_28 => (fX8_set N r_14 159 (r_14.1 r_25 1) (r_28 + 1)).bind fun r_30 => (fX11_takeOutOfQueue N r_30 r_25 (3 : Int32)).bind fun r_32 => some (1, r_32.2)) else (fX11_decideOnce_156 N r_14)))) := by
      unfold fX11_decideOnce
      rw [f1, Option.bind_some, ho1, if_neg (show ¬ iN (rr.length + 1) = (0 : Int32) by rw [i_0, iN_eq (by omega) (by omega)]; omega), i_0, g110, Option.bind_some, X2_at (show c < 60 by omega), Option.bind_some, X_trunk a5, Option.bind_some, hfit, Option.bind_some]
    have hst0 : stOK M n := q1
    -- leaving the queue, in general
    have hto : ∀ (σ2 M2 : gS) (d st : Nat), d < n → 3 ≤ st ∧ st ≤ 5 → σ2.1 1 4 = iN n → (∀ x, x < n → σ2.1 (5 + x) 0 = iN x ∧ σ2.1 (5 + x) 3 = M.1 164 x ∧ σ2.1 (5 + x) 2 = M.1 163 x) → ∃ r, fX11_takeOutOfQueue N σ2 (5 + d) (iN st) = some (r, toS σ2 M d st n) := fun σ2 M2 d st hd hs hcnt hx => by
      have := X_takeOut (N := N) (σ := σ2) (M := M) (c := d) (st := st) hN1 hcnt hn hp hd hs (hx d hd).1 (fun x hx' => (hx x hx').2.1) (fun x hx' => (hx x hx').2.2)
      obtain ⟨r, hr⟩ : ∃ r, fJ13_bitCount_95d88 N (toS σ2 M d st n) (gJ M d n) = some r := ⟨_, rfl⟩
      exact ⟨r, by rw [this, hr, Option.bind_some]⟩
    cases hb : bFit (M.1 168 c) (M.2.1 169 c) (trT M h) with
    | false =>
      -- it clashes
      rw [hb, if_pos (show iB false = (0 : Int32) from rfl)] at hpre
      obtain ⟨r, hr2⟩ := hto σ1 M c 4 hcn (by omega) a3.1 (fun x hx => ⟨(a3.2 x hx).2.1, (a3.2 x hx).1.2.1, (a3.2 x hx).1.2.2.2.1.2.2.2⟩)
      rw [i_4, hr2, Option.bind_some] at hpre
      refine Or.inr ⟨toS σ1 M c 4 n, row4 M (lvS M c 4 n), h, hpre, f5.out hcn hcs (by omega) rfl (fun _ _ => rfl) rfl (fun _ _ => rfl) rfl (fun a ha => ⟨(hF.2.2.2.2.2 a ha).1, ?_⟩) a6, ?_, (FrD.smF f2).trans (FrD.leave hn rfl (fun _ _ => rfl) rfl), ⟨fun k i e1 _ _ _ => lv_far hcn rfl k i e1, fun _ _ => rfl, fun i e => lv_z (by omega) i e⟩, fun hg => hg.same rfl (row4_far _ _ (by omega)), fun s rec3 hs => L_dec1 hN1 hs hLD q2 q1 e hb⟩
      · rw [cn_other hcs (by omega) (by omega) (by omega) (by omega) (by omega)]; exact q4 a ha
      · show sCnt (fun d => decide ((row4 M (lvS M c 4 n)).1 164 d = iN 1)) n < _
        rw [row4_1]; exact cn_less hcn hcs (by omega)
    | true =>
      rw [hb, if_neg (show ¬ iB true = (0 : Int32) by decide)] at hpre
      obtain ⟨σ2, l1, l2, l3, l4, l5, l6⟩ := C_look hN f5 f3 f4
      have hFF := FF_ok (M := M) (n := n) (sz := sz) (dp := dp) (t := trT M h) hn h5.2.2 h6.2.2
      rw [l1, Option.bind_some] at hpre
      have l4' := l4.sm hn l2
      have hfr2 : FrD n σ σ2 := (FrD.smF f2).trans (FrD.sm l2)
      have s182 : σ2.1 0 18 = σ.1 0 18 := by rw [(l2.1 0 (by omega)).1]; exact s18
      have h93 : σ2.1 109 3 = iN 1 := by rw [(l2.1 109 (by omega)).1]; exact f3
      obtain ⟨k1, k2, k3, k4⟩ := id l3
      have hnar := X_narrowed (N := N) l3 (by omega)
      have k2' : σ2.1 118 3 = iN (fvd M n T G V h sz dp) := k2
      rcases fvd3 M n T G V h sz dp with ev | ev | ev
      · -- open
        refine Or.inl ⟨Or.inr ⟨c, e, hb, Or.inl ev⟩, σ2, ?_, l6, h93, l5, hfr2, s182⟩
        have en : narB M T G V (trT M h) (FF M n sz dp (trT M h)) = false := by
          unfold narB
          rw [decide_eq_false (show ¬ vdF M T G V (trT M h) (FF M n sz dp (trT M h)) (FF M n sz dp (trT M h)).length = 2 from fun x => by
            have : fvd M n T G V h sz dp = 2 := x
            omega)]; rfl
        rw [hpre, k2', ev, if_neg (show ¬ iN 0 = (1 : Int32) by decide), hnar, Option.bind_some, en, if_pos (show iB false = (0 : Int32) from rfl)]
        rfl
      · -- passed
        have hne := FF_ne (M := M) (n := n) (sz := sz) (dp := dp) (t := trT M h) q2 h5.2.1 h6.2.1 e hb
        have hcnt := FF_cnt (M := M) (n := n) (sz := sz) (dp := dp) (t := trT M h) h6.2.1
        obtain ⟨z1, z2, z3, z4, z5, z6, z7, z8, z9, z10, z11⟩ := id l6
        have h117 : σ2.2.1 117 0 = treeL M (trT M h) (FF M n sz dp (trT M h)) := by
          have hbl : 0 < (batM M n sz dp (trT M h)).length := by
            rcases Nat.eq_zero_or_pos (batM M n sz dp (trT M h)).length with z | z
            · exfalso
              apply hne
              unfold FF
              rw [List.length_eq_zero_iff.mp z]; rfl
            · exact z
          have := l5.2.1.2.2.2.2.2 0 hbl
          rw [take1] at this; exact this
        have hland := X_land (N := N) (F := FF M n sz dp (trT M h)) (h := h) (L := cnS M n 2) hN1 hn l4' (by omega) hne z5.2.2.2.1 (by have := hh.2.2; omega) z9 h117
        obtain ⟨w1, w2⟩ := l6.land (tr := treeL M (trT M h) (FF M n sz dp (trT M h))) hne hFF.2 hcnt
        refine Or.inr ⟨_, _, h + 1, ?_, w1, w2, hfr2.trans (FrD.ld (fun c hc => (hFF.2 c hc).1) hn), ⟨fun k i e1 e2 e3 _ => land_far (fun c hc => (hFF.2 c hc).1) k i e1 e2 e3, fun k e1 => funext (fun j => landM_J _ _ _ _ _ _ (by omega)), fun i e => land_z i e⟩, fun hg => hg.land hh.2.1 (fun c hc => (hFF.2 c hc).1), fun s rec3 hs => L_dec2 hN1 hs hLD e hb ev⟩
        rw [hpre, k2', ev, if_pos (show iN 1 = (1 : Int32) from rfl), hland, Option.bind_some]
        exact if_neg (fun x => x (Or.inr rfl))
      · -- failed
        have ev2 : vdF M T G V (trT M h) (FF M n sz dp (trT M h)) (FF M n sz dp (trT M h)).length = 2 := ev
        have hpos := vd_pos ev2
        obtain ⟨m4, m5, m6⟩ := k4 ev2
        have hbd := bisB_bd (vd := vdF M T G V (trT M h) (FF M n sz dp (trT M h))) (w := wtF M (FF M n sz dp (trT M h))) (FF M n sz dp (trT M h)).length 0 (FF M n sz dp (trT M h)).length hpos
        have hb1 : (fbs M n T G V h sz dp).1 < (fbs M n T G V h sz dp).2.1 := hbd.1
        have hb2 : (fbs M n T G V h sz dp).2.1 ≤ (FF M n sz dp (trT M h)).length := hbd.2.2.1
        have hnb := bisB_nar (vd := vdF M T G V (trT M h) (FF M n sz dp (trT M h))) (w := wtF M (FF M n sz dp (trT M h))) (FF M n sz dp (trT M h)).length 0 (FF M n sz dp (trT M h)).length hpos (by omega)
        have hnb2 : ((fbs M n T G V h sz dp).2.2 = none ∧ (fbs M n T G V h sz dp).2.1 - (fbs M n T G V h sz dp).1 = 1) ∨ (∃ k, (fbs M n T G V h sz dp).2.2 = some k ∧ (fbs M n T G V h sz dp).1 < k ∧ k < (fbs M n T G V h sz dp).2.1) := hnb
        have hn1 : ¬ σ2.1 118 3 = (1 : Int32) := by rw [k2', ev]; decide
        rw [if_neg hn1, hnar, Option.bind_some] at hpre
        rcases hnb2 with ⟨b1, b2⟩ | ⟨k, b1, b2, b3⟩
        · -- narrowed down
          have en : narB M T G V (trT M h) (FF M n sz dp (trT M h)) = true := by
            unfold narB
            rw [decide_eq_true ev2, decide_eq_true (show (bisM M T G V (trT M h) (FF M n sz dp (trT M h))).2.1 - (bisM M T G V (trT M h) (FF M n sz dp (trT M h))).1 = 1 from b2)]; rfl
          have hver : verS N σ2 M T V := by
            obtain ⟨z1, z2, z3, z4, z5, z6, z7, z8, z9, z10, z11⟩ := id l6
            exact verS_of hN z4.1.1 z4.1.2 z10 z11 (fun j hj => (hF.2.2.2.2.1.2.2 j hj).2)
          have hvbg := X_vbg (N := N) (g := (fbs M n T G V h sz dp).1) (b := (fbs M n T G V h sz dp).2.1) hN1 hver k1 hb2 (by omega) (by omega) m4 m5
          have hT32 : T ≤ 32 := by have := hF.2.1.2; omega
          have hv1 := vbG_1 (M := M) (T := T) (G := G) (V := V) (g := (fbs M n T G V h sz dp).1) (b := (fbs M n T G V h sz dp).2.1) (v := 1) (t := trT M h) (F := FF M n sz dp (trT M h)) hT32 (by omega)
          have hiff : vbG (orT (flB M T G V (trT M h) (FF M n sz dp (trT M h)) (fbs M n T G V h sz dp).1 (fbs M n T G V h sz dp).2.1 3) T) (fun q => sVer M V q (treeL M (trT M h) ((FF M n sz dp (trT M h)).take (fbs M n T G V h sz dp).1))) T = 1 ↔ ¬ ffl M n T G V h sz dp 1 = iN 0 := by
            rw [vbG_iff, hv1]
            unfold ffl
            rw [orT_0 T hT32]
            cases sAny (flB M T G V (trT M h) (FF M n sz dp (trT M h)) (fbs M n T G V h sz dp).1 (fbs M n T G V h sz dp).2.1 1) T <;> simp
          have hv3 : vbG (orT (flB M T G V (trT M h) (FF M n sz dp (trT M h)) (fbs M n T G V h sz dp).1 (fbs M n T G V h sz dp).2.1 3) T) (fun q => sVer M V q (treeL M (trT M h) ((FF M n sz dp (trT M h)).take (fbs M n T G V h sz dp).1))) T < 3 := by
            unfold vbG
            split
            · omega
            · split <;> omega
          rw [en, if_neg (show ¬ iB true = (0 : Int32) by decide), hvbg, Option.bind_some] at hpre
          generalize vbG (orT (flB M T G V (trT M h) (FF M n sz dp (trT M h)) (fbs M n T G V h sz dp).1 (fbs M n T G V h sz dp).2.1 3) T) (fun q => sVer M V q (treeL M (trT M h) ((FF M n sz dp (trT M h)).take (fbs M n T G V h sz dp).1))) T = w at hpre hiff hv3
          by_cases ew : w = 1
          · -- one is to blame
            have e5 := hiff.mp ew
            obtain ⟨z1, z2, z3, z4, z5, z6, z7, z8, z9, z10, z11⟩ := id l6
            have hjb : (fbs M n T G V h sz dp).2.1 - 1 < (FF M n sz dp (trT M h)).length := by omega
            have hrm := hFF.2 _ (gD_mem hjb)
            have hrm2 : (FF M n sz dp (trT M h)).getD ((fbs M n T G V h sz dp).2.1 - 1) 0 = fred M n T G V h sz dp := rfl
            rw [hrm2] at hrm
            have g112 := X_whole (N := N) (σ := σ2) (r := 112) (j := (fbs M n T G V h sz dp).2.1 - 1) (len := 32) rfl (show (fbs M n T G V h sz dp).2.1 - 1 < 32 by omega) (show (32 : Nat) < 1000 by decide)
            rw [l4'.2.2.2 _ hjb, hrm2, jN_32 (by omega)] at g112
            have m5' : σ2.1 118 5 - 1 = iN ((fbs M n T G V h sz dp).2.1 - 1) := by
              rw [show σ2.1 118 5 = iN (fbs M n T G V h sz dp).2.1 from m5, i_1, iN_sub (by omega) (by omega)]
            have hau := (z3.2 _ hrm.1).1.1
            have hu := hF.2.2.2.2.2 _ hau.2.1
            rw [ew, if_pos (show iN 1 = (1 : Int32) from rfl), m5', g112, Option.bind_some, X2_at (show fred M n T G V h sz dp < 60 by omega), Option.bind_some, hau.1] at hpre
            generalize hR : fred M n T G V h sz dp = rd at hpre hrm hau hu
            have L3 := fun (s : gS) (rec3 : (gS × Int32) → Option (Int64 × gS)) (hs : lawOf s = M) => L_dec3 (rec3 := rec3) hN1 hs hLD q2 q1 e hb ev b1 e5
            rw [hR] at L3
            generalize vN M 162 rd = a at hpre hau hu L3
            have g159 := X_get (N := N) (σ := σ2) (r := 159) (j := a) (len := 8) rfl (show a < 8 from hau.2.1) (show (8 : Nat) < 1000 by decide)
            rw [z6 a hau.2.1] at g159
            have s159 := X_set (N := N) (σ := σ2) (r := 159) (j := a) (len := 8) (v := jN (vN M 178 (6 + a)) + 1) rfl (show a < 8 from hau.2.1) (show (8 : Nat) < 1000 by decide)
            rw [g159, Option.bind_some, s159, Option.bind_some, show jN (vN M 178 (6 + a)) + 1 = jN (vN M 178 (6 + a) + 1) from by rw [show (1 : Int64) = jN 1 from rfl, jN_add]] at hpre
            obtain ⟨r, hr2⟩ := hto (sJ σ2 160 a (jN (vN M 178 (6 + a) + 1))) M rd 3 hrm.1 (by omega) z3.1 (fun x hx => ⟨(z3.2 x hx).2.1, (z3.2 x hx).1.2.1, (z3.2 x hx).1.2.2.2.1.2.2.2⟩)
            rw [i_3, hr2, Option.bind_some] at hpre
            have hJ2 : ∀ k, k ≠ 160 → (sJ σ2 160 a (jN (vN M 178 (6 + a) + 1))).2.1 k = σ2.2.1 k := fun k hk => gU_ne _ _ _ hk
            have mI2 : ∀ k, k ≠ 178 → (sI M 178 (6 + a) (iN (vN M 178 (6 + a) + 1))).1 k = M.1 k := fun k hk => gU_ne _ _ _ hk
            have ua := q4 a hau.2.1
            have hv8 : ∀ a', a' < 8 → vN (sI M 178 (6 + a) (iN (vN M 178 (6 + a) + 1))) 178 (6 + a') = (if a' = a then vN M 178 (6 + a) + 1 else vN M 178 (6 + a')) ∧ (sI M 178 (6 + a) (iN (vN M 178 (6 + a) + 1))).1 178 (6 + a') = iN (if a' = a then vN M 178 (6 + a) + 1 else vN M 178 (6 + a')) := fun a' ha' => by
              have e1 : (sI M 178 (6 + a) (iN (vN M 178 (6 + a) + 1))).1 178 (6 + a') = iN (if a' = a then vN M 178 (6 + a) + 1 else vN M 178 (6 + a')) := by
                rw [sI_1]
                by_cases ea : a' = a
                · rw [if_pos ⟨rfl, by omega⟩, if_pos ea]
                · rw [if_neg (by omega), if_neg ea]; exact (hF.2.2.2.2.2 a' ha').1
              refine ⟨?_, e1⟩
              unfold vN at e1 ⊢
              rw [e1]
              refine iN_cl ?_
              have := hu.2
              have := (hF.2.2.2.2.2 a' ha').2
              unfold vN at this hu
              split <;> omega
            refine Or.inr ⟨toS (sJ σ2 160 a (jN (vN M 178 (6 + a) + 1))) M rd 3 n, row4 (sI M 178 (6 + a) (iN (vN M 178 (6 + a) + 1))) (lvS M rd 3 n), h, hpre, l6.out hrm.1 hrm.2 (by omega) rfl hJ2 rfl mI2 rfl (fun a' ha' => ?_) (fun a' ha' => ?_), ?_, hfr2.trans (FrD.leave hn rfl hJ2 rfl), ⟨fun k i e1 _ _ e4 => ?_, fun _ _ => rfl, fun i e => lv_z (by omega) i e⟩, fun hg => hg.same rfl ?_, L3⟩
            · obtain ⟨v1, v2⟩ := hv8 a' ha'
              rw [cn_st hrm.1 hrm.2 (by omega), v1, v2]
              refine ⟨rfl, ?_⟩
              have := q4 a' ha'
              split <;> omega
            · rw [(hv8 a' ha').1, sJ_2]
              by_cases ea : a' = a
              · rw [if_pos ⟨rfl, ea⟩, if_pos ea]
              · rw [if_neg (fun x => ea x.2), if_neg ea]; exact z6 a' ha'
            · show sCnt (fun d => decide ((row4 _ (lvS M rd 3 n)).1 164 d = iN 1)) n < _
              rw [row4_1]; exact cn_less hrm.1 hrm.2 (by omega)
            · rw [lv_far hrm.1 (mI2 164 (by omega)) k i e1, sI_1, if_neg (by omega)]
            · rw [row4_far _ _ (by omega), mI2 168 (by omega)]
          · refine Or.inl ⟨Or.inr ⟨c, e, hb, Or.inr ⟨ev, fun hx => ew (hiff.mpr hx.2)⟩⟩, σ2, ?_, l6, h93, l5, hfr2, s182⟩
            rw [hpre, if_neg (show ¬ iN w = (1 : Int32) by rw [i_1, iN_eq (by omega) (by omega)]; exact ew)]
            rfl
        · -- not yet narrowed down
          have en : narB M T G V (trT M h) (FF M n sz dp (trT M h)) = false := by
            unfold narB
            rw [decide_eq_false (show ¬ (bisM M T G V (trT M h) (FF M n sz dp (trT M h))).2.1 - (bisM M T G V (trT M h) (FF M n sz dp (trT M h))).1 = 1 from fun x => by
              have : (fbs M n T G V h sz dp).2.1 - (fbs M n T G V h sz dp).1 = 1 := x
              omega)]
            simp
          refine Or.inl ⟨Or.inr ⟨c, e, hb, Or.inr ⟨ev, fun hx => by rw [b1] at hx; exact absurd hx.1 (by simp)⟩⟩, σ2, ?_, l6, h93, l5, hfr2, s182⟩
          rw [hpre, en, if_pos (show iB false = (0 : Int32) from rfl)]
          rfl
