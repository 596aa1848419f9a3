/-! all that is wanted: the class lists it -/
theorem X_formed {N : Nat} {σ : gS} (h : σ.1 109 3 = iN 1) : fX11_formBatches N σ = some σ := by
  unfold fX11_formBatches
  rw [h, if_neg (show ¬ iN 1 = (0 : Int32) by decide)]
  rfl
theorem WC.sm2 {σ σ' M : gS} {T V U : Nat} {ag : Nat → Nat} (h : WC σ M T V U ag) (hs : Sm σ σ' 118 134) : WC σ' M T V U ag := by
  obtain ⟨⟨a1, a2⟩, ⟨b1, b2⟩, c, d, e⟩ := h
  refine ⟨⟨a1, by rw [(hs.1 65 (by omega)).1]; exact a2⟩, ⟨b1.sm hs (by omega), b2⟩, fun q hq => ⟨(c q hq).1.sm hs (by omega) (by omega), (c q hq).2⟩, fun j hj => (d j hj).fr (hs.1 _ (by omega)).1 (by rw [(hs.1 _ (by omega)).2]) (fun _ _ _ => rfl) rfl (fun _ _ => rfl) (fun _ _ _ _ h => h), fun j h1 h2 => by rw [(hs.1 _ (by omega)).1]; exact e j h1 h2⟩
theorem X_clear {N : Nat} {σ : gS} : ∃ σ', fX10_clear N σ = some σ' ∧ WL σ' [] ∧ Sm σ σ' 126 134 := by
  refine ⟨_, rfl, ⟨⟨?_, ?_, ?_, ?_⟩, fun i hi => absurd hi (Nat.not_lt_zero i)⟩, (Sm.sI (by omega)).trans ((Sm.sI (by omega)).trans ((Sm.sI (by omega)).trans (Sm.sI (by omega))))⟩
  · rw [sI_1, if_neg (by omega), sI_1, if_neg (by omega), sI_1, if_neg (by omega), sI_1, if_pos ⟨rfl, rfl⟩]; rfl
  · rw [sI_1, if_neg (by omega), sI_1, if_neg (by omega), sI_1, if_pos ⟨rfl, rfl⟩]; rfl
  · rw [sI_1, if_neg (by omega), sI_1, if_pos ⟨rfl, rfl⟩]; rfl
  · rw [sI_1, if_pos ⟨rfl, rfl⟩]; rfl
theorem bad_nB {M : gS} {n T G V h sz dp : Nat} (c : fvd M n T G V h sz dp = 2) : nBM M n T G V h sz dp = 1 := if_pos c
theorem good_nB {M : gS} {n T G V h sz dp : Nat} (c : ¬ fvd M n T G V h sz dp = 2) : nBM M n T G V h sz dp = (batM M n sz dp (trT M h)).length := if_neg c
theorem X_listWanted {N : Nat} {σ M : gS} {n T G V U h sz dp : Nat} {ag : Nat → Nat} (hN : 5000 ≤ N) (hd : DI σ M n T G V U h sz dp ag) (hf : σ.1 109 3 = iN 1) (hm : Fm σ M n T G sz dp (trT M h)) (hC : WC σ M T V U ag) (h17 : σ.1 0 17 = M.1 161 8) (h8 : M.1 161 8 = iN 0 ∨ M.1 161 8 = iN 1) : ∃ σ', fX11_listWanted N σ = some σ' ∧ WL σ' (eO M n T G V h sz dp (4 * (nBM M n T G V h sz dp + 1))) ∧ Sm σ σ' 118 134 := by
  have hN1 : 100 ≤ N := by omega
  have hT4 := hC.1.1
  obtain ⟨σ2, l1, l2, l3, l4, l5, l6⟩ := C_look hN hd hf hm
  obtain ⟨σ3, c1, c2, c3⟩ := X_clear (N := N) (σ := σ2)
  obtain ⟨hLD, ⟨q1, q2, q3, q4⟩, a3, a4, a5, a6, a7, a8, a9, a10, a11⟩ := id l6
  obtain ⟨hF, hh, h5, h6⟩ := id hLD
  have hn := hF.1.2.1
  have hFF := FF_ok (M := M) (n := n) (sz := sz) (dp := dp) (t := trT M h) hn h5.2.2 h6.2.2
  have hbs := bat_bsOK (M := M) (n := n) (sz := sz) (dp := dp) (t := trT M h) hn h5.2.2 h6.2.2
  have s23 : Sm σ σ3 118 134 := (l2.wide (by omega) (by omega)).trans (c3.wide (by omega) (by omega))
  have hC3 := hC.sm2 s23
  have hnB : nBM M n T G V h sz dp ≤ 4 := by
    unfold nBM
    have := hbs.1
    have := hbs.2.1
    split <;> omega
  have ht3 : ∀ σ4 : gS, Sm σ3 σ4 126 134 → RCt σ4 M h ∧ σ4.1 0 17 = M.1 161 8 := fun σ4 hs => by
    obtain ⟨t1, t2, t3, t4, t5⟩ := a5
    refine ⟨⟨t1, t2, t3, by rw [(hs.1 151 (by omega)).1, (c3.1 151 (by omega)).1]; exact t4, fun j hj => by rw [(hs.1 152 (by omega)).2, (c3.1 152 (by omega)).2]; exact t5 j hj⟩, ?_⟩
    rw [(hs.1 0 (by omega)).1, (s23.1 0 (by omega)).1]; exact h17
  have l3' : Lk σ3 M T G V (trT M h) (FF M n sz dp (trT M h)) := by
    obtain ⟨⟨⟨b1, b2⟩, ⟨b3, b4⟩, ⟨b5, b6⟩⟩, k2, k3, k4⟩ := l3
    refine ⟨⟨⟨by rw [(c3.1 119 (by omega)).1]; exact b1, fun j hj => by rw [(c3.1 120 (by omega)).2]; exact b2 j hj⟩, ⟨by rw [(c3.1 121 (by omega)).1]; exact b3, fun j hj => by rw [(c3.1 122 (by omega)).2]; exact b4 j hj⟩, ⟨by rw [(c3.1 123 (by omega)).1]; exact b5, fun j hj => by rw [(c3.1 124 (by omega)).2]; exact b6 j hj⟩⟩, ?_, ?_, ?_⟩
    · rw [(c3.1 118 (by omega)).1]; exact k2
    · rw [(c3.1 118 (by omega)).1]; exact k3
    · rw [(c3.1 118 (by omega)).1]; exact k4
  have hnar := X_narrowed (N := N) l3' (by omega)
  obtain ⟨k1, k2, k3, k4⟩ := id l3'
  have k2' : σ3.1 118 3 = iN (fvd M n T G V h sz dp) := k2
  have hpre : fX11_listWanted N σ = if iB (narB M T G V (trT M h) (FF M n sz dp (trT M h))) = (0 : Int32) then (if iN (fvd M n T G V h sz dp) = (2 : Int32) then ((fX8_whole N σ3 121 (σ3.1 118 6)).bind fun r_11 => (fX8_get N σ3 119 (σ3.1 118 6)).bind fun r_13 => (fX11_listTests N σ3 r_11 r_13 (0 : Int32)).bind fun r_15 => fX11_listWanted_130 N r_15) else (lp (fX11_listWanted_105 N) N (σ3, 0))) else ((fX11_failedForBad N σ3).bind fun r_17 => (fX8_get N σ3 119 (σ3.1 118 4)).bind fun r_19 => (fX11_listTests N σ3 r_17 r_19 (0 : Int32)).bind fun r_21 => fX11_listWanted_130 N r_21) := by
    unfold fX11_listWanted
    rw [X_formed hf, Option.bind_some, l1, Option.bind_some, c1, Option.bind_some, hnar, Option.bind_some, k2']
  by_cases ev : fvd M n T G V h sz dp = 2
  · -- the first batch has failed: one list of tests, on one tree
    have hone : ∀ σ4 : gS, WL σ4 (ltE M V (setM M n T G V h sz dp) (onM M n T G V h sz dp) 0 [] T) → Sm σ3 σ4 126 134 → ∃ σ', fX11_listWanted_130 N σ4 = some σ' ∧ WL σ' (eO M n T G V h sz dp (4 * (nBM M n T G V h sz dp + 1))) ∧ Sm σ σ' 118 134 := fun σ4 hW4 hs4 => by
      have hE : ltE M V (setM M n T G V h sz dp) (onM M n T G V h sz dp) 0 [] T = eO M n T G V h sz dp (4 * nBM M n T G V h sz dp) := by
        rw [bad_nB ev, eO_blk (b := 0) hT4, ltE_bk]
        refine bkE_congr T (fun q hq => ?_)
        unfold cdM
        rw [if_pos hq, if_pos (show 0 < nBM M n T G V h sz dp by rw [bad_nB ev]; omega), if_pos ev]
      rw [hE] at hW4
      obtain ⟨e1, e2⟩ := ht3 σ4 hs4
      obtain ⟨σ', w1, w2, w3⟩ := X_listFull hN (hC3.sm hs4) e1 hnB e2 h8 hW4
      exact ⟨σ', w1, w2, (s23.trans (hs4.wide (by omega) (by omega))).trans (w3.wide (by omega) (by omega))⟩
    have ev2 : vdF M T G V (trT M h) (FF M n sz dp (trT M h)) (FF M n sz dp (trT M h)).length = 2 := ev
    have hpos := vd_pos ev2
    obtain ⟨m4, m5, m6⟩ := k4 ev2
    have hbd := bisB_bd (vd := vdF M T G V (trT M h) (FF M n sz dp (trT M h))) (w := wtF M (FF M n sz dp (trT M h))) (FF M n sz dp (trT M h)).length 0 (FF M n sz dp (trT M h)).length hpos
    have hb1 : (fbs M n T G V h sz dp).1 < (fbs M n T G V h sz dp).2.1 := hbd.1
    have hb2 : (fbs M n T G V h sz dp).2.1 ≤ (FF M n sz dp (trT M h)).length := hbd.2.2.1
    have hnb : ((fbs M n T G V h sz dp).2.2 = none ∧ (fbs M n T G V h sz dp).2.1 - (fbs M n T G V h sz dp).1 = 1) ∨ (∃ k, (fbs M n T G V h sz dp).2.2 = some k ∧ (fbs M n T G V h sz dp).1 < k ∧ k < (fbs M n T G V h sz dp).2.1) := bisB_nar (vd := vdF M T G V (trT M h) (FF M n sz dp (trT M h))) (w := wtF M (FF M n sz dp (trT M h))) (FF M n sz dp (trT M h)).length 0 (FF M n sz dp (trT M h)).length hpos (by omega)
    rcases hnb with ⟨b1, b2⟩ | ⟨k, b1, b2, b3⟩
    · have en : narB M T G V (trT M h) (FF M n sz dp (trT M h)) = true := by
        unfold narB
        rw [decide_eq_true ev2, decide_eq_true (show (bisM M T G V (trT M h) (FF M n sz dp (trT M h))).2.1 - (bisM M T G V (trT M h) (FF M n sz dp (trT M h))).1 = 1 from b2)]; rfl
      have hver : verS N σ3 M T V := verS_of hN hC3.1.2 hC3.1.1 hC3.2.1.1 (fun q hq => (hC3.2.2.1 q hq).1) hC3.2.1.2
      have hff := X_ffb (N := N) (g := (fbs M n T G V h sz dp).1) (b := (fbs M n T G V h sz dp).2.1) hN1 hver k1 hb2 (by omega) m5
      have hset : setM M n T G V h sz dp = ffl M n T G V h sz dp 3 := by
        unfold setM; rw [if_pos ev, b1]
      have hon : onM M n T G V h sz dp = treeL M (trT M h) ((FF M n sz dp (trT M h)).take (fbs M n T G V h sz dp).1) := by
        unfold onM; rw [if_pos ev, b1]
      have hff2 : fX11_failedForBad N σ3 = some (setM M n T G V h sz dp) := by rw [hset]; exact hff
      have g := X_get (N := N) (σ := σ3) (r := 119) (j := (fbs M n T G V h sz dp).1) (len := 9) rfl (show (fbs M n T G V h sz dp).1 < 9 by omega) (show (9 : Nat) < 1000 by decide)
      rw [k1.1.2 _ (by omega), ← hon] at g
      have m4' : σ3.1 118 4 = iN (fbs M n T G V h sz dp).1 := m4
      obtain ⟨σ4, w1, w2, w3, w4, w5⟩ := X_listTests (t := onM M n T G V h sz dp) (set := setM M n T G V h sz dp) (wh := 0) hN hC3 c2 (Nat.zero_le _) (fun e he => by cases he) (by omega)
      obtain ⟨σ', v1, v2, v3⟩ := hone σ4 w2 w3
      refine ⟨σ', ?_, v2, v3⟩
      rw [hpre, en, if_neg (show ¬ iB true = (0 : Int32) by decide), hff2, Option.bind_some, m4', g, Option.bind_some, i_0, w1, Option.bind_some, v1]
    · have en : narB M T G V (trT M h) (FF M n sz dp (trT M h)) = false := by
        unfold narB
        rw [decide_eq_false (show ¬ (bisM M T G V (trT M h) (FF M n sz dp (trT M h))).2.1 - (bisM M T G V (trT M h) (FF M n sz dp (trT M h))).1 = 1 from fun x => by
          have : (fbs M n T G V h sz dp).2.1 - (fbs M n T G V h sz dp).1 = 1 := x
          omega)]
        simp
      have hset : setM M n T G V h sz dp = rqL M T G ((FF M n sz dp (trT M h)).take k) := by
        unfold setM; rw [if_pos ev, b1]
      have hon : onM M n T G V h sz dp = treeL M (trT M h) ((FF M n sz dp (trT M h)).take k) := by
        unfold onM; rw [if_pos ev, b1]
      have g1 := X_whole (N := N) (σ := σ3) (r := 121) (j := k) (len := 9) rfl (show k < 9 by omega) (show (9 : Nat) < 1000 by decide)
      rw [k1.2.1.2 _ (by omega), Int32.toInt32_toInt64, ← hset] at g1
      have g := X_get (N := N) (σ := σ3) (r := 119) (j := k) (len := 9) rfl (show k < 9 by omega) (show (9 : Nat) < 1000 by decide)
      rw [k1.1.2 _ (by omega), ← hon] at g
      have m6' : σ3.1 118 6 = iN k := by
        rw [show σ3.1 118 6 = iO (fbs M n T G V h sz dp).2.2 from m6, b1]; rfl
      obtain ⟨σ4, w1, w2, w3, w4, w5⟩ := X_listTests (t := onM M n T G V h sz dp) (set := setM M n T G V h sz dp) (wh := 0) hN hC3 c2 (Nat.zero_le _) (fun e he => by cases he) (by omega)
      obtain ⟨σ', v1, v2, v3⟩ := hone σ4 w2 w3
      refine ⟨σ', ?_, v2, v3⟩
      rw [hpre, en, if_pos (show iB false = (0 : Int32) from rfl), ev, if_pos (show iN 2 = (2 : Int32) from rfl), m6', g1, Option.bind_some, g, Option.bind_some, i_0, w1, Option.bind_some, v1]
  · have en : narB M T G V (trT M h) (FF M n sz dp (trT M h)) = false := by
      unfold narB
      rw [decide_eq_false (show ¬ vdF M T G V (trT M h) (FF M n sz dp (trT M h)) (FF M n sz dp (trT M h)).length = 2 from ev)]; rfl
    have hLB : LB σ3 M n T G (trT M h) (batM M n sz dp (trT M h)) := by
      have hm3 : Fm σ3 M n T G sz dp (trT M h) := l5.fr hn (fun k i hk => by rw [(c3.1 k (by omega)).1]) (fun k hk => (c3.1 k (by omega)).2)
      refine ⟨hn, by have := hbs.1; have := hbs.2.1; omega, by rw [← codB_len _ 0]; exact hbs.2.2.2, hbs.2.2.1, hm3.2.1, fun c hc => ⟨fun hm => hm3.2.2 c hc (by
        obtain ⟨l, hl, hcl⟩ := List.mem_flatten.mp hm
        exact (ordM_mem c (((batL_ok _ _ _).2 l hl).2.2 c hcl)).2), ?_, (a3.2 c hc).1.1.2.1⟩⟩
      rw [(c3.1 _ (by omega)).1]; exact (a3.2 c hc).1.1.1
    have key : ∀ (m b N' : Nat) (s : gS), b + m = nBM M n T G V h sz dp → m < N' → Sm σ3 s 126 134 → WL s (eO M n T G V h sz dp (4 * b)) → ∃ σ', lp (fX11_listWanted_105 N) N' (s, iN b) = some σ' ∧ WL σ' (eO M n T G V h sz dp (4 * (nBM M n T G V h sz dp + 1))) ∧ Sm σ σ' 118 134 := by
      intro m
      induction m with
      | zero =>
        intro b N' s hb hN' hs hW
        obtain ⟨N', rfl⟩ : ∃ k, N' = k + 1 := ⟨N' - 1, by omega⟩
        have e : b = nBM M n T G V h sz dp := by omega
        rw [e] at hW ⊢
        obtain ⟨e1, e2⟩ := ht3 s hs
        obtain ⟨σ', w1, w2, w3⟩ := X_listFull hN (hC3.sm hs) e1 hnB e2 h8 hW
        refine ⟨σ', ?_, w2, (s23.trans (hs.wide (by omega) (by omega))).trans (w3.wide (by omega) (by omega))⟩
        have h114 := (hLB.sm hs).2.2.2.2.1.2.2.1
        rw [← good_nB ev] at h114
        rw [lp_1]
        unfold fX11_listWanted_105
        dsimp only
        rw [h114, if_pos (show iN (nBM M n T G V h sz dp) ≤ iN (nBM M n T G V h sz dp) by rw [iN_le (by omega) (by omega)]; omega), w1]
      | succ m ih =>
        intro b N' s hb hN' hs hW
        obtain ⟨N', rfl⟩ : ∃ k, N' = k + 1 := ⟨N' - 1, by omega⟩
        have hlen := eO_len M n T G V h sz dp (4 * b)
        have hbl : b < (batM M n sz dp (trT M h)).length := by rw [← good_nB ev]; omega
        obtain ⟨s1, w1, w2, w3, w4, w5⟩ := X_listBatch hN (hC3.sm hs) (hLB.sm hs) hbl hW (by omega) (eO_mem hT4 _)
        have hE : lbE M T G V ((batM M n sz dp (trT M h)).getD b []) (oB M (trT M h) (batM M n sz dp (trT M h)) b) (if b = 0 then 0 else 1) (eO M n T G V h sz dp (4 * b)) T = eO M n T G V h sz dp (4 * (b + 1)) := by
          rw [eO_blk hT4, lbE_bk]
          refine bkE_congr T (fun q hq => ?_)
          unfold cdM
          rw [if_pos hq, if_pos (show b < nBM M n T G V h sz dp by omega), if_neg ev]
        rw [hE] at w2
        obtain ⟨σ', v1, v2, v3⟩ := ih (b + 1) N' s1 (by omega) (by omega) (hs.trans w3) w2
        refine ⟨σ', ?_, v2, v3⟩
        have h114 := (hLB.sm hs).2.2.2.2.1.2.2.1
        rw [← good_nB ev] at h114
        rw [lp_1]
        generalize lp (fX11_listWanted_105 N) N' = R at v1 ⊢
        unfold fX11_listWanted_105
        dsimp only
        rw [h114, if_neg (show ¬ iN (nBM M n T G V h sz dp) ≤ iN b by rw [iN_le (by omega) (by omega)]; omega), w1, Option.bind_some, i_1, iN_add, v1]
    obtain ⟨σ', v1, v2, v3⟩ := key (nBM M n T G V h sz dp) 0 N σ3 (by omega) (by omega) (Sm.refl _ _ _) c2
    refine ⟨σ', ?_, v2, v3⟩
    have := fvd3 M n T G V h sz dp
    rw [hpre, en, if_pos (show iB false = (0 : Int32) from rfl), if_neg (show ¬ iN (fvd M n T G V h sz dp) = (2 : Int32) by rw [i_2, iN_eq (by omega) (by omega)]; exact ev), i_0]
    exact v1
