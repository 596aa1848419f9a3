/-! deeds: a draft is queued -/
theorem eqM_law {s : gS} {d : Nat} {pl : Int32} : lawOf (eqM s d pl) = eqM (lawOf s) d pl := by
  unfold eqM
  rw [lawOf_in (by omega), lawOf_in (by omega), lawOf_in (by omega), lawOf_in (by omega), lw0 s (by omega)]
theorem eqC_law {s : gS} {d : Nat} {pc : Int32} (hd : d < 60) : lawOf (eqC s d pc) = lawOf s := lawOf_ext (fun k h1 _ => ⟨funext (fun i => eqC_I k i (by omega) (by omega) (by omega)), rfl⟩)
theorem SmL.eqM {s : gS} {d : Nat} {pl : Int32} : SmL s (eqM s d pl) := (((SmL.sI (by omega)).trans (SmL.sI (by omega))).trans (SmL.sI (by omega))).trans (SmL.sI (by omega))
theorem X_putIn {N : Nat} {s : gS} {d : Nat} {pc : Int32} (hd : d < 60) : fX11_putInQueue N s (5 + d) pc = some (eqC s d pc) := by
  have e1 : (sI (sI s (5 + d) 3 1) (5 + d) 10 pc).1 109 2 = s.1 109 2 := by rw [sI_1, if_neg (by omega), sI_1, if_neg (by omega)]
  have e2 : (sI (sI (sI s (5 + d) 3 1) (5 + d) 10 pc) (5 + d) 11 (s.1 109 2)).1 109 2 = s.1 109 2 := by rw [sI_1, if_neg (by omega)]; exact e1
  unfold fX11_putInQueue
  rw [e1, e2, X_stir, Option.bind_some]
  rfl
section DD
variable {N : Nat} {xs : Nat → Int32} {Lx : Nat} {rec221 : (gS × Int32 × Int32) → Option Int32} {x21 x24 x27 : Int32} {x25 : Int64} {s : gS} {c V U B A : Nat}
/-- queued: on both sides, the class formed -/
theorem Q_ok {d p n T G h sz dp : Nat} {ag : Nat → Nat} (hN : 100 ≤ N) (hd : d < n) (hp : p ≤ 3) (g : GI s (lawOf s) n T G V U h sz dp B ag) (x : XI s (lawOf s) n T G) (h0 : (lawOf s).1 164 d = iN 0) (hpar : ∀ q, par (lawOf s) d = some q → (lawOf s).1 164 q = iN 1 ∨ (lawOf s).1 164 q = iN 2) :
    ∃ (j : Nat) (σ' : gS), j < 20 ∧ fL_does N s 4 (iN d) (iN p) 0 = some (iN j, σ') ∧ lawOf σ' = lawOf s ∧ GI (eqM σ' d (iN p)) (lawOf (eqM σ' d (iN p))) n T G V U h sz dp B ag ∧ XI (eqM σ' d (iN p)) (lawOf (eqM σ' d (iN p))) n T G := by
  have hn := g.1.1.1.1.2.1
  have hT := g.2.1.1
  obtain ⟨⟨hF, hh, h5, h6⟩, ⟨q1, q2, q3, q4⟩, ⟨ch1, ch2⟩, -⟩ := id g.1
  have h12 : s.1 (5 + d) 12 = iN 0 := x.2.1.2 d hd h0
  have g1 := g.enq (pc := iN p) (pl := iN p) hd h0 hpar x.1.2.1 (Or.inr ⟨h12, rfl, by rw [iN_lt (by omega) (by omega)]; omega⟩)
  have x1 := x.enq (pc := iN p) (pl := iN p) hn hT hd
  obtain ⟨σ', w1, w2, w3, ⟨⟨o1, o2⟩, _⟩, g2, x2, wl⟩ := g1.form hN x1
  have hpo := g2.1.1.1.1.2.2
  have hmem : d ∈ ordM (eqM (lawOf s) d (iN p)) n := ordM_all hpo hd eqM_v.1
  have hlen := ordM_len (M := eqM (lawOf s) d (iN p)) (n := n)
  obtain ⟨j, j1, j2, _⟩ := X_placeOf (N := N) (σ := σ') hN (by omega) o1 o2 (fun y hy => by have := (ordM_mem y hy).1; omega) hmem (by omega)
  have hsl : lawOf σ' = lawOf s := wl.trans (eqC_law (by omega))
  have e3 : s.1 (5 + d) 3 = (lawOf s).1 164 d := (ch2 d hd).1.2.1
  have e2 : s.1 (5 + d) 2 = (lawOf s).1 163 d := (ch2 d hd).1.2.2.2.1.2.2.2
  refine ⟨j, σ', by omega, ?_, hsl, ?_, ?_⟩
  · have e93 : fTX11_queue_93 N s (iN d) (iN p) (5 + d) = some (.inl (iN j), σ') := by
      unfold fTX11_queue_93
      rw [X_putIn (by omega), Option.bind_some, w1, Option.bind_some, iN_64 (by omega), j2, Option.bind_some]
    have e46 : fTX11_queue_46 N s (iN d) (iN p) (5 + d) 1 = some (.inl (iN j), σ') := by
      unfold fTX11_queue_46 fTX11_queue_85 fTX11_queue_90
      rw [show fX11_needState N s 1 = some () from rfl]
      dsimp only [g_tc]
      rw [e2]
      rcases par_cases hF.1.2.2 hd with ⟨_, hm⟩ | ⟨q, hq, hm, hqd⟩
      · rw [hm, if_pos (show iM = (-1 : Int32) from rfl)]; exact e93
      · have eq3 : s.1 (5 + q) 3 = (lawOf s).1 164 q := (ch2 q (by omega)).1.2.1
        rw [hm, if_neg (show ¬ iN q = (-1 : Int32) from iM_ne (by omega)), X2_at (by omega), Option.bind_some, eq3]
        rcases hpar q hq with e | e
        · rw [e, if_pos (show iN 1 = (1 : Int32) from rfl)]; exact e93
        · rw [e, if_neg (show ¬ iN 2 = (1 : Int32) by decide), if_pos (show iN 2 = (2 : Int32) from rfl)]; exact e93
    rw [does_4]
    unfold fTX11_queue
    rw [ch1, X_place hd (by omega)]
    dsimp only [g_tc]
    rw [show fX11_needRange N s (iN p) (0 : Int32) (3 : Int32) = some () from X_range (lo := 0) (hi := 3) (by omega) hp (by omega)]
    dsimp only [g_tc]
    rw [X2_at (by omega), Option.bind_some, e3, h0, if_pos (show iN 0 = (0 : Int32) from rfl), X_approved hN x.2.1.1, Option.bind_some, if_neg (show ¬ (1 : Int32) = 0 by decide), e46]
    rfl
  · rw [eqM_law, hsl]; exact g2.smL SmL.eqM
  · rw [eqM_law, hsl]; exact x2.smL hn hT SmL.eqM
theorem D_queue1 {d n T G h sz dp : Nat} {ag : Nat → Nat} (hN : 100 ≤ N) (hc : c < 100000000) (hd : d < n) (g : GI s (lawOf s) n T G V U h sz dp B ag) (x : XI s (lawOf s) n T G) (hA : ∀ q, ag q ≤ A) (h0 : (lawOf s).1 164 d = iN 0) (hpar : ∀ q, par (lawOf s) d = some q → (lawOf s).1 164 q = iN 1 ∨ (lawOf s).1 164 q = iN 2) : ∃ s', fL_law_857 N xs Lx rec221 s x21 (iN c) (iN d) = fL_law_2698 N xs Lx rec221 s' 1 x21 (iN c) ∧ DR s' V U B A := by
  have hn := g.1.1.1.1.2.1
  obtain ⟨p, hp, hpe⟩ : ∃ p, p ≤ 3 ∧ c / 7 - c / 7 / 4 * 4 = p := ⟨_, by omega, rfl⟩
  have ep : (iN c / (7 : Int32)) - (iN c / (7 : Int32)) / 4 * 4 = iN p := by
    rw [← hpe, show iN c / (7 : Int32) = iN (c / 7) from iN_div (b := 7) (by omega) (by omega)]
    exact iN_rem (k := 4) (by omega) (by omega)
  obtain ⟨j, σ', hj, e1, e2, g2, x2⟩ := Q_ok hN hd hp g x h0 hpar
  refine ⟨eqM σ' d (iN p), ?_, DR.of ⟨n, T, G, h, sz, dp, ag, g2, x2, hA⟩⟩
  have e7 : (sI (sI σ' 164 d 1) 165 d (iN p)).1 161 7 = σ'.1 161 7 := by rw [sI_1, if_neg (by omega), sI_1, if_neg (by omega)]
  have e8 : (sI (sI (sI σ' 164 d 1) 165 d (iN p)) 166 d (σ'.1 161 7)).1 161 7 = σ'.1 161 7 := by rw [sI_1, if_neg (by omega)]; exact e7
  unfold fL_law_857 fL_law_862
  rw [ep, e1, Option.bind_some]
  dsimp only
  rw [if_neg (show ¬ iN j < (0 : Int32) by rw [i_0, iN_lt (by omega) (by omega)]; omega)]
  unfold fL_law_887
  rw [if_pos rfl]
  unfold fL_law_897
  rw [if_neg (show ¬ (1 : Int32) = 0 by decide), if_neg (gi (show d < 24 by omega) (by decide)), if_neg (gi (show d < 24 by omega) (by decide)), if_neg (gi (show d < 24 by omega) (by decide)), iN_cl (show d < 2147483648 by omega), ep, e7, e8]
  rfl
theorem D_queue0 {d n T G h sz dp : Nat} {ag : Nat → Nat} (hN : 100 ≤ N) (hc : c < 100000000) (hd : d < n) (g : GI s (lawOf s) n T G V U h sz dp B ag) (x : XI s (lawOf s) n T G) (hA : ∀ q, ag q ≤ A) (hno : (lawOf s).1 164 d = iN 0 → ∃ q, par (lawOf s) d = some q ∧ (lawOf s).1 164 q ≠ iN 1 ∧ (lawOf s).1 164 q ≠ iN 2) : ∃ s', fL_law_861 N xs Lx rec221 s x21 (iN c) (iN d) = fL_law_2698 N xs Lx rec221 s' 1 x21 (iN c) ∧ DR s' V U B A := by
  have hn := g.1.1.1.1.2.1
  obtain ⟨⟨hF, hh, h5, h6⟩, ⟨q1, q2, q3, q4⟩, ⟨ch1, ch2⟩, -⟩ := id g.1
  obtain ⟨p, hp, hpe⟩ : ∃ p, p ≤ 3 ∧ c / 7 - c / 7 / 4 * 4 = p := ⟨_, by omega, rfl⟩
  have ep : (iN c / (7 : Int32)) - (iN c / (7 : Int32)) / 4 * 4 = iN p := by
    rw [← hpe, show iN c / (7 : Int32) = iN (c / 7) from iN_div (b := 7) (by omega) (by omega)]
    exact iN_rem (k := 4) (by omega) (by omega)
  have e3 : s.1 (5 + d) 3 = (lawOf s).1 164 d := (ch2 d hd).1.2.1
  have e2 : s.1 (5 + d) 2 = (lawOf s).1 163 d := (ch2 d hd).1.2.2.2.1.2.2.2
  refine ⟨s, ?_, DR.of ⟨n, T, G, h, sz, dp, ag, g, x, hA⟩⟩
  have e1 : fL_does N s 4 (iN d) (iN p) 0 = some (-13, s) := by
    have eT : fTX11_queue N s (iN d) (iN p) = some (.inr "java/lang/IllegalStateException", s) := by
      unfold fTX11_queue
      rw [ch1, X_place hd (by omega)]
      dsimp only [g_tc]
      rw [show fX11_needRange N s (iN p) (0 : Int32) (3 : Int32) = some () from X_range (lo := 0) (hi := 3) (by omega) hp (by omega)]
      dsimp only [g_tc]
      rw [X2_at (by omega), Option.bind_some, e3]
      by_cases c0 : (lawOf s).1 164 d = iN 0
      · obtain ⟨q, hq, n1, n2⟩ := hno c0
        have hqd := (hF.1.2.2 d hd).2 q hq
        have hm : (lawOf s).1 163 d = iN q := by rw [(hF.1.2.2 d hd).1, hq]; rfl
        have eq3 : s.1 (5 + q) 3 = (lawOf s).1 164 q := (ch2 q (by omega)).1.2.1
        rw [c0, if_pos (show iN 0 = (0 : Int32) from rfl), X_approved hN x.2.1.1, Option.bind_some, if_neg (show ¬ (1 : Int32) = 0 by decide)]
        unfold fTX11_queue_46 fTX11_queue_90
        rw [show fX11_needState N s 1 = some () from rfl]
        dsimp only [g_tc]
        rw [e2, hm, if_neg (show ¬ iN q = (-1 : Int32) from iM_ne (by omega)), X2_at (by omega), Option.bind_some, eq3, if_neg (show ¬ (lawOf s).1 164 q = (1 : Int32) from n1), if_neg (show ¬ (lawOf s).1 164 q = (2 : Int32) from n2)]
        rfl
      · rw [if_neg (show ¬ (lawOf s).1 164 d = (0 : Int32) from c0)]
        rfl
    rw [does_4, eT, Option.bind_some]
    dsimp only [g_sm]
    exact isE_state
  unfold fL_law_861 fL_law_862
  rw [ep, e1, Option.bind_some]
  dsimp only
  rw [if_pos (show (-13 : Int32) < 0 by decide)]
  unfold fL_law_887
  rw [if_pos rfl]
  unfold fL_law_897
  rw [if_pos (show (0 : Int32) = 0 from rfl)]
  rfl
end DD
