/-! one leaves the queue: both sides stay alike -/
theorem lvG_q {M : gS} {c d : Nat} : ∀ k, lvG M c k d = true → d = c ∨ M.1 164 d = iN 1
  | 0, h => Or.inl (of_decide_eq_true h)
  | k + 1, h => by
    rw [lvG_s, Bool.or_eq_true, Bool.and_eq_true, Bool.and_eq_true] at h
    rcases h with h | ⟨h1, h2, _⟩
    · exact lvG_q k h
    · exact Or.inr (by rw [of_decide_eq_true h1]; exact of_decide_eq_true h2)
theorem lvS_c (M : gS) (c st k : Nat) : lvS M c st k c = iN st := if_pos rfl
theorem lvS_5 {M : gS} {c st k d : Nat} (h : d ≠ c) (hg : lvG M c k d = true) : lvS M c st k d = iN 5 := by
  unfold lvS; rw [if_neg h, if_pos hg]
theorem lvS_0 {M : gS} {c st k d : Nat} (h : d ≠ c) (hg : lvG M c k d = false) : lvS M c st k d = M.1 164 d := by
  unfold lvS; rw [if_neg h, hg, if_neg (by decide)]
theorem cn_other {M : gS} {n c st w : Nat} (hc : M.1 164 c = iN 1) (h1 : w ≠ 1) (h5 : w ≠ 5) (hw : w ≠ st) (hw9 : w < 10) (hs9 : st < 10) : sCnt (fun d => decide (lvS M c st n d = iN w)) n = cnS M n w := by
  refine sCnt_congr n (fun d hd => ?_)
  by_cases e : d = c
  · rw [e, lvS_c, hc, decide_eq_false (show ¬ iN st = iN w by rw [iN_eq (by omega) (by omega)]; omega), decide_eq_false (show ¬ iN 1 = iN w by rw [iN_eq (by omega) (by omega)]; omega)]
  · cases g : lvG M c n d with
    | true =>
      have hd1 : M.1 164 d = iN 1 := (lvG_q n g).resolve_left e
      rw [lvS_5 e g, hd1, decide_eq_false (show ¬ iN 5 = iN w by rw [iN_eq (by omega) (by omega)]; omega), decide_eq_false (show ¬ iN 1 = iN w by rw [iN_eq (by omega) (by omega)]; omega)]
    | false => rw [lvS_0 e g]
theorem cn_st {M : gS} {n c st : Nat} (hcn : c < n) (hc : M.1 164 c = iN 1) (hst : 3 ≤ st ∧ st ≤ 4) : sCnt (fun d => decide (lvS M c st n d = iN st)) n = cnS M n st + 1 := by
  have h0 : (fun d => decide (M.1 164 d = iN st)) c = false := decide_eq_false (show ¬ M.1 164 c = iN st by rw [hc, iN_eq (by omega) (by omega)]; omega)
  have := sCnt_inU (inn := fun d => decide (M.1 164 d = iN st)) hcn h0
  rw [show cnS M n st = sCnt (fun d => decide (M.1 164 d = iN st)) n from rfl, ← this]
  refine sCnt_congr n (fun d hd => ?_)
  show _ = (decide (M.1 164 d = iN st) || decide (d = c))
  by_cases e : d = c
  · rw [e, lvS_c, decide_eq_true rfl, decide_eq_true (show c = c from rfl), Bool.or_true]
  · rw [decide_eq_false e, Bool.or_false]
    cases g : lvG M c n d with
    | true =>
      have hd1 : M.1 164 d = iN 1 := (lvG_q n g).resolve_left e
      rw [lvS_5 e g, hd1, decide_eq_false (show ¬ iN 5 = iN st by rw [iN_eq (by omega) (by omega)]; omega), decide_eq_false (show ¬ iN 1 = iN st by rw [iN_eq (by omega) (by omega)]; omega)]
    | false => rw [lvS_0 e g]
theorem cn_less {M : gS} {n c st : Nat} (hcn : c < n) (hc : M.1 164 c = iN 1) (hst : 3 ≤ st ∧ st ≤ 5) : sCnt (fun d => decide (lvS M c st n d = iN 1)) n < cnS M n 1 := by
  have h1 := sCnt_wm (W := fun d => decide (M.1 164 d = iN 1)) hcn (decide_eq_true hc)
  have h2 := sCnt_mono (p := fun d => decide (lvS M c st n d = iN 1)) (q := Wm (fun d => decide (M.1 164 d = iN 1)) c) n (fun d hd hp => by
    have hp := of_decide_eq_true hp
    show (decide (M.1 164 d = iN 1) && !decide (d = c)) = true
    by_cases e : d = c
    · rw [e, lvS_c, iN_eq (by omega) (by omega)] at hp; omega
    · rw [decide_eq_false e]
      cases g : lvG M c n d with
      | true => rw [lvS_5 e g] at hp; exact absurd hp (by decide)
      | false => rw [lvS_0 e g] at hp; rw [decide_eq_true hp]; rfl)
  unfold cnS
  omega
theorem LF.fr {M M' : gS} {n T G V : Nat} (h : LF M n T G V) (h0 : M'.1 161 0 = M.1 161 0) (h2 : M'.1 161 2 = M.1 161 2) (h3 : M'.1 161 3 = M.1 161 3) (h4 : M'.1 161 4 = M.1 161 4) (e163 : ∀ c, c < n → M'.1 163 c = M.1 163 c) (e162 : ∀ c, c < n → M'.1 162 c = M.1 162 c) (e173 : ∀ k, k < G → M'.1 173 k = M.1 173 k) (e175 : ∀ j, j < V → M'.1 175 j = M.1 175 j) (e178 : ∀ a, a < 8 → M'.1 178 (6 + a) = iN (vN M' 178 (6 + a)) ∧ vN M' 178 (6 + a) < 1000) : LF M' n T G V := by
  obtain ⟨⟨a1, a2, a3⟩, ⟨b1, b2⟩, ⟨c1, c2, c3⟩, d, ⟨g1, g2, g3⟩, _⟩ := h
  refine ⟨⟨h0.trans a1, a2, a3.fr e163⟩, ⟨h2.trans b1, b2⟩, ⟨h3.trans c1, c2, fun k hk => ?_⟩, fun c hc => ?_, ⟨h4.trans g1, g2, fun j hj => ?_⟩, e178⟩
  · have := c3 k hk
    unfold vN at this ⊢; rw [e173 k hk]; exact this
  · have := d c hc
    unfold vN at this ⊢; rw [e162 c hc]; exact this
  · have := g3 j hj
    unfold vN at this ⊢; rw [e175 j hj]; exact this
theorem DI.out {σ σ1 M M1 : gS} {n T G V U h sz dp c st : Nat} {ag : Nat → Nat} (hd : DI σ M n T G V U h sz dp ag) (hc : c < n) (h1 : M.1 164 c = iN 1) (hst : 3 ≤ st ∧ st ≤ 5) (hI : σ1.1 = σ.1) (hJ : ∀ k, k ≠ 160 → σ1.2.1 k = σ.2.1 k) (hl : σ1.2.2 = σ.2.2) (mI : ∀ k, k ≠ 178 → M1.1 k = M.1 k) (mJ : M1.2.1 = M.2.1) (hu : ∀ a, a < 8 → M1.1 178 (6 + a) = iN (vN M1 178 (6 + a)) ∧ vN M1 178 (6 + a) ≤ sCnt (fun d => decide (lvS M c st n d = iN 3)) n) (hw : ∀ a, a < 8 → σ1.2.1 160 a = jN (vN M1 178 (6 + a))) : DI (toS σ1 M c st n) (row4 M1 (lvS M c st n)) n T G V U h sz dp ag := by
  obtain ⟨⟨hF, hh, h5, h6⟩, ⟨q1, q2, q3, q4⟩, a3, ⟨p1, p2, p3, p4⟩, ⟨t1, t2, t3, t4, t5⟩, a6, a7, a8, a9, a10, a11⟩ := hd
  have hn := hF.1.2.1
  have hp := hF.1.2.2
  have hT := p1.2
  -- the law's rows
  have r : ∀ k, k ≠ 164 → k ≠ 178 → (row4 M1 (lvS M c st n)).1 k = M.1 k := fun k e1 e2 => by rw [row4_far _ _ e1, mI k e2]
  have r4 : (row4 M1 (lvS M c st n)).1 164 = lvS M c st n := row4_1 _ _
  have rJ : (row4 M1 (lvS M c st n)).2.1 = M.2.1 := mJ
  have r8 : (row4 M1 (lvS M c st n)).1 178 = M1.1 178 := row4_far _ _ (by omega)
  have rv8 : ∀ i, vN (row4 M1 (lvS M c st n)) 178 i = vN M1 178 i := fun i => by unfold vN; rw [r8]
  have hpar : ∀ d, par (row4 M1 (lvS M c st n)) d = par M d := fun d => par_fr (by rw [r 163 (by omega) (by omega)])
  have hc3 : sCnt (fun d => decide (lvS M c st n d = iN 3)) n ≤ n := sCnt_le n
  -- the class's places
  have oI : ∀ k i, ¬ (5 ≤ k ∧ k < 65 ∧ i = 3) → ¬ (k = 109 ∧ i = 3) → ¬ (k = 0 ∧ i = 18) → (toS σ1 M c st n).1 k i = σ.1 k i := fun k i e1 e2 e3 => by
    unfold toS
    rw [sI_1, if_neg (by omega), sI_1, if_neg (by omega), chS_out _ _ _ (by omega), hI]
  have o3 : ∀ d, d < n → (toS σ1 M c st n).1 (5 + d) 3 = lvS M c st n d := fun d hd => by
    unfold toS
    rw [sI_1, if_neg (by omega), sI_1, if_neg (by omega), chS_in _ _ hd]
  have oJ : ∀ k, k ≠ 160 → (toS σ1 M c st n).2.1 k = σ.2.1 k := fun k e => hJ k e
  refine ⟨⟨hF.fr ?_ ?_ ?_ ?_ (fun d _ => ?_) (fun d _ => ?_) (fun k _ => ?_) (fun j _ => ?_) (fun a ha => ?_), ⟨?_, hh.2⟩, ⟨?_, h5.2⟩, ?_, h6.2⟩, ⟨fun d hd => ?_, fun d hd e q eq => ?_, ?_, fun a ha => ?_⟩, ⟨?_, fun d hd => ?_⟩, ⟨⟨?_, p1.2⟩, ⟨?_, p2.2⟩, fun j hj => ?_, fun k hk => ?_⟩, ⟨?_, t2, t3, ?_, fun j hj => ?_⟩, fun a ha => ?_, ⟨?_, ?_⟩, Or.inl ?_, ?_, ?_, fun q hq => ?_⟩
  · rw [r 161 (by omega) (by omega)]
  · rw [r 161 (by omega) (by omega)]
  · rw [r 161 (by omega) (by omega)]
  · rw [r 161 (by omega) (by omega)]
  · rw [r 163 (by omega) (by omega)]
  · rw [r 162 (by omega) (by omega)]
  · rw [r 173 (by omega) (by omega)]
  · rw [r 175 (by omega) (by omega)]
  · rw [rv8, r8]
    have := hu a ha
    exact ⟨this.1, by omega⟩
  · rw [r 161 (by omega) (by omega)]; exact hh.1
  · rw [r 161 (by omega) (by omega)]; exact h5.1
  · rw [r 161 (by omega) (by omega)]; exact h6.1
  · rw [r4]
    by_cases e : d = c
    · rw [e, lvS_c]; exact ⟨st, hst.2, rfl⟩
    · cases g : lvG M c n d with
      | true => rw [lvS_5 e g]; exact ⟨5, by omega, rfl⟩
      | false => rw [lvS_0 e g]; exact q1 d hd
  · rw [r4] at e ⊢
    rw [hpar] at eq
    by_cases ed : d = c
    · rw [ed, lvS_c, iN_eq (by omega) (by omega)] at e; omega
    · cases g : lvG M c n d with
      | true => rw [lvS_5 ed g] at e; exact absurd e (by decide)
      | false =>
        rw [lvS_0 ed g] at e
        have hqd := (hp d hd).2 q eq
        have gq : lvG M c n q = false := by
          cases gg : lvG M c n q with
          | false => rfl
          | true =>
            have g1 : lvG M c d q = true := by
              by_cases e2 : q = c
              · rw [e2]; exact lvG_c M c d
              · rw [lvG_st M c q d hqd, ← lvG_st M c q n (by omega)]; exact gg
            have g2 : lvG M c (d + 1) d = true := by
              rw [lvG_s, decide_eq_true rfl, decide_eq_true e, eq]
              show (_ || (true && (true && lvG M c d q))) = true
              rw [g1]; simp
            rw [lvG_st M c d n hd, g2] at g
            exact absurd g (by decide)
        have hqc : q ≠ c := fun e2 => by
          rw [e2, lvG_c] at gq; exact absurd gq (by decide)
        rw [lvS_0 hqc gq]
        exact q2 d hd e q eq
  · have e : cnS (row4 M1 (lvS M c st n)) n 2 = cnS M n 2 := by
      unfold cnS
      rw [r4]; exact cn_other h1 (by omega) (by omega) (by omega) (by omega) (by omega)
    rw [e]; exact q3
  · rw [rv8]
    unfold cnS
    rw [r4]; exact (hu a ha).2
  · rw [oI 1 4 (by omega) (by omega) (by omega)]; exact a3.1
  · have hd := hd
    have hcd := a3.2 d hd
    refine ⟨?_, by rw [oI _ 0 (by omega) (by omega) (by omega)]; exact hcd.2.1, by rw [oI _ 4 (by omega) (by omega) (by omega), r 167 (by omega) (by omega)]; exact hcd.2.2⟩
    have hr := hcd.1
    unfold RCh chB chOK at hr ⊢
    have v2 : vN (row4 M1 (lvS M c st n)) 162 d = vN M 162 d := by unfold vN; rw [r 162 (by omega) (by omega)]
    rw [oI _ 1 (by omega) (by omega) (by omega), oI _ 2 (by omega) (by omega) (by omega), o3 d hd, oI _ 5 (by omega) (by omega) (by omega), oI _ 10 (by omega) (by omega) (by omega), oI _ 11 (by omega) (by omega) (by omega), oI _ 12 (by omega) (by omega) (by omega), oJ _ (by omega), v2, r 162 (by omega) (by omega), r4, r 168 (by omega) (by omega), rJ, r 163 (by omega) (by omega), r 166 (by omega) (by omega), r 165 (by omega) (by omega)]
    exact ⟨hr.1, rfl, hr.2.2⟩
  · rw [oI 65 5 (by omega) (by omega) (by omega)]; exact p1.1
  · rw [oI 70 1 (by omega) (by omega) (by omega)]; exact p2.1
  · rw [oI _ 2 (by omega) (by omega) (by omega), r 172 (by omega) (by omega)]; exact p3 j hj
  · have v3 : vN (row4 M1 (lvS M c st n)) 173 k = vN M 173 k := by unfold vN; rw [r 173 (by omega) (by omega)]
    rw [v3, oJ 71 (by omega), oJ 73 (by omega), oJ 75 (by omega)]; exact p4 k hk
  · rw [r 161 (by omega) (by omega)]; exact t1
  · rw [oI 151 1 (by omega) (by omega) (by omega)]; exact t4
  · rw [oJ 152 (by omega), rJ]; exact t5 j hj
  · rw [rv8]; exact hw a ha
  · rw [oI 109 0 (by omega) (by omega) (by omega)]; exact a7.1
  · rw [oI 109 1 (by omega) (by omega) (by omega)]; exact a7.2
  · unfold toS
    rw [sI_1, if_neg (by omega), sI_1, if_pos ⟨rfl, rfl⟩]
  · have e : cnS (row4 M1 (lvS M c st n)) n 2 = cnS M n 2 := by
      unfold cnS
      rw [r4]; exact cn_other h1 (by omega) (by omega) (by omega) (by omega) (by omega)
    rw [e, oI 0 15 (by omega) (by omega) (by omega)]; exact a9
  · obtain ⟨len, f, t1, t2, t3⟩ := a10.tab
    refine RCv.of (t1.sm hl ?_ (oJ 107 (by omega)) ?_) t2 ⟨fun q hq t => ?_, t3.2⟩
    · funext i; exact oI 106 i (by omega) (by omega) (by omega)
    · funext i; exact oI 108 i (by omega) (by omega) (by omega)
    · have e4 : ∀ key, entC (row4 M1 (lvS M c st n)) V key = entC M V key := fun key => by
        have es : sEnt (row4 M1 (lvS M c st n)) key V = sEnt M key V := sEnt_congr (by rw [rJ]) V
        cases e : sEnt M key V with
        | none => rw [entC_ev, entC_ev, ev_none e, ev_none (es.trans e)]
        | some i => rw [entC_ev, entC_ev, ev_some e, ev_some (es.trans e)]; unfold vN; rw [r 175 (by omega) (by omega)]
      rw [r 172 (by omega) (by omega), t3.1 q hq t, e4, gKey_same (M := M) (M' := row4 M1 (lvS M c st n)) (by rw [r 172 (by omega) (by omega)])]
  · have := a11 q hq
    unfold RCk at this ⊢
    rw [oI _ 0 (by omega) (by omega) (by omega), oI _ 7 (by omega) (by omega) (by omega), oJ _ (by omega), r 172 (by omega) (by omega)]; exact this
