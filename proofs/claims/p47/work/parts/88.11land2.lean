theorem sCnt_add {p q : Nat → Bool} : ∀ n, (∀ j, j < n → ¬ (p j = true ∧ q j = true)) → sCnt (fun j => p j || q j) n = sCnt p n + sCnt q n
  | 0, _ => rfl
  | n + 1, h => by
    have ih := sCnt_add (p := p) (q := q) n (fun j hj => h j (by omega))
    have hn := h n (by omega)
    unfold sCnt
    rw [ih]
    cases hp : p n <;> cases hq : q n
    · simp
    · simp; omega
    · simp; omega
    · exact absurd ⟨hp, hq⟩ hn
theorem landM_4 (M : gS) (F : List Nat) (h : Nat) (tr : Int64) (d : Nat) : (landM M F h tr).1 164 d = if d ∈ F then iN 2 else M.1 164 d := by
  unfold landM lnS
  rw [sI_1, if_neg (by omega), sJ_1, row7_far _ _ (by omega), row4_1]
theorem landM_7 (M : gS) (F : List Nat) (h : Nat) (tr : Int64) (d : Nat) : (landM M F h tr).1 167 d = if d ∈ F then iN h else M.1 167 d := by
  unfold landM lnS
  rw [sI_1, if_neg (by omega), sJ_1, row7_1]
theorem landM_1 (M : gS) (F : List Nat) (h : Nat) (tr : Int64) : (landM M F h tr).1 161 1 = iN (h + 1) := by
  unfold landM
  rw [sI_1, if_pos ⟨rfl, rfl⟩]
theorem landM_far (M : gS) (F : List Nat) (h : Nat) (tr : Int64) (k i : Nat) (h1 : k ≠ 164) (h2 : k ≠ 167) (h3 : ¬ (k = 161 ∧ i = 1)) : (landM M F h tr).1 k i = M.1 k i := by
  unfold landM lnS
  rw [sI_1, if_neg h3, sJ_1, row7_far _ _ h2, row4_far _ _ h1]
theorem landM_J (M : gS) (F : List Nat) (h : Nat) (tr : Int64) (k j : Nat) (h1 : ¬ (k = 171 ∧ j = h)) : (landM M F h tr).2.1 k j = M.2.1 k j := by
  unfold landM
  rw [sI_2, sJ_2, if_neg h1]; rfl
theorem landM_h (M : gS) (F : List Nat) (h : Nat) (tr : Int64) : (landM M F h tr).2.1 171 h = tr := by
  unfold landM
  rw [sI_2, sJ_2, if_pos ⟨rfl, rfl⟩]
theorem DI.land {σ M : gS} {n T G V U h sz dp : Nat} {ag : Nat → Nat} {F : List Nat} {tr : Int64} (hd : DI σ M n T G V U h sz dp ag) (hF0 : F ≠ []) (hFm : ∀ c ∈ F, c < n ∧ M.1 164 c = iN 1) (hFc : sCnt (fun d => decide (d ∈ F)) n = F.length) : DI (ldS σ F h (cnS M n 2) tr) (landM M F h tr) n T G V U (h + 1) sz dp ag ∧ cnS (landM M F h tr) n 1 < cnS M n 1 := by
  obtain ⟨⟨hF, hh, h5, h6⟩, ⟨q1, q2, q3, q4⟩, a3, ⟨p1, p2, p3, p4⟩, ⟨t1, t2, t3, t4, t5⟩, a6, a7, a8, a9, a10, a11⟩ := hd
  have hn := hF.1.2.1
  have hp := hF.1.2.2
  have hT := p1.2
  have hpos : 0 < F.length := by
    rcases Nat.eq_zero_or_pos F.length with z | z
    · exact absurd (List.length_eq_zero_iff.mp z) hF0
    · exact z
  have c2 : cnS (landM M F h tr) n 2 = cnS M n 2 + F.length := by
    rw [← hFc]
    unfold cnS
    rw [← sCnt_add n (fun j hj hx => by
      have e1 := of_decide_eq_true hx.1
      have e2 := (hFm j (of_decide_eq_true hx.2)).2
      rw [e1] at e2; exact absurd e2 (by decide))]
    refine sCnt_congr n (fun d _ => ?_)
    rw [landM_4]
    by_cases e : d ∈ F
    · rw [if_pos e, decide_eq_true rfl, decide_eq_true e, Bool.or_true]
    · rw [if_neg e, decide_eq_false e, Bool.or_false]
  have c3 : cnS (landM M F h tr) n 3 = cnS M n 3 := by
    refine sCnt_congr n (fun d _ => ?_)
    rw [landM_4]
    by_cases e : d ∈ F
    · rw [if_pos e, (hFm d e).2]; rfl
    · rw [if_neg e]
  have c1 : cnS (landM M F h tr) n 1 < cnS M n 1 := by
    have e1 : sCnt (fun d => decide ((landM M F h tr).1 164 d = iN 1) || decide (d ∈ F)) n = cnS (landM M F h tr) n 1 + F.length := by
      rw [← hFc]
      exact sCnt_add n (fun j hj hx => by
        have e1 := of_decide_eq_true hx.1
        rw [landM_4, if_pos (of_decide_eq_true hx.2)] at e1
        exact absurd e1 (by decide))
    have e2 : sCnt (fun d => decide ((landM M F h tr).1 164 d = iN 1) || decide (d ∈ F)) n = cnS M n 1 := by
      refine sCnt_congr n (fun d _ => ?_)
      rw [landM_4]
      by_cases e : d ∈ F
      · rw [if_pos e, decide_eq_true e, Bool.or_true, decide_eq_true (hFm d e).2]
      · rw [if_neg e, decide_eq_false e, Bool.or_false]
    omega
  have hle : cnS M n 2 + F.length ≤ n := by rw [← c2]; exact sCnt_le n
  have r : ∀ k i, k ≠ 164 → k ≠ 167 → ¬ (k = 161 ∧ i = 1) → (landM M F h tr).1 k i = M.1 k i := fun k i => landM_far M F h tr k i
  have rk : ∀ k, k ≠ 164 → k ≠ 167 → k ≠ 161 → (landM M F h tr).1 k = M.1 k := fun k e1 e2 e3 => funext (fun i => r k i e1 e2 (by omega))
  have rJ : ∀ k, k ≠ 171 → (landM M F h tr).2.1 k = M.2.1 k := fun k e => funext (fun j => landM_J M F h tr k j (by omega))
  have hpar : ∀ d, par (landM M F h tr) d = par M d := fun d => par_fr (by rw [rk 163 (by omega) (by omega) (by omega)])
  have oI : ∀ k i, ¬ (5 ≤ k ∧ k < 65 ∧ (i = 3 ∨ i = 4)) → ¬ (k = 0 ∧ i = 15) → ¬ (k = 151 ∧ i = 1) → ¬ (k = 109 ∧ i = 3) → ¬ (k = 0 ∧ i = 18) → (ldS σ F h (cnS M n 2) tr).1 k i = σ.1 k i := fun k i e1 e2 e3 e4 e5 => by
    unfold ldS
    rw [sI_1, if_neg e5, sI_1, if_neg e4]
    have e6 : (gAdd (sI (clS σ F h) 0 15 (iN (cnS M n 2 + F.length))) 151 h tr).1 k i = (sI (clS σ F h) 0 15 (iN (cnS M n 2 + F.length))).1 k i := by
      show gU _ 151 1 _ k i = _
      unfold gU
      rw [if_neg e3]; rfl
    rw [e6, sI_1, if_neg e2]
    refine clS_out _ _ _ _ _ ?_
    by_cases x : i = 3 ∨ i = 4
    · refine Or.inr ?_
      by_cases y : k < 5
      · exact Or.inl y
      · exact Or.inr (fun c hc => by have := (hFm c hc).1; omega)
    · exact Or.inl (by omega)
  have oJ : ∀ k, k ≠ 152 → (ldS σ F h (cnS M n 2) tr).2.1 k = σ.2.1 k := fun k e => funext (fun j => by
    unfold ldS
    rw [sI_2, sI_2, gAdd_J e]; rfl)
  have o34 : ∀ d, d < n → (ldS σ F h (cnS M n 2) tr).1 (5 + d) 3 = (if d ∈ F then iN 2 else M.1 164 d) ∧ (ldS σ F h (cnS M n 2) tr).1 (5 + d) 4 = (if d ∈ F then iN h else M.1 167 d) := fun d hd => by
    have hr := a3.2 d hd
    unfold ldS
    refine ⟨?_, ?_⟩
    · rw [sI_1, if_neg (by omega), sI_1, if_neg (by omega), gAdd_I (by omega), sI_1, if_neg (by omega), clS_3, hr.1.2.1]
    · rw [sI_1, if_neg (by omega), sI_1, if_neg (by omega), gAdd_I (by omega), sI_1, if_neg (by omega), clS_4, hr.2.2]
  refine ⟨⟨⟨hF.fr ?_ ?_ ?_ ?_ (fun d _ => ?_) (fun d _ => ?_) (fun k _ => ?_) (fun j _ => ?_) (fun a ha => ?_), ⟨landM_1 _ _ _ _, by omega, by omega⟩, ⟨?_, h5.2⟩, ?_, h6.2⟩, ⟨fun d hd => ?_, fun d hd e q eq => ?_, by omega, fun a ha => ?_⟩, ⟨?_, fun d hd => ?_⟩, ⟨⟨?_, p1.2⟩, ⟨?_, p2.2⟩, fun j hj => ?_, fun k hk => ?_⟩, ⟨landM_1 _ _ _ _, by omega, by omega, ?_, fun j hj => ?_⟩, fun a ha => ?_, ⟨?_, ?_⟩, Or.inl ?_, ?_, ?_, fun q hq => ?_⟩, c1⟩
  · exact r 161 0 (by omega) (by omega) (by omega)
  · exact r 161 2 (by omega) (by omega) (by omega)
  · exact r 161 3 (by omega) (by omega) (by omega)
  · exact r 161 4 (by omega) (by omega) (by omega)
  · rw [rk 163 (by omega) (by omega) (by omega)]
  · rw [rk 162 (by omega) (by omega) (by omega)]
  · rw [rk 173 (by omega) (by omega) (by omega)]
  · rw [rk 175 (by omega) (by omega) (by omega)]
  · have := hF.2.2.2.2.2 a ha
    unfold vN at this ⊢
    rw [rk 178 (by omega) (by omega) (by omega)]; exact this
  · rw [r 161 5 (by omega) (by omega) (by omega)]; exact h5.1
  · rw [r 161 6 (by omega) (by omega) (by omega)]; exact h6.1
  · rw [landM_4]
    by_cases e : d ∈ F
    · rw [if_pos e]; exact ⟨2, by omega, rfl⟩
    · rw [if_neg e]; exact q1 d hd
  · rw [landM_4] at e
    rw [hpar] at eq
    by_cases ed : d ∈ F
    · rw [if_pos ed] at e; exact absurd e (by decide)
    · rw [if_neg ed] at e
      rw [landM_4]
      by_cases eqF : q ∈ F
      · rw [if_pos eqF]; exact Or.inr rfl
      · rw [if_neg eqF]; exact q2 d hd e q eq
  · rw [c3]
    have := q4 a ha
    unfold vN at this ⊢
    rw [rk 178 (by omega) (by omega) (by omega)]; exact this
  · rw [oI 1 4 (by omega) (by omega) (by omega) (by omega) (by omega)]; exact a3.1
  · have hcd := a3.2 d hd
    obtain ⟨o3, o4⟩ := o34 d hd
    refine ⟨?_, by rw [oI _ 0 (by omega) (by omega) (by omega) (by omega) (by omega)]; exact hcd.2.1, by rw [o4, landM_7]⟩
    have hr := hcd.1
    unfold RCh chB chOK at hr ⊢
    have v2 : vN (landM M F h tr) 162 d = vN M 162 d := by unfold vN; rw [rk 162 (by omega) (by omega) (by omega)]
    rw [oI _ 1 (by omega) (by omega) (by omega) (by omega) (by omega), oI _ 2 (by omega) (by omega) (by omega) (by omega) (by omega), o3, oI _ 5 (by omega) (by omega) (by omega) (by omega) (by omega), oI _ 10 (by omega) (by omega) (by omega) (by omega) (by omega), oI _ 11 (by omega) (by omega) (by omega) (by omega) (by omega), oI _ 12 (by omega) (by omega) (by omega) (by omega) (by omega), oJ _ (by omega), v2, rk 162 (by omega) (by omega) (by omega), landM_4, rk 168 (by omega) (by omega) (by omega), rJ 169 (by omega), rJ 170 (by omega), rk 163 (by omega) (by omega) (by omega), rk 166 (by omega) (by omega) (by omega), rk 165 (by omega) (by omega) (by omega)]
    exact ⟨hr.1, rfl, hr.2.2⟩
  · rw [oI 65 5 (by omega) (by omega) (by omega) (by omega) (by omega)]; exact p1.1
  · rw [oI 70 1 (by omega) (by omega) (by omega) (by omega) (by omega)]; exact p2.1
  · rw [oI _ 2 (by omega) (by omega) (by omega) (by omega) (by omega), rk 172 (by omega) (by omega) (by omega)]; exact p3 j hj
  · have v3 : vN (landM M F h tr) 173 k = vN M 173 k := by unfold vN; rw [rk 173 (by omega) (by omega) (by omega)]
    rw [v3, oJ 71 (by omega), oJ 73 (by omega), oJ 75 (by omega)]; exact p4 k hk
  · unfold ldS
    rw [sI_1, if_neg (by omega), sI_1, if_neg (by omega), gAdd_1]
  · unfold ldS
    rw [sI_2, sI_2]
    by_cases e : j = h
    · rw [e, gAdd_new, landM_h]
    · rw [gAdd_old e, landM_J _ _ _ _ _ _ (by omega)]; exact t5 j (by omega)
  · have := a6 a ha
    unfold vN at this ⊢
    rw [rk 178 (by omega) (by omega) (by omega), oJ 160 (by omega)]; exact this
  · rw [oI 109 0 (by omega) (by omega) (by omega) (by omega) (by omega)]; exact a7.1
  · rw [oI 109 1 (by omega) (by omega) (by omega) (by omega) (by omega)]; exact a7.2
  · unfold ldS
    rw [sI_1, if_neg (by omega), sI_1, if_pos ⟨rfl, rfl⟩]
  · rw [c2]
    unfold ldS
    rw [sI_1, if_neg (by omega), sI_1, if_neg (by omega), gAdd_I (by omega), sI_1, if_pos ⟨rfl, rfl⟩]
  · obtain ⟨len, f, t1, t2, t3⟩ := a10.tab
    refine RCv.of (t1.sm rfl ?_ (oJ 107 (by omega)) ?_) t2 ⟨fun q hq t => ?_, t3.2⟩
    · funext i; exact oI 106 i (by omega) (by omega) (by omega) (by omega) (by omega)
    · funext i; exact oI 108 i (by omega) (by omega) (by omega) (by omega) (by omega)
    · have e4 : ∀ key, entC (landM M F h tr) V key = entC M V key := fun key => by
        have es : sEnt (landM M F h tr) key V = sEnt M key V := sEnt_congr (rJ 174 (by omega)) V
        cases e : sEnt M key V with
        | none => rw [entC_ev, entC_ev, ev_none e, ev_none (es.trans e)]
        | some i => rw [entC_ev, entC_ev, ev_some e, ev_some (es.trans e)]; unfold vN; rw [rk 175 (by omega) (by omega) (by omega)]
      rw [rk 172 (by omega) (by omega) (by omega), t3.1 q hq t, e4, gKey_same (M := M) (M' := landM M F h tr) (by rw [rk 172 (by omega) (by omega) (by omega)])]
  · have := a11 q hq
    unfold RCk at this ⊢
    rw [oI _ 0 (by omega) (by omega) (by omega) (by omega) (by omega), oI _ 7 (by omega) (by omega) (by omega) (by omega) (by omega), oJ _ (by omega), rk 172 (by omega) (by omega) (by omega)]; exact this
