/-! the lane is formed -/
theorem ordL_len {M : gS} {n : Nat} : ∀ (k : Nat) (W : Nat → Bool), (ordL M n k W).length ≤ k
  | 0, _ => Nat.le_refl _
  | k + 1, W => by
    cases q : nx M W n with
    | none => rw [ordL_none q]; exact Nat.zero_le _
    | some c =>
      rw [ordL_some q, List.length_cons]
      have := ordL_len (M := M) (n := n) k (Wm W c)
      omega
theorem ordM_len {M : gS} {n : Nat} : (ordM M n).length ≤ n := ordL_len _ _
theorem ordM_mem {M : gS} {n : Nat} : ∀ c ∈ ordM M n, c < n ∧ M.1 164 c = iN 1 := fun c hc => by
  have := ordL_mem n _ c hc
  exact ⟨this.1, by simpa using this.2⟩
def FmO (σ M : gS) (n : Nat) : Prop := σ.1 110 1 = iN (ordM M n).length ∧ ∀ j, j < (ordM M n).length → σ.2.1 111 j = jN ((ordM M n).getD j 0)
def FmB (σ M : gS) (bs : List (List Nat)) (t : Int64) : Prop := σ.1 112 1 = iN bs.flatten.length ∧ (∀ j, j < bs.flatten.length → σ.2.1 113 j = jN (bs.flatten.getD j 0)) ∧ σ.1 114 1 = iN bs.length ∧ (∀ j, j < bs.length → σ.2.1 115 j = jN ((bs.take (j + 1)).flatten.length)) ∧ σ.1 116 1 = iN bs.length ∧ ∀ j, j < bs.length → σ.2.1 117 j = treeL M t (bs.take (j + 1)).flatten
theorem X_form {N : Nat} {σ M : gS} {n sz dp : Nat} {t : Int64} (hN : 100 ≤ N) (hn : n ≤ 20) (hsz : sz ≤ 8) (hdp : dp ≤ 4) (hp : parOK M n) (h0 : σ.1 1 4 = iN n) (hc : ∀ c, c < n → chB σ M c) (hs : ∀ c, c < n → σ.1 (5 + c) 3 = M.1 164 c) (h1 : σ.1 109 0 = iN sz) (h2 : σ.1 109 1 = iN dp) (ho : FmO σ M n) :
    ∃ σ' : gS, fX4_form N σ t = some σ' ∧ Sm σ σ' 109 118 ∧ σ'.1 109 = σ.1 109 ∧ FmO σ' M n ∧ FmB σ' M (batM M n sz dp t) t := by
  have hmul : sz * dp ≤ 8 * 4 := Nat.mul_le_mul hsz hdp
  have hsm : Sm σ (sI (sI (sI σ 112 1 (iN 0)) 114 1 (iN 0)) 116 1 (iN 0)) 110 118 := (Sm.sI (by omega)).trans ((Sm.sI (by omega)).trans (Sm.sI (by omega)))
  have hones := X_ones (N := N) (σ := sI (sI (sI σ 112 1 (iN 0)) 114 1 (iN 0)) 116 1 (iN 0)) (st := iN 2) hN (by rw [(hsm.1 1 (by omega)).1]; exact h0) hn
  have htj : ∀ q, q < n → tj (gOnes (sI (sI (sI σ 112 1 (iN 0)) 114 1 (iN 0)) 116 1 (iN 0)) (iN 2) n) q = (decide (M.1 164 q = iN 2) || false) := fun q hq => by
    rw [tj_ones (by omega), (hsm.1 (5 + q) (by omega)).1, hs q hq, decide_eq_true hq]; simp
  generalize gOnes (sI (sI (sI σ 112 1 (iN 0)) 114 1 (iN 0)) 116 1 (iN 0)) (iN 2) n = w at hones htj
  have hsm2 : Sm σ (sJ (sI (sI (sI σ 112 1 (iN 0)) 114 1 (iN 0)) 116 1 (iN 0)) 109 8 w) 109 118 := (hsm.wide (by omega) (by omega)).trans (Sm.sJ (by omega))
  have hI9 : (sJ (sI (sI (sI σ 112 1 (iN 0)) 114 1 (iN 0)) 116 1 (iN 0)) 109 8 w).1 109 = σ.1 109 := (hsm.1 109 (by omega)).1
  have hI0 : (sJ (sI (sI (sI σ 112 1 (iN 0)) 114 1 (iN 0)) 116 1 (iN 0)) 109 8 w).1 110 1 = σ.1 110 1 := by
    simp only [sJ_1, sI_1, Nat.reduceEqDiff, false_and, if_false]
  have hJ1 : (sJ (sI (sI (sI σ 112 1 (iN 0)) 114 1 (iN 0)) 116 1 (iN 0)) 109 8 w).2.1 111 = σ.2.1 111 := by
    funext j; rw [sJ_2, if_neg (by omega)]; rfl
  have hl : laneOK (sJ (sI (sI (sI σ 112 1 (iN 0)) 114 1 (iN 0)) 116 1 (iN 0)) 109 8 w) M n sz 0 (ordM M n) (fun _ => false) := by
    refine ⟨hI0.trans ho.1, fun j hj => by rw [hJ1]; exact ho.2 j hj, by rw [hI9]; exact h1, ?_, fun c hcn => ?_, fun q hq => ?_⟩
    · simp only [sJ_1, sI_1, Nat.reduceEqDiff, false_and, true_and, if_false, if_true]
    · have := hc c hcn
      unfold chB at this ⊢
      rw [(hsm2.1 (5 + c) (by omega)).1, (hsm2.1 (5 + c) (by omega)).2]; exact this
    · rw [sJ_2, if_pos ⟨rfl, rfl⟩]; exact htj q hq
  obtain ⟨σ', w1, w2, w3, w3b, w3c, w4, w5, w6, w7, w8, w9, w10, w11, w12⟩ := X_form39 (N := N) (n := n) (sz := sz) (dp := dp) (L := ordM M n) hN hn hsz hdp (by have := ordM_len (M := M) (n := n); omega) hp ordM_mem dp 0 _ 0 (fun _ => false) t N (by omega) (by omega) (by omega) (by rw [hI9]; exact h2) hl (by simp only [sJ_1, sI_1, Nat.reduceEqDiff, false_and, true_and, if_false, if_true]) (by simp only [sJ_1, sI_1, true_and, if_true])
  simp only [Nat.zero_add] at w4 w6 w7 w9 w10 w12
  refine ⟨σ', ?_, hsm2.trans w2, w3.trans hI9, ⟨(congrFun w3b 1).trans (hI0.trans ho.1), fun j hj => by rw [w3c, hJ1]; exact ho.2 j hj⟩, w4, w6, w7, w9, w10, w12⟩
  simp only [fX4_form, i_0, i_2]
  rw [hones, Option.bind_some]
  exact w1
/-! what stands required of each change -/
def fbS (σ M : gS) (T G : Nat) : Nat → gS
  | 0 => σ
  | j + 1 => sI (fbS σ M T G j) (5 + j) 13 (rqG M j T G)
theorem fbS_2 {σ M : gS} {T G : Nat} : ∀ j, (fbS σ M T G j).2 = σ.2
  | 0 => rfl
  | j + 1 => fbS_2 j
theorem fbS_far {σ M : gS} {T G : Nat} : ∀ (j k i : Nat), (i ≠ 13 ∨ k < 5 ∨ 5 + j ≤ k) → (fbS σ M T G j).1 k i = σ.1 k i
  | 0, _, _, _ => rfl
  | j + 1, k, i, h => by
    unfold fbS
    rw [sI_1, if_neg (by omega)]; exact fbS_far j k i (by omega)
theorem fbS_new {σ M : gS} {T G : Nat} : ∀ (j c : Nat), c < j → (fbS σ M T G j).1 (5 + c) 13 = rqG M c T G
  | 0, _, h => absurd h (Nat.not_lt_zero _)
  | j + 1, c, h => by
    unfold fbS
    by_cases e : c = j
    · subst e; rw [sI_1, if_pos ⟨rfl, rfl⟩]
    · rw [sI_1, if_neg (by omega)]; exact fbS_new j c (by omega)
/-- the pipeline of the class and the law's rows of it -/
def RCp (σ M : gS) (T G : Nat) : Prop := (σ.1 65 5 = iN T ∧ T ≤ 4) ∧ (σ.1 70 1 = iN G ∧ G ≤ 12) ∧ (∀ j, j < T → σ.1 (76 + 3 * j) 2 = M.1 172 (12 * j)) ∧ ∀ k, k < G → vN M 173 k < 200 ∧ σ.2.1 71 k = jN (vN M 173 k - vN M 173 k / 4 * 4) ∧ σ.2.1 73 k = jN (vN M 173 k / 4 - vN M 173 k / 4 / 4 * 4) ∧ σ.2.1 75 k = jN (vN M 173 k / 16)
/-- a change of the class and the law's rows of it -/
def RCh (σ M : gS) (c : Nat) : Prop := (σ.1 (5 + c) 1 = iN (vN M 162 c) ∧ vN M 162 c < 8 ∧ M.1 162 c = iN (vN M 162 c)) ∧ σ.1 (5 + c) 3 = M.1 164 c ∧ σ.1 (5 + c) 5 = M.1 168 c ∧ chB σ M c ∧ chOK σ M c
/-- the class's trunk and the law's row of it -/
def RCt (σ M : gS) (h : Nat) : Prop := M.1 161 1 = iN h ∧ 1 ≤ h ∧ h ≤ 25 ∧ σ.1 151 1 = iN h ∧ ∀ j, j < h → σ.2.1 152 j = M.2.1 171 j
def trT (M : gS) (h : Nat) : Int64 := M.2.1 171 (h - 1)
theorem X_trunk {N : Nat} {σ M : gS} {h : Nat} (ht : RCt σ M h) : fX11_trunkTree N σ = some (trT M h) := by
  obtain ⟨t1, t2, t3, t4, t5⟩ := ht
  have hg := X_get (N := N) (σ := σ) (r := 151) (j := h - 1) (len := gle σ.2.2 152) rfl (show h - 1 < 61 by omega) (show (61 : Nat) < 1000 by decide)
  simp (disch := omega) only [fX11_trunkTree, t4, i_0, i_1, i_2, i_3, i_4, i_5, i_6, i_7, i_8, i_9, i_10, i_11, i_12, i_14, i_15, i_16, i_24, i_30, i_31, i_32, i_48, i_60, i_64, i_80, i_99, i_100, i_m1, iN_of, iN_add, iN_mul, iN_sub, iN_01, iM_1, iN_div, iN_lt, iN_le, iN_eq, iN_cl, iM_lt, iM_gt, iM_le, iM_ge, iM_eq, iM_eq2, iN_64, jN_32, if_pos, if_neg, if_true, if_false, true_or, or_true, false_or, or_false, not_true_eq_false, not_false_eq_true, Option.bind_some]
  rw [hg, Option.bind_some, t5 (h - 1) (by omega)]; rfl
/-- what forming leaves -/
def Fm (σ M : gS) (n T G sz dp : Nat) (t : Int64) : Prop := FmO σ M n ∧ FmB σ M (batM M n sz dp t) t ∧ ∀ c, c < n → M.1 164 c = iN 1 → σ.1 (5 + c) 13 = rqG M c T G
/-- what forming keeps -/
def SmF (σ σ' : gS) : Prop := σ'.2.2 = σ.2.2 ∧ (∀ k i, ¬ (5 ≤ k ∧ k < 65 ∧ i = 13) → ¬ (109 ≤ k ∧ k < 118) → σ'.1 k i = σ.1 k i) ∧ (∀ k, ¬ (109 ≤ k ∧ k < 118) → σ'.2.1 k = σ.2.1 k) ∧ ∀ i, i ≠ 3 → σ'.1 109 i = σ.1 109 i
theorem X_formBatches {N : Nat} {σ M : gS} {n T G sz dp h : Nat} (hN : 100 ≤ N) (hn : n ≤ 20) (hsz : sz ≤ 8) (hdp : dp ≤ 4) (hp : parOK M n) (h0 : σ.1 1 4 = iN n) (hc : ∀ c, c < n → RCh σ M c) (hpp : RCp σ M T G) (ht : RCt σ M h) (h1 : σ.1 109 0 = iN sz) (h2 : σ.1 109 1 = iN dp) (hf : σ.1 109 3 = iN 0 ∨ (σ.1 109 3 = iN 1 ∧ Fm σ M n T G sz dp (trT M h))) :
    ∃ σ' : gS, fX11_formBatches N σ = some σ' ∧ SmF σ σ' ∧ σ'.1 109 3 = iN 1 ∧ Fm σ' M n T G sz dp (trT M h) := by
  rcases hf with hf | ⟨hf, hF⟩
  · have hpp1 : ∀ j, RCp (fbS σ M T G j) M T G := fun j => by
      obtain ⟨⟨a1, a2⟩, ⟨b1, b2⟩, c1, d1⟩ := hpp
      refine ⟨⟨by rw [fbS_far j _ _ (by omega)]; exact a1, a2⟩, ⟨by rw [fbS_far j _ _ (by omega)]; exact b1, b2⟩, fun i hi => by rw [fbS_far j _ _ (by omega)]; exact c1 i hi, fun k hk => by rw [fbS_2]; exact d1 k hk⟩
    have hc1 : ∀ j c, c < n → RCh (fbS σ M T G j) M c := fun j c hcn => by
      have := hc c hcn
      unfold RCh chB chOK at this ⊢
      rw [fbS_2]
      simp only [fbS_far j (5 + c) 1 (by omega), fbS_far j (5 + c) 2 (by omega), fbS_far j (5 + c) 3 (by omega), fbS_far j (5 + c) 5 (by omega), fbS_far j (5 + c) 10 (by omega), fbS_far j (5 + c) 11 (by omega), fbS_far j (5 + c) 12 (by omega)]
      exact this
    have e0 : fX11_formBatches N σ = lp (fX11_formBatches_12 N) N (σ, iN 0) := by
      simp (disch := omega) only [fX11_formBatches, hf, i_0, i_1, i_2, i_3, i_4, i_5, i_6, i_7, i_8, i_9, i_10, i_11, i_12, i_14, i_15, i_16, i_24, i_30, i_31, i_32, i_48, i_60, i_64, i_80, i_99, i_100, i_m1, iN_of, iN_add, iN_mul, iN_sub, iN_01, iM_1, iN_div, iN_lt, iN_le, iN_eq, iN_cl, iM_lt, iM_gt, iM_le, iM_ge, iM_eq, iM_eq2, iN_64, jN_32, if_pos, if_neg, if_true, if_false, true_or, or_true, false_or, or_false, not_true_eq_false, not_false_eq_true, Option.bind_some]
    obtain ⟨σ1, p1, p2, p3, p4⟩ := X_putInOrder (N := N) (σ := fbS σ M T G n) hN hn hp (by rw [fbS_far n _ _ (by omega)]; exact h0) (fun c hcn => (hc1 n c hcn).2.2.2.2) (fun c hcn => (hc1 n c hcn).2.1)
    have ht1 : RCt σ1 M h := by
      obtain ⟨t1, t2, t3, t4, t5⟩ := ht
      refine ⟨t1, t2, t3, by rw [(p2.1 151 (by omega)).1, fbS_far n _ _ (by omega)]; exact t4, fun j hj => by rw [(p2.1 152 (by omega)).2, fbS_2]; exact t5 j hj⟩
    obtain ⟨σ2, q1, q2, q3, q4, q5⟩ := X_form (N := N) (σ := σ1) (t := trT M h) hN hn hsz hdp hp (by rw [(p2.1 1 (by omega)).1, fbS_far n _ _ (by omega)]; exact h0) (fun c hcn => by
      have := (hc1 n c hcn).2.2.2.1
      unfold chB at this ⊢
      rw [(p2.1 (5 + c) (by omega)).1, (p2.1 (5 + c) (by omega)).2]; exact this) (fun c hcn => by rw [(p2.1 (5 + c) (by omega)).1]; exact (hc1 n c hcn).2.1) (by rw [(p2.1 109 (by omega)).1, fbS_far n _ _ (by omega)]; exact h1) (by rw [(p2.1 109 (by omega)).1, fbS_far n _ _ (by omega)]; exact h2) ⟨p3, p4⟩
    have hrun : lp (fX11_formBatches_12 N) N (σ, iN 0) = some (sI σ2 109 3 (iN 1)) := by
      refine lp_run (F := fX11_formBatches_12 N) (fun j => (fbS σ M T G j, iN j)) n (fun j hj rec => ?_) (fun rec => ?_) N (by omega)
      · have hr := hc1 j j hj
        obtain ⟨⟨a1, a2⟩, ⟨b1, b2⟩, c1, d1⟩ := hpp1 j
        have hreq := X_requiredBy (N := N) (r := 5 + j) (c := j) hN a1 a2 b1 b2 c1 hr.2.2.1 hr.1.1 hr.1.2.1 d1
        have h0j : (fbS σ M T G j).1 1 4 = iN n := by rw [fbS_far j _ _ (by omega)]; exact h0
        simp (disch := omega) only [fX11_formBatches_12, h0j, X2_at, hreq, i_0, i_1, i_2, i_3, i_4, i_5, i_6, i_7, i_8, i_9, i_10, i_11, i_12, i_14, i_15, i_16, i_24, i_30, i_31, i_32, i_48, i_60, i_64, i_80, i_99, i_100, i_m1, iN_of, iN_add, iN_mul, iN_sub, iN_01, iM_1, iN_div, iN_lt, iN_le, iN_eq, iN_cl, iM_lt, iM_gt, iM_le, iM_ge, iM_eq, iM_eq2, iN_64, jN_32, if_pos, if_neg, if_true, if_false, true_or, or_true, false_or, or_false, not_true_eq_false, not_false_eq_true, Option.bind_some]
        rfl
      · have h0j : (fbS σ M T G n).1 1 4 = iN n := by rw [fbS_far n _ _ (by omega)]; exact h0
        simp (disch := omega) only [fX11_formBatches_12, fX11_formBatches_84, h0j, p1, X_trunk ht1, q1, i_0, i_1, i_2, i_3, i_4, i_5, i_6, i_7, i_8, i_9, i_10, i_11, i_12, i_14, i_15, i_16, i_24, i_30, i_31, i_32, i_48, i_60, i_64, i_80, i_99, i_100, i_m1, iN_of, iN_add, iN_mul, iN_sub, iN_01, iM_1, iN_div, iN_lt, iN_le, iN_eq, iN_cl, iM_lt, iM_gt, iM_le, iM_ge, iM_eq, iM_eq2, iN_64, jN_32, if_pos, if_neg, if_true, if_false, true_or, or_true, false_or, or_false, not_true_eq_false, not_false_eq_true, Option.bind_some]
    have hI : ∀ k i, ¬ (k = 109 ∧ i = 3) → (sI σ2 109 3 (iN 1)).1 k i = σ2.1 k i := fun k i hki => by rw [sI_1, if_neg hki]
    refine ⟨sI σ2 109 3 (iN 1), e0.trans hrun, ⟨?_, fun k i h3 h4 => ?_, fun k h4 => ?_, fun i hi => ?_⟩, by rw [sI_1, if_pos ⟨rfl, rfl⟩], ?_, ?_, fun c hcn _ => ?_⟩
    · rw [sI_2, q2.2, p2.2, fbS_2]
    · rw [hI k i (by omega), (q2.1 k (by omega)).1, (p2.1 k (by omega)).1]
      by_cases e : 5 ≤ k ∧ k < 65
      · exact fbS_far n k i (by omega)
      · exact fbS_far n k i (by omega)
    · rw [sI_2, (q2.1 k (by omega)).2, (p2.1 k (by omega)).2, fbS_2]
    · rw [hI 109 i (by omega), q3, (p2.1 109 (by omega)).1]
      exact fbS_far n 109 i (by omega)
    · refine ⟨by rw [hI 110 1 (by omega)]; exact q4.1, fun j hj => q4.2 j hj⟩
    · obtain ⟨f1, f2, f3, f4, f5, f6⟩ := q5
      exact ⟨by rw [hI 112 1 (by omega)]; exact f1, f2, by rw [hI 114 1 (by omega)]; exact f3, f4, by rw [hI 116 1 (by omega)]; exact f5, f6⟩
    · rw [hI _ 13 (by omega), (q2.1 (5 + c) (by omega)).1, (p2.1 (5 + c) (by omega)).1]
      exact fbS_new n c hcn
  · refine ⟨σ, ?_, ⟨rfl, fun _ _ _ _ => rfl, fun _ _ => rfl, fun _ _ => rfl⟩, hf, hF⟩
    simp (disch := omega) only [fX11_formBatches, fX11_formBatches_84, hf, i_0, i_1, i_2, i_3, i_4, i_5, i_6, i_7, i_8, i_9, i_10, i_11, i_12, i_14, i_15, i_16, i_24, i_30, i_31, i_32, i_48, i_60, i_64, i_80, i_99, i_100, i_m1, iN_of, iN_add, iN_mul, iN_sub, iN_01, iM_1, iN_div, iN_lt, iN_le, iN_eq, iN_cl, iM_lt, iM_gt, iM_le, iM_ge, iM_eq, iM_eq2, iN_64, jN_32, if_pos, if_neg, if_true, if_false, true_or, or_true, false_or, or_false, not_true_eq_false, not_false_eq_true, Option.bind_some]
