/-! the class's batches -/
/-- what the class has of a change, as far as its tree goes -/
def chB (σ M : gS) (c : Nat) : Prop := σ.2.1 (5 + c) 6 = gMask (M.1 168 c) ∧ σ.2.1 (5 + c) 7 = M.2.1 169 c ∧ σ.2.1 (5 + c) 8 = M.2.1 170 c ∧ σ.1 (5 + c) 2 = M.1 163 c
theorem X_fitsC {N : Nat} {σ M : gS} {c : Nat} {t : Int64} (h : chB σ M c) : fX1_fits N σ (5 + c) t = some (iB (bFit (M.1 168 c) (M.2.1 169 c) t)) := by
  rw [X_fits h.1, h.2.1]
theorem X_ontoC {N : Nat} {σ M : gS} {c : Nat} {t : Int64} (h : chB σ M c) : fX1_onto N σ (5 + c) t = some (ontoM M t c) := by
  rw [X_onto h.1, h.2.2.1]; rfl
theorem X_standsOn {N : Nat} {σ M : gS} {c n : Nat} {w : Int64} {inn : Nat → Bool} (h : chB σ M c) (hn : n ≤ 20) (hp : parOK M n) (hc : c < n) (hw : ∀ q, q < n → tj w q = (decide (M.1 164 q = iN 2) || inn q)) : fX1_standsOn N σ (5 + c) w = some (iB (standB M inn (par M c))) := by
  have h4 := h.2.2.2
  simp only [fX1_standsOn, fX1_standsOn_21, fX1_standsOn_26, h4, i_0, i_1, i_m1]
  rcases par_cases hp hc with ⟨p1, p2⟩ | ⟨q, p1, p2, p3⟩
  · rw [p1, p2]; simp [standB, iB]
  · rw [p1, p2, if_neg (iM_ne (by omega))]
    simp (disch := omega) only [i_0, i_1, i_2, i_3, i_4, i_5, i_6, i_7, i_8, i_9, i_10, i_11, i_12, i_14, i_15, i_16, i_24, i_30, i_31, i_32, i_48, i_60, i_64, i_80, i_99, i_100, i_m1, iN_of, iN_add, iN_mul, iN_sub, iN_01, iM_1, iN_div, iN_lt, iN_le, iN_eq, iN_cl, iM_lt, iM_gt, iM_le, iM_ge, iM_eq, iM_eq2, iN_64, jN_32, lgc0, tj_us0, hw q (by omega)]
    unfold standB
    by_cases a : M.1 164 q = iN 2 <;> cases b : inn q <;> simp [a, b, iB, i10, i01]
theorem inL_eq {inn : Nat → Bool} : ∀ (l : List Nat) (d : Nat), inL inn l d = (inn d || decide (d ∈ l)) := by
  intro l
  induction l generalizing inn with
  | nil => intro d; unfold inL; simp
  | cons c r ih =>
    intro d
    show inL (inU inn c) r d = _
    rw [ih]
    unfold inU
    simp only [List.mem_cons]
    by_cases e : d = c
    · simp [e]
    · simp [e]
/-- the lane as one batch is taken -/
def laneOK (σ M : gS) (n sz m : Nat) (L : List Nat) (inn : Nat → Bool) : Prop :=
  σ.1 110 1 = iN L.length ∧ (∀ j, j < L.length → σ.2.1 111 j = jN (L.getD j 0)) ∧ σ.1 109 0 = iN sz ∧ σ.1 112 1 = iN m ∧ (∀ c, c < n → chB σ M c) ∧ ∀ q, q < n → tj (σ.2.1 109 8) q = (decide (M.1 164 q = iN 2) || inn q)
theorem one68_0 {N : Nat} {R : (gS × Int64 × Int32 × Int32) → Option (Int64 × gS)} {σ : gS} {a : Int64} {b c d : Int32} {r : Nat} : fX4_formOne_68 N R σ a b c d r (iN 0) = fX4_formOne_132 N R σ a b c := if_pos rfl
theorem X_one9 {N : Nat} {M : gS} {n sz : Nat} {L : List Nat} (hn : n ≤ 20) (hsz : sz ≤ 8) (hL : L.length ≤ 40) (hp : parOK M n) (hLq : ∀ c ∈ L, c < n ∧ M.1 164 c = iN 1) : ∀ (rest pre : List Nat) (σ : gS) (many m : Nat) (inn : Nat → Bool) (t : Int64) (N' : Nat), L = pre ++ rest → rest.length < N' → many ≤ sz → m + (sz - many) ≤ 32 → laneOK σ M n sz m L inn →
    ∃ σ' : gS, lp (fX4_formOne_9 N) N' (σ, t, iN many, iN pre.length) = some (treeL M t (takeB M rest (sz - many) inn t), σ') ∧ Sm σ σ' 109 114 ∧ (σ'.1 109 = σ.1 109 ∧ σ'.1 110 = σ.1 110 ∧ σ'.2.1 111 = σ.2.1 111) ∧ laneOK σ' M n sz (m + (takeB M rest (sz - many) inn t).length) L (inL inn (takeB M rest (sz - many) inn t)) ∧ (∀ j, j < m → σ'.2.1 113 j = σ.2.1 113 j) ∧ ∀ j, j < (takeB M rest (sz - many) inn t).length → σ'.2.1 113 (m + j) = jN ((takeB M rest (sz - many) inn t).getD j 0) := by
  intro rest
  induction rest with
  | nil =>
    intro pre σ many m inn t N' hLe hN' hm hmm hl
    obtain ⟨N', rfl⟩ : ∃ k, N' = k + 1 := ⟨N' - 1, by omega⟩
    rw [List.append_nil] at hLe
    subst hLe
    refine ⟨σ, ?_, Sm.refl _ _ _, ⟨rfl, rfl, rfl⟩, ?_, fun _ _ => rfl, fun j h => absurd h (Nat.not_lt_zero j)⟩
    · rw [lp_1]
      simp (disch := omega) only [fX4_formOne_9, fX4_formOne_138, hl.1, i_0, i_1, i_2, i_3, i_4, i_5, i_6, i_7, i_8, i_9, i_10, i_11, i_12, i_14, i_15, i_16, i_24, i_30, i_31, i_32, i_48, i_60, i_64, i_80, i_99, i_100, i_m1, iN_of, iN_add, iN_mul, iN_sub, iN_01, iM_1, iN_div, iN_lt, iN_le, iN_eq, iN_cl, iM_lt, iM_gt, iM_le, iM_ge, iM_eq, iM_eq2, iN_64, jN_32, if_pos, if_neg, if_true, if_false, true_or, or_true, false_or, or_false, not_true_eq_false, not_false_eq_true, Option.bind_some]
      rfl
    · exact hl
  | cons c r ih =>
    intro pre σ many m inn t N' hLe hN' hm hmm hl
    obtain ⟨N', rfl⟩ : ∃ k, N' = k + 1 := ⟨N' - 1, by omega⟩
    rw [lp_1]
    have hlen : L.length = pre.length + (r.length + 1) := by rw [hLe, List.length_append, List.length_cons]
    have hN2 : r.length < N' := by simp only [List.length_cons] at hN'; omega
    have hLe2 : L = (pre ++ [c]) ++ r := by rw [hLe]; simp
    have hpre2 : (pre ++ [c]).length = pre.length + 1 := by simp
    obtain ⟨l1, l2, l3, l4, l5, l6⟩ := id hl
    by_cases hfull : sz ≤ many
    · have e0 : sz - many = 0 := by omega
      rw [e0]
      refine ⟨σ, ?_, Sm.refl _ _ _, ⟨rfl, rfl, rfl⟩, hl, fun _ _ => rfl, fun j h => absurd h (Nat.not_lt_zero j)⟩
      simp (disch := omega) only [fX4_formOne_9, fX4_formOne_138, l1, l3, i_0, i_1, i_2, i_3, i_4, i_5, i_6, i_7, i_8, i_9, i_10, i_11, i_12, i_14, i_15, i_16, i_24, i_30, i_31, i_32, i_48, i_60, i_64, i_80, i_99, i_100, i_m1, iN_of, iN_add, iN_mul, iN_sub, iN_01, iM_1, iN_div, iN_lt, iN_le, iN_eq, iN_cl, iM_lt, iM_gt, iM_le, iM_ge, iM_eq, iM_eq2, iN_64, jN_32, if_pos, if_neg, if_true, if_false, true_or, or_true, false_or, or_false, not_true_eq_false, not_false_eq_true, Option.bind_some]
      rfl
    · obtain ⟨rm, erm⟩ : ∃ rm, sz - many = rm + 1 := ⟨sz - many - 1, by omega⟩
      have hcL : c ∈ L := by rw [hLe]; simp
      obtain ⟨hcn, hcs⟩ := hLq c hcL
      have hcell : σ.2.1 111 pre.length = jN c := by
        have := l2 pre.length (by omega)
        rw [this]
        rw [hLe, show pre.length = pre.length + 0 from rfl, gD_app2]; rfl
      have hdn := l6 c hcn
      rw [hcs, decide_eq_false (show ¬ (iN 1 = iN 2) by decide), Bool.false_or] at hdn
      have hsk : ∀ σ2 : gS, laneOK σ2 M n sz m L inn → fX4_formOne_132 N (lp (fX4_formOne_9 N) N') σ2 t (iN many) (iN pre.length) = lp (fX4_formOne_9 N) N' (σ2, t, iN many, iN (pre ++ [c]).length) := by
        intro σ2 _
        unfold fX4_formOne_132
        simp only [i_1, iN_add, hpre2]
      have hno := ih (pre ++ [c]) σ many m inn t N' hLe2 hN2 hm hmm hl
      rw [erm]
      rw [show takeB M (c :: r) (rm + 1) inn t = if freeB M inn c t = true then c :: takeB M r rm (inU inn c) (ontoM M t c) else takeB M r (rm + 1) inn t from rfl]
      rw [erm] at hno
      simp (disch := omega) only [fX4_formOne_9, l1, l3, X_whole (σ := σ) (r := 110) (len := 60) rfl, hcell, X2_at, lgc0, i_0, i_1, i_2, i_3, i_4, i_5, i_6, i_7, i_8, i_9, i_10, i_11, i_12, i_14, i_15, i_16, i_24, i_30, i_31, i_32, i_48, i_60, i_64, i_80, i_99, i_100, i_m1, iN_of, iN_add, iN_mul, iN_sub, iN_01, iM_1, iN_div, iN_lt, iN_le, iN_eq, iN_cl, iM_lt, iM_gt, iM_le, iM_ge, iM_eq, iM_eq2, iN_64, jN_32, if_pos, if_neg, if_true, if_false, true_or, or_true, false_or, or_false, not_true_eq_false, not_false_eq_true, Option.bind_some]
      simp (disch := omega) only [tj_us0, hdn]
      unfold freeB
      cases hi : inn c with
      | true =>
        rw [if_neg (by simp), one68_0, hsk σ hl]
        simpa using hno
      | false =>
        rw [if_pos rfl]
        unfold fX4_formOne_68
        simp only [i_0, i_1, i10, if_false]
        rw [X_standsOn (l5 c hcn) hn hp hcn l6, Option.bind_some]
        simp only [iB0]
        by_cases hs : standB M inn (par M c) = false
        · rw [if_pos hs, hs, hsk σ hl]
          simpa using hno
        · rw [if_neg hs, X_fitsC (l5 c hcn), Option.bind_some]
          have hs2 : standB M inn (par M c) = true := by simpa using hs
          rw [hs2]
          simp only [iB0]
          by_cases hf : bFit (M.1 168 c) (M.2.1 169 c) t = false
          · rw [if_pos hf, hf, hsk σ hl]
            simpa using hno
          · rw [if_neg hf]
            have hf2 : bFit (M.1 168 c) (M.2.1 169 c) t = true := by simpa using hf
            rw [hf2]
            have hadd := X_add (N := N) (v := jN c) l4 (show gle σ.2.2 113 = 32 from rfl) (show m < 32 by omega) (by decide)
            have hcond : (!false && true && true) = true := rfl
            rw [if_pos hcond]
            have e64 : (iN c).toInt64 = jN c := iN_64 (by omega)
            rw [e64, hadd, Option.bind_some]
            have hS1 : Sm σ (gAdd σ 112 m (jN c)) 109 114 := Sm.add (by omega)
            have hS2 : Sm σ (sJ (gAdd σ 112 m (jN c)) 109 8 ((gAdd σ 112 m (jN c)).2.1 109 8 ||| ((1 : Int64) <<< (jN c &&& 63)))) 109 114 := hS1.trans (Sm.sJ (by omega))
            have hchB : ∀ d, d < n → chB (sJ (gAdd σ 112 m (jN c)) 109 8 ((gAdd σ 112 m (jN c)).2.1 109 8 ||| ((1 : Int64) <<< (jN c &&& 63)))) M d := fun d hd => by
              have := l5 d hd
              unfold chB at this ⊢
              rw [(hS2.1 (5 + d) (by omega)).1, (hS2.1 (5 + d) (by omega)).2]; exact this
            rw [X_ontoC (hchB c hcn), Option.bind_some]
            have e109 : (gAdd σ 112 m (jN c)).2.1 109 8 = σ.2.1 109 8 := gAdd_J (by omega)
            have hl2 : laneOK (sJ (gAdd σ 112 m (jN c)) 109 8 ((gAdd σ 112 m (jN c)).2.1 109 8 ||| ((1 : Int64) <<< (jN c &&& 63)))) M n sz (m + 1) L (inU inn c) := by
              refine ⟨by rw [sJ_1]; exact (gAdd_I (show (110 : Nat) ≠ 112 by decide)).trans l1, fun j h => ?_, by rw [sJ_1]; exact (gAdd_I (show (109 : Nat) ≠ 112 by decide)).trans l3, by rw [sJ_1]; exact gAdd_1, hchB, fun q hq => ?_⟩
              · rw [sJ_2, if_neg (by omega), gAdd_J (by omega)]; exact l2 j h
              · rw [sJ_2, if_pos ⟨rfl, rfl⟩, tj_or, tj_one (by omega), e109, l6 q hq]
                unfold inU
                cases decide (M.1 164 q = iN 2) <;> cases inn q <;> rfl
            obtain ⟨σ', r1, r2, r3, r4, r5, r6⟩ := ih (pre ++ [c]) _ (many + 1) (m + 1) (inU inn c) (ontoM M t c) N' hLe2 hN2 (by omega) (by omega) hl2
            rw [show sz - (many + 1) = rm by omega] at r1 r4 r6
            refine ⟨σ', ?_, hS2.trans r2, ⟨r3.1.trans ?_, r3.2.1.trans ?_, r3.2.2.trans ?_⟩, ?_, fun j hj => ?_, fun j hj => ?_⟩
            · unfold fX4_formOne_132
              simp only [i_1, iN_add]
              rw [hpre2] at r1
              exact r1
            · rw [sJ_1]; funext j; exact gAdd_I (show (109 : Nat) ≠ 112 by decide)
            · rw [sJ_1]; funext j; exact gAdd_I (show (110 : Nat) ≠ 112 by decide)
            · funext j; rw [sJ_2, if_neg (fun q => absurd q.1 (by decide)), gAdd_J (show (111 : Nat) ≠ 112 + 1 by decide)]
            · rw [List.length_cons, show m + ((takeB M r rm (inU inn c) (ontoM M t c)).length + 1) = m + 1 + (takeB M r rm (inU inn c) (ontoM M t c)).length by omega]
              exact r4
            · rw [r5 j (by omega), sJ_2, if_neg (by omega), gAdd_old (by omega)]
            · cases j with
              | zero => rw [show m + 0 = m from rfl, r5 m (by omega), sJ_2, if_neg (by omega), gAdd_new]; rfl
              | succ j =>
                have := r6 j (by simpa using hj)
                rw [show m + (j + 1) = m + 1 + j by omega, this]; rfl
