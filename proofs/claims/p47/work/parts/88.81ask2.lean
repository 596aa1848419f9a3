/-! what is asked: the end of it, the teams, the machines, the tests' runs -/
def SB (N : Nat) (σ M : gS) (n sz dp h : Nat) : Prop := dHas σ (FF M n sz dp (trT M h)) ∧ σ.2.1 180 0 = treeL M (trT M h) (FF M n sz dp (trT M h)) ∧ (∀ j, j < (codB 0 (batM M n sz dp (trT M h))).length → σ.1 179 j = iN ((codB 0 (batM M n sz dp (trT M h))).getD j 0)) ∧ ∀ s : gS, s.1 179 = σ.1 179 → fL_many N s (iN (codB 0 (batM M n sz dp (trT M h))).length) (0 : Int32) = some (iN (FF M n sz dp (trT M h)).length)
theorem SB.fr {N : Nat} {σ σ' M : gS} {n sz dp h : Nat} (sb : SB N σ M n sz dp h) (h1 : σ'.1 179 = σ.1 179) (h2 : σ'.2.1 180 = σ.2.1 180) : SB N σ' M n sz dp h := by
  obtain ⟨a, b, c, d⟩ := sb
  exact ⟨⟨a.1, fun j hj => by rw [h1]; exact a.2 j hj⟩, by rw [h2]; exact b, fun j hj => by rw [h1]; exact c j hj, fun s hs => d s (hs.trans h1)⟩
section ASK
variable {N : Nat} {M : gS} {n T G V U h sz dp B : Nat} {ag : Nat → Nat}
theorem L_888 {σ : gS} {b : Bool} (hN : 5000 ≤ N) (qa : QA σ M n T G V U h sz dp B ag) (hb : b = brkM M n T G V h sz dp) : Q1 (fL_isAll_888 N σ 1 (iB b)) M n T G V U h sz dp B ag := by
  obtain ⟨σ', w1, w2⟩ := X_broken hN qa
  refine ⟨σ', ?_, w2⟩
  unfold fL_isAll_888
  rw [if_neg (show ¬ (1 : Int32) = 0 by decide), w1, Option.bind_some]
  dsimp only
  rw [if_pos (by rw [hb])]
  unfold fL_isAll_907
  rw [if_neg (by decide)]
theorem L_735 {σ : gS} (hN : 5000 ≤ N) (qa : QA σ M n T G V U h sz dp B ag) (sb : SB N σ M n sz dp h) : Q1 (fL_isAll_735 N σ 1 (trT M h) (iN (codB 0 (batM M n sz dp (trT M h))).length)) M n T G V U h sz dp B ag := by
  obtain ⟨hd, h180, _, hmany⟩ := sb
  have hN1 : 100 ≤ N := by omega
  obtain ⟨hF, hh, h5, h6⟩ := id qa.1.1.1
  have hM := qa.2.2
  have hT := qa.1.2.1.1
  have hFF := FF_ok (M := M) (n := n) (sz := sz) (dp := dp) (t := trT M h) hF.1.2.1 h5.2.2 h6.2.2
  have hFn : ∀ c ∈ FF M n sz dp (trT M h), c < n := fun c hc => (hFF.2 c hc).1
  have hlen : (FF M n sz dp (trT M h)).length ≤ 4 := Nat.le_trans hFF.1 h5.2.2
  have hno : ∀ x28 : Int32, brkM M n T G V h sz dp = false → Q1 (fL_isAll_789 N σ 1 (trT M h) x28 0) M n T G V U h sz dp B ag := fun x28 hb => by
    unfold fL_isAll_789
    rw [if_pos rfl]
    exact L_888 (b := false) hN qa hb.symm
  unfold fL_isAll_735
  rw [hmany σ rfl, Option.bind_some]
  by_cases c0 : (FF M n sz dp (trT M h)).length = 0
  · rw [if_pos (show iN (FF M n sz dp (trT M h)).length ≤ (0 : Int32) by rw [c0]; decide)]
    unfold fL_isAll_788
    refine hno _ ?_
    unfold brkM
    rw [decide_eq_false (fun ev => by have := vd_pos (F := FF M n sz dp (trT M h)) ev; omega)]; rfl
  · rw [if_neg (show ¬ iN (FF M n sz dp (trT M h)).length ≤ (0 : Int32) by rw [i_0, iN_le (by omega) (by omega)]; omega)]
    have hrq := L_requiredOf (k := (FF M n sz dp (trT M h)).length) hN1 hM hF hd hFn (Nat.le_refl _)
    rw [List.take_length] at hrq
    have hvs := L_vers (N := N) (σ := σ) (set := rqL M T G (FF M n sz dp (trT M h))) (t := treeL M (trT M h) (FF M n sz dp (trT M h))) hN1 hM hF
    rw [← vdF_all] at hvs
    have hvs2 : fL_verdicts N σ (rqL M T G (FF M n sz dp (trT M h))) (treeL M (trT M h) (FF M n sz dp (trT M h))) = some (iN (fvd M n T G V h sz dp)) := hvs
    rw [hrq, Option.bind_some, h180, hvs2, Option.bind_some]
    have hv3 := fvd3 M n T G V h sz dp
    by_cases ev : fvd M n T G V h sz dp = 2
    · rw [if_pos (show iN (fvd M n T G V h sz dp) = (2 : Int32) by rw [ev]; rfl)]
      obtain ⟨σ2, w1, w2, w3, w4, w5, w6, w7⟩ := L_bisects (t := trT M h) hN1 hM hF hd hFn
      have qa2 : QA σ2 M n T G V U h sz dp B ag := qa.smL ⟨fun k hk => ⟨w4 k (by omega), by rw [w3]⟩, by rw [w3]⟩ w2
      have hd2 : dHas σ2 (FF M n sz dp (trT M h)) := ⟨hd.1, fun j hj => by rw [w4 179 (by omega)]; exact hd.2 j hj⟩
      have hbd := bisB_bd (vd := vdF M T G V (trT M h) (FF M n sz dp (trT M h))) (w := wtF M (FF M n sz dp (trT M h))) (FF M n sz dp (trT M h)).length 0 (FF M n sz dp (trT M h)).length (by omega)
      have hb1 : (fbs M n T G V h sz dp).1 < (fbs M n T G V h sz dp).2.1 := hbd.1
      have hb2 : (fbs M n T G V h sz dp).2.1 ≤ (FF M n sz dp (trT M h)).length := hbd.2.2.1
      have hb4 : ∀ k, (fbs M n T G V h sz dp).2.2 = some k → k < (FF M n sz dp (trT M h)).length := hbd.2.2.2
      have w7' : σ2.1 181 2 = iO (fbs M n T G V h sz dp).2.2 := w7
      unfold fL_isAll_789
      rw [if_neg (show ¬ (1 : Int32) = 0 by decide), w1, Option.bind_some, w7']
      cases eb : (fbs M n T G V h sz dp).2.2 with
      | some k =>
        have hk := hb4 k eb
        rw [if_pos (show (0 : Int32) ≤ iO (some k) by show (0 : Int32) ≤ iN k; rw [i_0, iN_le (by omega) (by omega)]; omega)]
        unfold fL_isAll_885 fL_isAll_886
        refine L_888 (b := false) hN qa2 ?_
        unfold brkM
        rw [eb, decide_eq_false (show ¬ some k = none from fun y => (nomatch y))]
        simp
      | none =>
        rw [if_neg (show ¬ (0 : Int32) ≤ iO none by decide)]
        have f2 : fL_failed N σ2 (trT M h) (iN 2) = some (ffl M n T G V h sz dp 2) := L_failed (v := 2) hN1 w2 hF hd2 hFn hb2 (by omega) w5 w6 (by omega)
        have f3 : fL_failed N σ2 (trT M h) (iN 3) = some (ffl M n T G V h sz dp 3) := L_failed (v := 3) hN1 w2 hF hd2 hFn hb2 (by omega) w5 w6 (by omega)
        rw [show (2 : Int32) = iN 2 from rfl, f2, Option.bind_some, show (3 : Int32) = iN 3 from rfl, f3, Option.bind_some]
        have ebk : brkM M n T G V h sz dp = decide (ffl M n T G V h sz dp 2 = ffl M n T G V h sz dp 3) := by
          unfold brkM
          rw [decide_eq_true ev, eb, decide_eq_true rfl, Bool.true_and, Bool.true_and]
        unfold fL_isAll_885 fL_isAll_886
        by_cases c : ffl M n T G V h sz dp 2 = ffl M n T G V h sz dp 3
        · rw [if_pos c]
          exact L_888 (b := true) hN qa2 (by rw [ebk, decide_eq_true c])
        · rw [if_neg c]
          exact L_888 (b := false) hN qa2 (by rw [ebk, decide_eq_false c])
    · rw [if_neg (show ¬ iN (fvd M n T G V h sz dp) = (2 : Int32) by rw [show (2 : Int32) = iN 2 from rfl, iN_eq (by omega) (by omega)]; exact ev)]
      unfold fL_isAll_788
      refine hno _ ?_
      unfold brkM
      rw [decide_eq_false ev]; rfl
/-- what is running, by the law -/
theorem MC.run {σ M : gS} {T V j : Nat} {ag : Nat → Nat} (m : MC σ M T V ag j) : (if M.1 176 (6 * j + 4) = iN 1 then M.1 176 (6 * j) else iM) = σ.1 (144 + j) 2 := by
  obtain ⟨_, m1, m2, m3⟩ := m
  rw [m2]
  by_cases c : M.1 176 (6 * j + 4) = iN 1
  · rw [if_pos c]
  · rw [if_neg c]
    rcases m3 with ⟨a, _⟩ | ⟨q, l, _, b, _⟩
    · exact a.symm
    · exact absurd b c
theorem L_638 {σ : gS} {x25 : Int64} {x27 : Int32} (hN : 5000 ≤ N) (hB : B < 100000) (qa : QA σ M n T G V U h sz dp B ag) : lp (fL_isAll_638 N x25 x27) N (σ, 1, 0) = fL_isAll_735 N σ 1 x25 x27 := by
  have hM := qa.2.2
  obtain ⟨hF, hh, h5, h6⟩ := id qa.1.1.1
  have a6 : RCw σ M := qa.1.1.2.2.2.2.2.1
  obtain ⟨⟨u1, u2⟩, u3, u4⟩ := id qa.1.2.2.2.1
  have hmc := qa.1.2.1.2.2.2.2.1
  refine lp_run (F := fL_isAll_638 N x25 x27) (fun j => (σ, 1, iN j)) 8 (fun j hj rec => ?_) (fun rec => ?_) N (by omega)
  · have eb : fX11_blame N σ (iN j) = some (M.1 178 (6 + j)) := by
      unfold fX11_blame
      rw [show fX11_needPlace N σ (iN j) (8 : Int32) = some () from X_place (n := 8) hj (by omega), Option.bind_some, X_whole (r := 159) (len := 8) rfl hj (by omega), Option.bind_some, show σ.2.1 (159 + 1) j = jN (vN M 178 (6 + j)) from a6 j hj, jN_32 (by have := (hF.2.2.2.2.2 j hj).2; omega), ← (hF.2.2.2.2.2 j hj).1]
    have e1 : iN j + (1 : Int32) = iN (j + 1) := iN_add _ 1
    have e722 : fL_isAll_722 N rec σ x25 x27 (iN j) = rec (σ, 1, iN (j + 1)) := by
      unfold fL_isAll_722 fL_isAll_727
      rw [e1]
    have l178 : σ.1 178 = M.1 178 := lw1 hM (by omega)
    have l176 : σ.1 176 = M.1 176 := lw1 hM (by omega)
    unfold fL_isAll_638
    dsimp only
    rw [if_neg (show ¬ (8 : Int32) ≤ iN j by rw [show (8 : Int32) = iN 8 from rfl, iN_le (by omega) (by omega)]; omega), if_neg (show ¬ (1 : Int32) = 0 by decide), eb, Option.bind_some, show (6 : Int32) + iN j = iN (6 + j) from iN_add 6 j, if_neg (gi (show 6 + j < 14 by omega) (by decide)), iN_cl (show 6 + j < 2147483648 by omega), l178, if_pos rfl]
    by_cases c2 : 2 < j
    · rw [if_pos (show (2 : Int32) < iN j by rw [show (2 : Int32) = iN 2 from rfl, iN_lt (by omega) (by omega)]; exact c2)]
      exact e722
    · rw [if_neg (show ¬ (2 : Int32) < iN j by rw [show (2 : Int32) = iN 2 from rfl, iN_lt (by omega) (by omega)]; exact c2)]
      have hj3 : j < 3 := by omega
      have eu : fX11_use N σ (iN j) = some (M.1 178 j) := by
        unfold fX11_use
        rw [show fX11_needPlace N σ (iN j) (3 : Int32) = some () from X_place (n := 3) hj3 (by omega), Option.bind_some, X_whole (r := 157) (len := 3) rfl hj3 (by omega), Option.bind_some, show σ.2.1 (157 + 1) j = jN (vN M 178 j) from (u3 j hj3).1]
        have hv : vN M 178 j < 2147483648 := by have := (u1 j hj3).2; omega
        rw [jN_32 hv, ← (u1 j hj3).1]
      have er : fX11_running N σ (iN j) = some (σ.1 (144 + j) 2) := by
        unfold fX11_running fX11_machineAt
        rw [show fX11_needPlace N σ (iN j) (6 : Int32) = some () from X_place (n := 6) (by omega) (by omega), Option.bind_some, if_neg (show ¬ iN j < (0 : Int32) by rw [i_0, iN_lt (by omega) (by omega)]; omega), if_neg (show ¬ (6 : Int32) ≤ iN j by rw [show (6 : Int32) = iN 6 from rfl, iN_le (by omega) (by omega)]; omega), if_neg (gi (show j < 6 by omega) (by decide)), iN_cl (show j < 2147483648 by omega), Option.bind_some]
      have hrun := (hmc j hj3).run
      rw [eu, Option.bind_some, if_neg (gi (show j < 14 by omega) (by decide)), iN_cl (show j < 2147483648 by omega), if_pos rfl, er, Option.bind_some, show (6 : Int32) * iN j = iN (6 * j) from iN_mul 6 j, show iN (6 * j) + (4 : Int32) = iN (6 * j + 4) from iN_add _ 4, if_neg (gi (show 6 * j + 4 < 18 by omega) (by decide)), iN_cl (show 6 * j + 4 < 2147483648 by omega), l176, if_neg (gi (show 6 * j < 18 by omega) (by decide)), iN_cl (show 6 * j < 2147483648 by omega)]
      have e719 : ∀ v : Int32, v = σ.1 (144 + j) 2 → fL_isAll_719 N rec σ x25 x27 (iN j) v (σ.1 (144 + j) 2) = rec (σ, 1, iN (j + 1)) := fun v hv => by
        unfold fL_isAll_719
        rw [if_pos hv.symm]
        exact e722
      by_cases c : M.1 176 (6 * j + 4) = iN 1
      · rw [if_pos c] at hrun
        rw [if_pos (show M.1 176 (6 * j + 4) = (1 : Int32) from c)]
        exact e719 _ hrun
      · rw [if_neg c] at hrun
        rw [if_neg (show ¬ M.1 176 (6 * j + 4) = (1 : Int32) from c)]
        exact e719 _ hrun
  · unfold fL_isAll_638
    dsimp only
    rw [if_pos (show (8 : Int32) ≤ iN 8 by decide)]
theorem sumR_le {M : gS} {q : Nat} : ∀ V, sumR M q V ≤ 16 * V
  | 0 => Nat.le_refl 0
  | i + 1 => by
    have ih := sumR_le (M := M) (q := q) i
    rw [sumR_s]
    split
    · unfold rnO; omega
    · omega
theorem L_496 {σ : gS} {x25 : Int64} {x27 : Int32} (hN : 5000 ≤ N) (hB : B < 100000) (qa : QA σ M n T G V U h sz dp B ag) : lp (fL_isAll_496 N x25 x27) N (σ, 1, 0) = fL_isAll_735 N σ 1 x25 x27 := by
  have hM := qa.2.2
  obtain ⟨hF, hh, h5, h6⟩ := id qa.1.1.1
  have hT := qa.1.2.1.1
  have hck := qa.1.2.1.2.2.2.1
  have hTs : σ.1 65 5 = iN T := qa.1.1.2.2.2.1.1.1
  have l161 : ∀ y, σ.1 161 y = M.1 161 y := fun y => by rw [lw1 hM (by omega)]
  have hT2 : σ.1 161 2 = iN T := (l161 2).trans hF.2.1.1
  have hV4 : σ.1 161 4 = iN V := (l161 4).trans hF.2.2.2.2.1.1
  have hV := hF.2.2.2.2.1.2.1
  have l172 : σ.1 172 = M.1 172 := lw1 hM (by omega)
  have l175 : σ.1 175 = M.1 175 := lw1 hM (by omega)
  have l174 : σ.2.1 174 = M.2.1 174 := lw2 hM (by omega)
  refine lp_run (F := fL_isAll_496 N x25 x27) (fun q => (σ, 1, iN q)) T (fun q hq rec => ?_) (fun rec => ?_) N (by omega)
  · unfold fL_isAll_496
    dsimp only
    rw [hT2, if_neg (show ¬ iN T ≤ iN q by rw [iN_le (by omega) (by omega)]; omega), if_neg (show ¬ (1 : Int32) = 0 by decide)]
    obtain ⟨_, ⟨r, b, fk, _, _, _, m5, hfk, c9, m6, _⟩, _, _, _, c8, _⟩ := hck q hq
    have hsum := sumR_le (M := M) (q := q) V
    refine lp_run (F := fL_isAll_515 N rec x25 x27 (iN q)) (fun j => (σ, iN (sumR M q j), iN j)) V (fun j hj rec5 => ?_) (fun rec5 => ?_) N (by omega)
    · obtain ⟨e175, hv⟩ := hF.2.2.2.2.1.2.2 j hj
      have ej : iN j + (1 : Int32) = iN (j + 1) := iN_add _ 1
      unfold fL_isAll_515
      dsimp only
      rw [hV4, if_neg (show ¬ iN V ≤ iN j by rw [iN_le (by omega) (by omega)]; omega), if_neg (gi (show j < 64 by omega) (by decide)), iN_cl (show j < 2147483648 by omega), l174, l175]
      have ec : (lg_cmp (M.2.1 174 j >>> ((50 : Int32).toInt64 &&& 63)) (iN q).toInt64 = 0) = (kOf M j = jN q) := by
        rw [iN_64 (by omega)]; exact lgc0
      by_cases c : kOf M j = jN q
      · rw [if_pos (by rw [ec]; exact c), if_neg (gj (show j < 64 by omega) (by decide))]
        unfold fL_isAll_554
        have er : (M.1 175 j / 4) - (M.1 175 j / 4) / 16 * 16 = iN (rnO (vN M 175 j)) := by
          rw [e175, show iN (vN M 175 j) / (4 : Int32) = iN (vN M 175 j / 4) from iN_div (b := 4) (by omega) (by omega)]
          exact iN_rem (k := 16) (by omega) (by omega)
        rw [er, iN_add, ej, sumR_s, if_pos c]
      · rw [if_neg (by rw [ec]; exact c)]
        unfold fL_isAll_554
        rw [show iN (sumR M q j) + (0 : Int32) = iN (sumR M q j + 0) from iN_add _ 0, ej, sumR_s, if_neg c]
    · have e12 : (12 : Int32) * iN q = iN (12 * q) := iN_mul 12 q
      have er : fX11_runs N σ (iN q) = some (iN (sumR M q V)) := by
        unfold fX11_runs
        rw [hTs, X_place hq (by omega), Option.bind_some, X7_at (by omega), Option.bind_some, c8]
      have ef : fX11_flaked N σ (iN q) = some (iN fk) := by
        unfold fX11_flaked
        rw [hTs, X_place hq (by omega), Option.bind_some, X7_at (by omega), Option.bind_some, c9]
      have hfB : fk < 2147483648 := by omega
      have eq : fX11_isQuarantined N σ (iN q) = some (if fk < 2 then 0 else 1) := by
        unfold fX11_isQuarantined fX3_isInQuarantine fX3_isInQuarantine_13
        rw [hTs, X_place hq (by omega), Option.bind_some, X7_at (by omega), Option.bind_some, c9]
        by_cases c : fk < 2
        · rw [if_pos (show iN fk < (2 : Int32) by rw [show (2 : Int32) = iN 2 from rfl, iN_lt hfB (by omega)]; exact c), if_pos c]; rfl
        · rw [if_neg (show ¬ iN fk < (2 : Int32) by rw [show (2 : Int32) = iN 2 from rfl, iN_lt hfB (by omega)]; exact c), if_neg c]; rfl
      unfold fL_isAll_515
      dsimp only
      rw [hV4, if_pos (Int32.le_refl _), er, Option.bind_some, if_pos rfl, ef, Option.bind_some, e12, show iN (12 * q) + (5 : Int32) = iN (12 * q + 5) from iN_add _ 5, if_neg (gi (show 12 * q + 5 < 48 by omega) (by decide)), iN_cl (show 12 * q + 5 < 2147483648 by omega), l172, m5, if_pos rfl, eq, Option.bind_some, show iN (12 * q) + (6 : Int32) = iN (12 * q + 6) from iN_add _ 6, if_neg (gi (show 12 * q + 6 < 48 by omega) (by decide)), iN_cl (show 12 * q + 6 < 2147483648 by omega), m6]
      unfold fL_isAll_619 fL_isAll_627
      by_cases c : fk < 2
      · rw [if_pos c, if_pos c, if_neg (show ¬ iN 0 = (1 : Int32) by decide), if_pos rfl, show iN q + (1 : Int32) = iN (q + 1) from iN_add _ 1]
      · rw [if_neg c, if_neg c, if_pos (show iN 1 = (1 : Int32) from rfl), if_pos rfl, show iN q + (1 : Int32) = iN (q + 1) from iN_add _ 1]
  · unfold fL_isAll_496
    dsimp only
    rw [hT2, if_pos (Int32.le_refl _)]
    unfold fL_isAll_635
    exact L_638 hN hB qa
end ASK
