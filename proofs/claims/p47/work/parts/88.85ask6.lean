/-! what is asked: the queue, and all of it -/
theorem does_7 {N : Nat} {s : gS} {x2 x3 x4 : Int32} : fL_does N s 7 x2 x3 x4 = ((fTX11_queuedAt N s x2).bind fun r_11 => g_sm r_11.1 (fun v_13 => fL_does_121 N r_11.2 v_13) (fun E => if E = "java/lang/IndexOutOfBoundsException" then some ((-11), r_11.2) else if E = "java/lang/IllegalArgumentException" then some ((-12), r_11.2) else if E = "java/lang/IllegalStateException" then some ((-13), r_11.2) else none)) := by
  unfold fL_does
  rw [if_neg (by decide), if_neg (by decide), if_neg (by decide), if_neg (by decide), if_neg (by decide), if_neg (by decide), if_neg (by decide), if_pos rfl]
/-- the order, one after the other -/
theorem ordL_nx {M : gS} {n : Nat} : ∀ (k : Nat) (W : Nat → Bool), sCnt W n ≤ k → (∀ j, j < (ordL M n k W).length → nx M (((ordL M n k W).take j).foldl Wm W) n = some ((ordL M n k W).getD j 0)) ∧ nx M ((ordL M n k W).foldl Wm W) n = none
  | 0, W, h => by
    have e : nx M W n = none := nx_zero (by omega)
    exact ⟨fun j hj => absurd hj (Nat.not_lt_zero j), e⟩
  | k + 1, W, h => by
    cases e : nx M W n with
    | none =>
      rw [ordL_none e]
      exact ⟨fun j hj => absurd hj (Nat.not_lt_zero j), e⟩
    | some c =>
      rw [ordL_some e]
      have hm := sCnt_wm (nx_lt e).1 (nx_lt e).2.1
      obtain ⟨i1, i2⟩ := ordL_nx (M := M) (n := n) k (Wm W c) (by omega)
      refine ⟨fun j hj => ?_, i2⟩
      cases j with
      | zero => exact e
      | succ j' =>
        rw [List.length_cons] at hj
        rw [List.take_succ_cons, List.getD_cons_succ]
        exact i1 j' (by omega)
theorem Wl_fold {M : gS} : ∀ (l : List Nat) (x : Int32), (∀ c ∈ l, c < 32) → Wl M (orL x l) = l.foldl Wm (Wl M x)
  | [], _, _ => rfl
  | c :: r, x, h => by
    show Wl M (orL (x ||| (iN 1 <<< (iN c &&& iN 31))) r) = r.foldl Wm (Wm (Wl M x) c)
    rw [Wl_fold r _ (fun d hd => h d (List.mem_cons_of_mem _ hd)), Wl_step (h c List.mem_cons_self)]
section ASK
variable {N : Nat} {M : gS} {n T G V U h sz dp B : Nat} {ag : Nat → Nat}
theorem L_177 {σ : gS} {x : Nat} (hN : 5000 ≤ N) (hB : B < 100000) (hx : x < 100000000) (qf : QF σ M n T G V U h sz dp B ag) : Q1 (fL_isAll_177 N σ (iN x) 1) M n T G V U h sz dp B ag := by
  obtain ⟨qa, h93, fm⟩ := qf
  have hM := qa.2.2
  obtain ⟨hF, hh, h5, h6⟩ := id qa.1.1.1
  have hn := hF.1.2.1
  have h1 : σ.1 161 1 = iN h := by rw [lw1 hM (by omega)]; exact hh.1
  have htr : σ.2.1 171 (h - 1) = trT M h := by rw [lw2 hM (by omega)]; rfl
  obtain ⟨s1, w1, w2, w3, w4, w5, w6, w7, w8, w9, w10⟩ := L_first (N := N) (t := trT M h) (show 100 ≤ N by omega) hM hF h5.1 h5.2.2 h6.1 ⟨h6.2.1, h6.2.2⟩
  have sm : SmL σ s1 := ⟨fun k hk => ⟨w4 k (by omega), w5 k (by omega)⟩, w3⟩
  have qa1 : QA s1 M n T G V U h sz dp B ag := qa.smL sm w2
  have qf1 : QF s1 M n T G V U h sz dp B ag := ⟨qa1, by rw [(sm.1 109 (by omega)).1]; exact h93, fm.fr hn (fun k i hk => by rw [(sm.1 k (by omega)).1]) (fun k hk => (sm.1 k (by omega)).2)⟩
  have sb : SB N s1 M n sz dp h := ⟨w8, w9, w6, w10⟩
  unfold fL_isAll_177
  rw [h1, show iN h - (1 : Int32) = iN (h - 1) from iN_sub (b := 1) hh.2.1 (by omega), if_neg (gi (show h - 1 < 26 by omega) (by decide)), iN_cl (show h - 1 < 2147483648 by omega), htr, w1, Option.bind_some]
  dsimp only
  rw [L_217 hN hx qf1 sb, L_362 hN hB hx qa1]
  exact L_735 hN qa1 sb
theorem L_143 {σ σ1 : gS} {x : Nat} (hN : 5000 ≤ N) (hB : B < 100000) (hx : x < 100000000) (hf : fX11_formBatches N σ = some σ1) (qf : QF σ1 M n T G V U h sz dp B ag) : Q1 (fL_isAll_143 N σ (iN x) 1 (iN (ordM M n).length)) M n T G V U h sz dp B ag := by
  obtain ⟨o1, o2⟩ := id qf.2.2.1
  have hlen := ordM_len (M := M) (n := n)
  have hn := qf.1.1.1.1.1.1.2.1
  have eq : fX11_queued N σ = some (iN (ordM M n).length, σ1) := by
    unfold fX11_queued
    rw [hf, Option.bind_some, o1]
  have e7 : fL_does N σ1 7 (iN (ordM M n).length) 0 0 = some (-11, σ1) := by
    have np : fX11_needPlace N σ1 (iN (ordM M n).length) (iN (ordM M n).length) = none := by
      unfold fX11_needPlace fX11_needPlace_9
      rw [if_neg (show ¬ iN (ordM M n).length < (0 : Int32) by rw [i_0, iN_lt (by omega) (by omega)]; omega), if_neg Int32.lt_irrefl]
    rw [does_7]
    unfold fTX11_queuedAt
    rw [X_formed qf.2.1, Option.bind_some, o1, np]
    dsimp only [g_tc]
    rw [Option.bind_some]
    dsimp only [g_sm]
    rw [if_pos rfl]
  unfold fL_isAll_143
  rw [if_neg (show ¬ (1 : Int32) = 0 by decide), eq, Option.bind_some]
  dsimp only
  rw [if_pos rfl, e7, Option.bind_some]
  dsimp only
  rw [if_pos rfl]
  exact L_177 hN hB hx qf
theorem L_63 {σ : gS} {x : Nat} (hN : 5000 ≤ N) (hB : B < 100000) (hx : x < 100000000) (qa : QA σ M n T G V U h sz dp B ag) : Q1 (fL_isAll_63 N σ (iN x) 1) M n T G V U h sz dp B ag := by
  have hN1 : 100 ≤ N := by omega
  obtain ⟨σ1, w1, w2, w3, w4, g1, x1, l1⟩ := qa.1.form hN1 qa.2.1
  have hM := qa.2.2
  have hM1 : lawOf σ1 = M := l1.trans hM
  have qf : QF σ1 M n T G V U h sz dp B ag := ⟨⟨g1, x1, hM1⟩, w3, w4⟩
  obtain ⟨hF, hh, h5, h6⟩ := id qa.1.1.1
  have hn := hF.1.2.1
  obtain ⟨o1, o2⟩ := id w4.1
  have hlen := ordM_len (M := M) (n := n)
  have hord := ordL_nx (M := M) (n := n) n (fun c => decide (M.1 164 c = iN 1)) (sCnt_le n)
  have hW0 : Wl M (iN 0) = fun c => decide (M.1 164 c = iN 1) := Wl_0
  have hmem : ∀ c ∈ ordM M n, c < 32 := fun c hc => by have := (ordM_mem c hc).1; omega
  have hnx : ∀ (s : gS), lawOf s = M → ∀ j, j ≤ (ordM M n).length → fL_next N s (orL (iN 0) ((ordM M n).take j)) = some (if j < (ordM M n).length then iN ((ordM M n).getD j 0) else iM) := fun s hs j hj => by
    rw [L_next hN1 hs hF.1.1 hn hF.1.2.2, Wl_fold _ _ (fun c hc => hmem c (List.mem_of_mem_take hc)), hW0]
    by_cases c : j < (ordM M n).length
    · rw [if_pos c]
      have := hord.1 j c
      rw [show ordL M n n (fun c => decide (M.1 164 c = iN 1)) = ordM M n from rfl] at this
      rw [this]; rfl
    · have e : (ordM M n).take j = ordM M n := List.take_of_length_le (by omega)
      rw [if_neg c, e]
      have := hord.2
      rw [show ordL M n n (fun c => decide (M.1 164 c = iN 1)) = ordM M n from rfl] at this
      rw [this]; rfl
  have hqa : ∀ (s : gS) j, fX11_formBatches N s = some σ1 → j < (ordM M n).length → fX11_queuedAt N s (iN j) = some (iN ((ordM M n).getD j 0), σ1) := fun s j hs hj => by
    have hb := hmem _ (gD_mem hj)
    unfold fX11_queuedAt
    rw [hs, Option.bind_some, o1, X_place hj (by omega), Option.bind_some, X_whole (r := 110) (len := 60) rfl (show j < 60 by omega) (by omega), Option.bind_some, show σ1.2.1 (110 + 1) j = _ from o2 j hj, jN_32 (by omega)]
  have hf1 : fX11_formBatches N σ1 = some σ1 := X_formed w3
  have hsj : ∀ j : Nat, fX11_formBatches N (if j = 0 then σ else σ1) = some σ1 := fun j => by
    by_cases c : j = 0
    · rw [if_pos c]; exact w1
    · rw [if_neg c]; exact hf1
  have hfin : lp (fL_isAll_85 N (iN x)) N (σ, 1, 0, 0, if 0 < (ordM M n).length then iN ((ordM M n).getD 0 0) else iM) = fL_isAll_143 N (if (ordM M n).length = 0 then σ else σ1) (iN x) 1 (iN (ordM M n).length) := by
    refine lp_run (F := fL_isAll_85 N (iN x)) (fun j => ((if j = 0 then σ else σ1), 1, orL (iN 0) ((ordM M n).take j), iN j, if j < (ordM M n).length then iN ((ordM M n).getD j 0) else iM)) (ordM M n).length (fun j hj rec => ?_) (fun rec => ?_) N (by omega)
    · have hb := hmem _ (gD_mem hj)
      have hs1 := hsj j
      have em : orL (iN 0) ((ordM M n).take j) ||| ((1 : Int32) <<< (iN ((ordM M n).getD j 0) &&& 31)) = orL (iN 0) ((ordM M n).take (j + 1)) := by
        rw [take_snoc hj]
        unfold orL
        rw [List.foldl_append]
        rfl
      have hn1 := hnx σ1 hM1 (j + 1) (by omega)
      unfold fL_isAll_85
      dsimp only
      rw [if_pos hj, if_neg (show ¬ iN ((ordM M n).getD j 0) < (0 : Int32) by rw [i_0, iN_lt (by omega) (by omega)]; omega), if_neg (show ¬ (1 : Int32) = 0 by decide), hqa _ j hs1 hj, Option.bind_some]
      dsimp only
      rw [if_pos rfl, em]
      unfold fL_isAll_120
      rw [hn1, Option.bind_some, if_neg (show ¬ j + 1 = 0 by omega), show iN j + (1 : Int32) = iN (j + 1) from iN_add _ 1]
    · unfold fL_isAll_85
      dsimp only
      rw [if_neg (Nat.lt_irrefl _), if_pos (show iM < (0 : Int32) by decide)]
  unfold fL_isAll_63
  have h00 := hnx σ hM 0 (Nat.zero_le _)
  rw [List.take_zero] at h00
  rw [show fL_next N σ (0 : Int32) = _ from h00, Option.bind_some, hfin]
  exact L_143 hN hB hx (hsj _) qf
/-- all that is asked is answered on both sides alike -/
theorem L_isAll {σ : gS} {x : Nat} (hN : 5000 ≤ N) (hB : B < 100000) (hx : x < 100000000) (qa : QA σ M n T G V U h sz dp B ag) : Q1 (fL_isAll N σ (iN x)) M n T G V U h sz dp B ag := by
  have qa1 : QA (scr σ) M n T G V U h sz dp B ag := qa.smL (scr_sm σ) ((scr_law σ).trans qa.2.2)
  have hM := qa1.2.2
  obtain ⟨hF, hh, h5, h6⟩ := id qa1.1.1.1
  have l161 : ∀ y, (scr σ).1 161 y = M.1 161 y := fun y => by rw [lw1 hM (by omega)]
  obtain ⟨s1, s2, s3, s4⟩ := id qa1.1.2.2.2.2.1
  have ch1 := qa1.1.1.2.2.1.1
  have t4 := qa1.1.1.2.2.2.2.1.2.2.2.1
  have := L_63 (x := x) hN hB hx qa1
  unfold fL_isAll fX11_clock fX11_changes fX11_commits fX11_fullFailed
  rw [show zI (zJ (zI σ 179) 180) 181 = scr σ from rfl]
  rw [Option.bind_some, if_pos (by rw [l161]; exact s4), Option.bind_some, if_pos (by rw [l161, ch1]; exact hF.1.1.symm), Option.bind_some, if_pos (by rw [l161, t4]; exact hh.1.symm), Option.bind_some, if_pos (by rw [l161]; exact s3)]
  exact this
end ASK
