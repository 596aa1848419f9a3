/-! deciding on both sides, to its end -/
theorem J_decs {N : Nat} {n T G V U sz dp : Nat} {ag : Nat → Nat} (hN : 5000 ≤ N) : ∀ (m : Nat) (σ M : gS) (h x F1 F2 : Nat), cnS M n 1 ≤ m → m + 2 ≤ F1 → m + 1 ≤ F2 → x + m ≤ 60 → DI σ M n T G V U h sz dp ag →
    ∃ (σ' M' : gS) (h' : Nat), stopD M' n T G V h' sz dp ∧ DI σ' M' n T G V U h' sz dp ag ∧ σ'.1 109 3 = iN 1 ∧ Fm σ' M' n T G sz dp (trT M' h') ∧ FrD n σ σ' ∧ FrN n M M' ∧ (DG M n h → DG M' n h') ∧ (∀ s : gS, lawOf s = M → ∃ s', lp (fL_decides_3 N) F1 (s, iN 1) = some (trT M' h', s') ∧ lawOf s' = M' ∧ SmL s s') ∧ lp (fX11_passTick_52 N) F2 (σ, iN x) = fX11_passTick_74 N σ' := by
  intro m
  induction m with
  | zero =>
    intro σ M h x F1 F2 hm hF1 hF2 hx hd
    obtain ⟨k, rfl⟩ : ∃ k, F1 = k + 2 := ⟨F1 - 2, by omega⟩
    obtain ⟨k2, rfl⟩ : ∃ k, F2 = k + 1 := ⟨F2 - 1, by omega⟩
    rcases J_dec hN hd with ⟨hst, σ', w1, w2, w3, w4, w5, w6⟩ | ⟨σ', M', h', w1, w2, w3, _⟩
    · refine ⟨σ', M, h, hst, w2, w3, w4, w5, FrN.refl n M, id, fun s hs => ?_, ?_⟩
      · obtain ⟨s', v1, v2, v3⟩ := L_dec0 (rec3 := lp (fL_decides_3 N) (k + 1)) (show 100 ≤ N by omega) hs hd.1 hst
        have hh := hd.1.2.1
        refine ⟨s', ?_, v2, v3⟩
        rw [lp_1, v1, lp_1]
        unfold fL_decides_3
        dsimp only
        rw [if_pos (show iN 0 = (0 : Int32) from rfl), lw1 v2 (show 161 ≤ 161 ∧ 161 < 179 by omega), lw2 v2 (show 161 ≤ 171 ∧ 171 < 179 by omega), hh.1, i_1, iN_sub (by omega) (by omega), if_neg (gi (show h - 1 < 26 by omega) (by decide)), iN_cl (show h - 1 < 2147483648 by omega)]
        rfl
      · rw [lp_1]
        unfold fX11_passTick_52
        dsimp only
        rw [if_neg (show ¬ (60 : Int32) < iN x by rw [i_60, iN_lt (by omega) (by omega)]; omega), w1, Option.bind_some]
        exact if_pos rfl
    · omega
  | succ m ih =>
    intro σ M h x F1 F2 hm hF1 hF2 hx hd
    obtain ⟨k, rfl⟩ : ∃ k, F1 = k + 2 := ⟨F1 - 2, by omega⟩
    obtain ⟨k2, rfl⟩ : ∃ k, F2 = k + 1 := ⟨F2 - 1, by omega⟩
    rcases J_dec hN hd with ⟨hst, σ', w1, w2, w3, w4, w5, w6⟩ | ⟨σ1, M1, h1, w1, w2, w3, w4, w5, w6, w7⟩
    · refine ⟨σ', M, h, hst, w2, w3, w4, w5, FrN.refl n M, id, fun s hs => ?_, ?_⟩
      · obtain ⟨s', v1, v2, v3⟩ := L_dec0 (rec3 := lp (fL_decides_3 N) (k + 1)) (show 100 ≤ N by omega) hs hd.1 hst
        have hh := hd.1.2.1
        refine ⟨s', ?_, v2, v3⟩
        rw [lp_1, v1, lp_1]
        unfold fL_decides_3
        dsimp only
        rw [if_pos (show iN 0 = (0 : Int32) from rfl), lw1 v2 (show 161 ≤ 161 ∧ 161 < 179 by omega), lw2 v2 (show 161 ≤ 171 ∧ 171 < 179 by omega), hh.1, i_1, iN_sub (by omega) (by omega), if_neg (gi (show h - 1 < 26 by omega) (by decide)), iN_cl (show h - 1 < 2147483648 by omega)]
        rfl
      · rw [lp_1]
        unfold fX11_passTick_52
        dsimp only
        rw [if_neg (show ¬ (60 : Int32) < iN x by rw [i_60, iN_lt (by omega) (by omega)]; omega), w1, Option.bind_some]
        exact if_pos rfl
    · obtain ⟨σ', M', h', v1, v2, v3, v4, v5, v6, v7, v8, v9⟩ := ih σ1 M1 h1 (x + 1) (k + 1) k2 (by omega) (by omega) (by omega) (by omega) w2
      refine ⟨σ', M', h', v1, v2, v3, v4, w4.trans v5, w5.trans v6, fun hg => v7 (w6 hg), fun s hs => ?_, ?_⟩
      · obtain ⟨s1, u1, u2, u3⟩ := w7 s (lp (fL_decides_3 N) (k + 1)) hs
        obtain ⟨s', t1, t2, t3⟩ := v8 s1 u2
        exact ⟨s', by rw [lp_1, u1]; exact t1, t2, u3.trans t3⟩
      · rw [lp_1, ← v9]
        generalize lp (fX11_passTick_52 N) k2 = R
        unfold fX11_passTick_52
        dsimp only
        rw [if_neg (show ¬ (60 : Int32) < iN x by rw [i_60, iN_lt (by omega) (by omega)]; omega), w1, Option.bind_some, i_1, iN_add]
        exact if_neg (show ¬ iN 1 = (0 : Int32) by decide)
theorem J_decides {N : Nat} {σ M : gS} {n T G V U h sz dp : Nat} {ag : Nat → Nat} (hN : 5000 ≤ N) (hd : DI σ M n T G V U h sz dp ag) :
    ∃ (σ' M' : gS) (h' : Nat), stopD M' n T G V h' sz dp ∧ DI σ' M' n T G V U h' sz dp ag ∧ σ'.1 109 3 = iN 1 ∧ Fm σ' M' n T G sz dp (trT M' h') ∧ FrD n σ σ' ∧ FrN n M M' ∧ (DG M n h → DG M' n h') ∧ (∀ s : gS, lawOf s = M → ∃ s', fL_decides N s = some (trT M' h', s') ∧ lawOf s' = M' ∧ SmL s s') ∧ lp (fX11_passTick_52 N) N (σ, 0) = fX11_passTick_74 N σ' := by
  have hn : cnS M n 1 ≤ n := sCnt_le n
  have hn2 := hd.1.1.1.2.1
  exact J_decs hN 20 σ M h 0 64 N (by omega) (by omega) (by omega) (by omega) hd
/-- where it stops, the law's deciding does nothing more -/
theorem L_decs0 {N : Nat} {M s : gS} {n T G V h sz dp : Nat} (hN : 100 ≤ N) (hM : lawOf s = M) (hD : LD M n T G V h sz dp) (hst : stopD M n T G V h sz dp) : ∃ s', fL_decides N s = some (trT M h, s') ∧ lawOf s' = M ∧ SmL s s' := by
  obtain ⟨s', v1, v2, v3⟩ := L_dec0 (rec3 := lp (fL_decides_3 N) 63) hN hM hD hst
  have hh := hD.2.1
  refine ⟨s', ?_, v2, v3⟩
  unfold fL_decides
  rw [show (1 : Int32) = iN 1 from rfl, show (64 : Nat) = 63 + 1 from rfl, lp_1, v1, show (63 : Nat) = 62 + 1 from rfl, lp_1]
  unfold fL_decides_3
  dsimp only
  rw [if_pos (show iN 0 = (0 : Int32) from rfl), lw1 v2 (show 161 ≤ 161 ∧ 161 < 179 by omega), lw2 v2 (show 161 ≤ 171 ∧ 171 < 179 by omega), hh.1, i_1, iN_sub (by omega) (by omega), if_neg (gi (show h - 1 < 26 by omega) (by decide)), iN_cl (show h - 1 < 2147483648 by omega)]
  rfl
