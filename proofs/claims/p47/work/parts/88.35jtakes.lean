/-! all machines take, on both sides -/
theorem tr_fr {M M' : gS} {h : Nat} (hf : FrU M M') : trT M' h = trT M h := by unfold trT; rw [hf.2 171 (by omega)]
theorem J_takes {N : Nat} {σ M : gS} {n T G V U h sz dp Bu : Nat} {ag : Nat → Nat} (hN : 5000 ≤ N) (hd : DI σ M n T G V U h sz dp ag) (hf : σ.1 109 3 = iN 1) (hm : Fm σ M n T G sz dp (trT M h)) (hC : WC σ M T V U ag) (h17 : σ.1 0 17 = M.1 161 8) (h8 : M.1 161 8 = iN 0 ∨ M.1 161 8 = iN 1) (hlu : LU M) (hu1 : ∀ a, a < 3 → M.1 178 a = iN (vN M 178 a) ∧ vN M 178 a ≤ Bu) (hu2 : ∀ a, a < 3 → M.1 178 (3 + a) = iN (vN M 178 (3 + a)) ∧ 1 ≤ vN M 178 (3 + a) ∧ vN M 178 (3 + a) ≤ 10) (hy : ∀ j, j < 3 → M.1 176 (6 * j + 2) = iN 0 ∨ M.1 176 (6 * j + 2) = iN 1) (hU : US σ M) (htm : ∀ q, q < T → σ.1 (76 + 3 * q) 4 = M.1 172 (12 * q + 1) ∧ M.1 172 (12 * q + 1) = iN (vN M 172 (12 * q + 1)) ∧ 1 ≤ vN M 172 (12 * q + 1) ∧ vN M 172 (12 * q + 1) ≤ 3) (hoth : ∀ j, 3 ≤ j → j < 6 → σ.1 (144 + j) 0 = iN 0) (hB : Bu < 8000) :
    ∃ (σ1 σ' M' : gS) (cd : Nat → Option wEn) (O : List Nat), (∀ s : gS, lawOf s = M → ∃ s', fL_takes N s (trT M h) = some s' ∧ lawOf s' = M' ∧ SmL s s') ∧ ((fX11_listWanted N σ).bind fun r_3 => lp (fX11_passTick_84 N) N (r_3, 0)) = some (sI σ' 0 18 1) ∧ Sm σ σ1 118 134 ∧ FrT σ1 σ' ∧ FrU M M' ∧ QT M' n T G V h sz dp 3 ∧ (LD M' n T G V h sz dp ∧ LU M') ∧ ((∀ a, a < 3 → M'.1 178 a = iN (vN M' 178 a) ∧ vN M' 178 a ≤ Bu + 9) ∧ ∀ a, a < 3 → M'.1 178 (3 + a) = iN (vN M' 178 (3 + a)) ∧ 1 ≤ vN M' 178 (3 + a) ∧ vN M' 178 (3 + a) ≤ 10) ∧ (∀ j, j < 3 → M'.1 176 (6 * j + 2) = iN 0 ∨ M'.1 176 (6 * j + 2) = iN 1) ∧ US σ' M' ∧ WC σ' M' T V U ag := by
  obtain ⟨k, rfl⟩ : ∃ k, N = k + 7 := ⟨N - 7, by omega⟩
  obtain ⟨σ1, l1, l2, l3⟩ := X_listWanted hN hd hf hm hC h17 h8
  have hT4 := hC.1.1
  have hL := hd.1
  have hbs := bat_bsOK (M := M) (n := n) (sz := sz) (dp := dp) (t := trT M h) hL.1.1.2.1 hL.2.2.1.2.2 hL.2.2.2.2.2
  have hnB : nBM M n T G V h sz dp ≤ 4 := by
    unfold nBM
    have := hbs.1
    have := hbs.2.1
    split <;> omega
  have hKI : KI σ1 M M n T G V U h sz dp Bu (4 * (nBM M n T G V h sz dp + 1)) ag := ⟨⟨hL, hlu⟩, ⟨hu1, hu2⟩, hy, ⟨⟨rfl, rfl⟩, fun _ _ => rfl, fun _ _ _ hf => hf⟩, l2.wt hT4 (by omega), fun a ha => by
      rw [(l3.1 158 (by omega)).2, (l3.1 156 (by omega)).2]; exact hU a ha, hC.sm2 l3, fun q hq => by
      rw [(l3.1 _ (by omega)).1]; exact htm q hq, fun j h1 h2 => by
      rw [(l3.1 _ (by omega)).1]; exact hoth j h1 h2⟩
  have hQ0 : QT M n T G V h sz dp 0 := fun ⟨j', hj', _⟩ => absurd hj' (Nat.not_lt_zero j')
  obtain ⟨σa, Ma, a1, a2, a3, a4, a5, a6⟩ := J_take1 (j := 0) hN (by omega) hKI rfl (by omega) hQ0
  obtain ⟨σb, Mb, b1, b2, b3, b4, b5, b6⟩ := J_take1 (j := 1) hN (by omega) a3 rfl (by omega) a4
  obtain ⟨σc, Mc, c1, c2, c3, c4, c5, c6⟩ := J_take1 (j := 2) hN (by omega) b3 rfl (by omega) b4
  rw [tr_fr a6] at b1
  rw [tr_fr b6, tr_fr a6] at c1
  obtain ⟨d1, d2, d3, d4, d5, d6, d7, d8, d9⟩ := c3
  refine ⟨σ1, σc, Mc, fun _ => none, [], fun s hs => ?_, ?_, l3, a5.trans (b5.trans c5), a6.trans (b6.trans c6), c4, d1, ⟨fun a ha => d2.1 a ha, d2.2⟩, d3, d6, d7⟩
  · obtain ⟨s1, p1, p2, p3⟩ := a1 s (lp (fL_takes_3 (k + 7) (trT M h)) (k + 6)) hs
    obtain ⟨s2, q1, q2, q3⟩ := b1 s1 (lp (fL_takes_3 (k + 7) (trT M h)) (k + 5)) p2
    obtain ⟨s3, r1, r2, r3⟩ := c1 s2 (lp (fL_takes_3 (k + 7) (trT M h)) (k + 4)) q2
    refine ⟨s3, ?_, r2, p3.trans (q3.trans r3)⟩
    unfold fL_takes
    rw [i_0, lp_1, p1, lp_1, q1, lp_1, r1, lp_1]
    unfold fL_takes_3
    dsimp only
    rw [if_pos (show (3 : Int32) ≤ iN (2 + 1) by decide)]
  · have sk : ∀ (j : Nat) (rec84 : (gS × Int32) → Option gS), 3 ≤ j → j < 6 → fX11_passTick_84 (k + 7) rec84 (σc, iN j) = rec84 (σc, iN (j + 1)) := fun j rec84 h3 h6 => by
      unfold fX11_passTick_84 fX11_passTick_116
      dsimp only
      rw [if_neg (show ¬ (6 : Int32) ≤ iN j by rw [i_6, iN_le (by omega) (by omega)]; omega), X_mach h6, Option.bind_some, d9 j h3 h6, if_pos (show iN 0 = (0 : Int32) from rfl), i_1, iN_add]
    rw [l1, Option.bind_some, i_0, lp_1, a2, lp_1, b2, lp_1, c2, lp_1, sk (2 + 1) _ (by omega) (by omega), lp_1, sk (2 + 1 + 1) _ (by omega) (by omega), lp_1, sk (2 + 1 + 1 + 1) _ (by omega) (by omega), lp_1]
    generalize lp (fX11_passTick_84 (k + 7)) k = R
    unfold fX11_passTick_84
    dsimp only
    rw [if_pos (show (6 : Int32) ≤ iN (2 + 1 + 1 + 1 + 1) by decide)]
/-- where nothing is taken, the law's taking does nothing -/
theorem L_takes0 {N : Nat} {M s : gS} {n T G V h sz dp : Nat} (hN : 100 ≤ N) (hM : lawOf s = M) (hD : LD M n T G V h sz dp) (hF : TF M n T G V dp) (hmc : ∀ j, j < 3 → (M.1 176 (6 * j + 4) = iN 0 ∨ (M.1 176 (6 * j + 4) = iN 1 ∧ ∃ q, q < 4 ∧ M.1 176 (6 * j) = iN q)) ∨ idB M j) (hQ : QT M n T G V h sz dp 3) : ∃ s', fL_takes N s (trT M h) = some s' ∧ lawOf s' = M ∧ SmL s s' := by
  have step : ∀ (j : Nat) (s : gS) (rec3 : (gS × Int32) → Option gS), j < 3 → lawOf s = M → ∃ s', fL_takes_3 N (trT M h) rec3 (s, iN j) = rec3 (s', iN (j + 1)) ∧ lawOf s' = M ∧ SmL s s' := fun j s rec3 hj hs => by
    rcases hmc j hj with h1 | h1
    · exact ⟨s, L_take3n hs hj h1, hs, SmL.refl s⟩
    · obtain ⟨s', v1, v2, v3⟩ := L_take3 (rec3 := rec3) hN hs hD hF hj h1.1 h1.2
      rw [hQ ⟨j, hj, h1⟩] at v2
      exact ⟨s', v1, v2, v3⟩
  obtain ⟨k, rfl⟩ : ∃ k, N = k + 4 := ⟨N - 4, by omega⟩
  obtain ⟨s1, p1, p2, p3⟩ := step 0 s (lp (fL_takes_3 (k + 4) (trT M h)) (k + 3)) (by omega) hM
  obtain ⟨s2, q1, q2, q3⟩ := step 1 s1 (lp (fL_takes_3 (k + 4) (trT M h)) (k + 2)) (by omega) p2
  obtain ⟨s3, r1, r2, r3⟩ := step 2 s2 (lp (fL_takes_3 (k + 4) (trT M h)) (k + 1)) (by omega) q2
  refine ⟨s3, ?_, r2, p3.trans (q3.trans r3)⟩
  unfold fL_takes
  rw [i_0, lp_1, p1, lp_1, q1, lp_1, r1, lp_1]
  unfold fL_takes_3
  dsimp only
  rw [if_pos (show (3 : Int32) ≤ iN (2 + 1) by decide)]
