/-! the turns -/
section DD
variable {N : Nat} {xs : Nat → Int32} {Lx : Nat}
theorem and31 (w : Int32) : ∃ F, F < 2147483648 ∧ w &&& 2147483647 = iN F := by
  refine ⟨(w.toBitVec &&& 2147483647#32).toNat, ?_, ?_⟩
  · rw [BitVec.toNat_and]
    have := Nat.and_le_right (n := w.toBitVec.toNat) (m := (2147483647#32).toNat)
    have e : (2147483647#32).toNat = 2147483647 := rfl
    omega
  · apply Int32.toBitVec_inj.mp
    rw [Int32.toBitVec_and]
    show w.toBitVec &&& 2147483647#32 = BitVec.ofNat 32 _
    rw [BitVec.ofNat_toNat]
    simp
theorem L_2765 {s : gS} {V U B A : Nat} (hN : 5000 ≤ N) (hB : B < 100000) (a : AI s V U B A) : fL_law_2765 N xs Lx s 1 = some 1 := by
  obtain ⟨n, T, G, h, sz, dp, ag, g, x, hA⟩ := a
  obtain ⟨s', e, _⟩ := L_isAll (x := 3) hN hB (by omega) (⟨g, x, rfl⟩ : QA s (lawOf s) n T G V U h sz dp B ag)
  unfold fL_law_2765
  rw [if_neg (show ¬ (1 : Int32) = 0 by decide), show (3 : Int32) = iN 3 from rfl, e, Option.bind_some]
  dsimp only
  rw [if_neg (show ¬ (1 : Int32) = 0 by decide)]
  unfold fL_law_2815
  rw [if_neg (by decide)]
theorem L_2698 {s : gS} {c j V U B A : Nat} {rec221 : (gS × Int32 × Int32) → Option Int32} (hN : 5000 ≤ N) (hB : B < 100000) (hc : c < 100000000) (hj : j < 80) (a : AI s V U B A) : ∃ s', fL_law_2698 N xs Lx rec221 s 1 (iN j) (iN c) = rec221 (s', 1, iN (j + 1)) ∧ AI s' V U B A := by
  have ej : iN j + (1 : Int32) = iN (j + 1) := iN_add _ 1
  unfold fL_law_2698
  rw [if_neg (show ¬ (1 : Int32) = 0 by decide)]
  by_cases c4 : (iN j - iN j / (5 : Int32) * 5) < 4
  · rw [if_pos c4]
    unfold fL_law_2752 fL_law_2757
    rw [ej]
    exact ⟨s, rfl, a⟩
  · rw [if_neg c4]
    obtain ⟨n, T, G, h, sz, dp, ag, g, x, hA⟩ := a
    obtain ⟨s', e, g', x', hl⟩ := L_isAll (x := c) hN hB hc (⟨g, x, rfl⟩ : QA s (lawOf s) n T G V U h sz dp B ag)
    rw [e, Option.bind_some]
    dsimp only
    rw [if_neg (show ¬ (1 : Int32) = 0 by decide)]
    unfold fL_law_2752 fL_law_2757
    rw [ej]
    exact ⟨s', rfl, n, T, G, h, sz, dp, ag, by rw [hl]; exact g', by rw [hl]; exact x', hA⟩
theorem L_turns (hN : 5000 ≤ N) (hL : Lx ≤ 260) : ∀ (m j : Nat) (N' : Nat) (s : gS) (V U B A : Nat), j + m = 80 → m < N' → AI s V U B A → U ≤ 9 * j → B ≤ 9 * j → A ≤ j → lp (fL_law_221 N xs Lx) N' (s, 1, iN j) = some 1
  | 0, j, N', s, V, U, B, A, hj, hN', a, hU, hB, hA => by
    obtain ⟨N2, rfl⟩ : ∃ k, N' = k + 1 := ⟨N' - 1, by omega⟩
    rw [lp_1]
    generalize lp (fL_law_221 N xs Lx) N2 = R
    unfold fL_law_221
    dsimp only
    rw [if_pos (show (80 : Int32) ≤ iN j by rw [show (80 : Int32) = iN 80 from rfl, iN_le (by omega) (by omega)]; omega)]
    exact L_2765 hN (by omega) a
  | m + 1, j, N', s, V, U, B, A, hj, hN', a, hU, hB, hA => by
    obtain ⟨N2, rfl⟩ : ∃ k, N' = k + 1 := ⟨N' - 1, by omega⟩
    have ih := L_turns hN hL m (j + 1) N2
    rw [lp_1]
    generalize lp (fL_law_221 N xs Lx) N2 = R at ih
    have a0 := a
    obtain ⟨n, T, G, h, sz, dp, ag, g, x, hAg⟩ := a
    have aj : AJ s n T G V U h sz dp B A ag := ⟨g, x, hAg⟩
    obtain ⟨h4, hV⟩ := aj.n4
    unfold fL_law_221
    dsimp only
    rw [if_neg (show ¬ (80 : Int32) ≤ iN j by rw [show (80 : Int32) = iN 80 from rfl, iN_le (by omega) (by omega)]; omega), if_neg (show ¬ (1 : Int32) = 0 by decide), h4]
    by_cases v50 : 50 ≤ V
    · rw [if_pos (show (50 : Int32) ≤ iN V by rw [show (50 : Int32) = iN 50 from rfl, iN_le (by omega) (by omega)]; exact v50)]
      exact L_2765 hN (by omega) a0
    · rw [if_neg (show ¬ (50 : Int32) ≤ iN V by rw [show (50 : Int32) = iN 50 from rfl, iN_le (by omega) (by omega)]; exact v50)]
      have go : ∀ w : Int32, fL_law_279 N xs Lx R s 1 (iN j) (w &&& 2147483647) = some 1 := fun w => by
        obtain ⟨F, hF, e⟩ := and31 w
        rw [e]
        have bd : BD N (F / 26) V U B A := ⟨hN, by omega, by omega, by omega, by omega, by omega⟩
        obtain ⟨s', e1, V', U', a', hV', hU'⟩ := Y_279 (N := N) (xs := xs) (Lx := Lx) (rec221 := R) (j := j) bd hF (by omega) aj
        rw [e1]
        obtain ⟨s2, e2, a2⟩ := L_2698 (xs := xs) (Lx := Lx) (c := F / 26) (j := j) (rec221 := R) hN (by omega) (by omega) (by omega) a'
        rw [e2]
        exact ih s2 V' U' (B + 9) (A + 1) (by omega) (by omega) a2 (by omega) (by omega) (by omega)
      by_cases cl : Lx ≤ j
      · rw [if_pos (show Int32.ofNat Lx ≤ iN j by show iN Lx ≤ iN j; rw [iN_le (by omega) (by omega)]; exact cl)]
        exact go _
      · rw [if_neg (show ¬ Int32.ofNat Lx ≤ iN j by show ¬ iN Lx ≤ iN j; rw [iN_le (by omega) (by omega)]; exact cl), if_neg (gi (show j < Lx by omega) (by omega))]
        exact go _
end DD
