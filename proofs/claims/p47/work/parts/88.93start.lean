/-! the start: both sides hold nothing -/
def S0 : gS := sI (sI (sI (sI gN5 161 1 1) 161 5 1) 161 6 1) 161 9 (-1)
def stN : Nat → gS
  | 0 => S0
  | j + 1 => sI (sI (sI (stN j) 178 (3 + j) 1) 176 (6 * j) (-1)) 176 (6 * j + 3) (-1)
def S1 : gS := sI (stN 3) 176 4 1
theorem s1_a : (S1.1 1 3 = iN 0 ∧ S1.1 1 4 = iN 0 ∧ S1.1 65 5 = iN 0 ∧ S1.1 70 1 = iN 0 ∧ S1.1 72 1 = iN 0 ∧ S1.1 74 1 = iN 0) ∧ (S1.1 151 1 = iN 1 ∧ S1.1 109 0 = iN 1 ∧ S1.1 109 1 = iN 1 ∧ S1.1 109 2 = iN 0 ∧ S1.1 109 3 = iN 0 ∧ S1.1 106 2 = iN 0) ∧ (S1.1 0 14 = iN 0 ∧ S1.1 0 15 = iN 0 ∧ S1.1 0 16 = iM ∧ S1.1 0 17 = iN 0 ∧ S1.1 0 18 = iN 0) := by decide +kernel
theorem s1_l : (S1.1 161 0 = iN 0 ∧ S1.1 161 1 = iN 1 ∧ S1.1 161 2 = iN 0 ∧ S1.1 161 3 = iN 0 ∧ S1.1 161 4 = iN 0 ∧ S1.1 161 5 = iN 1) ∧ (S1.1 161 6 = iN 1 ∧ S1.1 161 7 = iN 0 ∧ S1.1 161 8 = iN 0 ∧ S1.1 161 9 = iM ∧ S1.1 161 10 = iN 0) := by decide +kernel
theorem s1_u : (∀ a, a < 8 → S1.1 178 (6 + a) = iN 0) ∧ (∀ a, a < 3 → S1.1 178 a = iN 0) ∧ ∀ a, a < 3 → S1.1 178 (3 + a) = iN 1 := by decide +kernel
theorem s1_w : (∀ a, a < 8 → S1.2.1 160 a = jN 0) ∧ (∀ a, a < 3 → S1.2.1 158 a = jN 0) ∧ (∀ a, a < 3 → S1.2.1 156 a = jN 1) ∧ (∀ f, f < 12 → S1.2.1 154 f = -1) ∧ S1.2.1 152 0 = 0 ∧ S1.2.1 171 0 = 0 := by decide +kernel
theorem s1_m : ∀ j, j < 3 → (S1.1 (144 + j) 0 = S1.1 176 (6 * j + 4) ∧ (S1.1 176 (6 * j + 4) = iN 0 ∨ S1.1 176 (6 * j + 4) = iN 1)) ∧ S1.1 (144 + j) 2 = iM ∧ S1.1 176 (6 * j) = iM ∧ S1.1 (144 + j) 1 = iM ∧ S1.1 176 (6 * j + 3) = iM ∧ S1.1 176 (6 * j + 2) = iN 0 := by decide +kernel
theorem s1_n : ∀ j, j < 6 → 3 ≤ j → S1.1 (144 + j) 0 = iN 0 ∧ S1.1 (144 + j) 2 = iM := by decide +kernel
theorem s1_c : ∀ c, c < 60 → S1.1 (5 + c) 0 = iN c ∧ S1.1 (5 + c) 3 = iN 0 ∧ S1.1 (5 + c) 4 = iM ∧ S1.1 (5 + c) 10 = iN 0 ∧ S1.1 (5 + c) 11 = iN 0 ∧ S1.1 (5 + c) 12 = iN 0 ∧ S1.1 (5 + c) 2 = iM := by decide +kernel
theorem s1_r : ∀ c, c < 24 → S1.1 164 c = iN 0 ∧ S1.1 165 c = iN 0 ∧ S1.1 166 c = iN 0 := by decide +kernel
theorem s1_t : ∀ q, q < 10 → (S1.1 (76 + 3 * q) 0 = iN q ∧ S1.1 (76 + 3 * q) 6 = iN 0 ∧ S1.1 (76 + 3 * q) 7 = iN 0) ∧ S1.1 (76 + 3 * q) 8 = iN 0 ∧ S1.1 (76 + 3 * q) 9 = iN 0 ∧ S1.1 (76 + 3 * q + 1) 1 = iN 0 := by decide +kernel
theorem s1_y : ∀ q, q < 4 → S1.1 172 (12 * q + 3) = iN 0 ∧ S1.1 172 (12 * q + 4) = iN 0 ∧ S1.1 172 (12 * q + 5) = iN 0 ∧ S1.1 172 (12 * q + 6) = iN 0 := by decide +kernel
theorem s1_k : S1.2.1 107 = fun _ => 0 := (gn_a5 107 (by omega)).2.symm
theorem S1_far (k i : Nat) (h : k < 161) : S1.1 k i = gN5.1 k i := by
  unfold S1 stN stN stN stN S0
  rw [sI_1, if_neg (by omega), sI_1, if_neg (by omega), sI_1, if_neg (by omega), sI_1, if_neg (by omega), sI_1, if_neg (by omega), sI_1, if_neg (by omega), sI_1, if_neg (by omega), sI_1, if_neg (by omega), sI_1, if_neg (by omega), sI_1, if_neg (by omega), sI_1, if_neg (by omega), sI_1, if_neg (by omega), sI_1, if_neg (by omega), sI_1, if_neg (by omega)]
theorem s1_v : S1.1 108 = fun _ => 0 := by
  funext j
  rw [S1_far 108 j (by omega), ← (gn_a5 108 (by omega)).1]
  show gStartI 108 j = 0
  unfold gStartI
  rw [show gcl 108 = 20 from rfl]
  rfl
theorem s1_len : S1.2.2 = 256 := gn_l5.symm
theorem d9_0 : d9 0 := fun f hf => ⟨0, by omega, (show ∀ f, f < 12 → gAt 0 f = iN 0 by decide +kernel) f hf⟩
theorem sCnt_fl0 {p : Nat → Bool} : ∀ n, (∀ j, p j = false) → sCnt p n = 0
  | 0, _ => rfl
  | n + 1, h => by
    unfold sCnt
    rw [sCnt_fl0 n h, h n]; rfl
theorem s1_rcv : RCv S1 (lawOf S1) 0 0 0 (fun _ => 0) := by
  have hk : ∀ p, S1.2.1 107 p = 0 := fun p => by rw [s1_k]
  have hv : ∀ p, S1.1 108 p = 0 := fun p => by rw [s1_v]
  refine ⟨256, fun _ => 0, ?_, ?_, Or.inl rfl, s1_a.2.1.2.2.2.2.2, sCnt_fl0 _ (fun p => ?_), by omega, ⟨fun p q _ _ _ h => absurd (hk p) h, fun p _ h => absurd (hk p) h, fun p _ _ => hv p, fun p _ h => absurd (hk p) h, fun _ _ _ => rfl⟩, fun q hq => absurd hq (Nat.not_lt_zero q), fun q _ a _ w _ _ => rfl⟩
  · show S1.2.2 = 256; exact s1_len
  · show S1.2.2 = 256; exact s1_len
  · show decide (S1.2.1 107 p ≠ 0) = false
    exact decide_eq_false (fun h => h (hk p))
theorem s1_ai : AI S1 0 0 0 0 := by
  have L : ∀ k i, 161 ≤ k ∧ k < 179 → (lawOf S1).1 k i = S1.1 k i := fun k i hk => lw0 S1 hk
  have J : ∀ k i, 161 ≤ k ∧ k < 179 → (lawOf S1).2.1 k i = S1.2.1 k i := fun k i hk => lw0J S1 hk
  obtain ⟨⟨a1, a2, a3, a4, a5, a6⟩, ⟨b1, b2, b3, b4, b5, b6⟩, c1, c2, c3, c4, c5⟩ := s1_a
  obtain ⟨⟨l0, l1, l2, l3, l4, l5⟩, l6, l7, l8, l9, l10⟩ := s1_l
  obtain ⟨u1, u2, u3⟩ := s1_u
  obtain ⟨w1, w2, w3, w4, w5, w6⟩ := s1_w
  have v6 : ∀ a, a < 8 → vN (lawOf S1) 178 (6 + a) = 0 := fun a ha => by unfold vN; rw [L _ _ (by omega), u1 a ha]; rfl
  have v0 : ∀ a, a < 3 → vN (lawOf S1) 178 a = 0 := fun a ha => by unfold vN; rw [L _ _ (by omega), u2 a ha]; rfl
  have v3 : ∀ a, a < 3 → vN (lawOf S1) 178 (3 + a) = 1 := fun a ha => by unfold vN; rw [L _ _ (by omega), u3 a ha]; rfl
  have no : ∀ {p : Prop} {q : Nat}, q < 0 → p := fun h => absurd h (Nat.not_lt_zero _)
  have hLF : LF (lawOf S1) 0 0 0 0 := ⟨⟨(L 161 0 (by omega)).trans l0, by omega, fun c hc => no hc⟩, ⟨(L 161 2 (by omega)).trans l2, by omega⟩, ⟨(L 161 3 (by omega)).trans l3, by omega, fun k hk => no hk⟩, fun c hc => no hc, ⟨(L 161 4 (by omega)).trans l4, by omega, fun j hj => no hj⟩, fun a ha => ⟨by rw [v6 a ha, L _ _ (by omega)]; exact u1 a ha, by rw [v6 a ha]; omega⟩⟩
  have hLD : LD (lawOf S1) 0 0 0 0 1 1 1 := ⟨hLF, ⟨(L 161 1 (by omega)).trans l1, by omega, by omega⟩, ⟨(L 161 5 (by omega)).trans l5, by omega, by omega⟩, ⟨(L 161 6 (by omega)).trans l6, by omega, by omega⟩⟩
  have hMC : ∀ j, j < 3 → MC S1 (lawOf S1) 0 0 (fun _ => 0) j := fun j hj => by
    obtain ⟨⟨m1, m2⟩, m3, m4, m5, m6, m7⟩ := s1_m j hj
    refine ⟨by rw [L _ _ (by omega)]; exact m1, by rw [L _ _ (by omega)]; exact m2, by rw [L _ _ (by omega), m4]; exact m3, Or.inl ⟨by rw [L _ _ (by omega)]; exact m4, by rw [L _ _ (by omega), m6]; exact m5⟩⟩
  have hTI : TI S1 (lawOf S1) 0 0 0 0 (fun _ => 0) := by
    refine ⟨by omega, hLF.2.2.2.2.1.1, fun j hj => no hj, fun q hq => no hq, hMC, fun j j' hj hj' _ q hq e => ?_, s1_rcv, fun j h1 h2 => s1_n j h2 h1⟩
    have := (s1_m j hj).2.2.1
    rw [L _ _ (by omega), this] at e
    exact absurd e.symm (iM_ne (by omega))
  have hDI : DI S1 (lawOf S1) 0 0 0 0 0 1 1 1 (fun _ => 0) := by
    refine ⟨hLD, ⟨fun c hc => no hc, fun c hc => no hc, by omega, fun a ha => by rw [v6 a ha]; exact Nat.zero_le _⟩, ⟨a2, fun c hc => no hc⟩, ⟨⟨a3, by omega⟩, ⟨a4, by omega⟩, fun j hj => no hj, fun k hk => no hk⟩, ⟨hLD.2.1.1, by omega, by omega, b1, fun j hj => ?_⟩, fun a ha => by rw [v6 a ha]; exact w1 a ha, ⟨b2, b3⟩, Or.inl b5, c2, s1_rcv, fun q hq => no hq⟩
    have e : j = 0 := by omega
    rw [e, J _ _ (by omega), w5, w6]
  refine ⟨0, 0, 0, 1, 1, 1, fun _ => 0, ⟨hDI, hTI, ⟨fun j hj => ?_, fun c hc => no hc⟩, ⟨⟨fun a ha => ⟨by rw [v0 a ha, L _ _ (by omega)]; exact u2 a ha, by rw [v0 a ha]; omega⟩, fun a ha => ⟨by rw [v3 a ha, L _ _ (by omega)]; exact u3 a ha, by rw [v3 a ha]; omega, by rw [v3 a ha]; omega⟩⟩, fun a ha => ⟨by rw [v0 a ha]; exact w2 a ha, by rw [v3 a ha]; exact w3 a ha⟩, fun j hj => by rw [L _ _ (by omega)]; exact Or.inl (s1_m j hj).2.2.2.2.2⟩, ⟨by rw [L _ _ (by omega), l8]; exact c4, by rw [L _ _ (by omega)]; exact Or.inl l8, by rw [L _ _ (by omega), l9]; exact c3, by rw [L _ _ (by omega), l10]; exact c1⟩, Or.inl c5, fun q hq => no hq⟩, ⟨⟨a1, by rw [L _ _ (by omega), l7]; exact b4, a5, a6⟩, ⟨w4, fun c hc => no hc⟩, fun c _ hc => s1_c c hc, fun c _ hc => by rw [L _ _ (by omega), L _ _ (by omega), L _ _ (by omega)]; exact s1_r c hc, fun q _ hq => s1_t q hq, fun q _ hq => by rw [L _ _ (by omega), L _ _ (by omega), L _ _ (by omega), L _ _ (by omega)]; exact s1_y q hq⟩, fun q => Nat.le_refl 0⟩
  have e : j = 0 := by omega
  rw [e, J _ _ (by omega), w6]
  exact d9_0
theorem lw_pure (xs : Nat → Int32) (Lx : Nat) (h : Lx ≤ 260) : ∃ N, lp (fL_law_134 N xs Lx) N ((sI (sI (sI (sI gN5 161 1 1) 161 5 1) 161 6 1) 161 9 (-1)), 0) = some 1 := by
  refine ⟨5000, ?_⟩
  refine lp_run (F := fL_law_134 5000 xs Lx) (fun j => (stN j, iN j)) 3 (fun j hj rec => ?_) (fun rec => ?_) 5000 (by omega)
  · unfold fL_law_134
    dsimp only
    rw [if_neg (show ¬ (3 : Int32) ≤ iN j by rw [show (3 : Int32) = iN 3 from rfl, iN_le (by omega) (by omega)]; omega), show (3 : Int32) + iN j = iN (3 + j) from iN_add 3 j, if_neg (gi (show 3 + j < 14 by omega) (by decide)), iN_cl (show 3 + j < 2147483648 by omega), show (6 : Int32) * iN j = iN (6 * j) from iN_mul 6 j, if_neg (gi (show 6 * j < 18 by omega) (by decide)), iN_cl (show 6 * j < 2147483648 by omega), show iN (6 * j) + (3 : Int32) = iN (6 * j + 3) from iN_add _ 3, if_neg (gi (show 6 * j + 3 < 18 by omega) (by decide)), iN_cl (show 6 * j + 3 < 2147483648 by omega), show iN j + (1 : Int32) = iN (j + 1) from iN_add _ 1]
    rfl
  · unfold fL_law_134
    dsimp only
    rw [if_pos (show (3 : Int32) ≤ iN 3 by decide), show sI (stN 3) 176 4 1 = S1 from rfl]
    obtain ⟨n, T, G, hh, sz, dp, ag, g, x, hA⟩ := s1_ai
    obtain ⟨s', e, g', x', hl⟩ := L_isAll (N := 5000) (x := 0) (by omega) (by omega) (by omega) (⟨g, x, rfl⟩ : QA S1 (lawOf S1) n T G 0 0 hh sz dp 0 ag)
    rw [show (0 : Int32) = iN 0 from rfl, e, Option.bind_some]
    dsimp only
    exact L_turns (by omega) h 80 0 5000 s' 0 0 0 0 (by omega) (by omega) ⟨n, T, G, hh, sz, dp, ag, by rw [hl]; exact g', by rw [hl]; exact x', hA⟩ (by omega) (by omega) (by omega)
