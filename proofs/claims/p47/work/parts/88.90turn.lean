/-! a turn's deed, by its kind -/
def AJ (s : gS) (n T G V U h sz dp B A : Nat) (ag : Nat → Nat) : Prop := GI s (lawOf s) n T G V U h sz dp B ag ∧ XI s (lawOf s) n T G ∧ ∀ q, ag q ≤ A
def GO (r : Option Int32) (N : Nat) (xs : Nat → Int32) (Lx : Nat) (rec221 : (gS × Int32 × Int32) → Option Int32) (x21 : Int32) (c V U B A : Nat) : Prop := ∃ s', r = fL_law_2698 N xs Lx rec221 s' 1 x21 (iN c) ∧ DR s' V U B A
def BD (N c V U B A : Nat) : Prop := 5000 ≤ N ∧ c < 100000000 ∧ V ≤ 49 ∧ U < 800 ∧ B < 800 ∧ A < 800
section DD
variable {N : Nat} {xs : Nat → Int32} {Lx : Nat} {rec221 : (gS × Int32 × Int32) → Option Int32} {x21 : Int32} {x25 : Int64} {s : gS} {c n T G V U h sz dp B A d k : Nat} {ag : Nat → Nat}
theorem AJ.ai (a : AJ s n T G V U h sz dp B A ag) : AI s V U B A := ⟨n, T, G, h, sz, dp, ag, a.1, a.2.1, a.2.2⟩
theorem AJ.n0 (a : AJ s n T G V U h sz dp B A ag) : s.1 161 0 = iN n ∧ n ≤ 20 := ⟨by rw [← lw0 s (by omega)]; exact a.1.1.1.1.1.1, a.1.1.1.1.1.2.1⟩
theorem AJ.n1 (a : AJ s n T G V U h sz dp B A ag) : s.1 161 1 = iN h ∧ 1 ≤ h ∧ h ≤ 25 := by
  have := a.1.1.1.2.1
  exact ⟨by rw [← lw0 s (by omega)]; exact this.1, this.2⟩
theorem AJ.n2 (a : AJ s n T G V U h sz dp B A ag) : s.1 161 2 = iN T ∧ T ≤ 4 := ⟨by rw [← lw0 s (by omega)]; exact a.1.1.1.1.2.1.1, a.1.1.1.1.2.1.2⟩
theorem AJ.n3 (a : AJ s n T G V U h sz dp B A ag) : s.1 161 3 = iN G ∧ G ≤ 12 := ⟨by rw [← lw0 s (by omega)]; exact a.1.1.1.1.2.2.1.1, a.1.1.1.1.2.2.1.2.1⟩
theorem AJ.n4 (a : AJ s n T G V U h sz dp B A ag) : s.1 161 4 = iN V ∧ V ≤ 64 := by
  have := a.1.1.1.1.2.2.2.2.1
  exact ⟨by rw [← lw0 s (by omega)]; exact this.1, this.2.1⟩
theorem rmL {q m : Nat} (hq : q < 2147483648) (hm : m < 2147483648) : iN q - iN q / iN m * iN m = iN (q - q / m * m) := iN_rem hq hm
theorem rm_lt {q m : Nat} (hm : 0 < m) : q - q / m * m < m := by
  have h1 := Nat.div_add_mod q m
  have h2 := Nat.mod_lt q hm
  have h3 : q / m * m = m * (q / m) := Nat.mul_comm _ _
  omega
theorem Y_tick (b : BD N c V U B A) (a : AJ s n T G V U h sz dp B A ag) : GO (fL_law_2379 N xs Lx rec221 s x21 (iN c)) N xs Lx rec221 x21 c V U B A := by
  obtain ⟨b1, b2, b3, b4, b5, b6⟩ := b
  obtain ⟨s', V', U', h', e, g, x, e1, e2⟩ := D_tick (N := N) (xs := xs) (Lx := Lx) (rec221 := rec221) (x21 := x21) b1 b2 a.1 a.2.1 b3 (by omega) (by omega)
  exact ⟨s', e, V', U', ⟨n, T, G, h', sz, dp, ag, g, x, fun q => by have := a.2.2 q; omega⟩, e1, e2⟩
theorem Y_2266 (b : BD N c V U B A) (a : AJ s n T G V U h sz dp B A ag) (hk : k < 26) (hd : n = 0 ∨ d < n) : GO (fL_law_2266 N xs Lx rec221 s x21 (iN k) (iN c) (iN d)) N xs Lx rec221 x21 c V U B A := by
  have b1 := b.1
  have bB := b.2.2.2.2.1
  obtain ⟨h0, hn⟩ := a.n0
  by_cases k20 : k = 20
  · rw [k20]; exact D_full a.ai
  · unfold fL_law_2266
    rw [if_neg (show ¬ iN k = (20 : Int32) by rw [show (20 : Int32) = iN 20 from rfl, iN_eq (by omega) (by omega)]; exact k20)]
    by_cases k21 : k = 21
    · rw [if_pos (show iN k = (21 : Int32) by rw [k21]; rfl), h0]
      by_cases n0 : n = 0
      · rw [if_pos (show iN n ≤ (0 : Int32) by rw [n0]; decide)]
        exact Y_tick b a
      · have hdn : d < n := by omega
        rw [if_neg (show ¬ iN n ≤ (0 : Int32) by rw [i_0, iN_le (by omega) (by omega)]; omega), if_neg (gi (show d < 24 by omega) (by decide)), iN_cl (show d < 2147483648 by omega)]
        exact D_drop (show 100 ≤ N by omega) hdn (by omega) a.1 a.2.1 a.2.2
    · rw [if_neg (show ¬ iN k = (21 : Int32) by rw [show (21 : Int32) = iN 21 from rfl, iN_eq (by omega) (by omega)]; exact k21)]
      exact Y_tick b a
theorem Y_1642 (b : BD N c V U B A) (a : AJ s n T G V U h sz dp B A ag) (hk : k < 26) (hd : n = 0 ∨ d < n) (ht : x25 = trT (lawOf s) h) : GO (fL_law_1642 N xs Lx rec221 s x21 (iN k) (iN c) x25 (iN d)) N xs Lx rec221 x21 c V U B A := by
  have b1 := b.1
  have b2 := b.2.1
  obtain ⟨h0, hn⟩ := a.n0
  obtain ⟨hh, hh1, hh2⟩ := a.n1
  by_cases k16 : k = 16
  · rw [k16]; exact D_batches b2 a.ai
  by_cases k18 : k = 18
  · rw [k18]; exact D_weigh b2 a.ai
  unfold fL_law_1642
  rw [if_neg (show ¬ iN k = (16 : Int32) by rw [show (16 : Int32) = iN 16 from rfl, iN_eq (by omega) (by omega)]; exact k16)]
  by_cases k17 : k = 17
  · rw [if_pos (show iN k = (17 : Int32) by rw [k17]; rfl), show iN c - iN c / (3 : Int32) * 3 = iN (c - c / 3 * 3) from iN_rem (k := 3) (by omega) (by omega)]
    by_cases cc : (iN c / (3 : Int32)) - (iN c / (3 : Int32)) / 3 * 3 ≤ 0
    · rw [if_pos cc]; exact D_vanish (by omega) a.ai
    · rw [if_neg cc]; exact D_come (by omega) a.ai
  · rw [if_neg (show ¬ iN k = (17 : Int32) by rw [show (17 : Int32) = iN 17 from rfl, iN_eq (by omega) (by omega)]; exact k17), if_neg (show ¬ iN k = (18 : Int32) by rw [show (18 : Int32) = iN 18 from rfl, iN_eq (by omega) (by omega)]; exact k18)]
    by_cases k19 : k = 19
    · rw [if_pos (show iN k = (19 : Int32) by rw [k19]; rfl), h0]
      by_cases c20 : 20 ≤ n
      · rw [if_pos (show (20 : Int32) ≤ iN n by rw [show (20 : Int32) = iN 20 from rfl, iN_le (by omega) (by omega)]; exact c20)]
        exact Y_2266 b a hk hd
      · rw [if_neg (show ¬ (20 : Int32) ≤ iN n by rw [show (20 : Int32) = iN 20 from rfl, iN_le (by omega) (by omega)]; exact c20), hh]
        by_cases c1 : h ≤ 1
        · rw [if_pos (show iN h ≤ (1 : Int32) by rw [i_1, iN_le (by omega) (by omega)]; exact c1)]
          exact Y_2266 b a hk hd
        · have hl : c - c / (h - 1) * (h - 1) < h - 1 := rm_lt (by omega)
          rw [if_neg (show ¬ iN h ≤ (1 : Int32) by rw [i_1, iN_le (by omega) (by omega)]; exact c1), show iN h - (1 : Int32) = iN (h - 1) from iN_sub (b := 1) (by omega) (by omega), if_neg (show ¬ iN (h - 1) = (0 : Int32) by rw [i_0, iN_eq (by omega) (by omega)]; omega), rmL (show c < 2147483648 by omega) (show h - 1 < 2147483648 by omega), show (1 : Int32) + iN (c - c / (h - 1) * (h - 1)) = iN (1 + (c - c / (h - 1) * (h - 1))) from iN_add 1 _]
          exact D_rev (show 100 ≤ N by omega) b2 a.1 a.2.1 a.2.2 (by omega) (by omega) (by omega) ht
    · rw [if_neg (show ¬ iN k = (19 : Int32) by rw [show (19 : Int32) = iN 19 from rfl, iN_eq (by omega) (by omega)]; exact k19)]
      exact Y_2266 b a hk hd
theorem T0 (a : AJ s n T G V U h sz dp B A ag) (h0 : ¬ T = 0) : ¬ s.1 161 2 ≤ 0 := by
  rw [a.n2.1, show (0 : Int32) = iN 0 from rfl, iN_le (by have := a.n2.2; omega) (by omega)]; omega
theorem Y_1559 (b : BD N c V U B A) (a : AJ s n T G V U h sz dp B A ag) (hk : k < 26) (hd : n = 0 ∨ d < n) (ht : x25 = trT (lawOf s) h) : GO (fL_law_1559 N xs Lx rec221 s x21 (iN k) (iN c) x25 (iN d)) N xs Lx rec221 x21 c V U B A := by
  have b2 := b.2.1
  have bB := b.2.2.2.2.1
  by_cases k15 : k = 15
  · by_cases t0 : T = 0
    · unfold fL_law_1559
      rw [if_pos (show iN k = (15 : Int32) by rw [k15]; rfl), a.n2.1, if_pos (show iN T ≤ (0 : Int32) by rw [t0]; decide)]
      exact Y_1642 b a hk hd ht
    · rw [k15]; exact D_back b2 (by omega) (T0 a t0) a.ai
  · unfold fL_law_1559
    rw [if_neg (show ¬ iN k = (15 : Int32) by rw [show (15 : Int32) = iN 15 from rfl, iN_eq (by omega) (by omega)]; exact k15)]
    exact Y_1642 b a hk hd ht
theorem Y_1435 (b : BD N c V U B A) (a : AJ s n T G V U h sz dp B A ag) (hk : k < 26) (hd : n = 0 ∨ d < n) (ht : x25 = trT (lawOf s) h) : GO (fL_law_1435 N xs Lx rec221 s x21 (iN k) (iN c) x25 (iN d)) N xs Lx rec221 x21 c V U B A := by
  have b2 := b.2.1
  obtain ⟨h2, hT⟩ := a.n2
  obtain ⟨h3, hG⟩ := a.n3
  unfold fL_law_1435
  by_cases k14 : k = 14
  · rw [if_pos (show iN k = (14 : Int32) by rw [k14]; rfl), h2, h3]
    by_cases t0 : T = 0
    · rw [if_pos (show iN T ≤ (0 : Int32) by rw [t0]; decide)]
      exact Y_1559 b a hk hd ht
    · rw [if_neg (show ¬ iN T ≤ (0 : Int32) by rw [i_0, iN_le (by omega) (by omega)]; omega)]
      by_cases g12 : 12 ≤ G
      · rw [if_pos (show (12 : Int32) ≤ iN G by rw [show (12 : Int32) = iN 12 from rfl, iN_le (by omega) (by omega)]; exact g12)]
        exact Y_1559 b a hk hd ht
      · have hq : c - c / T * T < T := rm_lt (by omega)
        rw [if_neg (show ¬ (12 : Int32) ≤ iN G by rw [show (12 : Int32) = iN 12 from rfl, iN_le (by omega) (by omega)]; exact g12), if_neg (show ¬ iN T = (0 : Int32) by rw [i_0, iN_eq (by omega) (by omega)]; exact t0), rmL (show c < 2147483648 by omega) (show T < 2147483648 by omega), show iN c / (4 : Int32) = iN (c / 4) from iN_div (b := 4) (by omega) (by omega), show iN (c / 4) - iN (c / 4) / (3 : Int32) * 3 = iN (c / 4 - c / 4 / 3 * 3) from iN_rem (k := 3) (by omega) (by omega)]
        obtain ⟨cd, hcd⟩ : ∃ cd, c / 4 - c / 4 / 3 * 3 = cd := ⟨_, rfl⟩
        rw [hcd]
        have hcd3 : cd < 3 := by omega
        by_cases e0 : cd = 0
        · rw [if_pos (show iN cd = (0 : Int32) by rw [e0]; rfl)]
          exact D_line1 (w := 0) hq hcd3 (Nat.zero_le _) (by omega) a.1 a.2.1 a.2.2
        · rw [if_neg (show ¬ iN cd = (0 : Int32) by rw [i_0, iN_eq (by omega) (by omega)]; exact e0)]
          by_cases e1 : cd = 1
          · rw [if_pos (show iN cd = (1 : Int32) by rw [e1]; rfl), show iN c / (12 : Int32) = iN (c / 12) from iN_div (b := 12) (by omega) (by omega), show iN (c / 12) - iN (c / 12) / (12 : Int32) * 12 = iN (c / 12 - c / 12 / 12 * 12) from iN_rem (k := 12) (by omega) (by omega)]
            exact D_line1 hq hcd3 (by rw [if_neg e0, if_pos e1]; omega) (by omega) a.1 a.2.1 a.2.2
          · rw [if_neg (show ¬ iN cd = (1 : Int32) by rw [i_1, iN_eq (by omega) (by omega)]; exact e1), show iN c / (12 : Int32) = iN (c / 12) from iN_div (b := 12) (by omega) (by omega), show iN (c / 12) - iN (c / 12) / (3 : Int32) * 3 = iN (c / 12 - c / 12 / 3 * 3) from iN_rem (k := 3) (by omega) (by omega)]
            exact D_line1 hq hcd3 (by rw [if_neg e0, if_neg e1]; omega) (by omega) a.1 a.2.1 a.2.2
  · rw [if_neg (show ¬ iN k = (14 : Int32) by rw [show (14 : Int32) = iN 14 from rfl, iN_eq (by omega) (by omega)]; exact k14)]
    exact Y_1559 b a hk hd ht
theorem Y_1302 (b : BD N c V U B A) (a : AJ s n T G V U h sz dp B A ag) (hk : k < 26) (hd : n = 0 ∨ d < n) (ht : x25 = trT (lawOf s) h) : GO (fL_law_1302 N xs Lx rec221 s x21 (iN k) (iN c) x25 (iN d)) N xs Lx rec221 x21 c V U B A := by
  have b1 := b.1
  have b2 := b.2.1
  have bA := b.2.2.2.2.2
  obtain ⟨h2, hT⟩ := a.n2
  unfold fL_law_1302
  by_cases k13 : k = 13
  · rw [if_pos (show iN k = (13 : Int32) by rw [k13]; rfl), h2]
    by_cases t0 : T = 0
    · rw [if_pos (show iN T ≤ (0 : Int32) by rw [t0]; decide)]
      exact Y_1435 b a hk hd ht
    · have hq : c - c / T * T < T := rm_lt (by omega)
      rw [if_neg (show ¬ iN T ≤ (0 : Int32) by rw [i_0, iN_le (by omega) (by omega)]; omega), if_neg (show ¬ iN T = (0 : Int32) by rw [i_0, iN_eq (by omega) (by omega)]; exact t0), rmL (show c < 2147483648 by omega) (show T < 2147483648 by omega)]
      by_cases cc : (iN c / (4 : Int32)) - (iN c / (4 : Int32)) / 2 * 2 = 0
      · rw [if_pos cc]
        exact D_outside1 (b := true) (show 100 ≤ N by omega) hq (by omega) a.1 a.2.1 a.2.2
      · rw [if_neg cc]
        exact D_outside1 (b := false) (show 100 ≤ N by omega) hq (by omega) a.1 a.2.1 a.2.2
  · rw [if_neg (show ¬ iN k = (13 : Int32) by rw [show (13 : Int32) = iN 13 from rfl, iN_eq (by omega) (by omega)]; exact k13)]
    exact Y_1435 b a hk hd ht
end DD
