/-! a turn's deed: the other kinds, the turn itself -/
section DD
variable {N : Nat} {xs : Nat → Int32} {Lx : Nat} {rec221 : (gS × Int32 × Int32) → Option Int32} {x21 : Int32} {x25 : Int64} {s : gS} {c n T G V U h sz dp B A d k : Nat} {ag : Nat → Nat}
theorem Y_1071 (b : BD N c V U B A) (a : AJ s n T G V U h sz dp B A ag) (hk : k < 26) (hd : n = 0 ∨ d < n) (ht : x25 = trT (lawOf s) h) : GO (fL_law_1071 N xs Lx rec221 s 1 x21 (iN k) (iN c) x25 (iN d)) N xs Lx rec221 x21 c V U B A := by
  have b1 := b.1
  have b2 := b.2.1
  have bA := b.2.2.2.2.2
  obtain ⟨h2, hT⟩ := a.n2
  unfold fL_law_1071
  by_cases k13 : 13 ≤ k
  · rw [if_pos (show (13 : Int32) ≤ iN k by rw [show (13 : Int32) = iN 13 from rfl, iN_le (by omega) (by omega)]; exact k13)]
    exact Y_1302 b a hk hd ht
  · rw [if_neg (show ¬ (13 : Int32) ≤ iN k by rw [show (13 : Int32) = iN 13 from rfl, iN_le (by omega) (by omega)]; exact k13), h2]
    by_cases t0 : T = 0
    · rw [if_pos (show iN T ≤ (0 : Int32) by rw [t0]; decide)]
      exact Y_1302 b a hk hd ht
    · have hq : c - c / T * T < T := rm_lt (by omega)
      rw [if_neg (show ¬ iN T ≤ (0 : Int32) by rw [i_0, iN_le (by omega) (by omega)]; omega), if_neg (show ¬ iN T = (0 : Int32) by rw [i_0, iN_eq (by omega) (by omega)]; exact t0), rmL (show c < 2147483648 by omega) (show T < 2147483648 by omega), show iN c / (4 : Int32) = iN (c / 4) from iN_div (b := 4) (by omega) (by omega), show iN (c / 4) - iN (c / 4) / (4 : Int32) * 4 = iN (c / 4 - c / 4 / 4 * 4) from iN_rem (k := 4) (by omega) (by omega), show iN c / (16 : Int32) = iN (c / 16) from iN_div (b := 16) (by omega) (by omega), show iN (c / 16) - iN (c / 16) / (4 : Int32) * 4 = iN (c / 16 - c / 16 / 4 * 4) from iN_rem (k := 4) (by omega) (by omega)]
      obtain ⟨q, hqe⟩ : ∃ q, c - c / T * T = q := ⟨_, rfl⟩
      obtain ⟨o1, ho1e⟩ : ∃ q, c / 4 - c / 4 / 4 * 4 = q := ⟨_, rfl⟩
      obtain ⟨o2, ho2e⟩ : ∃ q, c / 16 - c / 16 / 4 * 4 = q := ⟨_, rfl⟩
      have ho1 : o1 < 4 := by omega
      have ho2 : o2 < 4 := by omega
      rw [hqe] at hq ⊢
      rw [ho1e, ho2e]
      have e12 : (12 : Int32) * iN q = iN (12 * q) := iN_mul 12 q
      have e4 : iN (12 * q) + (4 : Int32) = iN (12 * q + 4) := iN_add _ 4
      have no : GO (fL_law_1161 N xs Lx rec221 s 1 x21 (iN c) (iN q) (iN o1) (iN o2)) N xs Lx rec221 x21 c V U B A := by
        unfold fL_law_1161 fL_law_1162
        rw [if_pos rfl]
        unfold fL_law_1299
        exact ⟨s, rfl, DR.of a.ai⟩
      rw [e12, if_neg (gi (show 12 * q < 48 by omega) (by decide)), iN_cl (show 12 * q < 2147483648 by omega), e4]
      have c1 : (((s.1 172 (12 * q) >>> (iN o1 &&& 31)) &&& 1) = 1) = (tb (s.1 172 (12 * q)) o1 = true) := tb_sh1 _ (by omega)
      have c2 : (((s.1 172 (12 * q) >>> (iN o2 &&& 31)) &&& 1) = 1) = (tb (s.1 172 (12 * q)) o2 = true) := tb_sh1 _ (by omega)
      by_cases t1 : tb (s.1 172 (12 * q)) o1 = true
      · rw [if_pos (by rw [c1]; exact t1), if_neg (gj (show 12 * q < 48 by omega) (by decide))]
        by_cases t2 : tb (s.1 172 (12 * q)) o2 = true
        · rw [if_pos (by rw [c2]; exact t2), if_neg (gi (show 12 * q + 4 < 48 by omega) (by decide)), iN_cl (show 12 * q + 4 < 2147483648 by omega)]
          by_cases h5 : (5 : Int32) ≤ s.1 172 (12 * q + 4)
          · rw [if_pos h5]; exact no
          · rw [if_neg h5]
            exact D_breaks1 (show 100 ≤ N by omega) b2 hq (by omega) ho1 ho2 a.1 a.2.1 a.2.2 t1 t2 h5
        · rw [if_neg (by rw [c2]; exact t2)]; exact no
      · rw [if_neg (by rw [c1]; exact t1)]; exact no
theorem Y_942 (b : BD N c V U B A) (a : AJ s n T G V U h sz dp B A ag) (hk : k < 26) (hd : n = 0 ∨ d < n) (ht : x25 = trT (lawOf s) h) : GO (fL_law_942 N xs Lx rec221 s 1 x21 (iN k) (iN c) x25 (iN d)) N xs Lx rec221 x21 c V U B A := by
  have b1 := b.1
  have b2 := b.2.1
  obtain ⟨h2, hT⟩ := a.n2
  unfold fL_law_942
  by_cases k11 : 11 ≤ k
  · rw [if_pos (show (11 : Int32) ≤ iN k by rw [show (11 : Int32) = iN 11 from rfl, iN_le (by omega) (by omega)]; exact k11)]
    exact Y_1071 b a hk hd ht
  · rw [if_neg (show ¬ (11 : Int32) ≤ iN k by rw [show (11 : Int32) = iN 11 from rfl, iN_le (by omega) (by omega)]; exact k11), h2]
    by_cases t4 : 4 ≤ T
    · rw [if_pos (show (4 : Int32) ≤ iN T by rw [show (4 : Int32) = iN 4 from rfl, iN_le (by omega) (by omega)]; exact t4)]
      exact Y_1071 b a hk hd ht
    · rw [if_neg (show ¬ (4 : Int32) ≤ iN T by rw [show (4 : Int32) = iN 4 from rfl, iN_le (by omega) (by omega)]; exact t4), show iN c - iN c / (15 : Int32) * 15 = iN (c - c / 15 * 15) from iN_rem (k := 15) (by omega) (by omega), show iN (c - c / 15 * 15) + (1 : Int32) = iN (c - c / 15 * 15 + 1) from iN_add _ 1, show iN c / (15 : Int32) = iN (c / 15) from iN_div (b := 15) (by omega) (by omega), show iN (c / 15) - iN (c / 15) / (3 : Int32) * 3 = iN (c / 15 - c / 15 / 3 * 3) from iN_rem (k := 3) (by omega) (by omega), show (1 : Int32) + iN (c / 15 - c / 15 / 3 * 3) = iN (1 + (c / 15 - c / 15 / 3 * 3)) from iN_add 1 _]
      by_cases c45 : (iN c / (45 : Int32)) - (iN c / (45 : Int32)) / 3 * 3 = 0
      · rw [if_pos c45, show iN c / (135 : Int32) = iN (c / 135) from iN_div (b := 135) (by omega) (by omega), show iN (c / 135) - iN (c / 135) / (10 : Int32) * 10 = iN (c / 135 - c / 135 / 10 * 10) from iN_rem (k := 10) (by omega) (by omega)]
        exact D_test1 (show 100 ≤ N by omega) (by omega) (by omega) (by omega) (by omega) a.1 a.2.1 a.2.2
      · rw [if_neg c45]
        exact D_test1 (fl := 0) (show 100 ≤ N by omega) (by omega) (by omega) (by omega) (by omega) a.1 a.2.1 a.2.2
theorem Y_804 (b : BD N c V U B A) (a : AJ s n T G V U h sz dp B A ag) (hk : k < 26) (hd : n = 0 ∨ d < n) (ht : x25 = trT (lawOf s) h) : GO (fL_law_804 N xs Lx rec221 s 1 x21 (iN k) (iN c) x25 (iN d)) N xs Lx rec221 x21 c V U B A := by
  have b1 := b.1
  have hN1 : 100 ≤ N := by omega
  have b2 := b.2.1
  obtain ⟨h0, hn⟩ := a.n0
  unfold fL_law_804
  by_cases k8 : k = 8
  · rw [if_pos (show iN k = (8 : Int32) by rw [k8]; rfl), h0]
    by_cases n0 : n = 0
    · rw [if_pos (show iN n ≤ (0 : Int32) by rw [n0]; decide)]
      exact Y_942 b a hk hd ht
    · have hdn : d < n := by omega
      have hpo := a.1.1.1.1.1.2.2
      have m164 : ∀ y, s.1 164 y = (lawOf s).1 164 y := fun y => (lw0 s (by omega)).symm
      have m163 : s.1 163 d = (lawOf s).1 163 d := (lw0 s (by omega)).symm
      have gd := gi (show d < 24 by omega) (by decide)
      have gd' := gj (show d < 24 by omega) (by decide)
      rw [if_neg (show ¬ iN n ≤ (0 : Int32) by rw [i_0, iN_le (by omega) (by omega)]; omega), if_neg gd, iN_cl (show d < 2147483648 by omega), m164 d]
      by_cases c0 : (lawOf s).1 164 d = iN 0
      · rw [if_pos (show (lawOf s).1 164 d = (0 : Int32) from c0), if_neg gd', m163]
        rcases par_cases hpo hdn with ⟨p1, p2⟩ | ⟨q, p1, p2, p3⟩
        · rw [p2, if_pos (show iM < (0 : Int32) by decide)]
          exact D_queue1 hN1 b2 hdn a.1 a.2.1 a.2.2 c0 (fun q hq => by rw [p1] at hq; exact (nomatch hq))
        · rw [p2, if_neg (show ¬ iN q < (0 : Int32) by rw [i_0, iN_lt (by omega) (by omega)]; omega), if_neg gd', if_neg (gi (show q < 24 by omega) (by decide)), iN_cl (show q < 2147483648 by omega), m164 q]
          by_cases c1 : (lawOf s).1 164 q = iN 1
          · rw [if_pos (show (lawOf s).1 164 q = (1 : Int32) from c1)]
            exact D_queue1 hN1 b2 hdn a.1 a.2.1 a.2.2 c0 (fun q' hq => by rw [p1] at hq; cases hq; exact Or.inl c1)
          · rw [if_neg (show ¬ (lawOf s).1 164 q = (1 : Int32) from c1), if_neg gd', if_neg (gj (show q < 24 by omega) (by decide))]
            by_cases c2 : (lawOf s).1 164 q = iN 2
            · rw [if_pos (show (lawOf s).1 164 q = (2 : Int32) from c2)]
              exact D_queue1 hN1 b2 hdn a.1 a.2.1 a.2.2 c0 (fun q' hq => by rw [p1] at hq; cases hq; exact Or.inr c2)
            · rw [if_neg (show ¬ (lawOf s).1 164 q = (2 : Int32) from c2)]
              exact D_queue0 hN1 b2 hdn a.1 a.2.1 a.2.2 (fun _ => ⟨q, p1, c1, c2⟩)
      · rw [if_neg (show ¬ (lawOf s).1 164 d = (0 : Int32) from c0)]
        exact D_queue0 hN1 b2 hdn a.1 a.2.1 a.2.2 (fun e => absurd e c0)
  · rw [if_neg (show ¬ iN k = (8 : Int32) by rw [show (8 : Int32) = iN 8 from rfl, iN_eq (by omega) (by omega)]; exact k8)]
    exact Y_942 b a hk hd ht
theorem Y_343 (b : BD N c V U B A) (a : AJ s n T G V U h sz dp B A ag) (hk : k < 26) (hd : n = 0 ∨ d < n) (ht : x25 = trT (lawOf s) h) : GO (fL_law_343 N xs Lx rec221 s 1 x21 (iN k) (iN c) x25 (iN d)) N xs Lx rec221 x21 c V U B A := by
  have b1 := b.1
  have hN1 : 100 ≤ N := by omega
  have b2 := b.2.1
  obtain ⟨h0, hn⟩ := a.n0
  unfold fL_law_343
  by_cases k8 : 8 ≤ k
  · rw [if_pos (show (8 : Int32) ≤ iN k by rw [show (8 : Int32) = iN 8 from rfl, iN_le (by omega) (by omega)]; exact k8)]
    exact Y_804 b a hk hd ht
  · rw [if_neg (show ¬ (8 : Int32) ≤ iN k by rw [show (8 : Int32) = iN 8 from rfl, iN_le (by omega) (by omega)]; exact k8), h0]
    by_cases n20 : 20 ≤ n
    · rw [if_pos (show (20 : Int32) ≤ iN n by rw [show (20 : Int32) = iN 20 from rfl, iN_le (by omega) (by omega)]; exact n20)]
      exact Y_804 b a hk hd ht
    · rw [if_neg (show ¬ (20 : Int32) ≤ iN n by rw [show (20 : Int32) = iN 20 from rfl, iN_le (by omega) (by omega)]; exact n20), show iN c - iN c / (8 : Int32) * 8 = iN (c - c / 8 * 8) from iN_rem (k := 8) (by omega) (by omega)]
      have free : GO (fL_law_397 N xs Lx rec221 s x21 (iN c) x25 (iN (c - c / 8 * 8))) N xs Lx rec221 x21 c V U B A := by
        unfold fL_law_397
        exact D_make (p := none) hN1 b2 a.1 a.2.1 a.2.2 (by omega) (by omega) (fun q hq => (nomatch hq)) ht
      by_cases c3 : (iN c / (8 : Int32)) - (iN c / (8 : Int32)) / 3 * 3 = 0
      · rw [if_pos c3]
        by_cases n0 : n = 0
        · rw [if_pos (show iN n ≤ (0 : Int32) by rw [n0]; decide)]; exact free
        · have hdn : d < n := by omega
          obtain ⟨v, hv, ev⟩ := a.1.1.2.1.1 d hdn
          rw [if_neg (show ¬ iN n ≤ (0 : Int32) by rw [i_0, iN_le (by omega) (by omega)]; omega), if_neg (gi (show d < 24 by omega) (by decide)), iN_cl (show d < 2147483648 by omega), ← lw0 s (k := 164) (i := d) (by omega), ev]
          by_cases c2 : 2 ≤ v
          · rw [if_pos (show (2 : Int32) ≤ iN v by rw [show (2 : Int32) = iN 2 from rfl, iN_le (by omega) (by omega)]; exact c2)]; exact free
          · rw [if_neg (show ¬ (2 : Int32) ≤ iN v by rw [show (2 : Int32) = iN 2 from rfl, iN_le (by omega) (by omega)]; exact c2)]
            exact D_make (p := some d) hN1 b2 a.1 a.2.1 a.2.2 (by omega) (by omega) (fun q hq => by
              cases hq
              refine ⟨hdn, ?_⟩
              rw [ev]
              have hv2 : v = 0 ∨ v = 1 := by omega
              rcases hv2 with e | e
              · exact Or.inl (by rw [e])
              · exact Or.inr (by rw [e])) ht
      · rw [if_neg c3]; exact free
theorem Y_308 {F : Nat} (b : BD N (F / 26) V U B A) (hF : F < 2147483648) (a : AJ s n T G V U h sz dp B A ag) (hk : k < 26) : GO (fL_law_308 N xs Lx rec221 s 1 x21 (iN F) (iN k)) N xs Lx rec221 x21 (F / 26) V U B A := by
  obtain ⟨h0, hn⟩ := a.n0
  obtain ⟨hh, hh1, hh2⟩ := a.n1
  have ht : s.2.1 171 (h - 1) = trT (lawOf s) h := (lw0J s (by omega)).symm
  have e26 : iN F / (26 : Int32) = iN (F / 26) := iN_div (b := 26) hF (by omega)
  unfold fL_law_308
  rw [hh, show iN h - (1 : Int32) = iN (h - 1) from iN_sub (b := 1) (by omega) (by omega), if_neg (gi (show h - 1 < 26 by omega) (by decide)), iN_cl (show h - 1 < 2147483648 by omega), h0, e26]
  by_cases n0 : n = 0
  · rw [if_pos (show iN n = (0 : Int32) by rw [n0]; rfl)]
    exact Y_343 (d := 0) b a hk (Or.inl n0) ht
  · have hdn : F / 26 - F / 26 / n * n < n := rm_lt (by omega)
    rw [if_neg (show ¬ iN n = (0 : Int32) by rw [i_0, iN_eq (by omega) (by omega)]; exact n0), if_neg (show ¬ iN n = (0 : Int32) by rw [i_0, iN_eq (by omega) (by omega)]; exact n0), rmL (show F / 26 < 2147483648 by omega) (show n < 2147483648 by omega)]
    exact Y_343 b a hk (Or.inr hdn) ht
theorem Y_279 {F j : Nat} (b : BD N (F / 26) V U B A) (hF : F < 2147483648) (hj : j < 80) (a : AJ s n T G V U h sz dp B A ag) : GO (fL_law_279 N xs Lx rec221 s 1 (iN j) (iN F)) N xs Lx rec221 (iN j) (F / 26) V U B A := by
  unfold fL_law_279
  by_cases j3 : 3 ≤ j
  · rw [if_pos (show (3 : Int32) ≤ iN j by rw [show (3 : Int32) = iN 3 from rfl, iN_le (by omega) (by omega)]; exact j3)]
    by_cases e3 : j = 3
    · rw [if_pos (show iN j = (3 : Int32) by rw [e3]; rfl)]
      exact Y_308 (k := 16) b hF a (by omega)
    · rw [if_neg (show ¬ iN j = (3 : Int32) by rw [show (3 : Int32) = iN 3 from rfl, iN_eq (by omega) (by omega)]; exact e3), show iN F - iN F / (26 : Int32) * 26 = iN (F - F / 26 * 26) from iN_rem (k := 26) hF (by omega)]
      exact Y_308 b hF a (by omega)
  · rw [if_neg (show ¬ (3 : Int32) ≤ iN j by rw [show (3 : Int32) = iN 3 from rfl, iN_le (by omega) (by omega)]; exact j3)]
    exact Y_308 (k := 9) b hF a (by omega)
end DD
