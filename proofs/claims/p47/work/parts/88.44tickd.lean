/-! the ticks as a turn has them -/
theorem nI_s (k : Nat) : ((0 : Int32) - iN k) - 1 = 0 - iN (k + 1) := by
  rw [← iN_add, ← i_1]; grind
theorem nI_b (a b : Nat) : ((0 : Int32) - iN a) + iN b = iN b - iN a := by grind
theorem X_range {N : Nat} {σ : gS} {a lo hi : Nat} (h1 : lo ≤ a) (h2 : a ≤ hi) (hh : hi < 2147483648) : fX11_needRange N σ (iN a) (iN lo) (iN hi) = some () := by
  unfold fX11_needRange
  rw [if_neg (show ¬ iN a < iN lo by rw [iN_lt (by omega) (by omega)]; omega), if_pos (show iN a ≤ iN hi by rw [iN_le (by omega) (by omega)]; omega)]
theorem X_place {N : Nat} {σ : gS} {a n : Nat} (h : a < n) (hn : n < 2147483648) : fX11_needPlace N σ (iN a) (iN n) = some () := by
  unfold fX11_needPlace
  rw [if_neg (show ¬ iN a < (0 : Int32) by rw [i_0, iN_lt (by omega) (by omega)]; omega), if_pos (show iN a < iN n by rw [iN_lt (by omega) (by omega)]; omega)]
/-- remainders as the law has them -/
theorem iN_rem {c k : Nat} (hc : c < 2147483648) (hk : k < 2147483648) : iN c - iN c / iN k * iN k = iN (c - c / k * k) := by
  have h := Nat.div_mul_le_self c k
  rw [iN_div hc hk, iN_mul, iN_sub h hc]
theorem L_cnt1 {N : Nat} {xs : Nat → Int32} {Lx : Nat} {rec221 : (gS × Int32 × Int32) → Option Int32} {x21 x24 x28 : Int32} {s : gS} {n : Nat} (hN : 100 ≤ N) (h0 : s.1 161 0 = iN n) (hn : n ≤ 20) : lp (fL_law_2393 N xs Lx rec221 x21 x24 x28) N (s, 0, 0) = lp (fL_law_2429 N xs Lx rec221 x21 x24 x28 (0 - iN (cnS s n 2))) N (s, 0) := by
  have e0 : ((0 : Int32) - iN (cnS s 0 2)) = 0 := by
    rw [show cnS s 0 2 = 0 from rfl]; decide
  have := lp_run (F := fL_law_2393 N xs Lx rec221 x21 x24 x28) (out := lp (fL_law_2429 N xs Lx rec221 x21 x24 x28 (0 - iN (cnS s n 2))) N (s, 0)) (fun j => (s, (0 : Int32) - iN (cnS s j 2), iN j)) n (fun j hj rec => ?_) (fun rec => ?_) N (by omega)
  · rw [← this, e0]; rfl
  · have sc : cnS s (j + 1) 2 = cnS s j 2 + (if decide (s.1 164 j = iN 2) = true then 1 else 0) := rfl
    rw [sc]
    unfold fL_law_2393 fL_law_2417
    dsimp only
    rw [h0, if_neg (show ¬ iN n ≤ iN j by rw [iN_le (by omega) (by omega)]; omega), if_neg (gi (show j < 24 by omega) (by decide)), iN_cl (show j < 2147483648 by omega)]
    by_cases c : s.1 164 j = iN 2
    · rw [if_pos (show s.1 164 j = (2 : Int32) from c), decide_eq_true c, if_pos rfl, nI_s, i_1, iN_add]
    · rw [if_neg (show ¬ s.1 164 j = (2 : Int32) from c), decide_eq_false c, if_neg (by decide), Nat.add_zero, i_1, iN_add, Int32.sub_zero]
  · unfold fL_law_2393
    dsimp only
    rw [h0, if_pos (show iN n ≤ iN n by rw [iN_le (by omega) (by omega)]; omega)]
theorem L_cnt2 {N : Nat} {xs : Nat → Int32} {Lx : Nat} {rec221 : (gS × Int32 × Int32) → Option Int32} {x21 x24 x28 : Int32} {s : gS} {n a : Nat} {out : Option Int32} (hN : 100 ≤ N) (h0 : s.1 161 0 = iN n) (hn : n ≤ 20) (ho : ((fX11_tick N s x28).bind fun r_2 => if r_2.1 = iN (cnS s n 2) - iN a then (fL_law_2696 N xs Lx rec221 r_2.2 x21 x24 1) else (fL_law_2696 N xs Lx rec221 r_2.2 x21 x24 0)) = out) : lp (fL_law_2647 N xs Lx rec221 x21 x24 x28) N (s, 0 - iN a, 0) = out := by
  have e0 : ((0 : Int32) - iN a) + iN (cnS s 0 2) = 0 - iN a := by
    rw [show cnS s 0 2 = 0 from rfl]; exact Int32.add_zero _
  have := lp_run (F := fL_law_2647 N xs Lx rec221 x21 x24 x28) (out := out) (fun j => (s, ((0 : Int32) - iN a) + iN (cnS s j 2), iN j)) n (fun j hj rec => ?_) (fun rec => ?_) N (by omega)
  · rw [← this, e0]; rfl
  · have sc : cnS s (j + 1) 2 = cnS s j 2 + (if decide (s.1 164 j = iN 2) = true then 1 else 0) := rfl
    rw [sc]
    unfold fL_law_2647 fL_law_2671
    dsimp only
    rw [h0, if_neg (show ¬ iN n ≤ iN j by rw [iN_le (by omega) (by omega)]; omega), if_neg (gi (show j < 24 by omega) (by decide)), iN_cl (show j < 2147483648 by omega)]
    by_cases c : s.1 164 j = iN 2
    · rw [if_pos (show s.1 164 j = (2 : Int32) from c), decide_eq_true c, if_pos rfl, ← iN_add (cnS s j 2) 1, ← iN_add j 1, ← i_1, Int32.add_assoc]
    · rw [if_neg (show ¬ s.1 164 j = (2 : Int32) from c), decide_eq_false c, if_neg (by decide), Nat.add_zero, i_1, iN_add, Int32.add_zero]
  · rw [← ho]
    unfold fL_law_2647
    dsimp only
    rw [h0, if_pos (show iN n ≤ iN n by rw [iN_le (by omega) (by omega)]; omega), nI_b]
theorem D_tick {N : Nat} {xs : Nat → Int32} {Lx : Nat} {rec221 : (gS × Int32 × Int32) → Option Int32} {x21 : Int32} {s : gS} {c n T G V U h sz dp B : Nat} {ag : Nat → Nat} (hN : 5000 ≤ N) (hc : c < 100000000) (g : GI s (lawOf s) n T G V U h sz dp B ag) (hx : XI s (lawOf s) n T G) (hV : V ≤ 49) (hU : U < 990) (hB : B < 890) :
    ∃ (s' : gS) (V' U' h' : Nat), fL_law_2379 N xs Lx rec221 s x21 (iN c) = fL_law_2698 N xs Lx rec221 s' 1 x21 (iN c) ∧ GI s' (lawOf s') n T G V' U' h' sz dp (B + 9) ag ∧ XI s' (lawOf s') n T G ∧ V' ≤ V + 9 ∧ U' ≤ U + 9 := by
  have hr : c - c / 3 * 3 < 3 := by omega
  generalize hK : 1 + (c - c / 3 * 3) = K at *
  have hK1 : 1 ≤ K ∧ K ≤ 3 := by omega
  obtain ⟨_, _, _, _, _, a1, -⟩ := J_ticks hN K s (lawOf s) V U h B g hx (by omega) (by omega) (by omega)
  obtain ⟨sk, p1, -⟩ := a1 s rfl
  have hsm := p1.sml
  have hn := g.1.1.1.1.2.1
  have hT := g.1.1.1.2.1.2
  obtain ⟨σ', M', V', U', h', b1, b2, b3, b4, b5, b6⟩ := J_ticks hN K sk (lawOf s) V U h B (g.smL hsm) (hx.smL hn hT hsm) (by omega) (by omega) (by omega)
  obtain ⟨sk2, q1, q2⟩ := b1 s rfl
  obtain rfl := LTn.det p1 q1
  have hl : lawOf σ' = M' := b6.trans q2
  have e0 : s.1 161 0 = iN n := by rw [lw1 (M := lawOf s) rfl (by omega)]; exact g.1.1.1.1.1
  have e0k : sk.1 161 0 = iN n := by rw [lw1 q2 (by omega)]; exact b3.1.1.1.1.1
  have c0 : cnS s n 2 = cnS (lawOf s) n 2 := by unfold cnS; rw [lw1 (σ := s) (M := lawOf s) rfl (by omega)]
  have ck : cnS sk n 2 = cnS M' n 2 := by unfold cnS; rw [lw1 q2 (by omega)]
  have l0 : s.1 0 15 = iN (cnS (lawOf s) n 2) := g.1.2.2.2.2.2.2.2.2.1
  have lk : sk.1 0 15 = iN (cnS (lawOf s) n 2) := by rw [(hsm.1 0 (by omega)).1]; exact l0
  have l' : σ'.1 0 15 = iN (cnS M' n 2) := b3.1.2.2.2.2.2.2.2.2.1
  have hB3 : B + 3 * K ≤ B + 9 := by omega
  refine ⟨σ', V', U', h', ?_, ?_, by rw [hl]; exact b4, by omega, by omega⟩
  · unfold fL_law_2379
    rw [i_3, iN_rem (by omega) (by omega), i_1, iN_add, hK, if_neg (show ¬ (iN K < iN 1 ∨ iN 3 < iN K) by rw [iN_lt (by omega) (by omega), iN_lt (by omega) (by omega)]; omega), L_cnt1 (by omega) e0 hn]
    obtain ⟨m, rfl⟩ : ∃ m, N = (m + 1) + K := ⟨N - 1 - K, by omega⟩
    have r1 := q1.run (xs := xs) (Lx := Lx) (rec221 := rec221) (x21 := x21) (x24 := iN c) (x29 := 0 - iN (cnS s n 2)) (K := K) (by omega) 0 (m + 1) (by omega)
    have tk : fX11_tick (m + 1 + K) sk (iN K) = some (iN (cnS M' n 2) - iN (cnS (lawOf s) n 2), σ') := by
      unfold fX11_tick
      rw [show fX11_needRange (m + 1 + K) sk (iN K) (1 : Int32) (30 : Int32) = some () from X_range (lo := 1) (hi := 30) (by omega) (by omega) (by omega), Option.bind_some, lk]
      have r2 := b2.run (x2 := iN (cnS (lawOf s) n 2)) (K := K) (by omega) 0 (m + 1) (by omega)
      rw [show ((sk, (0 : Int32)) : gS × Int32) = (sk, iN 0) from rfl, r2, lp_1]
      generalize lp (fX11_tick_14 (m + 1 + K) (iN K) (iN (cnS (lawOf s) n 2))) m = R
      unfold fX11_tick_14
      dsimp only
      rw [if_pos (show iN K ≤ iN K by rw [iN_le (by omega) (by omega)]; omega), l']
    have r3 := L_cnt2 (N := m + 1 + K) (xs := xs) (Lx := Lx) (rec221 := rec221) (x21 := x21) (x24 := iN c) (x28 := iN K) (s := sk) (a := cnS s n 2) (out := fL_law_2698 (m + 1 + K) xs Lx rec221 σ' 1 x21 (iN c)) (by omega) e0k hn (by
      rw [tk, Option.bind_some]
      dsimp only
      rw [ck, c0, if_pos rfl]; rfl)
    rw [show ((s, (0 : Int32)) : gS × Int32) = (s, iN 0) from rfl, r1, lp_1]
    generalize hR : lp (fL_law_2429 (m + 1 + K) xs Lx rec221 x21 (iN c) (iN K) (0 - iN (cnS s n 2))) m = R
    unfold fL_law_2429
    dsimp only
    rw [if_pos (show iN K ≤ iN K by rw [iN_le (by omega) (by omega)]; omega)]
    exact r3
  · rw [hl]
    obtain ⟨z1, z2, z3, z4, z5, z6, z7⟩ := b3
    refine ⟨z1, z2.same hB3 (fun _ _ => rfl) (fun _ _ => rfl) rfl rfl (fun _ _ => rfl) (fun _ _ => rfl), z3, z4.mono (by omega), z5, z6, z7⟩
