/-! deeds: a rule more that a test breaks by -/
def g4 (s : gS) (R n : Nat) (w0 w1 w2 w3 : Int64) : gS := gAdd (gAdd (gAdd (gAdd s R n w0) R (n + 1) w1) R (n + 2) w2) R (n + 3) w3
theorem gAdd_I1 (s : gS) (R n : Nat) (w : Int64) (k i : Nat) : (gAdd s R n w).1 k i = if k = R ∧ i = 1 then iN (n + 1) else s.1 k i := by
  show (sI (sJ s (R + 1) n w) R 1 (iN (n + 1))).1 k i = _
  rw [sI_1, sJ_1]
theorem gAdd_J2 (s : gS) (R n : Nat) (w : Int64) (k i : Nat) : (gAdd s R n w).2.1 k i = if k = R + 1 ∧ i = n then w else s.2.1 k i := by
  show (sI (sJ s (R + 1) n w) R 1 (iN (n + 1))).2.1 k i = _
  rw [sI_2, sJ_2]
theorem g4_1 {s : gS} {R n : Nat} {w0 w1 w2 w3 : Int64} (k i : Nat) : (g4 s R n w0 w1 w2 w3).1 k i = if k = R ∧ i = 1 then iN (n + 4) else s.1 k i := by
  unfold g4
  rw [gAdd_I1, gAdd_I1, gAdd_I1, gAdd_I1]
  by_cases e : k = R ∧ i = 1
  · rw [if_pos e, if_pos e]
  · rw [if_neg e, if_neg e, if_neg e, if_neg e, if_neg e]
theorem g4_2 {s : gS} {R n : Nat} {w0 w1 w2 w3 : Int64} (k i : Nat) (h : ¬ (k = R + 1 ∧ n ≤ i ∧ i < n + 4)) : (g4 s R n w0 w1 w2 w3).2.1 k i = s.2.1 k i := by
  unfold g4
  rw [gAdd_J2, gAdd_J2, gAdd_J2, gAdd_J2, if_neg (by omega), if_neg (by omega), if_neg (by omega), if_neg (by omega)]
theorem g4_v {s : gS} {R n : Nat} {w0 w1 w2 w3 : Int64} : (g4 s R n w0 w1 w2 w3).2.1 (R + 1) n = w0 ∧ (g4 s R n w0 w1 w2 w3).2.1 (R + 1) (n + 1) = w1 ∧ (g4 s R n w0 w1 w2 w3).2.1 (R + 1) (n + 2) = w2 ∧ (g4 s R n w0 w1 w2 w3).2.1 (R + 1) (n + 3) = w3 := by
  unfold g4
  refine ⟨?_, ?_, ?_, ?_⟩ <;> rw [gAdd_J2, gAdd_J2, gAdd_J2, gAdd_J2]
  · rw [if_neg (by omega), if_neg (by omega), if_neg (by omega), if_pos ⟨rfl, rfl⟩]
  · rw [if_neg (by omega), if_neg (by omega), if_pos ⟨rfl, rfl⟩]
  · rw [if_neg (by omega), if_pos ⟨rfl, rfl⟩]
  · rw [if_pos ⟨rfl, rfl⟩]
theorem gle_rule {x q : Nat} (hq : q < 4) : gle x (76 + 3 * q + 1 + 1) = 24 := by
  rcases (show q = 0 ∨ q = 1 ∨ q = 2 ∨ q = 3 by omega) with e | e | e | e <;> subst e <;> rfl
theorem X_g4 {N : Nat} {s : gS} {q r : Nat} {w0 w1 w2 w3 : Int64} {α : Type} {f : gS → Option α} (hq : q < 4) (hr : r < 5) (hc : s.1 (76 + 3 * q + 1) 1 = iN (4 * r)) : ((fX8_add N s (76 + 3 * q + 1) w0).bind fun a => (fX8_add N a (76 + 3 * q + 1) w1).bind fun b => (fX8_add N b (76 + 3 * q + 1) w2).bind fun c => (fX8_add N c (76 + 3 * q + 1) w3).bind f) = f (g4 s (76 + 3 * q + 1) (4 * r) w0 w1 w2 w3) := by
  rw [X_add (N := N) (σ := s) (n := 4 * r) (len := 24) hc (gle_rule hq) (by omega) (by decide), Option.bind_some, X_add (N := N) (n := 4 * r + 1) (len := 24) (by rw [gAdd_I1, if_pos ⟨rfl, rfl⟩]) (gle_rule hq) (by omega) (by decide), Option.bind_some, X_add (N := N) (n := 4 * r + 2) (len := 24) (by rw [gAdd_I1, if_pos ⟨rfl, rfl⟩]) (gle_rule hq) (by omega) (by decide), Option.bind_some, X_add (N := N) (n := 4 * r + 3) (len := 24) (by rw [gAdd_I1, if_pos ⟨rfl, rfl⟩]) (gle_rule hq) (by omega) (by decide), Option.bind_some]
  rfl
theorem rpM_c {M M1 : gS} (q : Nat) (h : ∀ k x, k ≠ 172 → M1.1 k x = M.1 k x) (hJ : M1.2.1 = M.2.1) : ∀ j, cnK M1 q j = cnK M q j ∧ (∀ k x, k ≠ 172 → (rpM M1 q j).1 k x = (rpM M q j).1 k x) ∧ (rpM M1 q j).2.1 = (rpM M q j).2.1
  | 0 => ⟨rfl, h, hJ⟩
  | j + 1 => by
    obtain ⟨h1, h2, h3⟩ := rpM_c q h hJ j
    refine ⟨?_, fun k x hk => ?_, funext (fun k => funext (fun x => ?_))⟩
    · rw [cnK_s, cnK_s, h1]
      unfold kOf
      rw [hJ]
    · rw [rpM_s, rpM_s, sI_1, sI_1, h1, sJ_1, sJ_1, h2 k x hk, h 175 j (by omega)]
    · rw [rpM_s, rpM_s, sI_2, sI_2, sJ_2, sJ_2, h1, h3, hJ]
theorem stM_c {M M1 : gS} (q : Nat) (h : ∀ k x, k ≠ 172 → M1.1 k x = M.1 k x) : ∀ j k x, k ≠ 172 → (stM M1 q j).1 k x = (stM M q j).1 k x
  | 0, k, x, hk => h k x hk
  | j + 1, k, x, hk => by
    rw [stM_s, stM_s, sI_1, sI_1, stM_c q h j k x hk, h 176 _ (by omega), h 176 _ (by omega)]
theorem roM_c {M M1 : gS} (q V : Nat) (h : ∀ k x, k ≠ 172 → M1.1 k x = M.1 k x) (hJ : M1.2.1 = M.2.1) : (∀ k x, k ≠ 172 → (roM M1 q V).1 k x = (roM M q V).1 k x) ∧ (roM M1 q V).2.1 = (roM M q V).2.1 := by
  obtain ⟨h1, h2, h3⟩ := rpM_c q h hJ V
  refine ⟨fun k x hk => ?_, ?_⟩
  · unfold roM
    refine stM_c q (fun k x hk => ?_) 3 k x hk
    rw [sI_1, sI_1, h1, h2 k x hk]
  · rw [roM_J, roM_J, h3]
section DD
variable {N : Nat} {xs : Nat → Int32} {Lx : Nat} {rec221 : (gS × Int32 × Int32) → Option Int32} {x20 x21 x27 : Int32} {x25 : Int64} {s : gS} {c V U B A : Nat}
theorem D_breaks1 {q n T G h sz dp o1 o2 : Nat} {ag : Nat → Nat} (hN : 100 ≤ N) (hc : c < 100000000) (hq : q < T) (hA9 : A < 900) (ho1 : o1 < 4) (ho2 : o2 < 4) (g : GI s (lawOf s) n T G V U h sz dp B ag) (x : XI s (lawOf s) n T G) (hA : ∀ q, ag q ≤ A) (t1 : tb (s.1 172 (12 * q)) o1 = true) (t2 : tb (s.1 172 (12 * q)) o2 = true) (h5 : ¬ (5 : Int32) ≤ s.1 172 (12 * q + 4)) : ∃ s', fL_law_1162 N xs Lx rec221 s x20 x21 (iN c) (iN q) (iN o1) (iN o2) 1 = fL_law_2698 N xs Lx rec221 s' 1 x21 (iN c) ∧ DR s' V U B A := by
  have hn := g.1.1.1.1.2.1
  have hT := g.2.1.1
  have hV64 := g.1.1.1.2.2.2.2.1.2.1
  obtain ⟨c1, ⟨r, b0, fk, ⟨r1, r2, r3, r4⟩, c3, c4, c5, c6, c7, c8, c9⟩, c10, c11, c12, c13, c14⟩ := id (g.2.1.2.2.2.1 q hq)
  have hag := hA q
  have h65 : s.1 65 5 = iN T := g.1.2.2.2.1.1.1
  have k4 : s.1 172 (12 * q + 4) = iN r := (lw0 s (by omega)).symm.trans r1
  have hr5 : r < 5 := by
    rw [k4, i_5, iN_le (by omega) (by omega)] at h5; omega
  have e12 : (12 : Int32) * iN q = iN (12 * q) := iN_mul 12 q
  have e4 : iN (12 * q) + (4 : Int32) = iN (12 * q + 4) := iN_add _ 4
  have e7 : iN (12 * q) + (7 : Int32) = iN (12 * q + 7) := iN_add _ 7
  obtain ⟨a, ha, hae⟩ : ∃ a, a ≤ 9 ∧ c / 64 - c / 64 / 10 * 10 = a := ⟨_, by omega, rfl⟩
  obtain ⟨b, hb, hbe⟩ : ∃ b, b ≤ 9 ∧ c / 640 - c / 640 / 10 * 10 = b := ⟨_, by omega, rfl⟩
  have ea : (iN c / (64 : Int32)) - (iN c / (64 : Int32)) / 10 * 10 = iN a := by
    rw [← hae, show iN c / (64 : Int32) = iN (c / 64) from iN_div (b := 64) (by omega) (by omega)]
    exact iN_rem (k := 10) (by omega) (by omega)
  have eb : (iN c / (640 : Int32)) - (iN c / (640 : Int32)) / 10 * 10 = iN b := by
    rw [← hbe, show iN c / (640 : Int32) = iN (c / 640) from iN_div (b := 640) (by omega) (by omega)]
    exact iN_rem (k := 10) (by omega) (by omega)
  obtain ⟨v, hv⟩ : ∃ v, o1 + 16 * a + 256 * o2 + 4096 * b = v := ⟨_, rfl⟩
  have hv6 : v < 65536 := by omega
  have ev : ((iN o1 + (16 : Int32) * iN a) + (256 : Int32) * iN o2) + (4096 : Int32) * iN b = iN v := by
    rw [show (16 : Int32) * iN a = iN (16 * a) from iN_mul 16 a, show (256 : Int32) * iN o2 = iN (256 * o2) from iN_mul 256 o2, show (4096 : Int32) * iN b = iN (4096 * b) from iN_mul 4096 b, iN_add, iN_add, iN_add, hv]
  have hs1I : ∀ k i, ¬ (k = 172 ∧ (i = 12 * q + 7 + r ∨ i = 12 * q + 4)) → (sI (sI s 172 (12 * q + 7 + r) (iN v)) 172 (12 * q + 4) (iN (r + 1))).1 k i = s.1 k i := fun k i e => by rw [sI_1, if_neg (by omega), sI_1, if_neg (by omega)]
  have hs1v : (sI (sI s 172 (12 * q + 7 + r) (iN v)) 172 (12 * q + 4) (iN (r + 1))).1 172 (12 * q + 7 + r) = iN v ∧ (sI (sI s 172 (12 * q + 7 + r) (iN v)) 172 (12 * q + 4) (iN (r + 1))).1 172 (12 * q + 4) = iN (r + 1) := ⟨by rw [sI_1, if_neg (by omega), sI_1, if_pos ⟨rfl, rfl⟩], by rw [sI_1, if_pos ⟨rfl, rfl⟩]⟩
  have hs1J : (sI (sI s 172 (12 * q + 7 + r) (iN v)) 172 (12 * q + 4) (iN (r + 1))).2 = s.2 := rfl
  generalize hS1 : sI (sI s 172 (12 * q + 7 + r) (iN v)) 172 (12 * q + 4) (iN (r + 1)) = s1 at hs1I hs1v hs1J
  -- the class's call
  have hg4 : (g4 s1 (76 + 3 * q + 1) (4 * r) (jN o1) (jN a) (jN o2) (jN b)).1 (76 + 3 * q) 7 = iN (ag q) := by
    rw [g4_1, if_neg (by omega), hs1I _ _ (by omega)]; exact c1.2.1
  obtain ⟨Z, hZ⟩ : ∃ Z, Z = sI (sI (sI (sI (g4 s1 (76 + 3 * q + 1) (4 * r) (jN o1) (jN a) (jN o2) (jN b)) (76 + 3 * q) 7 (iN (ag q + 1))) (76 + 3 * q) 8 (iN 0)) 109 3 (iN 0)) 0 18 (iN 0) := ⟨_, rfl⟩
  have hZI : ∀ k i, ¬ (k = 76 + 3 * q ∧ (i = 7 ∨ i = 8)) → ¬ (k = 76 + 3 * q + 1 ∧ i = 1) → ¬ (k = 109 ∧ i = 3) → ¬ (k = 0 ∧ i = 18) → Z.1 k i = s1.1 k i := fun k i z1 z2 z3 z4 => by
    rw [hZ, sI_1, if_neg (by omega), sI_1, if_neg (by omega), sI_1, if_neg (by omega), sI_1, if_neg (by omega), g4_1, if_neg z2]
  have hZJ : Z.2.1 = (g4 s1 (76 + 3 * q + 1) (4 * r) (jN o1) (jN a) (jN o2) (jN b)).2.1 := by rw [hZ]; rfl
  have hZl : Z.2.2 = s.2.2 := by rw [hZ, ← hS1]; rfl
  have hZv : Z.1 (76 + 3 * q) 7 = iN (ag q + 1) ∧ Z.1 (76 + 3 * q) 8 = iN 0 ∧ Z.1 109 3 = iN 0 ∧ Z.1 0 18 = iN 0 ∧ Z.1 (76 + 3 * q + 1) 1 = iN (4 * r + 4) := by
    rw [hZ]
    refine ⟨?_, ?_, ?_, ?_, ?_⟩
    · rw [sI_1, if_neg (by omega), sI_1, if_neg (by omega), sI_1, if_neg (by omega), sI_1, if_pos ⟨rfl, rfl⟩]
    · rw [sI_1, if_neg (by omega), sI_1, if_neg (by omega), sI_1, if_pos ⟨rfl, rfl⟩]
    · rw [sI_1, if_neg (by omega), sI_1, if_pos ⟨rfl, rfl⟩]
    · rw [sI_1, if_pos ⟨rfl, rfl⟩]
    · rw [sI_1, if_neg (by omega), sI_1, if_neg (by omega), sI_1, if_neg (by omega), sI_1, if_neg (by omega), g4_1, if_pos ⟨rfl, rfl⟩]
  have e1 : fX11_breaks N s1 (iN q) (iN o1) (iN a) (iN o2) (iN b) = some (iN (r + 1), Z) := by
    have hm : s1.1 (76 + 3 * q) 2 = s.1 172 (12 * q) := by
      rw [hs1I _ _ (by omega), c10, lw0 s (by omega)]
    have hr1 : s1.1 (76 + 3 * q + 1) 1 = iN (4 * r) := by rw [hs1I _ _ (by omega)]; exact r3
    unfold fX11_breaks fX11_breaks_79 fX11_breaks_100
    rw [hs1I 65 5 (by omega), h65, X_place hq (by omega), Option.bind_some, show fX11_needPlace N s1 (iN o1) (12 : Int32) = some () from X_place (n := 12) (by omega) (by omega), Option.bind_some, show fX11_needPlace N s1 (iN o2) (12 : Int32) = some () from X_place (n := 12) (by omega) (by omega), Option.bind_some, show fX11_needRange N s1 (iN a) (0 : Int32) (9 : Int32) = some () from X_range (lo := 0) (hi := 9) (by omega) (by omega) (by omega), Option.bind_some, show fX11_needRange N s1 (iN b) (0 : Int32) (9 : Int32) = some () from X_range (lo := 0) (hi := 9) (by omega) (by omega) (by omega), Option.bind_some, X7_at (by omega), Option.bind_some, hm, X_hasBit (by omega), Option.bind_some, t1, if_neg (show ¬ iB true = (0 : Int32) by decide), X_hasBit (by omega), Option.bind_some, t2, if_neg (show ¬ iB true = (0 : Int32) by decide), show fX11_needArgument N s1 1 = some () from rfl, Option.bind_some, hr1, if_neg (show ¬ (24 : Int32) ≤ iN (4 * r) by rw [show (24 : Int32) = iN 24 from rfl, iN_le (by omega) (by omega)]; omega), show fX11_needState N s1 1 = some () from rfl, Option.bind_some, iN_64 (by omega), iN_64 (by omega), iN_64 (by omega), iN_64 (by omega), X_g4 (by omega) hr5 hr1]
    unfold fX3_reopen
    rw [Option.bind_some, X_stir, Option.bind_some, hg4, i_1, iN_add, show (sI (sI (sI (sI (g4 s1 (76 + 3 * q + 1) (4 * r) (jN o1) (jN a) (jN o2) (jN b)) (76 + 3 * q) 7 (iN (ag q + 1))) (76 + 3 * q) 8 0) 109 3 (iN 0)) 0 18 (iN 0)) = Z from hZ.symm, hZv.2.2.2.2, show iN (4 * r + 4) / (4 : Int32) = iN ((4 * r + 4) / 4) from iN_div (b := 4) (by omega) (by omega), show (4 * r + 4) / 4 = r + 1 by omega]
  have hZ4 : Z.1 161 4 = iN V := (hZI 161 4 (by omega) (by omega) (by omega) (by omega)).trans ((hs1I 161 4 (by omega)).trans ((lw0 s (by omega)).symm.trans g.2.1.2.1))
  have hl0 : lawOf Z = lawOf s1 := by
    rw [hZ]
    unfold g4 gAdd
    rw [lawOf_sI (by omega), lawOf_sI (by omega), lawOf_sI (by omega), lawOf_sI (by omega), lawOf_sI (by omega), lawOf_sJ (by omega), lawOf_sI (by omega), lawOf_sJ (by omega), lawOf_sI (by omega), lawOf_sJ (by omega), lawOf_sI (by omega), lawOf_sJ (by omega)]
  have hlaw : fL_law_1162 N xs Lx rec221 s x20 x21 (iN c) (iN q) (iN o1) (iN o2) 1 = fL_law_2698 N xs Lx rec221 (roM Z q V) 1 x21 (iN c) := by
    have hZ172 : Z.1 172 (12 * q + 4) = iN (r + 1) := (hZI 172 _ (by omega) (by omega) (by omega) (by omega)).trans hs1v.2
    have hpre : (sI s 172 (12 * q + 7 + r) (iN v)).1 172 (12 * q + 4) = iN r := by rw [sI_1, if_neg (by omega)]; exact k4
    unfold fL_law_1162
    rw [if_neg (show ¬ (1 : Int32) = 0 by decide), e12, e4, if_neg (gi (show 12 * q + 4 < 48 by omega) (by decide)), iN_cl (show 12 * q + 4 < 2147483648 by omega), k4, e7, iN_add, if_neg (gi (show 12 * q + 7 + r < 48 by omega) (by decide)), if_neg (gj (show 12 * q + 4 < 48 by omega) (by decide)), if_neg (gj (show 12 * q + 4 < 48 by omega) (by decide)), iN_cl (show 12 * q + 7 + r < 2147483648 by omega), ea, eb, ev, hpre, show iN r + (1 : Int32) = iN (r + 1) from iN_add _ 1, hS1, e1, Option.bind_some]
    dsimp only
    rw [if_neg (gj (show 12 * q + 4 < 48 by omega) (by decide)), hZ172, if_pos rfl]
    unfold fL_law_1285 fL_law_1299
    rw [L_reopens hN hZ4 hV64 (by omega), Option.bind_some]
  have hl1 : lawOf s1 = sI (sI (lawOf s) 172 (12 * q + 7 + r) (iN v)) 172 (12 * q + 4) (iN (r + 1)) := by
    rw [← hS1, lawOf_in (by omega), lawOf_in (by omega)]
  have hl : lawOf (roM Z q V) = roM (lawOf s1) q V := by rw [roM_law, hl0]
  have mR := roM_c (M := lawOf s) (M1 := lawOf s1) q V (fun k y hk => by rw [hl1, sI_1, if_neg (by omega), sI_1, if_neg (by omega)]) (by rw [hl1]; rfl)
  have m172 : ∀ y, y ≠ 12 * q + 7 + r → y ≠ 12 * q + 4 → (roM (lawOf s1) q V).1 172 y = (lawOf s).1 172 y := fun y e1 e2 => by
    rw [roM_I _ _ _ _ _ (by omega) (by omega) (by omega), hl1, sI_1, if_neg (by omega), sI_1, if_neg (by omega)]
  have m7 : (roM (lawOf s1) q V).1 172 (12 * q + 7 + r) = iN v := by
    rw [roM_I _ _ _ _ _ (by omega) (by omega) (by omega), hl1, sI_1, if_neg (by omega), sI_1, if_pos ⟨rfl, rfl⟩]
  have m4 : (roM (lawOf s1) q V).1 172 (12 * q + 4) = iN (r + 1) := by
    rw [roM_I _ _ _ _ _ (by omega) (by omega) (by omega), hl1, sI_1, if_pos ⟨rfl, rfl⟩]
  have mI : ∀ k y, ¬ (k = 172 ∧ 12 * q < y ∧ y < 12 * q + 12) → (roM (lawOf s1) q V).1 k y = (roM (lawOf s) q V).1 k y := fun k y e => by
    by_cases ek : k = 172
    · subst ek
      rw [m172 y (by omega) (by omega), roM_I _ _ _ _ _ (by omega) (by omega) (by omega)]
    · exact mR.1 k y ek
  have sm := SmL.ro Z q V
  have sI' : ∀ k i, k < 161 → ¬ (k = 76 + 3 * q ∧ (i = 7 ∨ i = 8)) → ¬ (k = 76 + 3 * q + 1 ∧ i = 1) → ¬ (k = 109 ∧ i = 3) → ¬ (k = 0 ∧ i = 18) → (roM Z q V).1 k i = s.1 k i := fun k i hk z1 z2 z3 z4 => by
    rw [(sm.1 k hk).1, hZI k i z1 z2 z3 z4, hs1I k i (by omega)]
  have sV : ∀ k i, k < 161 → (roM Z q V).1 k i = Z.1 k i := fun k i hk => by rw [(sm.1 k hk).1]
  have sJ' : ∀ k, k < 161 → k ≠ 76 + 3 * q + 2 → (roM Z q V).2.1 k = s.2.1 k := fun k hk hne => by
    rw [(sm.1 k hk).2, hZJ]
    funext i
    rw [g4_2 k i (by omega), hs1J]
  have sR : ∀ i, i < 4 * r → (roM Z q V).2.1 (76 + 3 * q + 1 + 1) i = s.2.1 (76 + 3 * q + 1 + 1) i := fun i hi => by
    rw [(sm.1 _ (by omega)).2, hZJ, g4_2 _ i (by omega), hs1J]
  have g4v := g4_v (s := s1) (R := 76 + 3 * q + 1) (n := 4 * r) (w0 := jN o1) (w1 := jN a) (w2 := jN o2) (w3 := jN b)
  rw [← hZJ, ← (sm.1 (76 + 3 * q + 1 + 1) (by omega)).2] at g4v
  have vOld : ∀ i, i < r → vN (roM (lawOf s1) q V) 172 (12 * q + 7 + i) = vN (lawOf s) 172 (12 * q + 7 + i) ∧ (roM (lawOf s1) q V).1 172 (12 * q + 7 + i) = (lawOf s).1 172 (12 * q + 7 + i) := fun i hi => by
    have e := m172 (12 * q + 7 + i) (by omega) (by omega)
    unfold vN
    rw [e]; exact ⟨rfl, rfl⟩
  have vNew : vN (roM (lawOf s1) q V) 172 (12 * q + 7 + r) = v := by unfold vN; rw [m7]; exact iN_cl (by omega)
  have mMask : (roM (lawOf s1) q V).1 172 (12 * q) = s.1 172 (12 * q) := (m172 _ (by omega) (by omega)).trans (lw0 s (by omega))
  have mMask0 : (roM (lawOf s1) q V).1 172 (12 * q) = (lawOf s).1 172 (12 * q) := m172 _ (by omega) (by omega)
  refine ⟨roM Z q V, hlaw, cnK (lawOf s) q V, U, ⟨n, T, G, h, sz, dp, agR ag q, ?_, ?_, fun y => ?_⟩, by have := cnK_le (lawOf s) q V; omega, by omega⟩
  · rw [hl]
    refine GI.mono (B := B) (g.reop hq (by omega) ((sV _ _ (by omega)).trans hZv.2.2.1) ((sV _ _ (by omega)).trans hZv.2.2.2.1) (fun k i e1 e2 e3 e4 => sI' k i e1 (by omega) (by omega) e3 e4) (fun k e1 e2 => sJ' k e1 e2) (sm.2.trans hZl) mI mR.2 ?_) (by omega)
    have eA : ∀ i, ¬ (i = 7 ∨ i = 8) → (roM Z q V).1 (76 + 3 * q) i = s.1 (76 + 3 * q) i := fun i hi => sI' _ i (by omega) (by omega) (by omega) (by omega) (by omega)
    refine ⟨⟨(eA 0 (by omega)).trans c1.1, (sV _ _ (by omega)).trans (by rw [hZv.1, agR_q]), by rw [agR_q]; omega, ?_⟩, ⟨r + 1, b0, fk, ⟨m4, by omega, (sV _ _ (by omega)).trans hZv.2.2.2.2, fun i hi => ?_⟩, by rw [m172 _ (by omega) (by omega)]; exact c3, by rw [eA 6 (by omega)]; exact c4, by rw [m172 _ (by omega) (by omega)]; exact c5, c6, by rw [eA 9 (by omega)]; exact c7, by rw [m172 _ (by omega) (by omega)]; exact c8, fun i hi => ?_⟩, by rw [eA 2 (by omega), mMask0]; exact c10, by rw [eA 4 (by omega), m172 _ (by omega) (by omega)]; exact c11, by rw [eA 5 (by omega), m172 _ (by omega) (by omega)]; exact c12, ?_, by rw [m172 _ (by omega) (by omega)]; exact c14⟩
    · rw [mMask0, sJ' _ (by omega) (by omega)]; exact c1.2.2.2
    · by_cases ei : i = r
      · subst ei
        rw [vNew, m7]
        refine ⟨rfl, hv6, by omega, by omega, ?_, ?_, ?_, ?_⟩
        · rw [g4v.1, show v - v / 16 * 16 = o1 by omega]
        · rw [g4v.2.1, show v / 16 - v / 16 / 16 * 16 = a by omega]
        · rw [g4v.2.2.1, show v / 256 - v / 256 / 16 * 16 = o2 by omega]
        · rw [g4v.2.2.2, show v / 4096 = b by omega]
      · have hi2 : i < r := by omega
        rw [(vOld i hi2).1, (vOld i hi2).2, sR _ (by omega), sR _ (by omega), sR _ (by omega), sR _ (by omega)]
        exact r4 i hi2
    · by_cases ei : i = r
      · subst ei
        rw [vNew, mMask, show v - v / 16 * 16 = o1 by omega, show v / 256 - v / 256 / 16 * 16 = o2 by omega]
        exact ⟨⟨by omega, t1⟩, by omega, t2⟩
      · have hi2 : i < r := by omega
        rw [(vOld i hi2).1, mMask0]
        exact c9 i hi2
    · rw [(sV _ _ (by omega)).trans hZv.2.1, sumR_0 (fun i hi => ?_)]
      unfold kOf
      rw [mR.2, roM_J]
      exact (rpM_en (lawOf s) q V i hi).1
  · rw [hl]
    refine x.move hn (fun k i hk => sI' k i (by omega) (by omega) (by omega) (by omega) (by omega)) (sJ' 154 (by omega) (by omega)) (fun k y hk => ?_)
    rw [mI k y (by omega)]
    exact roM_I _ _ _ _ _ (by omega) (by omega) (by omega)
  · unfold agR
    split
    · omega
    · have := hA y; omega
end DD
