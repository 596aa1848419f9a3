/-! a tick on both sides, whole -/
theorem UO.mono {σ M : gS} {B B' : Nat} (h : UO σ M B) (hb : B ≤ B') : UO σ M B' := ⟨⟨fun a ha => ⟨(h.1.1 a ha).1, by have := (h.1.1 a ha).2; omega⟩, h.1.2⟩, h.2⟩
theorem TF.of {σ M : gS} {n T G V U h sz dp B Bu : Nat} {ag : Nat → Nat} (d : DI σ M n T G V U h sz dp ag) (t : TI σ M T V U B ag) (u : UO σ M Bu) (hB : Bu < 8000) : TF M n T G V dp :=
  ⟨d.1.1, d.1.2.2.2.1, d.1.2.2.2.2.1, u.2.2, fun a ha => ⟨⟨(u.1.1 a ha).1, by have := (u.1.1 a ha).2; omega⟩, u.1.2 a ha⟩, fun q hq => (t.tm q hq).2⟩
def LT1 (N : Nat) (s s' : gS) : Prop := (∀ (xs : Nat → Int32) (Lx : Nat) (rec221 : (gS × Int32 × Int32) → Option Int32) (rec2429 : (gS × Int32) → Option Int32) (x21 x24 x28 x29 x30 : Int32), ¬ x28 ≤ x30 → fL_law_2429 N xs Lx rec221 x21 x24 x28 x29 rec2429 (s, x30) = rec2429 (s', x30 + 1)) ∧ SmL s s'
theorem J_tick1 {N : Nat} {σ M : gS} {n T G V U h sz dp B : Nat} {ag : Nat → Nat} (hN : 5000 ≤ N) (g : GI σ M n T G V U h sz dp B ag) (hx : XI σ M n T G) (hV : V < 62) (hU : U < 1000) (hB : B < 900) :
    ∃ (σ' M' : gS) (V' U' h' : Nat), (∀ s : gS, lawOf s = M → ∃ s', LT1 N s s' ∧ lawOf s' = M') ∧ fX11_passTick N σ = some σ' ∧ GI σ' M' n T G V' U' h' sz dp (B + 3) ag ∧ XI σ' M' n T G ∧ (V' ≤ V + 3 ∧ U' ≤ U + 3) ∧ lawOf σ' = lawOf σ := by
  obtain ⟨σ1, M1, V1, U1, a1, a2, ⟨d1, t1⟩, a3, ⟨g1, u1, s1, x1⟩, st, lw⟩ := g.told hN hx hV hU hB
  have hag := g.2.2.2.2.2.2
  have hop : ∀ {xs : Nat → Int32} {Lx : Nat} {rec221 : (gS × Int32 × Int32) → Option Int32} {rec2429 : (gS × Int32) → Option Int32} {x21 x24 x28 x29 x30 : Int32} {s s1 : gS}, ¬ x28 ≤ x30 → fL_tells N (sI s 161 10 (s.1 161 10 + 1)) = some s1 → fL_law_2429 N xs Lx rec221 x21 x24 x28 x29 rec2429 (s, x30) = ((fL_decides N s1).bind fun r_4 => if (r_4.2.1 161 8) = 1 then (lp (fL_law_2510 N xs Lx rec221 rec2429 x21 x24 r_4.1 x28 x29 x30) N (r_4.2, 0, 0, 0)) else (fL_law_2603 N xs Lx rec221 rec2429 r_4.2 x21 x24 r_4.1 x28 x29 x30)) := fun h1 h2 => by
    unfold fL_law_2429
    dsimp only
    rw [if_neg h1, h2, Option.bind_some]
  by_cases c : σ1.1 0 18 = 0
  · rw [if_pos c] at a2
    obtain ⟨σ', M', h', b1, b2, ⟨b3, b4⟩, ⟨b5, b6, b7, b8⟩, ⟨b9, b10⟩, b11⟩ := J_acts hN d1 t1 g1 u1 (by omega) s1 x1 hag
    refine ⟨σ', M', V1, U1, h', fun s hs => ?_, a2.trans b2, ⟨b3, b4, b5, b6.mono (by omega), b7, Or.inr ⟨b9, b10⟩, hag⟩, b8, a3, b11.trans lw⟩
    obtain ⟨sa, p1, p2, p3⟩ := a1 s hs
    obtain ⟨sb, q1, q2, q3⟩ := b1 sa p2
    exact ⟨sb, ⟨fun xs Lx rec221 rec2429 x21 x24 x28 x29 x30 hlt => (hop hlt p1).trans (q1 xs Lx rec221 rec2429 x21 x24 x28 x29 x30), p3.trans q3⟩, q2⟩
  · rw [if_neg c] at a2
    rcases st with e | ⟨e, z1, z2, z3⟩
    · exact absurd e c
    · refine ⟨σ1, M1, V1, U1, h, fun s hs => ?_, a2, ⟨d1, t1, g1, u1.mono (by omega), s1, Or.inr ⟨e, z1, z2, z3⟩, hag⟩, x1, a3, lw⟩
      obtain ⟨sa, p1, p2, p3⟩ := a1 s hs
      obtain ⟨sb, q1, q2, q3⟩ := L_decs0 (N := N) (by omega) p2 d1.1 z1
      have hfull : ∃ sc, (∀ (xs : Nat → Int32) (Lx : Nat) (rec221 : (gS × Int32 × Int32) → Option Int32) (rec2429 : (gS × Int32) → Option Int32) (x21 x24 x28 x29 x30 : Int32), (if sb.1 161 8 = 1 then lp (fL_law_2510 N xs Lx rec221 rec2429 x21 x24 (trT M1 h) x28 x29 x30) N (sb, 0, 0, 0) else fL_law_2603 N xs Lx rec221 rec2429 sb x21 x24 (trT M1 h) x28 x29 x30) = fL_law_2603 N xs Lx rec221 rec2429 sc x21 x24 (trT M1 h) x28 x29 x30) ∧ lawOf sc = M1 ∧ SmL sb sc := by
        by_cases c8 : M1.1 161 8 = iN 1
        · have r1 := fun (xs : Nat → Int32) (Lx : Nat) (rec221 : (gS × Int32 × Int32) → Option Int32) (rec2429 : (gS × Int32) → Option Int32) (x21 x24 x28 x29 x30 : Int32) => (L_full (N := N) (xs := xs) (Lx := Lx) (rec221 := rec221) (rec2429 := rec2429) (t := trT M1 h) (x21 := x21) (x24 := x24) (x28 := x28) (x29 := x29) (x30 := x30) (by omega) q2 d1.1.1 c8).1
          obtain ⟨-, r2, r3⟩ := L_full (N := N) (xs := fun _ => 0) (Lx := 0) (rec221 := fun _ => none) (rec2429 := fun _ => none) (t := trT M1 h) (x21 := 0) (x24 := 0) (x28 := 0) (x29 := 0) (x30 := 0) (by omega) q2 d1.1.1 c8
          have hne : opC M1 T V1 (trT M1 h) ≠ 0 := by
            rcases z2 with e0 | e0
            · rw [c8] at e0; exact absurd e0 (by decide)
            · exact e0
          rw [if_neg hne] at r2
          exact ⟨_, fun xs Lx rec221 rec2429 x21 x24 x28 x29 x30 => by rw [if_pos (show sb.1 161 8 = (1 : Int32) by rw [lw1 q2 (by omega), c8]; rfl)]; exact r1 xs Lx rec221 rec2429 x21 x24 x28 x29 x30, r2, r3⟩
        · exact ⟨sb, fun _ _ _ _ _ _ _ _ _ => if_neg (show ¬ sb.1 161 8 = (1 : Int32) by rw [lw1 q2 (by omega)]; exact c8), q2, SmL.refl sb⟩
      obtain ⟨sc, r1, r2, r3⟩ := hfull
      obtain ⟨sd, w1, w2, w3⟩ := L_takes0 (N := N) (by omega) r2 d1.1 (TF.of d1 t1 u1 (by omega)) t1.hmc z3
      refine ⟨sd, ⟨fun xs Lx rec221 rec2429 x21 x24 x28 x29 x30 hlt => ?_, p3.trans (q3.trans (r3.trans w3))⟩, w2⟩
      rw [hop hlt p1, q1, Option.bind_some]
      dsimp only
      rw [r1 xs Lx rec221 rec2429 x21 x24 x28 x29 x30]
      unfold fL_law_2603
      rw [w1]; rfl
