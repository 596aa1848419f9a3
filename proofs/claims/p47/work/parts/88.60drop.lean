/-! deeds: a change is dropped -/
theorem does_4 {N : Nat} {s : gS} {x2 x3 x4 : Int32} : fL_does N s 4 x2 x3 x4 = ((fTX11_queue N s x2 x3).bind fun r_20 => g_sm r_20.1 (fun v_22 => fL_does_121 N r_20.2 v_22) (fun E => if E = "java/lang/IndexOutOfBoundsException" then some ((-11), r_20.2) else if E = "java/lang/IllegalArgumentException" then some ((-12), r_20.2) else if E = "java/lang/IllegalStateException" then some ((-13), r_20.2) else none)) := by
  unfold fL_does
  rw [if_neg (by decide), if_neg (by decide), if_neg (by decide), if_neg (by decide), if_pos rfl]
theorem does_5 {N : Nat} {s : gS} {x2 x3 x4 : Int32} : fL_does N s 5 x2 x3 x4 = ((fTX11_drop N s x2).bind fun r_20 => g_sm r_20.1 (fun v_22 => fL_does_121 N r_20.2 v_22) (fun E => if E = "java/lang/IndexOutOfBoundsException" then some ((-11), r_20.2) else if E = "java/lang/IllegalArgumentException" then some ((-12), r_20.2) else if E = "java/lang/IllegalStateException" then some ((-13), r_20.2) else none)) := by
  unfold fL_does
  rw [if_neg (by decide), if_neg (by decide), if_neg (by decide), if_neg (by decide), if_neg (by decide), if_pos rfl]
theorem does_6 {N : Nat} {s : gS} {x2 x3 x4 : Int32} : fL_does N s 6 x2 x3 x4 = ((fTX11_revert N s x2 x3).bind fun r_20 => g_sm r_20.1 (fun v_22 => fL_does_121 N r_20.2 v_22) (fun E => if E = "java/lang/IndexOutOfBoundsException" then some ((-11), r_20.2) else if E = "java/lang/IllegalArgumentException" then some ((-12), r_20.2) else if E = "java/lang/IllegalStateException" then some ((-13), r_20.2) else none)) := by
  unfold fL_does
  rw [if_neg (by decide), if_neg (by decide), if_neg (by decide), if_neg (by decide), if_neg (by decide), if_neg (by decide), if_pos rfl]
theorem isE_state {ρ : Type} {a b c d : ρ} : (if "java/lang/IllegalStateException" = "java/lang/IndexOutOfBoundsException" then a else if "java/lang/IllegalStateException" = "java/lang/IllegalArgumentException" then b else if "java/lang/IllegalStateException" = "java/lang/IllegalStateException" then c else d) = c := by
  rw [if_neg (by decide), if_neg (by decide), if_pos rfl]
theorem toS_I {σ M : gS} {c st n : Nat} (k i : Nat) (h1 : ¬ (5 ≤ k ∧ k < 5 + n ∧ i = 3)) (h2 : ¬ (k = 109 ∧ i = 3)) (h3 : ¬ (k = 0 ∧ i = 18)) : (toS σ M c st n).1 k i = σ.1 k i := by
  unfold toS
  rw [sI_1, if_neg (by omega), sI_1, if_neg (by omega), chS_out _ _ _ h1]
theorem toS_law {σ M : gS} {c st n : Nat} (hn : n ≤ 20) : lawOf (toS σ M c st n) = lawOf σ := lawOf_ext (fun k h1 _ => ⟨funext (fun i => toS_I k i (by omega) (by omega) (by omega)), rfl⟩)
section DD
variable {N : Nat} {xs : Nat → Int32} {Lx : Nat} {rec221 : (gS × Int32 × Int32) → Option Int32} {x21 x24 x27 : Int32} {x25 : Int64} {s : gS} {c V U B A : Nat}
theorem D_drop {d n T G h sz dp : Nat} {ag : Nat → Nat} (hN : 100 ≤ N) (hd : d < n) (hB : B < 2000) (g : GI s (lawOf s) n T G V U h sz dp B ag) (x : XI s (lawOf s) n T G) (hA : ∀ q, ag q ≤ A) : ∃ s', (if s.1 164 d = 1 then fL_law_2334 N xs Lx rec221 s x21 x24 (iN d) 1 else fL_law_2334 N xs Lx rec221 s x21 x24 (iN d) 0) = fL_law_2698 N xs Lx rec221 s' 1 x21 x24 ∧ DR s' V U B A := by
  have hn := g.1.1.1.1.2.1
  have hT := g.2.1.1
  obtain ⟨⟨hF, hh, h5, h6⟩, ⟨q1, q2, q3, q4⟩, ⟨ch1, ch2⟩, -⟩ := id g.1
  have k164 : ∀ i, (lawOf s).1 164 i = s.1 164 i := fun i => lw0 s (by omega)
  have e3 : ∀ i, i < n → s.1 (5 + i) 3 = (lawOf s).1 164 i := fun i hi => (ch2 i hi).1.2.1
  by_cases cn : s.1 164 d = 1
  · -- it is queued
    rw [if_pos cn]
    have hc1 : (lawOf s).1 164 d = iN 1 := (k164 d).trans cn
    have hx := X_leaveC (N := N) (σ := s) (M := lawOf s) (st := 5) hN ch1 hn hF.1.2.2 hd (by omega) (ch2 d hd).2.1 e3 (fun i hi => (ch2 i hi).1.2.2.2.1.2.2.2)
    have ed : fL_does N s 5 (iN d) 0 0 = some (iN (1 + lvC (lawOf s) d n), toS s (lawOf s) d 5 n) := by
      rw [does_5]
      unfold fTX11_drop fTX11_drop_33
      rw [ch1, X_place hd (by omega)]
      dsimp only [g_tc]
      rw [X2_at (by omega), Option.bind_some, if_pos (show s.1 (5 + d) 3 = 1 by rw [e3 d hd, k164]; exact cn), show fX11_needState N s 1 = some () from rfl]
      dsimp only [g_tc]
      rw [show fX11_takeOutOfQueue N s (5 + d) (5 : Int32) = _ from hx]
      rfl
    have el := L_leaves (N := N) (σ := toS s (lawOf s) d 5 n) (M := lawOf s) (c := d) (st := 5) hN (toS_law hn) hF.1.1 hn hF.1.2.2 q2 q1 hd (by omega)
    have hlaw : lawOf (row4 (toS s (lawOf s) d 5 n) (lvS (lawOf s) d 5 n)) = row4 (lawOf s) (lvS (lawOf s) d 5 n) := by rw [lawOf_row4, toS_law hn]
    refine ⟨row4 (toS s (lawOf s) d 5 n) (lvS (lawOf s) d 5 n), ?_, DR.of ⟨n, T, G, h, sz, dp, ag, ?_, ?_, hA⟩⟩
    · unfold fL_law_2334
      rw [ed, Option.bind_some]
      dsimp only
      rw [if_neg (show ¬ (1 : Int32) = 0 by decide), show fL_leaves N (toS s (lawOf s) d 5 n) (iN d) (5 : Int32) = _ from el, Option.bind_some]
      unfold fL_law_2366
      dsimp only
      rw [if_pos rfl]; rfl
    · rw [hlaw]
      have hdi := g.1.out (σ1 := s) (M1 := lawOf s) (st := 5) hd hc1 (by omega) rfl (fun _ _ => rfl) rfl (fun _ _ => rfl) rfl (fun a ha => ⟨(hF.2.2.2.2.2 a ha).1, by rw [cn_other hc1 (by omega) (by omega) (by omega) (by omega) (by omega)]; exact q4 a ha⟩) g.1.2.2.2.2.2.1
      have tI : ∀ k, ¬ (5 ≤ k ∧ k < 5 + n) → k ≠ 109 → k ≠ 0 → (toS s (lawOf s) d 5 n).1 k = s.1 k := fun k e1 e2 e4 => funext (fun i => toS_I k i (by omega) (by omega) (by omega))
      have mI : ∀ k, k ≠ 164 → (row4 (lawOf s) (lvS (lawOf s) d 5 n)).1 k = (lawOf s).1 k := fun k hk => row4_far _ _ hk
      refine GI.smL (σ := toS s (lawOf s) d 5 n) ⟨hdi, g.2.1.same (Nat.le_refl B) (fun k hk => tI k (by omega) (by omega) (by omega)) (fun _ _ => rfl) rfl (by rw [mI 161 (by omega)]) (fun k hk => mI k (by omega)) (fun _ _ => rfl), g.2.2.1.same rfl (mI 168 (by omega)), g.2.2.2.1.same (fun _ _ => rfl) (fun i _ => by rw [mI 178 (by omega)]) (fun j _ => by rw [mI 176 (by omega)]), g.2.2.2.2.1.same (fun i hi => toS_I 0 i (by omega) (by omega) (by omega)) (fun i _ => by rw [mI 161 (by omega)]), Or.inl ?_, g.2.2.2.2.2.2⟩ (SmL.row4 _ _)
      unfold toS
      rw [sI_1, if_pos ⟨rfl, rfl⟩]
    · rw [hlaw]
      refine x.moveQ hn (fun k i hk => ?_) rfl (fun k i hk => lv_far hd rfl k i (by omega)) (fun i e => lv_z (by omega) i e)
      rw [row4_far _ _ (by omega)]
      exact toS_I k i (by omega) (by omega) (by omega)
  · rw [if_neg cn]
    refine ⟨s, ?_, DR.of ⟨n, T, G, h, sz, dp, ag, g, x, hA⟩⟩
    have ed : fL_does N s 5 (iN d) 0 0 = some (-13, s) := by
      rw [does_5]
      unfold fTX11_drop fTX11_drop_33
      rw [ch1, X_place hd (by omega)]
      dsimp only [g_tc]
      rw [X2_at (by omega), Option.bind_some, if_neg (show ¬ s.1 (5 + d) 3 = 1 by rw [e3 d hd, k164]; exact cn), show fX11_needState N s 0 = none from rfl]
      dsimp only [g_tc]
      rw [Option.bind_some]
      dsimp only [g_sm]
      exact isE_state
    unfold fL_law_2334
    rw [ed, Option.bind_some]
    dsimp only
    rw [if_pos (show (0 : Int32) = 0 from rfl)]
    unfold fL_law_2366
    rw [if_pos rfl]; rfl
end DD
