/-! deeds: weighing, machines that come and vanish -/
section DD
variable {N : Nat} {xs : Nat → Int32} {Lx : Nat} {rec221 : (gS × Int32 × Int32) → Option Int32} {x21 x27 : Int32} {x25 : Int64} {s : gS} {c V U B A : Nat}
theorem D_weigh (hc : c < 100000000) (a0 : AI s V U B A) : ∃ s', fL_law_1642 N xs Lx rec221 s x21 (iN 18) (iN c) x25 x27 = fL_law_2698 N xs Lx rec221 s' 1 x21 (iN c) ∧ DR s' V U B A := by
  obtain ⟨n, T, G, h, sz, dp, ag, g, x, hA⟩ := a0
  have hn := g.1.1.1.1.2.1
  have hT := g.1.1.1.2.1.2
  obtain ⟨⟨u1, u2⟩, u3, u4⟩ := id g.2.2.2.1
  obtain ⟨a, ha, hae⟩ : ∃ a, a < 3 ∧ c - c / 3 * 3 = a := ⟨c - c / 3 * 3, by omega, rfl⟩
  obtain ⟨w, hw, hwe⟩ : ∃ w, 1 ≤ w ∧ 1 + (c / 3 - c / 3 / 10 * 10) = w := ⟨_, by omega, rfl⟩
  have hw10 : w ≤ 10 := by omega
  have ea : iN c - iN c / (3 : Int32) * 3 = iN a := by rw [← hae]; exact iN_rem (k := 3) (by omega) (by omega)
  have ew : (1 : Int32) + (iN c / 3 - iN c / 3 / 10 * 10) = iN w := by
    rw [← hwe, show iN c / (3 : Int32) = iN (c / 3) from iN_div (b := 3) (by omega) (by omega), show iN (c / 3) - iN (c / 3) / (10 : Int32) * 10 = iN (c / 3 - c / 3 / 10 * 10) from iN_rem (k := 10) (by omega) (by omega), i_1, iN_add]
  have hl : lawOf (sI (sI (sI (sJ s 156 a (jN w)) 109 3 (iN 0)) 0 18 (iN 0)) 178 (3 + a) (iN w)) = sI (lawOf s) 178 (3 + a) (iN w) := by
    rw [lawOf_in (by omega), lawOf_sI (by omega), lawOf_sI (by omega), lawOf_sJ (by omega)]
  have hI : ∀ k i, ¬ (k = 0 ∧ i = 18) → ¬ (k = 109 ∧ i = 3) → k < 161 → (sI (sI (sI (sJ s 156 a (jN w)) 109 3 (iN 0)) 0 18 (iN 0)) 178 (3 + a) (iN w)).1 k i = s.1 k i := fun k i e1 e2 e3 => by
    rw [sI_1, if_neg (by omega), sI_1, if_neg (by omega), sI_1, if_neg (by omega), sJ_1]
  have hJ : ∀ k, k ≠ 156 → (sI (sI (sI (sJ s 156 a (jN w)) 109 3 (iN 0)) 0 18 (iN 0)) 178 (3 + a) (iN w)).2.1 k = s.2.1 k := fun k e => gU_ne _ _ _ e
  have mI : ∀ k i, ¬ (k = 178 ∧ i = 3 + a) → (sI (lawOf s) 178 (3 + a) (iN w)).1 k i = (lawOf s).1 k i := fun k i e => by rw [sI_1, if_neg e]
  have e3a : (iN 3 : Int32) + iN a = iN (3 + a) := iN_add 3 a
  refine ⟨sI (sI (sI (sJ s 156 a (jN w)) 109 3 (iN 0)) 0 18 (iN 0)) 178 (3 + a) (iN w), ?_, DR.of ⟨n, T, G, h, sz, dp, ag, ?_, ?_, hA⟩⟩
  · have e1 : fX11_weigh N s (iN a) (iN w) = some (s.1 178 (3 + a), sI (sI (sJ s 156 a (jN w)) 109 3 (iN 0)) 0 18 (iN 0)) := by
      unfold fX11_weigh
      rw [show fX11_needPlace N s (iN a) (3 : Int32) = some () from X_place (n := 3) ha (by omega), Option.bind_some, show fX11_needRange N s (iN w) (1 : Int32) (10 : Int32) = some () from X_range (lo := 1) (hi := 10) hw hw10 (by omega), Option.bind_some, X_whole (N := N) (σ := s) (r := 155) (j := a) (len := 3) rfl ha (by decide), Option.bind_some, X_set (N := N) (σ := s) (r := 155) (j := a) (len := 3) rfl ha (by decide), Option.bind_some, iN_64 (by omega), (u3 a ha).2, jN_32 (by have := (u2 a ha).2.2; omega), ← (u2 a ha).1, lw0 s (by omega)]
      rfl
    unfold fL_law_1642
    rw [if_neg (by decide), if_neg (by decide), if_pos (show iN 18 = (18 : Int32) from rfl), ea, ew, e1, Option.bind_some]
    dsimp only
    rw [i_3, e3a, if_neg (gi (show 3 + a < 14 by omega) (by decide)), iN_cl (show 3 + a < 2147483648 by omega), if_pos (by rw [sI_1, if_neg (by omega), sI_1, if_neg (by omega), sJ_1])]
    unfold fL_law_1931
    rw [ew, i_3, e3a, if_neg (gi (show 3 + a < 14 by omega) (by decide)), iN_cl (show 3 + a < 2147483648 by omega)]
  · rw [hl]
    refine g.stir ?_ ?_ (fun k i hk => hI k i (by omega) (by omega) (by omega)) (fun k hk => hJ k (by omega)) (fun k i hk => mI k i (by omega)) (fun _ _ => rfl) (g.2.1.same (Nat.le_refl _) (fun k hk => funext (fun i => hI k i (by omega) (by omega) (by omega))) (fun k hk => hJ k (by omega)) rfl (mI 161 4 (by omega)) (fun k hk => funext (fun i => mI k i (by omega))) (fun _ _ => rfl)) ⟨⟨fun a' ha' => ?_, fun a' ha' => ?_⟩, fun a' ha' => ⟨?_, ?_⟩, fun j hj => ?_⟩ (g.2.2.2.2.1.same (fun i hi => hI 0 i (by omega) (by omega) (by omega)) (fun i hi => mI 161 i (by omega)))
    · simp [sI_1]
    · simp [sI_1]
    · have := u1 a' ha'
      unfold vN at this ⊢
      rw [mI 178 a' (by omega)]; exact this
    · by_cases e : a' = a
      · have ev : (sI (lawOf s) 178 (3 + a) (iN w)).1 178 (3 + a') = iN w := by rw [sI_1, if_pos ⟨rfl, by omega⟩]
        have ev2 : vN (sI (lawOf s) 178 (3 + a) (iN w)) 178 (3 + a') = w := by unfold vN; rw [ev]; exact iN_cl (by omega)
        rw [ev, ev2]; exact ⟨rfl, hw, hw10⟩
      · have := u2 a' ha'
        unfold vN at this ⊢
        rw [mI 178 (3 + a') (by omega)]; exact this
    · have := (u3 a' ha').1
      unfold vN at this ⊢
      rw [hJ 158 (by omega), mI 178 a' (by omega)]; exact this
    · by_cases e : a' = a
      · have ev : (sI (lawOf s) 178 (3 + a) (iN w)).1 178 (3 + a') = iN w := by rw [sI_1, if_pos ⟨rfl, by omega⟩]
        have ev2 : vN (sI (lawOf s) 178 (3 + a) (iN w)) 178 (3 + a') = w := by unfold vN; rw [ev]; exact iN_cl (by omega)
        rw [ev2, e, sI_2, sI_2, sI_2, sJ_2, if_pos ⟨rfl, rfl⟩]
      · have := (u3 a' ha').2
        unfold vN at this ⊢
        rw [sI_2, sI_2, sI_2, sJ_2, if_neg (by omega), mI 178 (3 + a') (by omega)]; exact this
    · rw [mI 176 _ (by omega)]; exact u4 j hj
  · rw [hl]
    exact x.move hn (fun k i hk => hI k i (by omega) (by omega) (by omega)) (hJ 154 (by omega)) (fun k i hk => mI k i (by omega))
end DD
