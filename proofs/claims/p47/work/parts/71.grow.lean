/-! the table grows -/
theorem Tab.congr {K : Nat → Int64} {V : Nat → Int32} {len : Nat} {f g : Int64 → Int32} (h : Tab K V len f) (e : ∀ k, k ≠ 0 → f k = g k) : Tab K V len g := by
  obtain ⟨t1, t2, t3, t4, t5⟩ := h
  exact ⟨t1, t2, t3, fun p hp hz => by rw [t4 p hp hz, e _ hz], fun k hk hn => by rw [← e k hk]; exact t5 k hk hn⟩
/-- what the first j places say -/
def fjT (K : Nat → Int64) (f : Int64 → Int32) (j : Nat) : Int64 → Int32 := fun k => if k ≠ 0 ∧ sAny (fun p => decide (K p = k)) j = true then f k else 0
theorem sAny_s {p : Nat → Bool} {n : Nat} : sAny p (n + 1) = (sAny p n || p n) := rfl
theorem fjT_0 {K : Nat → Int64} {f : Int64 → Int32} {j : Nat} (h : K j = 0) : fjT K f (j + 1) = fjT K f j := by
  funext k
  unfold fjT
  by_cases e : k = 0
  · rw [if_neg (fun h => h.1 e), if_neg (fun h => h.1 e)]
  · rw [sAny_s, decide_eq_false (show ¬ K j = k by rw [h]; exact fun q => e q.symm), Bool.or_false]
theorem fjT_s {K : Nat → Int64} {f : Int64 → Int32} {j : Nat} {key : Int64} (h : K j = key) (hk : key ≠ 0) : fjT K f (j + 1) = fun k => if k = key then f key else fjT K f j k := by
  funext k
  unfold fjT
  by_cases e : k = key
  · subst e
    rw [sAny_s, decide_eq_true h, Bool.or_true, if_pos ⟨hk, rfl⟩, if_pos rfl]
  · rw [if_neg e, sAny_s, decide_eq_false (show ¬ K j = k by rw [h]; exact fun q => e q.symm), Bool.or_false]
theorem pw_2 {len : Nat} (h : pw len) (h2 : 2 * len ≤ 2048) : pw (2 * len) := by
  unfold pw at h ⊢; omega
theorem X_grow37 {N : Nat} {σ : gS} {len U : Nat} {f : Int64 → Int32} (hN : 5000 ≤ N) (h : TabS σ len U f) (h2 : 2 * len ≤ 2048) (hl0 : σ.2.2 = len) : ∀ (m j : Nat) (s : gS) (N' : Nat), j + m = len → m < N' → s.2.2 = σ.2.2 → (∀ k, k ≠ 183 → s.1 k = σ.1 k) → (∀ k, k ≠ 182 → s.2.1 k = σ.2.1 k) → Tab (s.2.1 182) (s.1 183) (2 * len) (fjT (σ.2.1 107) f j) → sCnt (fun p => decide (s.2.1 182 p ≠ 0)) (2 * len) = sCnt (fun p => decide (σ.2.1 107 p ≠ 0)) j → (∀ q, q < 2 * len → s.2.1 182 q ≠ 0 → ∃ p, p < j ∧ σ.2.1 107 p = s.2.1 182 q) →
    ∃ s' : gS, lp (fX9_grow_37 N (iN (2 * len))) N' (s, iN j) = some (gGrown s') ∧ s'.2.2 = σ.2.2 ∧ (∀ k, k ≠ 183 → s'.1 k = σ.1 k) ∧ (∀ k, k ≠ 182 → s'.2.1 k = σ.2.1 k) ∧ Tab (s'.2.1 182) (s'.1 183) (2 * len) (fjT (σ.2.1 107) f len) ∧ sCnt (fun p => decide (s'.2.1 182 p ≠ 0)) (2 * len) = sCnt (fun p => decide (σ.2.1 107 p ≠ 0)) len := by
  obtain ⟨l1, l2, l3, u1, u2, hT2⟩ := h
  have hlb : len ≤ 2048 ∧ 256 ≤ len := by unfold pw at l3; omega
  intro m
  induction m with
  | zero =>
    intro j s N' hj hN' hs hI hJ hT hc hin
    obtain ⟨N', rfl⟩ : ∃ k, N' = k + 1 := ⟨N' - 1, by omega⟩
    have e : j = len := by omega
    subst e
    refine ⟨s, ?_, hs, hI, hJ, hT, hc⟩
    rw [lp_1]
    unfold fX9_grow_37 fX9_grow_121
    dsimp only
    rw [if_pos (by rw [hs, l1, iN_of, iN_le (by omega) (by omega)]; omega)]
  | succ m ih =>
    intro j s N' hj hN' hs hI hJ hT hc hin
    obtain ⟨N', rfl⟩ : ∃ k, N' = k + 1 := ⟨N' - 1, by omega⟩
    have q1 : ¬ (Int32.ofNat (gle s.2.2 107) ≤ iN j) := by rw [hs, l1, iN_of, iN_le (by omega) (by omega)]; omega
    have q2 : ¬ (Int32.ofNat (gle s.2.2 108) ≤ iN j) := by rw [hs, l2, iN_of, iN_le (by omega) (by omega)]; omega
    have z1 : ¬ (iN j < (0 : Int32)) := by rw [i_0, iN_lt (by omega) (by omega)]; omega
    have q3 : ¬ (iN j < (0 : Int32) ∨ gle s.2.2 107 ≤ (iN j).toNatClampNeg) := by
      rw [iN_cl (by omega), hs, l1]; exact fun h => h.elim z1 (fun h => by omega)
    have q3b : ¬ (iN j < (0 : Int32) ∨ gle s.2.2 107 ≤ j) := by rw [hs, l1]; exact fun h => h.elim z1 (fun h => by omega)
    rw [lp_1]
    generalize hR : lp (fX9_grow_37 N (iN (2 * len))) N' = R
    unfold fX9_grow_37 fX9_grow_115
    dsimp only
    rw [if_neg q1, if_neg q2, if_neg q3, iN_cl (by omega), hJ 107 (by omega)]
    by_cases c : σ.2.1 107 j = 0
    · rw [if_pos (by rw [i_0, lgc0]; exact c), i_1, iN_add, ← hR]
      refine ih (j + 1) s N' (by omega) (by omega) hs hI hJ (by rw [fjT_0 c]; exact hT) ?_ (fun q hq hz => ?_)
      · rw [hc]
        conv => { rhs; unfold sCnt }
        rw [if_neg (by simp [c])]; rfl
      · obtain ⟨p, h3, h4⟩ := hin q hq hz
        exact ⟨p, by omega, h4⟩
    · rw [if_neg (by rw [i_0, lgc0]; exact c)]
      have hvj := hT2.2.2.2.1 j (by omega) c
      have huniq : ∀ p, p < j → σ.2.1 107 p ≠ σ.2.1 107 j := fun p hp h => by
        have := hT2.1 p j (by omega) (by omega) h (by rw [h]; exact c)
        omega
      have hcle : sCnt (fun p => decide (σ.2.1 107 p ≠ 0)) j ≤ j := sCnt_le j
      have hsj : sCnt (fun p => decide (σ.2.1 107 p ≠ 0)) (j + 1) = sCnt (fun p => decide (σ.2.1 107 p ≠ 0)) j + 1 := by
        conv => { lhs; unfold sCnt }
        rw [if_pos (by simp [c])]
      have hfs : fjT (σ.2.1 107) f (j + 1) = fun k => if k = σ.2.1 107 j then f (σ.2.1 107 j) else fjT (σ.2.1 107) f j k := fjT_s rfl c
      have hlast : ∀ q, σ.2.1 107 j = q → ∃ p, p < j + 1 ∧ σ.2.1 107 p = q := fun q h => ⟨j, by omega, h⟩
      generalize σ.2.1 107 j = key at c hvj huniq hfs hlast ⊢
      obtain ⟨i, i1, i2, i3, i4, i5⟩ := hT.find c (tab_open hc (by omega))
      have hg2 : gle s.2.2 182 = 2 * len := by rw [hs, hl0]; rfl
      have hg3 : gle s.2.2 183 = 2 * len := by rw [hs, hl0]; rfl
      have hpl := X_placeFor (r0 := 182) hN hg2 (pw_2 l3 h2) i1 i2 i3
      have hlt : prb (2 * len) key i < 2 * len := Nat.mod_lt _ (by omega)
      have hkeep := hT.keep (v := f key) c i1 i2 i3 i5
      have hz : s.2.1 182 (prb (2 * len) key i) = 0 := by
        rcases i2 with e | e
        · obtain ⟨p, h3, h4⟩ := hin _ hlt (by rw [e]; exact c)
          exact absurd (h4.trans e) (huniq p h3)
        · exact e
      generalize prb (2 * len) key i = p at hpl hlt hkeep hz
      have z2 : ¬ (iN p < (0 : Int32)) := by rw [i_0, iN_lt (by omega) (by omega)]; omega
      have z3 : ¬ (iN (2 * len) ≤ iN p) := by rw [iN_le (by omega) (by omega)]; omega
      have z4 : ¬ (iN p < (0 : Int32) ∨ gle s.2.2 182 ≤ (iN p).toNatClampNeg) := by
        rw [iN_cl (by omega), hg2]; exact fun h => h.elim z2 (fun h => by omega)
      have z5 : ∀ w k, ¬ (iN j < (0 : Int32) ∨ gle (sJ s 182 w k).2.2 108 ≤ j) := fun w k => by
        rw [sJ_3, hs, l2]; exact fun h => h.elim z1 (fun h => by omega)
      have z6 : ∀ w k, ¬ (iN p < (0 : Int32) ∨ gle (sJ s 182 w k).2.2 183 ≤ (iN p).toNatClampNeg) := fun w k => by
        rw [sJ_3, iN_cl (by omega), hg3]; exact fun h => h.elim z2 (fun h => by omega)
      rw [if_neg q3b, hpl, Option.bind_some, if_neg z2, if_neg z3, if_neg q3b, if_neg z4, if_neg (z5 _ _), if_neg (z6 _ _), iN_cl (show p < 2147483648 by omega), i_1, iN_add]
      have hV : (sJ s 182 p key).1 108 j = f key := by rw [sJ_1, hI 108 (by omega)]; exact hvj
      rw [hV, ← hR]
      refine ih (j + 1) (sI (sJ s 182 p key) 183 p (f key)) N' (by omega) (by omega) hs (fun k hk => ?_) (fun k hk => ?_) ?_ ?_ (fun q hq hz2 => ?_)
      · funext r; rw [sI_1, if_neg (by omega), sJ_1, hI k hk]
      · funext r; rw [sI_2, sJ_2, if_neg (by omega), hJ k hk]
      · have e1 : (sI (sJ s 182 p key) 183 p (f key)).2.1 182 = fun q => if q = p then key else s.2.1 182 q := by
          funext q
          rw [sI_2, sJ_2]
          by_cases e : q = p <;> simp [e]
        have e2 : (sI (sJ s 182 p key) 183 p (f key)).1 183 = fun q => if q = p then f key else s.1 183 q := by
          funext q
          rw [sI_1, sJ_1]
          by_cases e : q = p <;> simp [e]
        rw [e1, e2, hfs]; exact hkeep
      · have hu := sCnt_upd (P := fun q => decide (s.2.1 182 q ≠ 0)) (Q := fun q => decide ((sI (sJ s 182 p key) 183 p (f key)).2.1 182 q ≠ 0)) (p := p) (fun q hq => by
          rw [sI_2, sJ_2, if_neg (fun h => hq h.2)]) (2 * len)
        have e : (sI (sJ s 182 p key) 183 p (f key)).2.1 182 p = key := by rw [sI_2, sJ_2, if_pos ⟨rfl, rfl⟩]
        rw [e, hz, hc] at hu
        simp only [hlt, true_and, decide_eq_true_eq, c, ne_eq, not_false_eq_true, not_true_eq_false, if_true, if_false] at hu
        rw [hsj]
        exact hu
      · rw [sI_2, sJ_2] at hz2 ⊢
        by_cases e : q = p
        · rw [if_pos ⟨rfl, e⟩]
          exact hlast key rfl
        · rw [if_neg (fun h => e h.2)] at hz2 ⊢
          obtain ⟨p2, h3, h4⟩ := hin q hq hz2
          exact ⟨p2, by omega, h4⟩
