/-! checks, machines, entries: what the class has of them and what the law has -/
def CK (σ M : gS) (V B : Nat) (ag : Nat → Nat) (q : Nat) : Prop := RCk σ M ag q ∧ (∃ r b fk, RCr σ M q r ∧ M.1 172 (12 * q + 3) = iB b ∧ σ.1 (76 + 3 * q) 6 = iB b ∧ M.1 172 (12 * q + 5) = iN fk ∧ fk ≤ B ∧ σ.1 (76 + 3 * q) 9 = iN fk ∧ M.1 172 (12 * q + 6) = iN (if fk < 2 then 0 else 1) ∧ wtc M q r) ∧ σ.1 (76 + 3 * q) 2 = M.1 172 (12 * q) ∧ σ.1 (76 + 3 * q) 4 = M.1 172 (12 * q + 1) ∧ σ.1 (76 + 3 * q) 5 = M.1 172 (12 * q + 2) ∧ σ.1 (76 + 3 * q) 8 = iN (sumR M q V) ∧ ∃ tm, M.1 172 (12 * q + 1) = iN tm ∧ 1 ≤ tm ∧ tm ≤ 3
def MC (σ M : gS) (T V : Nat) (ag : Nat → Nat) (j : Nat) : Prop := σ.1 (144 + j) 0 = M.1 176 (6 * j + 4) ∧ (M.1 176 (6 * j + 4) = iN 0 ∨ M.1 176 (6 * j + 4) = iN 1) ∧ σ.1 (144 + j) 2 = M.1 176 (6 * j) ∧ ((M.1 176 (6 * j) = iM ∧ σ.1 (144 + j) 1 = M.1 176 (6 * j + 3)) ∨ ∃ q l, q < T ∧ M.1 176 (6 * j + 4) = iN 1 ∧ M.1 176 (6 * j) = iN q ∧ M.1 176 (6 * j + 3) = iN q ∧ M.1 176 (6 * j + 1) = iN (l + 1) ∧ l < 10 ∧ σ.1 (144 + j) 5 = iN (l + 1) ∧ σ.2.1 (144 + j) 3 = M.2.1 177 j &&& gMask (M.1 172 (12 * q)) ∧ ((M.1 176 (6 * j + 2) = iN 0 ∧ σ.1 (144 + j) 4 = iN (ag q) ∧ sVer M V q (M.2.1 177 j) = 0) ∨ (M.1 176 (6 * j + 2) = iN 1 ∧ ∃ a, a < ag q ∧ σ.1 (144 + j) 4 = iN a)))
def LU (M : gS) : Prop := ∀ j j', j < 3 → j' < 3 → j ≠ j' → ∀ q, q < 4 → M.1 176 (6 * j) = iN q → M.1 176 (6 * j') = iN q → M.1 176 (6 * j + 2) = iN 0 → M.1 176 (6 * j' + 2) = iN 0 → gKey M q (M.2.1 177 j) ≠ gKey M q (M.2.1 177 j')
def EN (M : gS) (T V : Nat) : Prop := ∀ i, i < V → M.1 175 i = iN (vN M 175 i) ∧ EV (vN M 175 i) ∧ ∃ q t, q < T ∧ M.2.1 174 i = gKey M q t
def TI (σ M : gS) (T V U B : Nat) (ag : Nat → Nat) : Prop := T ≤ 4 ∧ M.1 161 4 = iN V ∧ EN M T V ∧ (∀ q, q < T → CK σ M V B ag q) ∧ (∀ j, j < 3 → MC σ M T V ag j) ∧ LU M ∧ RCv σ M T V U ag ∧ ∀ j, 3 ≤ j → j < 6 → σ.1 (144 + j) 0 = iN 0 ∧ σ.1 (144 + j) 2 = iM
theorem EN.ev {M : gS} {T V : Nat} (h : EN M T V) (key : Int64) : EV (ev M V key) := by
  cases e : sEnt M key V with
  | none => rw [ev_none e]; exact ⟨0, 0, 0, rfl, by omega, by omega, by omega, fun _ => ⟨rfl, by omega⟩⟩
  | some i => rw [ev_some e]; exact (h i (sEnt_lt e).1).2.1
theorem gMask_tl {M : gS} {V q f fk : Nat} {fb : Bool} {key : Int64} (q' : Nat) (h : q' < 4) (hq : q < 4) : (tlM M V q f fk fb key).1 172 (12 * q') = M.1 172 (12 * q') := by
  unfold tlM
  rw [tlW_172 _ _ _ _ _ _ _ (by omega) (by omega), tlB_I _ _ _ _ _ (by omega) (by omega)]
theorem tlM_172 {M : gS} {V q f fk : Nat} {fb : Bool} {key : Int64} (x : Nat) (h1 : x ≠ 12 * q + 5) (h2 : x ≠ 12 * q + 6) : (tlM M V q f fk fb key).1 172 x = M.1 172 x := by
  unfold tlM
  rw [tlW_172 _ _ _ _ _ _ _ h1 h2, tlB_I _ _ _ _ _ (by omega) (by omega)]
theorem tlM_I {M : gS} {V q f fk : Nat} {fb : Bool} {key : Int64} (k x : Nat) (h1 : k ≠ 172) (h2 : k ≠ 175) (h3 : ¬ (k = 161 ∧ x = 4)) : (tlM M V q f fk fb key).1 k x = M.1 k x := by
  unfold tlM
  rw [tlW_I _ _ _ _ _ _ _ _ h1 h2, tlB_I _ _ _ _ _ h2 h3]
theorem tlM_J {M : gS} {V q f fk : Nat} {fb : Bool} {key : Int64} (k x : Nat) (h : k ≠ 174 ∨ x < V) : (tlM M V q f fk fb key).2.1 k x = M.2.1 k x := by
  unfold tlM
  rw [tlW_J, tlB_J _ _ _ _ _ h]
theorem tlM_4 {M : gS} {V q f fk : Nat} {fb : Bool} {key : Int64} (hV : M.1 161 4 = iN V) : (tlM M V q f fk fb key).1 161 4 = iN (tlU M V key) := by
  unfold tlM
  rw [tlW_I _ _ _ _ _ _ _ _ (by omega) (by omega), tlB_4 _ _ _ hV]
/-- entries stay entries -/
theorem EN.tl {M : gS} {T V q f fk : Nat} {fb : Bool} {t : Int64} (h : EN M T V) (hq : q < T) (hT : T ≤ 4) (hf : f ≤ 4) : EN (tlM M V q f fk fb (gKey M q t)) T (tlU M V (gKey M q t)) := by
  have hlt : tlN f fk fb < 400 := (EV.tl hf).lt
  have hgk : ∀ q', q' < T → ∀ t', gKey (tlM M V q f fk fb (gKey M q t)) q' t' = gKey M q' t' := fun q' hq' t' => gKey_same (gMask_tl q' (by omega) (by omega))
  intro i hi
  have hU := tlU_le (M := M) (V := V) (key := gKey M q t)
  have h175 : (tlM M V q f fk fb (gKey M q t)).1 175 i = if i = tlE M V (gKey M q t) then iN (tlN f fk fb) else (tlB M V (gKey M q t)).1 175 i := by unfold tlM; rw [tlW_175]
  by_cases c : i = tlE M V (gKey M q t)
  · rw [if_pos c] at h175
    refine ⟨?_, ?_, q, t, hq, ?_⟩
    · unfold vN; rw [h175, iN_cl (by omega)]
    · unfold vN; rw [h175, iN_cl (by omega)]; exact EV.tl hf
    · rw [hgk q hq]
      have := (tlE_lt (M := M) (V := V) (key := gKey M q t)).2
      rw [← c] at this
      unfold tlM
      rw [tlW_J]; exact this
  · rw [if_neg c] at h175
    have hiV : i < V := by
      cases e : sEnt M (gKey M q t) V with
      | none =>
        rw [tlU_none e] at hi
        rw [tlE_none e] at c
        omega
      | some i0 => rw [tlU_some e] at hi; exact hi
    rw [tlB_175 _ _ _ _ hiV] at h175
    obtain ⟨a1, a2, q', t', a3, a4⟩ := h i hiV
    refine ⟨?_, ?_, q', t', a3, ?_⟩
    · unfold vN at a1 ⊢; rw [h175]; exact a1
    · unfold vN at a2 ⊢; rw [h175]; exact a2
    · rw [hgk q' a3, tlM_J _ _ (Or.inr hiV)]; exact a4
/-- the runs that are told -/
theorem sumR_tl {M : gS} {T V q f fk : Nat} {fb : Bool} {t : Int64} (h : EN M T V) (hq : q < T) (hT : T ≤ 4) (hf : f ≤ 4) (hev : ev M V (gKey M q t) = 68 * f) (q' : Nat) (hq' : q' < 8) : sumR (tlM M V q f fk fb (gKey M q t)) q' (tlU M V (gKey M q t)) = sumR M q' V + (if q' = q then 1 else 0) := by
  have hlt : tlN f fk fb < 400 := (EV.tl hf).lt
  have hrn : rnO (tlN f fk fb) = f + 1 := EV.tl_run hf
  have hjq : (jN q = jN q') = (q' = q) := propext ⟨fun e => by
    have := congrArg Int64.toInt e
    rw [jN_toInt (by omega), jN_toInt (by omega)] at this; omega, fun e => by rw [e]⟩
  have hv0 : vN (tlM M V q f fk fb (gKey M q t)) 175 (tlE M V (gKey M q t)) = tlN f fk fb := by
    unfold vN tlM
    rw [tlW_175, if_pos rfl, iN_cl (by omega)]
  cases e : sEnt M (gKey M q t) V with
  | none =>
    rw [ev_none e] at hev
    have hf0 : f = 0 := by omega
    rw [tlE_none e] at hv0
    rw [tlU_none e]
    have e1 : sumR (tlM M V q f fk fb (gKey M q t)) q' V = sumR M q' V := sumR_congr V (fun i hi => ⟨tlM_J _ _ (Or.inr hi), by
      unfold tlM
      rw [tlW_175, if_neg (by rw [tlE_none e]; omega), tlB_175 _ _ _ _ hi]⟩)
    have e2 : kOf (tlM M V q f fk fb (gKey M q t)) V = jN q := by
      unfold kOf tlM
      rw [tlW_J]
      have := (tlE_lt (M := M) (V := V) (key := gKey M q t)).2
      rw [tlE_none e] at this
      rw [this]; exact kOf_gKey (by omega)
    rw [sumR_s, e1, e2, hv0, hrn, hf0]
    simp only [hjq]
  | some i0 =>
    rw [ev_some e] at hev
    have hi0 := sEnt_lt e
    rw [tlE_some e] at hv0
    rw [tlU_some e]
    have e3 : kOf M i0 = jN q := by
      unfold kOf
      rw [hi0.2]; exact kOf_gKey (by omega)
    have := sumR_one (M := M) (M' := tlM M V q f fk fb (gKey M q t)) (q := q') (d := 1) V hi0.1 (fun i hi => tlM_J _ _ (Or.inr hi)) (fun i hi hn => by
      unfold tlM
      rw [tlW_175, if_neg (by rw [tlE_some e]; exact hn), tlB_175 _ _ _ _ hi]) (by
      rw [hv0, hev, hrn]; unfold rnO; omega)
    rw [this, e3]
    simp only [hjq]
