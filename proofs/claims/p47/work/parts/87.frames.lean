/-! what keeps these relations -/
theorem RCr.fr {σ σ' M M' : gS} {q r : Nat} (h : RCr σ M q r) (hA : σ'.1 (76 + 3 * q + 1) 1 = σ.1 (76 + 3 * q + 1) 1) (hD : σ'.2.1 (76 + 3 * q + 1 + 1) = σ.2.1 (76 + 3 * q + 1 + 1)) (hM : ∀ x, 12 * q ≤ x → x < 12 * q + 12 → x ≠ 12 * q + 5 → x ≠ 12 * q + 6 → M'.1 172 x = M.1 172 x) : RCr σ' M' q r := by
  obtain ⟨h1, h2, h3, h4⟩ := h
  refine ⟨by rw [hM _ (by omega) (by omega) (by omega) (by omega)]; exact h1, h2, hA.trans h3, fun i hi => ?_⟩
  have e : M'.1 172 (12 * q + 7 + i) = M.1 172 (12 * q + 7 + i) := hM _ (by omega) (by omega) (by omega) (by omega)
  have := h4 i hi
  unfold vN at this ⊢
  rw [e, hD]; exact this
theorem wtc.fr {M M' : gS} {q r : Nat} (h : wtc M q r) (hr : r ≤ 5) (hM : ∀ x, 12 * q ≤ x → x < 12 * q + 12 → x ≠ 12 * q + 5 → x ≠ 12 * q + 6 → M'.1 172 x = M.1 172 x) : wtc M' q r := fun i hi => by
  have e : M'.1 172 (12 * q + 7 + i) = M.1 172 (12 * q + 7 + i) := hM _ (by omega) (by omega) (by omega) (by omega)
  have e0 : M'.1 172 (12 * q) = M.1 172 (12 * q) := hM _ (by omega) (by omega) (by omega) (by omega)
  have := h i hi
  unfold vN at this ⊢
  rw [e, e0]; exact this
theorem CK.fr {σ σ' M M' : gS} {V V' B B' q : Nat} {ag : Nat → Nat} (h : CK σ M V B ag q) (hA : σ'.1 (76 + 3 * q) = σ.1 (76 + 3 * q)) (hB : σ'.1 (76 + 3 * q + 1) 1 = σ.1 (76 + 3 * q + 1) 1) (hC : σ'.2.1 (76 + 3 * q) = σ.2.1 (76 + 3 * q)) (hD : σ'.2.1 (76 + 3 * q + 1 + 1) = σ.2.1 (76 + 3 * q + 1 + 1)) (hM : ∀ x, 12 * q ≤ x → x < 12 * q + 12 → M'.1 172 x = M.1 172 x) (hs : sumR M' q V' = sumR M q V) (hb : B ≤ B') : CK σ' M' V' B' ag q := by
  obtain ⟨⟨k1, k2, k3, k4⟩, ⟨r, b, fk, hr, b1, b2, b3, b4, b5, b6, b7⟩, c2, c4, c5, c8, tm, c9, c10⟩ := h
  have m : ∀ x, x < 12 → M'.1 172 (12 * q + x) = M.1 172 (12 * q + x) := fun x hx => hM _ (by omega) (by omega)
  have m0 : M'.1 172 (12 * q) = M.1 172 (12 * q) := m 0 (by omega)
  refine ⟨⟨by rw [hA]; exact k1, by rw [hA]; exact k2, k3, by rw [hC, m0]; exact k4⟩, ⟨r, b, fk, hr.fr hB hD (fun x h1 h2 _ _ => hM x h1 h2), by rw [m 3 (by omega)]; exact b1, by rw [hA]; exact b2, by rw [m 5 (by omega)]; exact b3, by omega, by rw [hA]; exact b5, by rw [m 6 (by omega)]; exact b6, b7.fr hr.2.1 (fun x h1 h2 _ _ => hM x h1 h2)⟩, by rw [hA, m0]; exact c2, by rw [hA, m 1 (by omega)]; exact c4, by rw [hA, m 2 (by omega)]; exact c5, by rw [hA, hs]; exact c8, tm, by rw [m 1 (by omega)]; exact c9, c10⟩
theorem CK.told {σ σ' M M' : gS} {V V' B q fk fk' : Nat} {ag : Nat → Nat} (h : CK σ M V B ag q) (hA : ∀ i, i ≠ 8 → i ≠ 9 → σ'.1 (76 + 3 * q) i = σ.1 (76 + 3 * q) i) (h8 : σ'.1 (76 + 3 * q) 8 = iN (sumR M' q V')) (h9 : σ'.1 (76 + 3 * q) 9 = iN fk') (hB : σ'.1 (76 + 3 * q + 1) 1 = σ.1 (76 + 3 * q + 1) 1) (hC : σ'.2.1 (76 + 3 * q) = σ.2.1 (76 + 3 * q)) (hD : σ'.2.1 (76 + 3 * q + 1 + 1) = σ.2.1 (76 + 3 * q + 1 + 1)) (hM : ∀ x, 12 * q ≤ x → x < 12 * q + 12 → x ≠ 12 * q + 5 → x ≠ 12 * q + 6 → M'.1 172 x = M.1 172 x) (h5 : M'.1 172 (12 * q + 5) = iN fk') (h6 : M'.1 172 (12 * q + 6) = iN (if fk' < 2 then 0 else 1)) (hk : fk' ≤ fk + 1) (hfk : fk ≤ B) : CK σ' M' V' (B + 1) ag q := by
  obtain ⟨⟨k1, k2, k3, k4⟩, ⟨r, b, fk0, hr, b1, b2, b3, b4, b5, b6, b7⟩, c2, c4, c5, c8, tm, c9, c10⟩ := h
  have m0 : M'.1 172 (12 * q) = M.1 172 (12 * q) := hM _ (by omega) (by omega) (by omega) (by omega)
  have m1 : M'.1 172 (12 * q + 1) = M.1 172 (12 * q + 1) := hM _ (by omega) (by omega) (by omega) (by omega)
  have m2 : M'.1 172 (12 * q + 2) = M.1 172 (12 * q + 2) := hM _ (by omega) (by omega) (by omega) (by omega)
  have m3 : M'.1 172 (12 * q + 3) = M.1 172 (12 * q + 3) := hM _ (by omega) (by omega) (by omega) (by omega)
  refine ⟨⟨by rw [hA 0 (by omega) (by omega)]; exact k1, by rw [hA 7 (by omega) (by omega)]; exact k2, k3, by rw [hC, m0]; exact k4⟩, ⟨r, b, fk', hr.fr hB hD hM, by rw [m3]; exact b1, by rw [hA 6 (by omega) (by omega)]; exact b2, h5, by omega, h9, h6, b7.fr hr.2.1 hM⟩, by rw [hA 2 (by omega) (by omega), m0]; exact c2, by rw [hA 4 (by omega) (by omega), m1]; exact c4, by rw [hA 5 (by omega) (by omega), m2]; exact c5, h8, tm, by rw [m1]; exact c9, c10⟩
theorem MC.fr {σ σ' M M' : gS} {T V V' j : Nat} {ag : Nat → Nat} (h : MC σ M T V ag j) (hA : σ'.1 (144 + j) = σ.1 (144 + j)) (hC : σ'.2.1 (144 + j) 3 = σ.2.1 (144 + j) 3) (hM : ∀ x, 6 * j ≤ x → x < 6 * j + 6 → M'.1 176 x = M.1 176 x) (hz : M'.2.1 177 j = M.2.1 177 j) (h172 : ∀ q, q < T → M'.1 172 (12 * q) = M.1 172 (12 * q)) (hv : ∀ q, q < T → M.1 176 (6 * j) = iN q → M.1 176 (6 * j + 2) = iN 0 → sVer M V q (M.2.1 177 j) = 0 → sVer M' V' q (M.2.1 177 j) = 0) : MC σ' M' T V' ag j := by
  obtain ⟨h0, h1, h2, h3⟩ := h
  have m : ∀ x, x < 6 → M'.1 176 (6 * j + x) = M.1 176 (6 * j + x) := fun x hx => hM _ (by omega) (by omega)
  have m0 : M'.1 176 (6 * j) = M.1 176 (6 * j) := m 0 (by omega)
  refine ⟨by rw [hA, m 4 (by omega)]; exact h0, by rw [m 4 (by omega)]; exact h1, by rw [hA, m0]; exact h2, ?_⟩
  rcases h3 with ⟨a1, a2⟩ | ⟨q, l, a1, a1b, a2, a3, a4, a5, a6, a7, a8⟩
  · exact Or.inl ⟨by rw [m0]; exact a1, by rw [hA, m 3 (by omega)]; exact a2⟩
  · refine Or.inr ⟨q, l, a1, by rw [m 4 (by omega)]; exact a1b, by rw [m0]; exact a2, by rw [m 3 (by omega)]; exact a3, by rw [m 1 (by omega)]; exact a4, a5, by rw [hA]; exact a6, by rw [hC, hz, h172 q a1]; exact a7, ?_⟩
    rcases a8 with ⟨d1, d2, d3⟩ | ⟨d1, a, d2, d3⟩
    · exact Or.inl ⟨by rw [m 2 (by omega)]; exact d1, by rw [hA]; exact d2, by rw [hz]; exact hv q a1 a2 d1 d3⟩
    · exact Or.inr ⟨by rw [m 2 (by omega)]; exact d1, a, d2, by rw [hA]; exact d3⟩
/-- but for the machines' row -/
def E176 (M M' : gS) : Prop := (∀ k, k ≠ 176 → M'.1 k = M.1 k) ∧ M'.2.1 = M.2.1
theorem E176.ent {M M' : gS} (h : E176 M M') (V : Nat) (key : Int64) : sEnt M' key V = sEnt M key V := sEnt_congr (by rw [h.2]) V
theorem E176.key {M M' : gS} (h : E176 M M') (q : Nat) (t : Int64) : gKey M' q t = gKey M q t := gKey_same (by rw [h.1 172 (by omega)])
theorem E176.ev {M M' : gS} (h : E176 M M') (V : Nat) (key : Int64) : ev M' V key = ev M V key := by
  cases e : sEnt M key V with
  | none => rw [ev_none ((h.ent V key).trans e), ev_none e]
  | some i => rw [ev_some ((h.ent V key).trans e), ev_some e]; unfold vN; rw [h.1 175 (by omega)]
theorem E176.ver {M M' : gS} (h : E176 M M') (V q : Nat) (t : Int64) : sVer M' V q t = sVer M V q t := by
  rw [sVer_ev, sVer_ev, h.key, h.ev]
theorem E176.sum {M M' : gS} (h : E176 M M') (q V : Nat) : sumR M' q V = sumR M q V := sumR_congr V (fun i _ => ⟨by rw [h.2], by rw [h.1 175 (by omega)]⟩)
theorem EN.e176 {M M' : gS} {T V : Nat} (hn : EN M T V) (h : E176 M M') : EN M' T V := fun i hi => by
  obtain ⟨a1, a2, q, t, a3, a4⟩ := hn i hi
  have e : M'.1 175 = M.1 175 := h.1 175 (by omega)
  refine ⟨?_, ?_, q, t, a3, ?_⟩
  · unfold vN at a1 ⊢; rw [e]; exact a1
  · unfold vN at a2 ⊢; rw [e]; exact a2
  · rw [h.2, h.key]; exact a4
theorem RCv.e176 {σ M M' : gS} {T V U : Nat} {ag : Nat → Nat} (hr : RCv σ M T V U ag) (h : E176 M M') : RCv σ M' T V U ag := by
  obtain ⟨len, f, t1, t2, t3⟩ := hr.tab
  refine RCv.of t1 t2 ⟨fun q hq t => ?_, t3.2⟩
  rw [h.1 172 (by omega), t3.1 q hq t, entC_ev, entC_ev, h.key, h.ev]
theorem RCv.places {σ σ' M : gS} {T V U : Nat} {ag : Nat → Nat} (hr : RCv σ M T V U ag) (h0 : σ'.2.2 = σ.2.2) (h1 : σ'.1 106 = σ.1 106) (h2 : σ'.2.1 107 = σ.2.1 107) (h3 : σ'.1 108 = σ.1 108) : RCv σ' M T V U ag := by
  obtain ⟨len, f, t1, t2, t3⟩ := hr.tab
  exact RCv.of (t1.sm h0 h1 h2 h3) t2 t3
theorem tlM_176 {M M' : gS} {V q f fk : Nat} {fb : Bool} {key : Int64} (h : E176 M M') : E176 (tlM M V q f fk fb key) (tlM M' V q f fk fb key) := by
  have eE : tlE M' V key = tlE M V key := by
    cases e : sEnt M key V with
    | none => rw [tlE_none e, tlE_none ((h.ent V key).trans e)]
    | some i => rw [tlE_some e, tlE_some ((h.ent V key).trans e)]
  have eB : ∀ k, k ≠ 176 → ∀ x, (tlB M' V key).1 k x = (tlB M V key).1 k x := fun k hk x => by
    cases e : sEnt M key V with
    | none => rw [tlB_none e, tlB_none ((h.ent V key).trans e), sI_1, sI_1, sI_1, sI_1, sJ_1, sJ_1, h.1 k hk]
    | some i => rw [tlB_some e, tlB_some ((h.ent V key).trans e), h.1 k hk]
  refine ⟨fun k hk => ?_, ?_⟩
  · funext x
    unfold tlM tlW
    rw [eE, sI_1, sI_1, sI_1, sI_1, sI_1, sI_1, eB k hk]
  · unfold tlM
    rw [tlW_J, tlW_J]
    cases e : sEnt M key V with
    | none =>
      rw [tlB_none e, tlB_none ((h.ent V key).trans e)]
      funext k x
      rw [sI_2, sI_2, sI_2, sI_2, sJ_2, sJ_2, h.2]
    | some i => rw [tlB_some e, tlB_some ((h.ent V key).trans e), h.2]
theorem tlU_176 {M M' : gS} {V : Nat} {key : Int64} (h : E176 M M') : tlU M' V key = tlU M V key := by
  cases e : sEnt M key V with
  | none => rw [tlU_none e, tlU_none ((h.ent V key).trans e)]
  | some i => rw [tlU_some e, tlU_some ((h.ent V key).trans e)]
theorem E176.sI {M : gS} {x : Nat} {v : Int32} : E176 M (sI M 176 x v) := ⟨fun k hk => by
  funext y; rw [sI_1, if_neg (by omega)], rfl⟩
theorem E176.trans {M M1 M2 : gS} (h1 : E176 M M1) (h2 : E176 M1 M2) : E176 M M2 := ⟨fun k hk => (h2.1 k hk).trans (h1.1 k hk), h2.2.trans h1.2⟩
