/-! a verdict changes on both sides -/
theorem gKey_same {M M' : gS} {q : Nat} {t : Int64} (h : M'.1 172 (12 * q) = M.1 172 (12 * q)) : gKey M' q t = gKey M q t := by
  unfold gKey
  rw [h]
theorem TabV.upd {M M' : gS} {T V V' q v : Nat} {ag : Nat → Nat} {f : Int64 → Int32} {t : Int64} (h : TabV M T V ag f) (hq : q < T) (hT : T ≤ 4) (hag : ∀ q, q < T → ag q < 1000) (hfl : ∀ q, q < T → M'.1 172 (12 * q) = M.1 172 (12 * q)) (hk : entC M' V' (gKey M q t) = v) (ho : ∀ key, key ≠ gKey M q t → entC M' V' key = entC M V key) : TabV M' T V' ag (fun k => if k = kC (ag q) q (t &&& gMask (M.1 172 (12 * q))) then iN v else f k) := by
  refine ⟨fun q2 hq2 t2 => ?_, fun q2 hq2 a ha w hw hf => ?_⟩
  · rw [gKey_same (hfl q2 hq2), hfl q2 hq2]
    dsimp only
    by_cases c : gKey M q2 t2 = gKey M q t
    · obtain ⟨e1, e2⟩ := (gKey_inj (show q2 < 8 by omega) (show q < 8 by omega)).mp c
      rw [c, hk]
      subst e1
      rw [e2, if_pos rfl]
    · rw [ho _ c, if_neg (fun e => c ?_)]
      · exact h.1 q2 hq2 t2
      · have h1 := hag q hq
        have h2 := hag q2 hq2
        obtain ⟨e1, e2, e3⟩ := kC_inj (show ag q2 < 4096 by omega) (show ag q < 4096 by omega) (show q2 < 8 by omega) (show q < 8 by omega) (low_mask _ _) (low_mask _ _) e
        exact (gKey_inj (show q2 < 8 by omega) (show q < 8 by omega)).mpr ⟨e2, e3⟩
  · dsimp only
    have h1 := hag q hq
    rw [if_neg (fun e => ?_)]
    · exact h.2 q2 hq2 a ha w hw hf
    · obtain ⟨e1, e2, e3⟩ := kC_inj ha (show ag q < 4096 by omega) hq2 (show q < 8 by omega) hw (low_mask _ _) e
      subst e2
      have := hf hq
      omega
theorem RCv.of {σ M : gS} {T V U len : Nat} {ag : Nat → Nat} {f : Int64 → Int32} (h : TabS σ len U f) (hU : 2 * U ≤ len) (hV : TabV M T V ag f) : RCv σ M T V U ag := by
  obtain ⟨l1, l2, l3, u1, u2, hT⟩ := h
  exact ⟨len, f, l1, l2, l3, u1, u2, hU, hT, hV⟩
theorem RCv.tab {σ M : gS} {T V U : Nat} {ag : Nat → Nat} (h : RCv σ M T V U ag) : ∃ len f, TabS σ len U f ∧ 2 * U ≤ len ∧ TabV M T V ag f := by
  obtain ⟨len, f, l1, l2, l3, u1, u2, hU, hT, hV⟩ := h
  exact ⟨len, f, ⟨l1, l2, l3, u1, u2, hT⟩, hU, hV⟩
