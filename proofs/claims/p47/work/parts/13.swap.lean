theorem gcl_ne {k ci : Nat} (h : gcl k = ci) (hc : ci = 8 ∨ ci = 3) : k + 1 < 179 ∧ k + 1 ≠ 107 ∧ k + 1 ≠ 108 := by
  rcases Nat.lt_or_ge k 184 with q | q
  · subst h; exact (show ∀ k : Nat, k < 184 → (gcl k = 8 ∨ gcl k = 3) → k + 1 < 179 ∧ k + 1 ≠ 107 ∧ k + 1 ≠ 108 by decide +kernel) k q hc
  · rw [gcl_big q] at h; omega
theorem gft0_ad {ad ad' : Nat → Nat} {k : Nat} {f : Nat → Int32} {g : Nat → Int64} (hk : gcl k = 0) (h : ∀ j, j < 179 → j ≠ 107 → j ≠ 108 → ad' j = ad j) : gfs0 ad' k f g = gfs0 ad k f g := by
  unfold gfs0
  rw [h 119 (by decide) (by decide) (by decide), h 121 (by decide) (by decide) (by decide), h 123 (by decide) (by decide) (by decide)]
theorem gft1_ad {ad ad' : Nat → Nat} {k : Nat} {f : Nat → Int32} {g : Nat → Int64} (hk : gcl k = 1) (h : ∀ j, j < 179 → j ≠ 107 → j ≠ 108 → ad' j = ad j) : gfs1 ad' k f g = gfs1 ad k f g := by
  unfold gfs1
  rfl
theorem gft2_ad {ad ad' : Nat → Nat} {k : Nat} {f : Nat → Int32} {g : Nat → Int64} (hk : gcl k = 2) (h : ∀ j, j < 179 → j ≠ 107 → j ≠ 108 → ad' j = ad j) : gfs2 ad' k f g = gfs2 ad k f g := by
  unfold gfs2
  rw [h 2 (by decide) (by decide) (by decide), h 3 (by decide) (by decide) (by decide), h 4 (by decide) (by decide) (by decide)]
theorem gft3_ad {ad ad' : Nat → Nat} {k : Nat} {f : Nat → Int32} {g : Nat → Int64} (hk : gcl k = 3) (h : ∀ j, j < 179 → j ≠ 107 → j ≠ 108 → ad' j = ad j) : gfs3 ad' k f g = gfs3 ad k f g := by
  unfold gfs3
  rw [h _ (gcl_ne hk (by decide)).1 (gcl_ne hk (by decide)).2.1 (gcl_ne hk (by decide)).2.2]
theorem gft4_ad {ad ad' : Nat → Nat} {k : Nat} {f : Nat → Int32} {g : Nat → Int64} (hk : gcl k = 4) (h : ∀ j, j < 179 → j ≠ 107 → j ≠ 108 → ad' j = ad j) : gfs4 ad' k f g = gfs4 ad k f g := by
  unfold gfs4
  rw [h 110 (by decide) (by decide) (by decide), h 112 (by decide) (by decide) (by decide), h 114 (by decide) (by decide) (by decide), h 116 (by decide) (by decide) (by decide)]
theorem gft5_ad {ad ad' : Nat → Nat} {k : Nat} {f : Nat → Int32} {g : Nat → Int64} (hk : gcl k = 5) (h : ∀ j, j < 179 → j ≠ 107 → j ≠ 108 → ad' j = ad j) : gfs5 ad' k f g = gfs5 ad k f g := by
  unfold gfs5
  rw [h 135 (by decide) (by decide) (by decide), h 137 (by decide) (by decide) (by decide), h 139 (by decide) (by decide) (by decide), h 141 (by decide) (by decide) (by decide)]
theorem gft6_ad {ad ad' : Nat → Nat} {k : Nat} {f : Nat → Int32} {g : Nat → Int64} (hk : gcl k = 6) (h : ∀ j, j < 179 → j ≠ 107 → j ≠ 108 → ad' j = ad j) : gfs6 ad' k f g = gfs6 ad k f g := by
  unfold gfs6
  rfl
theorem gft7_ad {ad ad' : Nat → Nat} {k : Nat} {f : Nat → Int32} {g : Nat → Int64} (hk : gcl k = 7) (h : ∀ j, j < 179 → j ≠ 107 → j ≠ 108 → ad' j = ad j) : gfs7 ad' k f g = gfs7 ad k f g := by
  unfold gfs7
  rw [h 66 (by decide) (by decide) (by decide), h 67 (by decide) (by decide) (by decide), h 70 (by decide) (by decide) (by decide), h 72 (by decide) (by decide) (by decide), h 74 (by decide) (by decide) (by decide)]
theorem gft8_ad {ad ad' : Nat → Nat} {k : Nat} {f : Nat → Int32} {g : Nat → Int64} (hk : gcl k = 8) (h : ∀ j, j < 179 → j ≠ 107 → j ≠ 108 → ad' j = ad j) : gfs8 ad' k f g = gfs8 ad k f g := by
  unfold gfs8
  rw [h _ (gcl_ne hk (by decide)).1 (gcl_ne hk (by decide)).2.1 (gcl_ne hk (by decide)).2.2]
theorem gft10_ad {ad ad' : Nat → Nat} {k : Nat} {f : Nat → Int32} {g : Nat → Int64} (hk : gcl k = 10) (h : ∀ j, j < 179 → j ≠ 107 → j ≠ 108 → ad' j = ad j) : gfs10 ad' k f g = gfs10 ad k f g := by
  unfold gfs10
  rw [h 126 (by decide) (by decide) (by decide), h 128 (by decide) (by decide) (by decide), h 130 (by decide) (by decide) (by decide), h 132 (by decide) (by decide) (by decide)]
theorem gft11_ad {ad ad' : Nat → Nat} {k : Nat} {f : Nat → Int32} {g : Nat → Int64} (hk : gcl k = 11) (h : ∀ j, j < 179 → j ≠ 107 → j ≠ 108 → ad' j = ad j) : gfs11 ad' k f g = gfs11 ad k f g := by
  unfold gfs11
  rw [h 1 (by decide) (by decide) (by decide), h 65 (by decide) (by decide) (by decide), h 106 (by decide) (by decide) (by decide), h 109 (by decide) (by decide) (by decide), h 118 (by decide) (by decide) (by decide), h 125 (by decide) (by decide) (by decide), h 134 (by decide) (by decide) (by decide), h 143 (by decide) (by decide) (by decide), h 150 (by decide) (by decide) (by decide), h 151 (by decide) (by decide) (by decide), h 153 (by decide) (by decide) (by decide), h 155 (by decide) (by decide) (by decide), h 157 (by decide) (by decide) (by decide), h 159 (by decide) (by decide) (by decide)]
theorem gct_ad {y : Nat → ClassId} {ad ad' : Nat → Nat} {k : Nat} {f : Nat → Int32} {g : Nat → Int64} {len len' : Nat} (hv : gcl k ≠ 9) (h : ∀ j, j < 179 → j ≠ 107 → j ≠ 108 → ad' j = ad j) (hl : gle len' k = gle len k) : gce y ad' k f g len' = gce y ad k f g len := by
  unfold gce
  split
  · rw [hl]
  · rw [hl]
  · have e9 : (fun j => if j < 60 then some (ad' (5 + j)) else none) = (fun j => if j < 60 then some (ad (5 + j)) else none) := by
      funext j; by_cases q : j < 60
      · rw [if_pos q, if_pos q, h _ (by omega) (by omega) (by omega)]
      · rw [if_neg q, if_neg q]
    rw [e9]
  · have e9 : (fun j => if j < 10 then some (ad' (76 + 3 * j)) else none) = (fun j => if j < 10 then some (ad (76 + 3 * j)) else none) := by
      funext j; by_cases q : j < 10
      · rw [if_pos q, if_pos q, h _ (by omega) (by omega) (by omega)]
      · rw [if_neg q, if_neg q]
    rw [e9]
  · have e9 : (fun j => if j < 6 then some (ad' (144 + j)) else none) = (fun j => if j < 6 then some (ad (144 + j)) else none) := by
      funext j; by_cases q : j < 6
      · rw [if_pos q, if_pos q, h _ (by omega) (by omega) (by omega)]
      · rw [if_neg q, if_neg q]
    rw [e9]
  · have e9 : gfs (gcl k) ad' k f g = gfs (gcl k) ad k f g := by
      generalize hc : gcl k = ci at hv ⊢
      unfold gfs
      split
      · exact gft0_ad hc h
      · exact gft1_ad hc h
      · exact gft2_ad hc h
      · exact gft3_ad hc h
      · exact gft4_ad hc h
      · exact gft5_ad hc h
      · exact gft6_ad hc h
      · exact gft7_ad hc h
      · exact gft8_ad hc h
      · exact absurd rfl hv
      · exact gft10_ad hc h
      · exact gft11_ad hc h
      · rfl
    rw [e9]
def gGrown (σ : gS) : gS := (fun k j => if k = 108 then σ.1 183 j else σ.1 k j, fun k j => if k = 107 then σ.2.1 182 j else σ.2.1 k j, 2 * σ.2.2)
def adG (ad : Nat → Nat) : Nat → Nat := fun k => if k = 107 then ad 182 else if k = 108 then ad 183 else ad k
def gMv (k : Nat) : Nat := if k = 107 then 182 else if k = 108 then 183 else k
theorem gcl_ver {k : Nat} (h : gcl k = 9) : k = 106 := by
  rcases Nat.lt_or_ge k 184 with q | q
  · exact (show ∀ k : Nat, k < 184 → gcl k = 9 → k = 106 by decide +kernel) k q h
  · rw [gcl_big q] at h; omega
/-- one place after the growing, as it lies in the world before -/
theorem gGrown_at {y : Nat → ClassId} {ad : Nat → Nat} {σ : gS} {k : Nat} (hk : k < 182) (hv : k ≠ 106) : gW1 y (adG ad) (gGrown σ) k = gW1 y ad σ (gMv k) := by
  unfold gW1
  by_cases h7 : k = 107
  · subst h7
    show (ad 182, gce y (adG ad) 107 (fun j => (gGrown σ).1 107 j) (σ.2.1 182) (2 * σ.2.2)) = (ad 182, gce y ad 182 (σ.1 182) (σ.2.1 182) σ.2.2)
    rw [gce_long gk_107, gce_long gk_182]
    rfl
  by_cases h8 : k = 108
  · subst h8
    show (ad 183, gce y (adG ad) 108 (σ.1 183) (fun j => (gGrown σ).2.1 108 j) (2 * σ.2.2)) = (ad 183, gce y ad 183 (σ.1 183) (σ.2.1 183) σ.2.2)
    rw [gce_int gk_108, gce_int gk_183]
    rfl
  have e1 : gMv k = k := by unfold gMv; rw [if_neg h7, if_neg h8]
  have e2 : adG ad k = ad k := by unfold adG; rw [if_neg h7, if_neg h8]
  have e3 : (gGrown σ).1 k = σ.1 k := by funext j; exact if_neg h8
  have e4 : (gGrown σ).2.1 k = σ.2.1 k := by funext j; exact if_neg h7
  rw [e1, e2, e3, e4]
  show (ad k, gce y (adG ad) k (σ.1 k) (σ.2.1 k) (2 * σ.2.2)) = _
  rw [gct_ad (ad := ad) (len := σ.2.2) (fun h => hv (gcl_ver h)) (fun j _ a b => by unfold adG; rw [if_neg a, if_neg b]) (by unfold gle; rw [if_neg (by omega), if_neg (by omega), if_neg (by omega), if_neg (by omega)])]
theorem gGrown_at6 {y : Nat → ClassId} {ad : Nat → Nat} {σ : gS} : gW1 y (adG ad) (gGrown σ) 106 = (ad 106, .inr (9, [.ref (ad 182), .ref (ad 183), .int (σ.1 106 2)])) := by
  unfold gW1
  rw [gce_obj gk_106 (by decide)]
  rfl
theorem gMv_inj {i j : Nat} (hi : i < 182) (hj : j < 182) (h : gMv i = gMv j) : i = j := by
  unfold gMv at h
  split at h <;> split at h <;> (try split at h) <;> (try split at h) <;> omega
theorem GW_grown {D : va_G} {A : Nat → Prop} {L : List Nat} {y : Nat → ClassId} {ad : Nat → Nat} {σ : gS} {H : Heap} {q : Nat} (hL2 : ∀ k ∈ L, k < 182) (hq : (GW (L ++ [182, 183]) y ad σ)[q]? = some (gW1 y ad σ 106)) (hD0 : va_D A (GW (L ++ [182, 183]) y ad σ)) (hP : va_P D vwCl ((GW (L ++ [182, 183]) y ad σ).set q (ad 106, .inr (9, [.ref (ad 182), .ref (ad 183), .int (σ.1 106 2)]))) H) : va_P D vwCl (GW L y (adG ad) (gGrown σ)) H ∧ va_D A (GW L y (adG ad) (gGrown σ)) := by
  have hlen : q < (GW (L ++ [182, 183]) y ad σ).length := by
    rcases Nat.lt_or_ge q (GW (L ++ [182, 183]) y ad σ).length with h | h
    · exact h
    · rw [List.getElem?_eq_none h] at hq; cases hq
  have hmem : ∀ k ∈ L, gMv k ∈ L ++ [182, 183] := fun k hk => by
    unfold gMv
    split
    · simp
    · split
      · simp
      · exact List.mem_append_left _ hk
  have hold : ∀ k ∈ L, ∃ i : Nat, (GW (L ++ [182, 183]) y ad σ)[i]? = some (gW1 y ad σ (gMv k)) := fun k hk => by
    obtain ⟨i, hi⟩ := List.getElem?_of_mem (hmem k hk)
    exact ⟨i, by unfold GW; rw [List.getElem?_map, hi]; rfl⟩
  have had : ∀ k, adG ad k = ad (gMv k) := fun k => by
    unfold adG gMv
    split
    · rfl
    · split <;> rfl
  refine ⟨fun i e he => ?_, fun i j a b ha hb hab => ?_, fun i e he => ?_⟩
  · unfold GW at he
    rw [List.getElem?_map] at he
    obtain ⟨k, hk, rfl⟩ := Option.map_eq_some_iff.mp he
    have hkL := List.mem_of_getElem? hk
    by_cases hv : k = 106
    · subst hv
      rw [gGrown_at6]
      exact hP q _ (by rw [List.getElem?_set_self hlen])
    · rw [gGrown_at (hL2 k hkL) hv]
      obtain ⟨i2, hi2⟩ := hold k hkL
      refine hP i2 _ ?_
      rw [List.getElem?_set_ne ?_]
      · exact hi2
      · intro h
        subst h
        rw [hq] at hi2
        have e1 := Option.some.inj hi2
        have e2 : (106 : Nat) ∈ L ++ [182, 183] ∨ True := Or.inr trivial
        have hcl : gcl (gMv k) ≠ 9 := by
          intro hc
          have h6 := gcl_ver hc
          unfold gMv at h6
          split at h6
          · omega
          · split at h6
            · omega
            · exact hv h6
        unfold gW1 at e1
        rw [gce_obj gk_106 (by decide)] at e1
        have e3 := congrArg Prod.snd e1
        unfold gce at e3
        split at e3 <;> first | (cases e3; done) | (exact hcl (by injection e3 with e4; exact (congrArg Prod.fst e4).symm))
  · unfold GW at ha hb
    rw [List.getElem?_map] at ha hb
    obtain ⟨k1, hk1, rfl⟩ := Option.map_eq_some_iff.mp ha
    obtain ⟨k2, hk2, rfl⟩ := Option.map_eq_some_iff.mp hb
    have h1 := List.mem_of_getElem? hk1
    have h2 := List.mem_of_getElem? hk2
    have hab2 : adG ad k1 = adG ad k2 := hab
    rw [had, had] at hab2
    obtain ⟨j1, hj1⟩ := List.getElem?_of_mem (hmem k1 h1)
    obtain ⟨j2, hj2⟩ := List.getElem?_of_mem (hmem k2 h2)
    have ej : j1 = j2 := hD0.1 j1 j2 (gW1 y ad σ (gMv k1)) (gW1 y ad σ (gMv k2)) (by unfold GW; rw [List.getElem?_map, hj1]; rfl) (by unfold GW; rw [List.getElem?_map, hj2]; rfl) hab2
    subst ej
    rw [hj1] at hj2
    have ek := gMv_inj (hL2 k1 h1) (hL2 k2 h2) (Option.some.inj hj2)
    subst ek
    have p1 : (GW (L ++ [182, 183]) y ad σ)[i]? = some (gW1 y ad σ k1) := by
      unfold GW; rw [List.getElem?_map, List.getElem?_append_left (List.getElem?_eq_some_iff.mp hk1).1, hk1]; rfl
    have p2 : (GW (L ++ [182, 183]) y ad σ)[j]? = some (gW1 y ad σ k1) := by
      unfold GW; rw [List.getElem?_map, List.getElem?_append_left (List.getElem?_eq_some_iff.mp hk2).1, hk2]; rfl
    exact hD0.1 i j _ _ p1 p2 rfl
  · unfold GW at he
    rw [List.getElem?_map] at he
    obtain ⟨k, hk, rfl⟩ := Option.map_eq_some_iff.mp he
    obtain ⟨i2, hi2⟩ := hold k (List.mem_of_getElem? hk)
    have := hD0.2 i2 _ hi2
    show A (adG ad k)
    rw [had]
    exact this
theorem adU_ne {ad a1 : Nat → Nat} {K q : Nat} (h : a1 = adU ad K q) : ∀ k, k ≠ K → a1 k = ad k := fun k hk => by rw [h]; exact if_neg hk
theorem G_drop {D : va_G} {y : Nat → ClassId} {A : Nat → Prop} {s : State} {L L1 : List Nat} {ad : Nat → Nat} {σ : gS} {H : Heap} {locs : List Loc} (hY : gY D y A s (L ++ L1) ad σ H locs) : gY D y A s L ad σ H locs := by
  obtain ⟨hP, hD, hS⟩ := hY
  have h1 : ∀ (i : Nat) (e : Nat × va_E), (GW L y ad σ)[i]? = some e → (GW (L ++ L1) y ad σ)[i]? = some e := fun i e he => by
    unfold GW at he ⊢
    rw [List.map_append, List.getElem?_append_left (List.getElem?_eq_some_iff.mp he).1]
    exact he
  exact ⟨fun i e he => hP i e (h1 i e he), ⟨fun i j a b ha hb hab => hD.1 i j a b (h1 i a ha) (h1 j b hb) hab, fun i e he => hD.2 i e (h1 i e he)⟩, hS⟩
theorem G_ad {D : va_G} {y : Nat → ClassId} {A : Nat → Prop} {s : State} {L : List Nat} {ad ad0 : Nat → Nat} {σ : gS} {H : Heap} {locs : List Loc} (hL2 : ∀ k ∈ L, k < 179) (ha : ∀ k, k < 179 → ad k = ad0 k) (hY : gY D y A s L ad σ H locs) : gY D y A s L ad0 σ H locs := by
  have e : GW L y ad σ = GW L y ad0 σ := GW_ext (fun j hj => ha j hj) (fun k hk => ha k (hL2 k hk)) (fun _ _ => rfl) (fun _ _ => rfl) rfl
  unfold gY at hY ⊢
  rw [← e]
  exact hY
