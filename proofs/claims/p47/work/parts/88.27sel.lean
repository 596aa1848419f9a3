/-! which candidates are listed, and which of them is first -/
theorem fr_key {M : gS} {V q : Nat} {t t2 : Int64} (h : gKey M q t = gKey M q t2) : frM M V q t = frM M V q t2 := by
  unfold frM
  rw [sVer_ev, sVer_ev, h]
  have e : onB M q t = onB M q t2 := by
    funext j
    unfold onB
    rw [h]
  rw [e]
def cdO (M : gS) (n T G V h sz dp k : Nat) : Option wEn := cdM M n T G V h sz dp (k / 4) (k - k / 4 * 4)
/-- as one before -/
def sameK (M : gS) (x : wEn) : Option wEn → Bool
  | none => false
  | some y => decide (y.1 = x.1) && decide (gKey M x.1 y.2.1 = gKey M x.1 x.2.1)
def dupK (M : gS) (cd : Nat → Option wEn) (k : Nat) : Bool := match cd k with
  | none => false
  | some x => sAny (fun k' => sameK M x (cd k')) k
theorem dupK_some {M : gS} {cd : Nat → Option wEn} {k : Nat} {x : wEn} (h : cd k = some x) : dupK M cd k = sAny (fun k' => sameK M x (cd k')) k := by
  unfold dupK; rw [h]
def selK (M : gS) (V : Nat) (cd : Nat → Option wEn) (k : Nat) : Bool := match cd k with
  | none => false
  | some x => frM M V x.1 x.2.1 && !dupK M cd k
theorem selK_some {M : gS} {V : Nat} {cd : Nat → Option wEn} {k : Nat} {x : wEn} (h : cd k = some x) : selK M V cd k = (frM M V x.1 x.2.1 && !dupK M cd k) := by
  unfold selK; rw [h]
theorem selK_none {M : gS} {V : Nat} {cd : Nat → Option wEn} {k : Nat} (h : cd k = none) : selK M V cd k = false := by
  unfold selK; rw [h]
def oLs (M : gS) (V : Nat) (cd : Nat → Option wEn) : Nat → List Nat
  | 0 => []
  | k + 1 => if selK M V cd k = true then oLs M V cd k ++ [k] else oLs M V cd k
theorem oLs_s (M : gS) (V : Nat) (cd : Nat → Option wEn) (k : Nat) : oLs M V cd (k + 1) = if selK M V cd k = true then oLs M V cd k ++ [k] else oLs M V cd k := rfl
theorem oLs_mem {M : gS} {V : Nat} {cd : Nat → Option wEn} : ∀ (K k : Nat), k ∈ oLs M V cd K ↔ k < K ∧ selK M V cd k = true
  | 0, k => ⟨fun h => (nomatch h), fun h => absurd h.1 (Nat.not_lt_zero k)⟩
  | K + 1, k => by
    have ih := oLs_mem (M := M) (V := V) (cd := cd) K k
    rw [oLs_s]
    by_cases c : selK M V cd K = true
    · rw [if_pos c, List.mem_append, ih]
      constructor
      · rintro (h | h)
        · exact ⟨by omega, h.2⟩
        · have e : k = K := by simpa using h
          rw [e]; exact ⟨by omega, c⟩
      · rintro ⟨h1, h2⟩
        by_cases e : k = K
        · exact Or.inr (by rw [e]; simp)
        · exact Or.inl ⟨by omega, h2⟩
    · rw [if_neg c, ih]
      constructor
      · rintro ⟨h1, h2⟩; exact ⟨by omega, h2⟩
      · rintro ⟨h1, h2⟩
        have e : k ≠ K := fun e => c (by rw [← e]; exact h2)
        exact ⟨by omega, h2⟩
def enM (M : gS) (x : wEn) : wEn := (x.1, x.2.1 &&& gMask (M.1 172 (12 * x.1)), x.2.2.1, x.2.2.2)
def eOf (M : gS) (cd : Nat → Option wEn) (k : Nat) : wEn := match cd k with
  | none => w0
  | some x => enM M x
theorem eOf_some {M : gS} {cd : Nat → Option wEn} {k : Nat} {x : wEn} (h : cd k = some x) : eOf M cd k = enM M x := by
  unfold eOf; rw [h]
def gE (M : gS) (V : Nat) (cd : Nat → Option wEn) : Nat → List wEn
  | 0 => []
  | k + 1 => match cd k with
    | none => gE M V cd k
    | some x => wE M V (gE M V cd k) x
theorem gE_s (M : gS) (V : Nat) (cd : Nat → Option wEn) (k : Nat) : gE M V cd (k + 1) = (match cd k with
    | none => gE M V cd k
    | some x => wE M V (gE M V cd k) x) := rfl
theorem mapW {f : Nat → wEn} : ∀ (l : List Nat) (i : Nat), i < l.length → (l.map f).getD i w0 = f (l.getD i 0)
  | [], i, h => absurd h (Nat.not_lt_zero i)
  | a :: l, i, h => by
    cases i with
    | zero => rfl
    | succ i => exact mapW l i (by simpa using h)
theorem sameK_iff {M : gS} {x : wEn} {o : Option wEn} : sameK M x o = true ↔ ∃ y, o = some y ∧ y.1 = x.1 ∧ gKey M x.1 y.2.1 = gKey M x.1 x.2.1 := by
  cases o with
  | none => exact ⟨fun h => (nomatch h), fun ⟨y, h, _⟩ => (nomatch h)⟩
  | some y =>
    show (decide (y.1 = x.1) && decide (gKey M x.1 y.2.1 = gKey M x.1 x.2.1)) = true ↔ _
    rw [Bool.and_eq_true]
    constructor
    · rintro ⟨h1, h2⟩; exact ⟨y, rfl, of_decide_eq_true h1, of_decide_eq_true h2⟩
    · rintro ⟨z, h1, h2, h3⟩
      have e : y = z := Option.some.inj h1
      subst e
      exact ⟨decide_eq_true h2, decide_eq_true h3⟩
/-- a free one that is as one before is as a listed one before -/
theorem dup_sel {M : gS} {V : Nat} {cd : Nat → Option wEn} {k : Nat} {x : wEn} (hx : cd k = some x) (hf : frM M V x.1 x.2.1 = true) (hd : dupK M cd k = true) : ∃ k' y, k' < k ∧ cd k' = some y ∧ y.1 = x.1 ∧ gKey M x.1 y.2.1 = gKey M x.1 x.2.1 ∧ selK M V cd k' = true := by
  rw [dupK_some hx] at hd
  obtain ⟨j, j1, j2⟩ := sAny_iff.mp hd
  obtain ⟨k', h1, h2, h3⟩ := least (p := fun j => sameK M x (cd j) = true) j j2
  obtain ⟨y, y1, y2, y3⟩ := sameK_iff.mp h2
  refine ⟨k', y, by omega, y1, y2, y3, ?_⟩
  have hfy : frM M V y.1 y.2.1 = true := by rw [y2, fr_key y3]; exact hf
  have hdy : dupK M cd k' = false := by
    rw [dupK_some y1]
    refine sAny_false.mpr (fun i hi => ?_)
    cases c : sameK M y (cd i) with
    | false => rfl
    | true =>
      obtain ⟨z, z1, z2, z3⟩ := sameK_iff.mp c
      refine absurd (sameK_iff.mpr ⟨z, z1, z2.trans y2, ?_⟩) (h3 i hi)
      rw [y2] at z3
      exact z3.trans y3
  rw [selK_some y1, hfy, hdy]; rfl
theorem gE_sel {M : gS} {V : Nat} {cd : Nat → Option wEn} (hq : ∀ k x, cd k = some x → x.1 < 8) : ∀ k, gE M V cd k = (oLs M V cd k).map (eOf M cd)
  | 0 => rfl
  | k + 1 => by
    have ih := gE_sel (M := M) (V := V) hq k
    rw [gE_s, oLs_s]
    cases hx : cd k with
    | none => rw [selK_none hx, if_neg (by decide)]; exact ih
    | some x =>
      have hx8 := hq k x hx
      dsimp only
      unfold wE
      cases hf : frM M V x.1 x.2.1 with
      | false => rw [selK_some hx, hf, Bool.false_and, if_neg (by decide), if_neg (by decide)]; exact ih
      | true =>
        rw [selK_some hx, hf, Bool.true_and, if_pos rfl]
        have hiff : hasE (gE M V cd k) x.1 (x.2.1 &&& gMask (M.1 172 (12 * x.1))) = dupK M cd k := by
          rw [Bool.eq_iff_iff]
          unfold hasE
          rw [sAny_iff, ih]
          constructor
          · rintro ⟨i, i1, i2⟩
            rw [List.length_map] at i1
            rw [mapW _ i i1, Bool.and_eq_true] at i2
            obtain ⟨m1, m2⟩ := (oLs_mem k _).mp (gD_mem i1)
            cases hy : cd ((oLs M V cd k).getD i 0) with
            | none => rw [selK_none hy] at m2; exact absurd m2 (by decide)
            | some y =>
              rw [eOf_some hy] at i2
              have e1 : y.1 = x.1 := of_decide_eq_true i2.1
              have e2 : y.2.1 &&& gMask (M.1 172 (12 * y.1)) = x.2.1 &&& gMask (M.1 172 (12 * x.1)) := of_decide_eq_true i2.2
              rw [e1] at e2
              rw [dupK_some hx]
              exact sAny_iff.mpr ⟨_, m1, sameK_iff.mpr ⟨y, hy, e1, (mask_key hx8).mp e2⟩⟩
          · intro hd
            obtain ⟨k', y, h1, h2, h3, h4, h5⟩ := dup_sel hx hf hd
            obtain ⟨i, i1, i2⟩ := List.getElem_of_mem ((oLs_mem k k').mpr ⟨h1, h5⟩)
            have egd : (oLs M V cd k).getD i 0 = k' := by
              rw [List.getD_eq_getElem?_getD, List.getElem?_eq_getElem i1, i2]; rfl
            refine ⟨i, by rw [List.length_map]; exact i1, ?_⟩
            rw [mapW _ i i1, egd, eOf_some h2, Bool.and_eq_true]
            refine ⟨decide_eq_true h3, decide_eq_true ?_⟩
            show y.2.1 &&& gMask (M.1 172 (12 * y.1)) = x.2.1 &&& gMask (M.1 172 (12 * x.1))
            rw [h3]
            exact (mask_key hx8).mpr h4
        unfold addE
        dsimp only
        rw [hiff]
        cases hd : dupK M cd k with
        | true => rw [if_pos rfl, if_neg (by decide)]; exact ih
        | false =>
          rw [if_neg (by decide), if_pos (by decide), List.map_append, ih]
          show _ = (oLs M V cd k).map (eOf M cd) ++ [eOf M cd k]
          rw [eOf_some hx]; rfl
theorem eO_gE (M : gS) (n T G V h sz dp : Nat) : ∀ k, eO M n T G V h sz dp k = gE M V (cdO M n T G V h sz dp) k
  | 0 => rfl
  | k + 1 => by
    rw [eO_s, gE_s, eO_gE M n T G V h sz dp k]; rfl
/-- the first of a list of places -/
theorem lo_ls {M : gS} {V : Nat} {cd : Nat → Option wEn} {r : Nat → Bool} : ∀ K, (match lo (fun i => r ((oLs M V cd K).getD i 0)) (oLs M V cd K).length with
    | some i => some ((oLs M V cd K).getD i 0)
    | none => none) = lo (fun k => selK M V cd k && r k) K
  | 0 => rfl
  | K + 1 => by
    have ih := lo_ls (M := M) (V := V) (cd := cd) (r := r) K
    rw [lo_s, ← ih, oLs_s]
    by_cases c : selK M V cd K = true
    · rw [if_pos c, c, Bool.true_and, List.length_append]
      show (match lo (fun i => r ((oLs M V cd K ++ [K]).getD i 0)) ((oLs M V cd K).length + 1) with
        | some i => some ((oLs M V cd K ++ [K]).getD i 0)
        | none => none) = _
      have e1 : lo (fun i => r ((oLs M V cd K ++ [K]).getD i 0)) (oLs M V cd K).length = lo (fun i => r ((oLs M V cd K).getD i 0)) (oLs M V cd K).length := lo_congr _ (fun i hi => by rw [gD_app1 hi])
      have e2 : (oLs M V cd K ++ [K]).getD (oLs M V cd K).length 0 = K := by
        have := gD_app2 (l := oLs M V cd K) (r := [K]) (j := 0)
        rw [Nat.add_zero] at this; rw [this]; rfl
      rw [lo_s, e1, e2]
      cases h : lo (fun i => r ((oLs M V cd K).getD i 0)) (oLs M V cd K).length with
      | some i =>
        dsimp only
        rw [gD_app1 ((lo_some _).mp h).1]
      | none =>
        dsimp only
        by_cases d : r K = true
        · rw [if_pos d, if_pos d]
          dsimp only
          rw [e2]
        · rw [if_neg d, if_neg d]
    · have c0 : selK M V cd K = false := by simpa using c
      rw [if_neg c, c0, Bool.false_and]
      cases lo (fun i => r ((oLs M V cd K).getD i 0)) (oLs M V cd K).length <;> rfl
