/-! a turn of deciding on both sides -/
def FrD (n : Nat) (σ σ' : gS) : Prop := (∀ k i, ¬ (5 ≤ k ∧ k < 65 ∧ (((i = 3 ∨ i = 4) ∧ k < 5 + n) ∨ i = 13)) → ¬ (109 ≤ k ∧ k < 125) → ¬ (k = 0 ∧ (i = 15 ∨ i = 18)) → ¬ (k = 151 ∧ i = 1) → σ'.1 k i = σ.1 k i) ∧ (∀ i, i ≠ 3 → σ'.1 109 i = σ.1 109 i) ∧ (∀ k, ¬ (109 ≤ k ∧ k < 125) → k ≠ 152 → k ≠ 160 → σ'.2.1 k = σ.2.1 k) ∧ σ'.2.2 = σ.2.2
theorem FrD.trans {n : Nat} {a b c : gS} (h1 : FrD n a b) (h2 : FrD n b c) : FrD n a c := ⟨fun k i e1 e2 e3 e4 => (h2.1 k i e1 e2 e3 e4).trans (h1.1 k i e1 e2 e3 e4), fun i e => (h2.2.1 i e).trans (h1.2.1 i e), fun k e1 e2 e3 => (h2.2.2.1 k e1 e2 e3).trans (h1.2.2.1 k e1 e2 e3), h2.2.2.2.trans h1.2.2.2⟩
theorem FrD.refl (n : Nat) (a : gS) : FrD n a a := ⟨fun _ _ _ _ _ _ => rfl, fun _ _ => rfl, fun _ _ _ _ => rfl, rfl⟩
theorem FrD.smF {n : Nat} {a b : gS} (h : SmF a b) : FrD n a b := ⟨fun k i e1 e2 _ _ => h.2.1 k i (by omega) (by omega), h.2.2.2, fun k e1 _ _ => h.2.2.1 k (by omega), h.1⟩
theorem FrD.sm {n : Nat} {a b : gS} (h : Sm a b 118 125) : FrD n a b := ⟨fun k i _ e2 _ _ => by rw [(h.1 k (by omega)).1], fun i _ => by rw [(h.1 109 (by omega)).1], fun k e1 _ _ => (h.1 k (by omega)).2, h.2⟩
def FrN (n : Nat) (M M' : gS) : Prop := (∀ k i, ¬ (k = 164 ∧ i < n) → ¬ (k = 167 ∧ i < n) → ¬ (k = 161 ∧ i = 1) → ¬ (k = 178 ∧ 6 ≤ i) → M'.1 k i = M.1 k i) ∧ (∀ k, k ≠ 171 → M'.2.1 k = M.2.1 k) ∧ ∀ c, M'.1 164 c = iN 0 → M.1 164 c = iN 0
theorem FrN.trans {n : Nat} {a b c : gS} (h1 : FrN n a b) (h2 : FrN n b c) : FrN n a c := ⟨fun k i e1 e2 e3 e4 => (h2.1 k i e1 e2 e3 e4).trans (h1.1 k i e1 e2 e3 e4), fun k e => (h2.2.1 k e).trans (h1.2.1 k e), fun c e => h1.2.2 c (h2.2.2 c e)⟩
theorem FrN.refl (n : Nat) (a : gS) : FrN n a a := ⟨fun _ _ _ _ _ _ => rfl, fun _ _ => rfl, fun _ e => e⟩
/-! contents are digits -/
def d9 (t : Int64) : Prop := ∀ f, f < 12 → ∃ v, v ≤ 9 ∧ gAt t f = iN v
def DG (M : gS) (n h : Nat) : Prop := (∀ j, j < h → d9 (M.2.1 171 j)) ∧ ∀ c, c < n → d9 (M.2.1 169 c) ∧ d9 (M.2.1 170 c) ∧ M.2.1 170 c &&& gMask (M.1 168 c) = M.2.1 170 c
theorem tj_xor1 (x : Int64) {j : Nat} (hj : j < 64) : tj (x ^^^ (-1)) j = !tj x j := by
  unfold tj
  rw [Int64.toBitVec_xor, BitVec.getLsbD_xor]
  have : (-1 : Int64).toBitVec.getLsbD j = true := (show ∀ j : Nat, j < 64 → (-1 : Int64).toBitVec.getLsbD j = true by decide +kernel) j hj
  rw [this]; simp
theorem gAt_onto {m : Int32} {e t : Int64} {f : Nat} (hf : f < 12) (he : e &&& gMask m = e) : gAt (gOnto m e t) f = if tb m f = true then gAt e f else gAt t f := by
  have key : ∀ j, j < 4 → tj (gOnto m e t) (4 * f + j) = if tb m f = true then tj e (4 * f + j) else tj t (4 * f + j) := fun j hj => by
    have g := tj_gBits m hf hj 12 (Nat.le_refl _)
    have g1 : tj (gMask m) (4 * f + j) = tb m f := by
      rw [show tj (gMask m) (4 * f + j) = (decide (f < 12) && tb m f) from g, decide_eq_true hf, Bool.true_and]
    have g2 : tj e (4 * f + j) = (tj e (4 * f + j) && tb m f) := by
      conv => { lhs; rw [← he] }
      rw [tj_and, g1]
    unfold gOnto
    rw [tj_or, tj_and, tj_xor1 _ (by omega), g1]
    cases c : tb m f with
    | true => simp
    | false => rw [c, Bool.and_false] at g2; rw [g2]; simp
  have tail : ∀ x y : Int64, (∀ j, j < 4 → tj x (4 * f + j) = tj y (4 * f + j)) → gAt x f = gAt y f := fun x y h => by
    unfold gAt
    apply congrArg Int64.toInt32
    apply tj_ext
    intro j hj
    rw [tj_and, tj_and, tj_15]
    by_cases c : j < 4
    · rw [tj_shr _ _ (sm4 hf) (by omega) hj, tj_shr _ _ (sm4 hf) (by omega) hj, if_pos (by omega), if_pos (by omega), h j c]
    · rw [decide_eq_false c]; simp
  by_cases c : tb m f = true
  · rw [if_pos c]
    exact tail _ _ (fun j hj => by rw [key j hj, if_pos c])
  · rw [if_neg c]
    exact tail _ _ (fun j hj => by rw [key j hj, if_neg c])
theorem d9_onto {m : Int32} {e t : Int64} (ht : d9 t) (h : d9 e) (he : e &&& gMask m = e) : d9 (gOnto m e t) := fun f hf => by
  rw [gAt_onto hf he]
  by_cases c : tb m f = true
  · rw [if_pos c]; exact h f hf
  · rw [if_neg c]; exact ht f hf
theorem d9_treeL {M : gS} {n h : Nat} (hg : DG M n h) : ∀ (l : List Nat) (t : Int64), (∀ c ∈ l, c < n) → d9 t → d9 (treeL M t l)
  | [], t, _, ht => ht
  | c :: r, t, hl, ht => by
    have hc := hg.2 c (hl c List.mem_cons_self)
    exact d9_treeL hg r (ontoM M t c) (fun d hd => hl d (List.mem_cons_of_mem _ hd)) (d9_onto ht hc.2.1 hc.2.2)
theorem DG.same {M M' : gS} {n h : Nat} (hg : DG M n h) (h1 : M'.2.1 = M.2.1) (h8 : M'.1 168 = M.1 168) : DG M' n h := by
  unfold DG at hg ⊢
  rw [h1, h8]; exact hg
theorem DG.land {M : gS} {n h : Nat} {F : List Nat} (hg : DG M n h) (h1 : 1 ≤ h) (hF : ∀ c ∈ F, c < n) : DG (landM M F h (treeL M (trT M h) F)) n (h + 1) := by
  refine ⟨fun j hj => ?_, fun c hc => ?_⟩
  · by_cases e : j = h
    · rw [e, landM_h]
      exact d9_treeL hg F _ hF (hg.1 (h - 1) (by omega))
    · rw [landM_J _ _ _ _ _ _ (by omega)]; exact hg.1 j (by omega)
  · rw [landM_J _ _ _ _ _ _ (by omega), landM_J _ _ _ _ _ _ (by omega), landM_far _ _ _ _ _ _ (by omega) (by omega) (by omega)]; exact hg.2 c hc
theorem vbG_iff {set : Int32} {ver : Nat → Nat} {T : Nat} : vbG set ver T = 1 ↔ sAny (fun q => tb set q && ver q == 1) T = true := by
  unfold vbG
  by_cases c : sAny (fun q => tb set q && ver q == 1) T = true
  · rw [if_pos c]; exact ⟨fun _ => c, fun _ => rfl⟩
  · rw [if_neg c]
    refine ⟨fun h => ?_, fun h => absurd h c⟩
    by_cases c2 : sAny (fun q => tb set q && ver q == 0) T = true
    · rw [if_pos c2] at h; exact absurd h (by decide)
    · rw [if_neg c2] at h; exact absurd h (by decide)
theorem FrD.leave {σ σ1 M : gS} {c st n : Nat} (hn : n ≤ 20) (hI : σ1.1 = σ.1) (hJ : ∀ k, k ≠ 160 → σ1.2.1 k = σ.2.1 k) (hl : σ1.2.2 = σ.2.2) : FrD n σ (toS σ1 M c st n) := by
  refine ⟨fun k i e1 e2 e3 e4 => ?_, fun i e => ?_, fun k _ _ e3 => hJ k e3, hl⟩
  · unfold toS
    rw [sI_1, if_neg (by omega), sI_1, if_neg (by omega), chS_out _ _ _ (by omega), hI]
  · unfold toS
    rw [sI_1, if_neg (by omega), sI_1, if_neg (by omega), chS_out _ _ _ (by omega), hI]
theorem FrD.ld {σ : gS} {F : List Nat} {h L n : Nat} {tr : Int64} (hF : ∀ c ∈ F, c < n) (hn : n ≤ 20) : FrD n σ (ldS σ F h L tr) := by
  have key : ∀ k i, ¬ (5 ≤ k ∧ k < 65 ∧ (((i = 3 ∨ i = 4) ∧ k < 5 + n) ∨ i = 13)) → ¬ (k = 109 ∧ i = 3) → ¬ (k = 0 ∧ (i = 15 ∨ i = 18)) → ¬ (k = 151 ∧ i = 1) → (ldS σ F h L tr).1 k i = σ.1 k i := fun k i e1 e2 e3 e4 => by
    unfold ldS
    rw [sI_1, if_neg (by omega), sI_1, if_neg e2]
    have e6 : (gAdd (sI (clS σ F h) 0 15 (iN (L + F.length))) 151 h tr).1 k i = (sI (clS σ F h) 0 15 (iN (L + F.length))).1 k i := by
      show gU _ 151 1 _ k i = _
      unfold gU
      rw [if_neg e4]; rfl
    rw [e6, sI_1, if_neg (by omega)]
    refine clS_out _ _ _ _ _ ?_
    by_cases x : i = 3 ∨ i = 4
    · refine Or.inr ?_
      by_cases y : k < 5
      · exact Or.inl y
      · exact Or.inr (fun c hc => by have := hF c hc; omega)
    · exact Or.inl (by omega)
  refine ⟨fun k i e1 e2 e3 e4 => key k i e1 (by omega) e3 e4, fun i e => key 109 i (by omega) (by omega) (by omega) (by omega), fun k _ e2 _ => funext (fun j => ?_), rfl⟩
  unfold ldS
  rw [sI_2, sI_2, gAdd_J e2]; rfl

theorem lv_far {M M1 : gS} {n c st : Nat} (hc : c < n) (h1 : M1.1 164 = M.1 164) (k i : Nat) (h : ¬ (k = 164 ∧ i < n)) : (row4 M1 (lvS M c st n)).1 k i = M1.1 k i := by
  by_cases e : k = 164
  · subst e
    rw [row4_1, lvS_0 (by omega) (lvG_hi M c n i (by omega) (by omega)), h1]
  · rw [row4_far _ _ e]
theorem land_far {M : gS} {n h : Nat} {F : List Nat} {tr : Int64} (hF : ∀ c ∈ F, c < n) (k i : Nat) (h1 : ¬ (k = 164 ∧ i < n)) (h2 : ¬ (k = 167 ∧ i < n)) (h3 : ¬ (k = 161 ∧ i = 1)) : (landM M F h tr).1 k i = M.1 k i := by
  by_cases e : k = 164
  · subst e
    rw [landM_4, if_neg (fun x => h1 ⟨rfl, hF i x⟩)]
  · by_cases e2 : k = 167
    · subst e2
      rw [landM_7, if_neg (fun x => h2 ⟨rfl, hF i x⟩)]
    · exact landM_far _ _ _ _ _ _ e e2 h3

theorem lv_z {M M1 : gS} {n c st : Nat} (hst : 3 ≤ st ∧ st ≤ 5) (i : Nat) (h : (row4 M1 (lvS M c st n)).1 164 i = iN 0) : M.1 164 i = iN 0 := by
  rw [row4_1] at h
  unfold lvS at h
  by_cases e : i = c
  · rw [if_pos e, iN_eq (by omega) (by omega)] at h; omega
  · rw [if_neg e] at h
    by_cases g : lvG M c n i = true
    · rw [if_pos g] at h; exact absurd h (by decide)
    · rw [if_neg g] at h; exact h
theorem land_z {M : gS} {h : Nat} {F : List Nat} {tr : Int64} (i : Nat) (e : (landM M F h tr).1 164 i = iN 0) : M.1 164 i = iN 0 := by
  rw [landM_4] at e
  by_cases m : i ∈ F
  · rw [if_pos m] at e; exact absurd e (by decide)
  · rw [if_neg m] at e; exact e
