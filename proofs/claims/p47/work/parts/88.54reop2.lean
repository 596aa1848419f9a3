/-! a test's verdicts are forgotten: both sides -/
def agR (ag : Nat → Nat) (q : Nat) : Nat → Nat := fun x => if x = q then ag q + 1 else ag x
theorem agR_q (ag : Nat → Nat) (q : Nat) : agR ag q q = ag q + 1 := if_pos rfl
theorem agR_o {ag : Nat → Nat} {q x : Nat} (h : x ≠ q) : agR ag q x = ag x := if_neg h
theorem jN_ne {a b : Nat} (ha : a < 1000) (hb : b < 1000) (h : a ≠ b) : jN a ≠ jN b := fun e => by
  have e2 := congrArg Int64.toInt e
  rw [jN_toInt (by omega), jN_toInt (by omega)] at e2
  omega
theorem roM_I (M : gS) (q V : Nat) (k x : Nat) (h1 : k ≠ 175) (h2 : ¬ (k = 176 ∧ x - x / 6 * 6 = 2)) (h3 : ¬ (k = 161 ∧ x = 4)) : (roM M q V).1 k x = M.1 k x := by
  unfold roM
  rw [stM_I _ _ _ _ _ (by omega), sI_1, if_neg h3, rpM_I _ _ _ _ _ (Or.inl h1)]
theorem roM_4 (M : gS) (q V : Nat) : (roM M q V).1 161 4 = iN (cnK M q V) := by
  unfold roM
  rw [stM_I _ _ _ _ _ (by omega), sI_1, if_pos ⟨rfl, rfl⟩]
theorem roM_175 (M : gS) (q V : Nat) : (roM M q V).1 175 = (rpM M q V).1 175 := by
  funext x
  unfold roM
  rw [stM_I _ _ _ _ _ (by omega), sI_1, if_neg (by omega)]
theorem roM_J (M : gS) (q V : Nat) : (roM M q V).2.1 = (rpM M q V).2.1 := by
  unfold roM
  rw [stM_J]; rfl
theorem roM_Jk (M : gS) (q V k : Nat) (h : k ≠ 174) : (roM M q V).2.1 k = M.2.1 k := by
  rw [roM_J]; funext x; exact rpM_J M q V k x (Or.inl h)
theorem roM_2 (M : gS) (q V j : Nat) (hj : j < 3) : (roM M q V).1 176 (6 * j + 2) = if M.1 176 (6 * j) = iN q then iN 1 else M.1 176 (6 * j + 2) := by
  unfold roM
  have e : ∀ x, (sI (rpM M q V) 161 4 (iN (cnK M q V))).1 176 x = M.1 176 x := fun x => by
    rw [sI_1, if_neg (by omega)]; exact rpM_I _ _ _ _ _ (Or.inl (by omega))
  rw [stM_2 _ _ _ _ hj, e, e]
theorem TI.reop {σ σ' M M' : gS} {T V U B q : Nat} {ag : Nat → Nat} (t : TI σ M T V U B ag) (hq : q < T)
    (hI : ∀ k, ((76 ≤ k ∧ k < 109 ∧ ¬ (76 + 3 * q ≤ k ∧ k ≤ 76 + 3 * q + 2)) ∨ (144 ≤ k ∧ k < 150)) → σ'.1 k = σ.1 k)
    (hJ : ∀ k, ((76 ≤ k ∧ k < 109 ∧ ¬ (76 + 3 * q ≤ k ∧ k ≤ 76 + 3 * q + 2)) ∨ (144 ≤ k ∧ k < 150)) → σ'.2.1 k = σ.2.1 k) (hl : σ'.2.2 = σ.2.2)
    (mI : ∀ k x, (k = 175 ∨ k = 176 ∨ (k = 172 ∧ ¬ (12 * q < x ∧ x < 12 * q + 12)) ∨ (k = 161 ∧ x = 4)) → M'.1 k x = (roM M q V).1 k x) (mJ : M'.2.1 = (roM M q V).2.1)
    (hc : CK σ' M' (cnK M q V) B (agR ag q) q) : TI σ' M' T (cnK M q V) U B (agR ag q) := by
  obtain ⟨hT, hVM, hen, hck, hmc, hlu, hrv, hoth⟩ := t
  have e175 : M'.1 175 = (rpM M q V).1 175 := (funext (fun x => mI 175 x (by omega))).trans (roM_175 M q V)
  have eJ : M'.2.1 = (rpM M q V).2.1 := mJ.trans (roM_J M q V)
  have m172 : ∀ x, ¬ (12 * q < x ∧ x < 12 * q + 12) → M'.1 172 x = M.1 172 x := fun x hx => (mI 172 x (by omega)).trans (roM_I _ _ _ _ _ (by omega) (by omega) (by omega))
  have m176 : ∀ x, x - x / 6 * 6 ≠ 2 → M'.1 176 x = M.1 176 x := fun x hx => (mI 176 x (by omega)).trans (roM_I _ _ _ _ _ (by omega) (by omega) (by omega))
  have m2 : ∀ j, j < 3 → M'.1 176 (6 * j + 2) = if M.1 176 (6 * j) = iN q then iN 1 else M.1 176 (6 * j + 2) := fun j hj => (mI 176 _ (by omega)).trans (roM_2 M q V j hj)
  have ek : ∀ q' t, gKey M' q' t = gKey M q' t := fun q' t => gKey_same (m172 _ (by omega))
  have rp : ∀ i, i < cnK M q V → M'.2.1 174 i = (rpM M q V).2.1 174 i ∧ M'.1 175 i = (rpM M q V).1 175 i := fun i _ => ⟨by rw [eJ], by rw [e175]⟩
  have ev0 : ∀ q' t, q' < 8 → q' ≠ q → ev M' (cnK M q V) (gKey M q' t) = ev M V (gKey M q' t) := fun q' t h8 hne => by
    rw [ev_pre _ rp]
    exact rpM_ev M q _ (by rw [kOf_gKey h8]; exact jN_ne (by omega) (by omega) hne) V
  have evq : ∀ t, sEnt M' (gKey M q t) (cnK M q V) = none := fun t => by
    cases e : sEnt M' (gKey M q t) (cnK M q V) with
    | none => rfl
    | some i =>
      obtain ⟨h1, h2⟩ := sEnt_lt e
      have h3 := (rpM_en M q V i h1).1
      unfold kOf at h3
      rw [← (rp i h1).1, h2, kOf_gKey (by omega)] at h3
      exact absurd rfl h3
  have ver : ∀ q' t, q' < 8 → q' ≠ q → sVer M' (cnK M q V) q' t = sVer M V q' t := fun q' t h8 hne => by
    rw [sVer_ev, sVer_ev, ek, ev0 q' t h8 hne]
  refine ⟨hT, (mI 161 4 (by omega)).trans (roM_4 M q V), fun i hi => ?_, fun q' hq' => ?_, fun j hj => ?_, fun j1 j2 w1 w2 w3 q' w4 w5 w6 w7 w8 => ?_, ?_, fun j w1 w2 => by rw [hI _ (by omega)]; exact hoth j w1 w2⟩
  · obtain ⟨_, i0, h1, h2, h3⟩ := rpM_en M q V i hi
    obtain ⟨x1, x2, q2, t2, x3, x4⟩ := hen i0 h1
    have r := rp i hi
    have e : M'.1 175 i = M.1 175 i0 := r.2.trans h3
    refine ⟨?_, ?_, q2, t2, x3, ?_⟩
    · unfold vN at x1 ⊢; rw [e]; exact x1
    · unfold vN at x2 ⊢; rw [e]; exact x2
    · rw [r.1, h2, ek]; exact x4
  · by_cases e : q' = q
    · rw [e]; exact hc
    · exact ((hck q' hq').fr (hI _ (by omega)) (by rw [hI _ (by omega)]) (hJ _ (by omega)) (hJ _ (by omega)) (fun x h1 h2 => m172 x (by omega)) ((sumR_congr _ rp).trans (rpM_sum M q q' (jN_ne (by omega) (by omega) e) V)) (Nat.le_refl _)).ag (agR_o e)
  · obtain ⟨z0, z1, z2, z3⟩ := hmc j hj
    have hz : ∀ q2, q2 < T → M.1 176 (6 * j) = iN q2 → (M.1 176 (6 * j) = iN q ↔ q2 = q) := fun q2 h2 e => by
      rw [e, iN_eq (by omega) (by omega)]
    unfold MC
    rw [hI _ (by omega), hJ _ (by omega), m176 _ (by omega), m176 _ (by omega), m176 _ (by omega), m176 _ (by omega), m2 j hj]
    refine ⟨z0, z1, z2, ?_⟩
    rcases z3 with z3 | ⟨q2, l, y1, y2, y3, y4, y5, y6, y7, y8, y9⟩
    · exact Or.inl z3
    · refine Or.inr ⟨q2, l, y1, y2, y3, y4, y5, y6, y7, ?_, ?_⟩
      · rw [mJ, roM_Jk _ _ _ _ (by omega), m172 _ (by omega)]; exact y8
      · by_cases e : q2 = q
        · refine Or.inr ⟨if_pos ((hz q2 y1 y3).mpr e), ?_⟩
          rw [e, agR_q]
          rw [e] at y9
          rcases y9 with ⟨_, b2, _⟩ | ⟨_, a, b2, b3⟩
          · exact ⟨ag q, by omega, b2⟩
          · exact ⟨a, by omega, b3⟩
        · rw [if_neg (fun h => e ((hz q2 y1 y3).mp h)), agR_o e, ver q2 _ (by omega) e, mJ, roM_Jk _ _ _ _ (by omega)]
          exact y9
  · rw [m176 _ (by omega)] at w5 w6
    rw [m2 j1 w1] at w7
    rw [m2 j2 w2] at w8
    by_cases e : M.1 176 (6 * j1) = iN q
    · rw [if_pos e] at w7; exact absurd w7 (by decide)
    · rw [if_neg e] at w7
      by_cases e2 : M.1 176 (6 * j2) = iN q
      · rw [if_pos e2] at w8; exact absurd w8 (by decide)
      · rw [if_neg e2] at w8
        rw [ek, ek, mJ, roM_Jk _ _ _ _ (by omega)]
        exact hlu j1 j2 w1 w2 w3 q' w4 w5 w6 w7 w8
  · obtain ⟨len, f, r1, r2, r3, r4, r5, r6, r7, v1, v2⟩ := hrv.places hl (hI 106 (by omega)) (hJ 107 (by omega)) (hI 108 (by omega))
    have hag := (hck q hq).1.2.2.1
    refine ⟨len, f, r1, r2, r3, r4, r5, r6, r7, fun q' hq' t => ?_, fun q' hq' a ha w hw hlt => ?_⟩
    · by_cases e : q' = q
      · rw [e, agR_q, m172 _ (by omega), v2 q (by omega) (ag q + 1) (by omega) _ (low_mask _ _) (fun _ => Nat.lt_succ_self _)]
        unfold entC
        rw [ek, evq]; rfl
      · rw [agR_o e, m172 _ (by omega), entC_ev, ek, ev0 q' t (by omega) e, ← entC_ev]
        exact v1 q' hq' t
    · refine v2 q' hq' a ha w hw (fun h => ?_)
      have := hlt h
      by_cases e : q' = q
      · rw [e, agR_q] at this
        rw [e]; omega
      · rwa [agR_o e] at this
