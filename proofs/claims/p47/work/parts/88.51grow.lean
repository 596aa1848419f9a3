/-! one test more -/
def agT (ag : Nat → Nat) (T : Nat) : Nat → Nat := fun q => if q = T then 0 else ag q
theorem agT_lt {ag : Nat → Nat} {T q : Nat} (h : q < T) : agT ag T q = ag q := if_neg (by omega)
theorem CK.ag {σ M : gS} {V B q : Nat} {ag ag' : Nat → Nat} (h : CK σ M V B ag q) (e : ag' q = ag q) : CK σ M V B ag' q := by
  unfold CK RCk at h ⊢
  rw [e]; exact h
theorem no_key {M M' : gS} {T V : Nat} (hen : EN M T V) (hT : T < 4) (h172 : ∀ q, q < T → M'.1 172 (12 * q) = M.1 172 (12 * q)) (hJ : M'.2.1 174 = M.2.1 174) (t : Int64) : sEnt M' (gKey M' T t) V = none := by
  cases e : sEnt M' (gKey M' T t) V with
  | none => rfl
  | some i =>
    obtain ⟨h1, h2⟩ := sEnt_lt e
    obtain ⟨_, _, q, t2, h3, h4⟩ := hen i h1
    rw [hJ, h4, ← gKey_same (M := M) (M' := M') (h172 q h3)] at h2
    have := ((gKey_inj (M := M') (by omega) (by omega)).mp h2).1
    omega
theorem TI.grow {σ σ' M M' : gS} {T V U B : Nat} {ag : Nat → Nat} (t : TI σ M T V U B ag) (hT4 : T < 4)
    (hI : ∀ k, ((76 ≤ k ∧ k < 109 ∧ k ≠ 76 + 3 * T) ∨ (144 ≤ k ∧ k < 150)) → σ'.1 k = σ.1 k)
    (hJ : ∀ k, ((76 ≤ k ∧ k < 109 ∧ k ≠ 76 + 3 * T) ∨ (144 ≤ k ∧ k < 150)) → σ'.2.1 k = σ.2.1 k) (hl : σ'.2.2 = σ.2.2)
    (mI : ∀ k x, (k = 175 ∨ k = 176 ∨ (k = 172 ∧ x < 12 * T) ∨ (k = 161 ∧ x = 4)) → M'.1 k x = M.1 k x) (mJ : M'.2.1 = M.2.1)
    (hc : CK σ' M' V B (agT ag T) T) : TI σ' M' (T + 1) V U B (agT ag T) := by
  obtain ⟨hT, hVM, hen, hck, hmc, hlu, hrv, hoth⟩ := t
  have e175 : M'.1 175 = M.1 175 := funext (fun x => mI 175 x (by omega))
  have e176 : M'.1 176 = M.1 176 := funext (fun x => mI 176 x (by omega))
  have m172 : ∀ q, q < T → M'.1 172 (12 * q) = M.1 172 (12 * q) := fun q hq => mI 172 _ (by omega)
  have ek : ∀ q', q' < T → ∀ t, gKey M' q' t = gKey M q' t := fun q' hq' t => gKey_same (m172 q' hq')
  have eS : ∀ key, sEnt M' key V = sEnt M key V := fun key => sEnt_congr (M := M) (M' := M') (by rw [mJ]) V
  have eC : ∀ key, entC M' V key = entC M V key := fun key => by
    unfold entC vN
    rw [eS, e175]
  have ev : ∀ q, q < T → ∀ t, sVer M' V q t = sVer M V q t := fun q hq t => by
    rw [sVer_ev, sVer_ev, ek q hq]
    unfold ev vN
    rw [eS, e175]
  refine ⟨by omega, (mI 161 4 (by omega)).trans hVM, fun i hi => ?_, fun q' hq' => ?_, fun j' hj' => ?_, fun j1 j2 w1 w2 w3 q w4 w5 w6 w7 w8 => ?_, ?_, fun j w1 w2 => by rw [hI _ (by omega)]; exact hoth j w1 w2⟩
  · obtain ⟨x1, x2, q, t, x3, x4⟩ := hen i hi
    refine ⟨?_, ?_, q, t, by omega, ?_⟩
    · unfold vN at x1 ⊢; rw [e175]; exact x1
    · unfold vN at x2 ⊢; rw [e175]; exact x2
    · rw [mJ, ek q x3]; exact x4
  · by_cases e : q' = T
    · rw [e]; exact hc
    · exact ((hck q' (by omega)).fr (hI _ (by omega)) (by rw [hI _ (by omega)]) (hJ _ (by omega)) (hJ _ (by omega)) (fun x h1 h2 => mI 172 x (by omega)) (sumR_congr V (fun i _ => ⟨by rw [mJ], by rw [e175]⟩)) (Nat.le_refl _)).ag (agT_lt (by omega))
  · obtain ⟨z0, z1, z2, z3⟩ := (hmc j' hj').fr (M' := M') (V' := V) (hI _ (by omega)) (by rw [hJ _ (by omega)]) (fun x _ _ => by rw [e176]) (by rw [mJ]) m172 (fun q hq _ _ hz => by rw [ev q hq]; exact hz)
    refine ⟨z0, z1, z2, ?_⟩
    rcases z3 with z3 | ⟨q, l, y1, y2, y3, y4, y5, y6, y7, y8, y9⟩
    · exact Or.inl z3
    · refine Or.inr ⟨q, l, by omega, y2, y3, y4, y5, y6, y7, y8, ?_⟩
      rw [agT_lt y1]; exact y9
  · rw [e176] at w5 w6 w7 w8
    have run : ∀ j', j' < 3 → ∀ q : Nat, q < 4 → M.1 176 (6 * j') = iN q → q < T := fun j' hj' q hq e => by
      obtain ⟨_, _, _, z3⟩ := hmc j' hj'
      rcases z3 with ⟨a, _⟩ | ⟨q2, l, y1, y2, y3, _⟩
      · rw [a] at e; exact absurd e (iM_ne (show q < 2147483648 by omega)).symm
      · rw [y3, iN_eq (by omega) (by omega)] at e; omega
    have hq := run j1 w1 q w4 w5
    rw [ek q hq, ek q hq, mJ]
    exact hlu j1 j2 w1 w2 w3 q w4 w5 w6 w7 w8
  · obtain ⟨len, f, r1, r2, r3, r4, r5, r6, r7, v1, v2⟩ := hrv.places hl (hI 106 (by omega)) (hJ 107 (by omega)) (hI 108 (by omega))
    refine ⟨len, f, r1, r2, r3, r4, r5, r6, r7, fun q hq t => ?_, fun q hq a ha w hw hlt => ?_⟩
    · by_cases e : q = T
      · rw [e, show agT ag T T = 0 from if_pos rfl, v2 T (by omega) 0 (by omega) _ (low_mask _ _) (fun h => absurd h (Nat.lt_irrefl _))]
        unfold entC
        rw [no_key hen hT4 m172 (by rw [mJ])]; rfl
      · rw [agT_lt (show q < T by omega), m172 q (by omega), eC, ek q (by omega)]
        exact v1 q (by omega) t
    · refine v2 q hq a ha w hw (fun h => ?_)
      have := hlt (by omega)
      rwa [agT_lt h] at this
theorem sumR_no {M M' : gS} {T V : Nat} (hen : EN M T V) (hT : T < 8) (hJ : M'.2.1 174 = M.2.1 174) : sumR M' T V = 0 := by
  have key : ∀ m, m ≤ V → sumR M' T m = 0 := by
    intro m
    induction m with
    | zero => intro _; rfl
    | succ m ih =>
      intro hm
      obtain ⟨_, _, q, t, h3, h4⟩ := hen m (by omega)
      rw [sumR_s, ih (by omega), if_neg]
      unfold kOf
      rw [hJ, h4, kOf_gKey (by omega)]
      intro e
      have e2 := congrArg Int64.toInt e
      rw [jN_toInt (by omega), jN_toInt (by omega)] at e2
      omega
  exact key V (Nat.le_refl _)
