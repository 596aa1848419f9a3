/-! formed batches stay when a draft is made -/
theorem nx_n1 {M : gS} {W : Nat → Bool} {n : Nat} (hW : W n = false) : nx M W (n + 1) = nx M W n := by
  show (if (W n && !hangB W (par M n) && isB M n (nx M W n)) = true then some n else nx M W n) = _
  rw [hW]; rfl
theorem ordL_n1 {M : gS} {n : Nat} : ∀ (k : Nat) (W : Nat → Bool), W n = false → ordL M (n + 1) k W = ordL M n k W
  | 0, _, _ => rfl
  | k + 1, W, hW => by
    have e := nx_n1 (M := M) hW
    cases h : nx M W n with
    | none => rw [ordL_none h, ordL_none (e.trans h)]
    | some c =>
      rw [ordL_some h, ordL_some (e.trans h), ordL_n1 k (Wm W c) (by show (W n && _) = false; rw [hW]; rfl)]
theorem ordL_fuel {M : gS} {n : Nat} : ∀ (k : Nat) (W : Nat → Bool), sCnt W n ≤ k → ordL M n (k + 1) W = ordL M n k W
  | 0, W, h => by
    cases e : nx M W n with
    | none => rw [ordL_none e]; rfl
    | some c =>
      have := sCnt_wm (nx_lt e).1 (nx_lt e).2.1
      omega
  | k + 1, W, h => by
    cases e : nx M W n with
    | none => rw [ordL_none e, ordL_none e]
    | some c =>
      have := sCnt_wm (nx_lt e).1 (nx_lt e).2.1
      rw [ordL_some e, ordL_some e, ordL_fuel k (Wm W c) (by omega)]
theorem ordM_more {M M' : gS} {n T G V : Nat} (hc : Cg M M' n T G V) (hp : parOK M n) (h : M'.1 164 n = iN 0) : ordM M' (n + 1) = ordM M n := by
  have hW : (fun c => decide (M'.1 164 c = iN 1)) n = false := decide_eq_false (show ¬ M'.1 164 n = iN 1 by rw [h]; decide)
  have e1 : ordM M' (n + 1) = ordL M' n (n + 1) (fun c => decide (M'.1 164 c = iN 1)) := ordL_n1 _ _ hW
  have e2 : ordM M' n = ordL M' n n (fun c => decide (M'.1 164 c = iN 1)) := rfl
  rw [e1, ordL_fuel n _ (sCnt_le n), ← e2, cg_ordM hc hp]
theorem bat_more {M M' : gS} {n T G V sz dp : Nat} {t : Int64} (hc : Cg M M' n T G V) (hp : parOK M n) (h : M'.1 164 n = iN 0) : batM M' (n + 1) sz dp t = batM M n sz dp t := by
  unfold batM
  rw [ordM_more hc hp h]
  exact cg_batL hc hp (fun c hcm => (ordM_mem c hcm).1) dp _ t
theorem FO.more {σ σ' M M' : gS} {n T G sz dp h : Nat} (hF : FO σ M n T G sz dp h) (hn : n < 20) (hp : parOK M n) (h93 : σ'.1 109 3 = σ.1 109 3) (hI : ∀ k i, ((5 ≤ k ∧ k < 5 + n ∧ i = 13) ∨ (110 ≤ k ∧ k < 118)) → σ'.1 k i = σ.1 k i) (hJ : ∀ k, (110 ≤ k ∧ k < 118) → σ'.2.1 k = σ.2.1 k) (hc : Cg M M' n T G 0) (h164 : M'.1 164 n = iN 0) (ht : trT M' h = trT M h) : FO σ' M' (n + 1) T G sz dp h := by
  rcases hF with e | ⟨e, ⟨o1, o2⟩, ⟨f1, f2, f3, f4, f5, f6⟩, h3⟩
  · exact Or.inl (h93.trans e)
  · refine Or.inr ⟨h93.trans e, ⟨?_, fun j hj => ?_⟩, ?_, fun c hcn e2 => ?_⟩
    · rw [ordM_more hc hp h164, hI 110 1 (by omega)]; exact o1
    · rw [ordM_more hc hp h164] at hj ⊢
      rw [hJ 111 (by omega)]; exact o2 j hj
    · rw [ht, bat_more hc hp h164]
      refine ⟨(hI 112 1 (by omega)).trans f1, fun j hj => by rw [hJ 113 (by omega)]; exact f2 j hj, (hI 114 1 (by omega)).trans f3, fun j hj => by rw [hJ 115 (by omega)]; exact f4 j hj, (hI 116 1 (by omega)).trans f5, fun j hj => ?_⟩
      rw [hJ 117 (by omega), cg_tree hc _ _ (fun c hcm => ?_)]
      · exact f6 j hj
      · obtain ⟨l, hl, hcl⟩ := List.mem_flatten.mp hcm
        exact (ordM_mem c (((batL_ok _ _ _).2 l (List.mem_of_mem_take hl)).2.2 c hcl)).1
    · have hne : c ≠ n := fun x => by rw [x, h164] at e2; exact absurd e2 (by decide)
      rw [hI _ 13 (by omega), cg_rqG hc (show c < n by omega) G (Nat.le_refl _)]
      exact h3 c (by omega) ((hc.1 c (by omega)).1.2.2.1.symm.trans e2)
