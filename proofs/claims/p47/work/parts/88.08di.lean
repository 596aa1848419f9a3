/-! what both have of the queue -/
theorem sCnt_congr {p q : Nat → Bool} : ∀ n, (∀ j, j < n → p j = q j) → sCnt p n = sCnt q n
  | 0, _ => rfl
  | n + 1, h => by
    unfold sCnt
    rw [sCnt_congr n (fun j hj => h j (by omega)), h n (by omega)]
theorem sCnt_mono {p q : Nat → Bool} : ∀ n, (∀ j, j < n → p j = true → q j = true) → sCnt p n ≤ sCnt q n
  | 0, _ => Nat.le_refl _
  | n + 1, h => by
    have := sCnt_mono n (fun j hj => h j (by omega))
    unfold sCnt
    cases hp : p n with
    | false => rw [if_neg (by decide)]; omega
    | true => rw [h n (by omega) hp]; omega
def cnS (M : gS) (n v : Nat) : Nat := sCnt (fun c => decide (M.1 164 c = iN v)) n
def QL (M : gS) (n h : Nat) : Prop := stOK M n ∧ qpOK M n ∧ h ≤ 1 + cnS M n 2 ∧ ∀ a, a < 8 → vN M 178 (6 + a) ≤ cnS M n 3
def CH (σ M : gS) (n : Nat) : Prop := σ.1 1 4 = iN n ∧ ∀ c, c < n → RCh σ M c ∧ σ.1 (5 + c) 0 = iN c ∧ σ.1 (5 + c) 4 = M.1 167 c
def FO (σ M : gS) (n T G sz dp h : Nat) : Prop := σ.1 109 3 = iN 0 ∨ (σ.1 109 3 = iN 1 ∧ Fm σ M n T G sz dp (trT M h))
def DI (σ M : gS) (n T G V U h sz dp : Nat) (ag : Nat → Nat) : Prop := LD M n T G V h sz dp ∧ QL M n h ∧ CH σ M n ∧ RCp σ M T G ∧ RCt σ M h ∧ RCw σ M ∧ (σ.1 109 0 = iN sz ∧ σ.1 109 1 = iN dp) ∧ FO σ M n T G sz dp h ∧ σ.1 0 15 = iN (cnS M n 2) ∧ RCv σ M T V U ag ∧ ∀ q, q < T → RCk σ M ag q
theorem RCh.fr {σ σ' M : gS} {c : Nat} (h : RCh σ M c) (hI : ∀ i, i ≠ 13 → σ'.1 (5 + c) i = σ.1 (5 + c) i) (hJ : σ'.2.1 (5 + c) = σ.2.1 (5 + c)) : RCh σ' M c := by
  unfold RCh chB chOK at h ⊢
  rw [hI 1 (by omega), hI 2 (by omega), hI 3 (by omega), hI 5 (by omega), hI 10 (by omega), hI 11 (by omega), hI 12 (by omega), hJ]; exact h
theorem DI.fr {σ σ' M : gS} {n T G V U h sz dp : Nat} {ag : Nat → Nat} (hd : DI σ M n T G V U h sz dp ag) (hI : ∀ k i, (k = 1 ∨ (5 ≤ k ∧ k < 65 ∧ i ≠ 13) ∨ k = 65 ∨ k = 70 ∨ (76 ≤ k ∧ k < 106 ∧ i < 8) ∨ k = 106 ∨ k = 108 ∨ k = 151 ∨ (k = 109 ∧ i < 3) ∨ (k = 0 ∧ i = 15)) → σ'.1 k i = σ.1 k i) (hJ : ∀ k, ((5 ≤ k ∧ k < 65) ∨ k = 71 ∨ k = 73 ∨ k = 75 ∨ (76 ≤ k ∧ k < 106) ∨ k = 107 ∨ k = 152 ∨ k = 160) → σ'.2.1 k = σ.2.1 k) (hl : σ'.2.2 = σ.2.2) (hF : FO σ' M n T G sz dp h) : DI σ' M n T G V U h sz dp ag := by
  obtain ⟨a1, a2, a3, ⟨p1, p2, p3, p4⟩, ⟨t1, t2, t3, t4, t5⟩, a6, a7, a8, a9, a10, a11⟩ := hd
  have hn := a1.1.1.2.1
  have hT := p1.2
  refine ⟨a1, a2, ⟨by rw [hI 1 4 (by omega)]; exact a3.1, fun c hc => ?_⟩, ⟨⟨by rw [hI 65 5 (by omega)]; exact p1.1, p1.2⟩, ⟨by rw [hI 70 1 (by omega)]; exact p2.1, p2.2⟩, fun j hj => by rw [hI _ 2 (by omega)]; exact p3 j hj, fun k hk => by rw [hJ 71 (by omega), hJ 73 (by omega), hJ 75 (by omega)]; exact p4 k hk⟩, ⟨t1, t2, t3, by rw [hI 151 1 (by omega)]; exact t4, fun j hj => by rw [hJ 152 (by omega)]; exact t5 j hj⟩, fun a ha => by rw [hJ 160 (by omega)]; exact a6 a ha, ⟨by rw [hI 109 0 (by omega)]; exact a7.1, by rw [hI 109 1 (by omega)]; exact a7.2⟩, hF, by rw [hI 0 15 (by omega)]; exact a9, a10.places hl ?_ (hJ 107 (by omega)) ?_, fun q hq => ?_⟩
  · have := a3.2 c hc
    exact ⟨this.1.fr (fun i hi => hI _ i (by omega)) (hJ _ (by omega)), by rw [hI _ 0 (by omega)]; exact this.2.1, by rw [hI _ 4 (by omega)]; exact this.2.2⟩
  · funext i; exact hI 106 i (by omega)
  · funext i; exact hI 108 i (by omega)
  · have := a11 q hq
    unfold RCk at this ⊢
    rw [hI _ 0 (by omega), hI _ 7 (by omega), hJ _ (by omega)]; exact this
theorem Fm.fr {σ σ' M : gS} {n T G sz dp : Nat} {t : Int64} (h : Fm σ M n T G sz dp t) (hn : n ≤ 20) (hI : ∀ k i, ((5 ≤ k ∧ k < 65 ∧ i = 13) ∨ (110 ≤ k ∧ k < 118)) → σ'.1 k i = σ.1 k i) (hJ : ∀ k, (110 ≤ k ∧ k < 118) → σ'.2.1 k = σ.2.1 k) : Fm σ' M n T G sz dp t := by
  obtain ⟨⟨o1, o2⟩, ⟨f1, f2, f3, f4, f5, f6⟩, h3⟩ := h
  refine ⟨⟨by rw [hI _ _ (by omega)]; exact o1, fun j hj => by rw [hJ _ (by omega)]; exact o2 j hj⟩, ⟨by rw [hI _ _ (by omega)]; exact f1, fun j hj => by rw [hJ _ (by omega)]; exact f2 j hj, by rw [hI _ _ (by omega)]; exact f3, fun j hj => by rw [hJ _ (by omega)]; exact f4 j hj, by rw [hI _ _ (by omega)]; exact f5, fun j hj => by rw [hJ _ (by omega)]; exact f6 j hj⟩, fun c hc e => by rw [hI _ _ (by omega)]; exact h3 c hc e⟩
/-- the class forms its batches -/
theorem C_form {N : Nat} {σ M : gS} {n T G V U h sz dp : Nat} {ag : Nat → Nat} (hN : 100 ≤ N) (hd : DI σ M n T G V U h sz dp ag) : ∃ σ', fX11_formBatches N σ = some σ' ∧ SmF σ σ' ∧ σ'.1 109 3 = iN 1 ∧ Fm σ' M n T G sz dp (trT M h) ∧ DI σ' M n T G V U h sz dp ag := by
  have hd0 := hd
  obtain ⟨⟨hF, hh, h5, h6⟩, a2, a3, a4, a5, a6, a7, a8, a9, a10, a11⟩ := hd
  obtain ⟨σ', w1, w2, w3, w4⟩ := X_formBatches hN hF.1.2.1 (by omega) h6.2.2 hF.1.2.2 a3.1 (fun c hc => (a3.2 c hc).1) a4 a5 a7.1 a7.2 a8
  refine ⟨σ', w1, w2, w3, w4, hd0.fr (fun k i hk => ?_) (fun k hk => w2.2.2.1 k (by omega)) w2.1 (Or.inr ⟨w3, w4⟩)⟩
  by_cases e : k = 109
  · subst e; exact w2.2.2.2 i (by omega)
  · exact w2.2.1 k i (by omega) (by omega)
/-- it looks at the first one -/
theorem C_look {N : Nat} {σ M : gS} {n T G V U h sz dp : Nat} {ag : Nat → Nat} (hN : 5000 ≤ N) (hd : DI σ M n T G V U h sz dp ag) (hf : σ.1 109 3 = iN 1) (hm : Fm σ M n T G sz dp (trT M h)) : ∃ σ', fX11_lookAtFirstBatch N σ = some σ' ∧ Sm σ σ' 118 125 ∧ Lk σ' M T G V (trT M h) (FF M n sz dp (trT M h)) ∧ LkH σ M n T G (FF M n sz dp (trT M h)) ∧ Fm σ' M n T G sz dp (trT M h) ∧ DI σ' M n T G V U h sz dp ag := by
  have hd0 := hd
  obtain ⟨⟨hF, hh, h5, h6⟩, a2, a3, a4, a5, a6, a7, a8, a9, a10, a11⟩ := hd
  have hFF := FF_ok (M := M) (n := n) (sz := sz) (dp := dp) (t := trT M h) hF.1.2.1 h5.2.2 h6.2.2
  obtain ⟨o1, ⟨f1, f2, f3, f4, f5, f6⟩, h13⟩ := id hm
  have hlk : LkH σ M n T G (FF M n sz dp (trT M h)) := by
    refine ⟨fun c hc => ?_, a6, ?_, fun j hj => ?_⟩
    · have hcn := (hFF.2 c hc).1
      have := (a3.2 c hcn).1
      exact ⟨hcn, this.2.2.2.1, h13 c hcn (hFF.2 c hc).2, this.1.1, this.1.2.1⟩
    · unfold FF
      cases e : batM M n sz dp (trT M h) with
      | nil => rw [e] at f3; exact Or.inl ⟨rfl, f3⟩
      | cons l r =>
        rw [e] at f3 f4
        have hl := (bat_ok (M := M) (n := n) (sz := sz) (dp := dp) (t := trT M h) hF.1.2.1 h5.2.2 h6.2.2).1
        rw [e, List.length_cons] at hl
        refine Or.inr ⟨r.length, by omega, f3, ?_⟩
        have := f4 0 (by simp)
        rw [take1] at this; exact this
    · have hfl : ∀ j, j < (FF M n sz dp (trT M h)).length → (batM M n sz dp (trT M h)).flatten.getD j 0 = (FF M n sz dp (trT M h)).getD j 0 ∧ j < (batM M n sz dp (trT M h)).flatten.length := fun j hj => by
        unfold FF at hj ⊢
        cases e : batM M n sz dp (trT M h) with
        | nil => rw [e] at hj; exact absurd hj (Nat.not_lt_zero j)
        | cons l r =>
          rw [e] at hj
          have hj2 : j < l.length := hj
          rw [List.flatten_cons]
          exact ⟨gD_app1 hj2, by rw [List.length_append]; omega⟩
      obtain ⟨e1, e2⟩ := hfl j hj
      rw [f2 j e2, e1]
  obtain ⟨σ', w1, w2, w3⟩ := X_look (N := N) (by omega) hF (by omega) hlk a5 (fun σ2 hs => verS.sm hN a4.1.1 a4.1.2 a10 a11 (fun j hj => (hF.2.2.2.2.1.2.2 j hj).2) hs)
  have hm' : Fm σ' M n T G sz dp (trT M h) := hm.fr hF.1.2.1 (fun k i hk => by rw [(w2.1 k (by omega)).1]) (fun k hk => (w2.1 k (by omega)).2)
  exact ⟨σ', w1, w2, w3, hlk, hm', hd0.fr (fun k i hk => by rw [(w2.1 k (by omega)).1]) (fun k hk => (w2.1 k (by omega)).2) w2.2 (Or.inr ⟨by rw [(w2.1 109 (by omega)).1]; exact hf, hm'⟩)⟩
