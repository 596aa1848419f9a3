/-! the class's choice, by places -/
def WT (σ M : gS) (V : Nat) (cd : Nat → Option wEn) (O : List Nat) : Prop := (σ.1 126 1 = iN O.length ∧ σ.1 128 1 = iN O.length ∧ σ.1 130 1 = iN O.length ∧ σ.1 132 1 = iN O.length) ∧ O.length ≤ 20 ∧ ∀ i, i < O.length → ∃ x : wEn, cd (O.getD i 0) = some x ∧ (x.1 < 4 ∧ x.2.2.1 ≤ 3 ∧ x.2.2.2 ≤ 2) ∧ σ.2.1 127 i = jN x.1 ∧ σ.2.1 129 i = x.2.1 &&& gMask (M.1 172 (12 * x.1)) ∧ σ.2.1 131 i = (iT x.2.2.1).toInt64 ∧ σ.2.1 133 i = jN (if frM M V x.1 x.2.1 = true then x.2.2.2 else 3)
theorem cd_ok {M : gS} {n T G V h sz dp k : Nat} {x : wEn} (hT : T ≤ 4) (hx : cdO M n T G V h sz dp k = some x) : x.1 < 4 ∧ x.2.2.1 ≤ 3 ∧ x.2.2.2 ≤ 2 := by
  have h1 := cdM_q (b := k / 4) hx
  refine ⟨by omega, ?_, ?_⟩
  · obtain ⟨b, q, hq, rfl⟩ := cd_split k
    rw [cd_lo hq] at hx
    unfold cdM at hx
    split at hx
    · split at hx
      · split at hx
        · split at hx
          · have e := Option.some.inj hx
            rw [← e]; exact Nat.le_refl 3
          · cases hx
        · split at hx
          · have e := Option.some.inj hx
            rw [← e]; exact tmL_le _ _ _ _ _
          · cases hx
      · split at hx
        · have e := Option.some.inj hx
          rw [← e]; exact Nat.le_refl 3
        · cases hx
    · cases hx
  · rcases cd_what hx with e | ⟨e, _⟩ | ⟨e, _⟩ <;> omega
theorem WL.wt {σ M : gS} {n T G V h sz dp K : Nat} (hT : T ≤ 4) (hK : K ≤ 20) (hW : WL σ (eO M n T G V h sz dp K)) : WT σ M V (cdO M n T G V h sz dp) (oLs M V (cdO M n T G V h sz dp) K) := by
  have hlen := eO_len M n T G V h sz dp K
  rw [eO_gE, gE_sel (fun k x hx => by have := (cd_ok hT hx).1; omega)] at hW
  rw [eO_gE, gE_sel (fun k x hx => by have := (cd_ok hT hx).1; omega), List.length_map] at hlen
  obtain ⟨h1, h2⟩ := hW
  rw [List.length_map] at h1 h2
  refine ⟨h1, by omega, fun i hi => ?_⟩
  have h3 := h2 i hi
  rw [mapW _ i hi] at h3
  obtain ⟨m1, m2⟩ := (oLs_mem K _).mp (gD_mem hi)
  cases hx : cdO M n T G V h sz dp ((oLs M V (cdO M n T G V h sz dp) K).getD i 0) with
  | none => rw [selK_none hx] at m2; exact absurd m2 (by decide)
  | some x =>
    rw [eOf_some hx] at h3
    rw [selK_some hx, Bool.and_eq_true] at m2
    refine ⟨x, rfl, cd_ok hT hx, h3.1, h3.2.1, h3.2.2.1, ?_⟩
    rw [if_pos m2.1]; exact h3.2.2.2
def rK (M : gS) (V : Nat) (cd : Nat → Option wEn) (wh : Nat) (f : Nat → Bool) (k : Nat) : Bool := match cd k with
  | none => false
  | some x => frM M V x.1 x.2.1 && (decide (x.2.2.2 = wh) && f x.2.2.1)
theorem rK_some {M : gS} {V wh k : Nat} {cd : Nat → Option wEn} {f : Nat → Bool} {x : wEn} (h : cd k = some x) : rK M V cd wh f k = (frM M V x.1 x.2.1 && (decide (x.2.2.2 = wh) && f x.2.2.1)) := by
  unfold rK; rw [h]
theorem X_firstFor {N : Nat} {σ M : gS} {V wh : Nat} {cd : Nat → Option wEn} {O : List Nat} {x2 : Int32} {f : Nat → Bool} (hN : 100 ≤ N) (hW : WT σ M V cd O) (hwh : wh ≤ 2) (hf : (x2 = iM ∧ f = fun _ => true) ∨ ∃ o, o < 3 ∧ x2 = iN o ∧ f = fun tm => decide (tm = o)) : fX10_firstFor N σ (iN wh) x2 = some (iO (lo (fun i => rK M V cd wh f (O.getD i 0)) O.length)) := by
  obtain ⟨⟨c1, c2, c3, c4⟩, h20, hc⟩ := hW
  have hstep : ∀ (i : Nat) (rec : Int32 → Option Int32), i < O.length → fX10_firstFor_2 N σ (iN wh) x2 rec (iN i) = if rK M V cd wh f (O.getD i 0) = true then some (iN i) else rec (iN (i + 1)) := fun i rec hi => by
    obtain ⟨x, x1, ⟨x3, x4, x5⟩, y1, y2, y3, y4⟩ := hc i hi
    have g1 := X_whole (N := N) (σ := σ) (r := 132) (j := i) (len := 50) rfl (show i < 50 by omega) (show (50 : Nat) < 1000 by decide)
    have hw3 : (if frM M V x.1 x.2.1 = true then x.2.2.2 else 3) ≤ 3 := by split <;> omega
    rw [y4, jN_32 (by omega)] at g1
    have g2 := X_whole (N := N) (σ := σ) (r := 130) (j := i) (len := 50) rfl (show i < 50 by omega) (show (50 : Nat) < 1000 by decide)
    rw [y3, Int32.toInt32_toInt64] at g2
    have e44 : fX10_firstFor_44 N rec σ (iN wh) x2 (iN i) = rec (iN (i + 1)) := by
      unfold fX10_firstFor_44
      rw [i_1, iN_add]
    rw [rK_some x1]
    unfold fX10_firstFor_2 fX10_firstFor_42
    rw [c4, if_neg (show ¬ iN O.length ≤ iN i by rw [iN_le (by omega) (by omega)]; omega), g1, Option.bind_some, e44]
    have ew : (iN (if frM M V x.1 x.2.1 = true then x.2.2.2 else 3) = iN wh) = (frM M V x.1 x.2.1 = true ∧ x.2.2.2 = wh) := by
      rw [iN_eq (by omega) (by omega)]
      by_cases c : frM M V x.1 x.2.1 = true
      · rw [if_pos c]; exact propext ⟨fun h => ⟨c, h⟩, fun h => h.2⟩
      · rw [if_neg c]; exact propext ⟨fun h => by omega, fun h => absurd h.1 c⟩
    by_cases c : frM M V x.1 x.2.1 = true ∧ x.2.2.2 = wh
    · rw [if_pos (by rw [ew]; exact c), c.1, decide_eq_true c.2, Bool.true_and, Bool.true_and]
      rcases hf with ⟨h1, h2⟩ | ⟨o, ho, h1, h2⟩
      · rw [h1, h2, if_pos (show iM = (-1 : Int32) from rfl), if_pos rfl]
      · rw [h1, h2, if_neg (show ¬ iN o = (-1 : Int32) from iM_ne (by omega)), g2, Option.bind_some]
        have et : (iT x.2.2.1 = iN o) = (x.2.2.1 = o) := by
          unfold iT
          by_cases e : x.2.2.1 = 3
          · rw [if_pos e]; exact propext ⟨fun h => absurd h.symm (iM_ne (by omega)), fun h => by omega⟩
          · rw [if_neg e, iN_eq (by omega) (by omega)]
        by_cases e : x.2.2.1 = o
        · rw [if_pos (by rw [et]; exact e), if_pos (show decide (x.2.2.1 = o) = true from decide_eq_true e)]
        · rw [if_neg (by rw [et]; exact e), if_neg (show ¬ decide (x.2.2.1 = o) = true from fun h => e (of_decide_eq_true h))]
    · rw [if_neg (by rw [ew]; exact c)]
      have e0 : (frM M V x.1 x.2.1 && (decide (x.2.2.2 = wh) && f x.2.2.1)) = false := by
        cases c1 : frM M V x.1 x.2.1 with
        | false => rfl
        | true =>
          rw [decide_eq_false (show ¬ x.2.2.2 = wh from fun h => c ⟨c1, h⟩)]; rfl
      rw [e0, if_neg (by decide)]
  have key : ∀ (m i N' : Nat), i + m = O.length → m < N' → lp (fX10_firstFor_2 N σ (iN wh) x2) N' (iN i) = some (iO (loF (fun i => rK M V cd wh f (O.getD i 0)) i m)) := by
    intro m
    induction m with
    | zero =>
      intro i N' hi hN'
      obtain ⟨N', rfl⟩ : ∃ k, N' = k + 1 := ⟨N' - 1, by omega⟩
      rw [lp_1]
      unfold fX10_firstFor_2
      rw [c4, if_pos (show iN O.length ≤ iN i by rw [iN_le (by omega) (by omega)]; omega)]
      rfl
    | succ m ih =>
      intro i N' hi hN'
      obtain ⟨N', rfl⟩ : ∃ k, N' = k + 1 := ⟨N' - 1, by omega⟩
      rw [lp_1, hstep i _ (by omega)]
      show _ = some (iO (if rK M V cd wh f (O.getD i 0) = true then some i else loF (fun i => rK M V cd wh f (O.getD i 0)) (i + 1) m))
      by_cases c : rK M V cd wh f (O.getD i 0) = true
      · rw [if_pos c, if_pos c]; rfl
      · rw [if_neg c, if_neg c]
        exact ih (i + 1) N' (by omega) (by omega)
  have := key O.length 0 N (by omega) (by omega)
  rw [loF_lo] at this
  unfold fX10_firstFor
  exact this
/-- what is free later was free before -/
def frLe (M M0 : gS) (V : Nat) : Prop := ∀ q t, q < 4 → frM M V q t = true → frM M0 V q t = true
theorem dup_cg {M M0 : gS} {cd : Nat → Option wEn} (hk : ∀ q, q < 4 → M.1 172 (12 * q) = M0.1 172 (12 * q)) (hcd : ∀ k x, cd k = some x → x.1 < 4) (k : Nat) : dupK M cd k = dupK M0 cd k := by
  cases hx : cd k with
  | none => unfold dupK; rw [hx]
  | some x =>
    rw [dupK_some hx, dupK_some hx]
    refine sAny_congr k (fun j _ => ?_)
    cases cd j with
    | none => rfl
    | some y =>
      show (decide (y.1 = x.1) && decide (gKey M x.1 y.2.1 = gKey M x.1 x.2.1)) = (decide (y.1 = x.1) && decide (gKey M0 x.1 y.2.1 = gKey M0 x.1 x.2.1))
      rw [gKey_same (hk x.1 (hcd k x hx)), gKey_same (hk x.1 (hcd k x hx))]
theorem sel_pk {M M0 : gS} {V wh K : Nat} {cd : Nat → Option wEn} {f : Nat → Bool} (hk : ∀ q, q < 4 → M.1 172 (12 * q) = M0.1 172 (12 * q)) (hcd : ∀ k x, cd k = some x → x.1 < 4) (hle : frLe M M0 V) : lo (fun k => selK M0 V cd k && rK M V cd wh f k) K = lo (pkK M V cd wh f) K := by
  refine lo_congr K (fun k _ => ?_)
  cases hx : cd k with
  | none => rw [selK_none hx, pkK_none hx]; rfl
  | some x =>
    rw [selK_some hx, rK_some hx, pkK_some hx, dup_cg hk hcd k]
    cases h1 : frM M V x.1 x.2.1 with
    | false => simp
    | true =>
      rw [hle x.1 x.2.1 (hcd k x hx) h1]
      cases dupK M0 cd k <;> simp
/-- places in the list and places -/
theorem X_ff {N : Nat} {σ M M0 : gS} {V wh K : Nat} {cd : Nat → Option wEn} {x2 : Int32} {f : Nat → Bool} (hN : 100 ≤ N) (hW : WT σ M V cd (oLs M0 V cd K)) (hwh : wh ≤ 2) (hf : (x2 = iM ∧ f = fun _ => true) ∨ ∃ o, o < 3 ∧ x2 = iN o ∧ f = fun tm => decide (tm = o)) (hk : ∀ q, q < 4 → M.1 172 (12 * q) = M0.1 172 (12 * q)) (hcd : ∀ k x, cd k = some x → x.1 < 4) (hle : frLe M M0 V) : (lo (pkK M V cd wh f) K = none ∧ fX10_firstFor N σ (iN wh) x2 = some iM) ∨ ∃ i k, i < (oLs M0 V cd K).length ∧ (oLs M0 V cd K).getD i 0 = k ∧ lo (pkK M V cd wh f) K = some k ∧ fX10_firstFor N σ (iN wh) x2 = some (iN i) := by
  have h1 := X_firstFor hN hW hwh hf
  have h2 := lo_ls (M := M0) (V := V) (cd := cd) (r := rK M V cd wh f) K
  rw [sel_pk hk hcd hle] at h2
  cases e : lo (fun i => rK M V cd wh f ((oLs M0 V cd K).getD i 0)) (oLs M0 V cd K).length with
  | none =>
    rw [e] at h1 h2
    exact Or.inl ⟨h2.symm, h1⟩
  | some i =>
    rw [e] at h1 h2
    exact Or.inr ⟨i, _, ((lo_some _).mp e).1, rfl, h2.symm, h1⟩
def tiS (M : gS) (has : Nat → Bool) : Nat → Option Nat
  | 0 => none
  | o + 1 => if has o = true then (match tiS M has o with
    | none => some o
    | some l => if vN M 178 o * vN M 178 (3 + l) < vN M 178 l * vN M 178 (3 + o) then some o else some l) else tiS M has o
theorem tiS_s (M : gS) (has : Nat → Bool) (o : Nat) : tiS M has (o + 1) = if has o = true then (match tiS M has o with
    | none => some o
    | some l => if vN M 178 o * vN M 178 (3 + l) < vN M 178 l * vN M 178 (3 + o) then some o else some l) else tiS M has o := rfl
theorem tiS_foS {M : gS} {w : Nat → Option (Nat × Nat)} {has : Nat → Bool} (hh : ∀ o, o < 3 → has o = (w o).isSome) : ∀ o, o ≤ 3 → tiS M has o = (foS M w o).2.map (fun _ => (foS M w o).1)
  | 0, _ => rfl
  | o + 1, ho => by
    have ih := tiS_foS (M := M) hh o (by omega)
    rw [tiS_s, hh o (by omega), ih]
    cases e : w o with
    | none => rw [foS_n e]; rfl
    | some x =>
      rw [if_pos (show (some x).isSome = true from rfl)]
      cases e2 : (foS M w o).2 with
      | none => rw [foS_0 e e2]; rfl
      | some y =>
        rw [foS_1 e e2]
        show (if vN M 178 o * vN M 178 (3 + (foS M w o).1) < vN M 178 (foS M w o).1 * vN M 178 (3 + o) then some o else some (foS M w o).1) = _
        by_cases c : vN M 178 o * vN M 178 (3 + (foS M w o).1) < vN M 178 (foS M w o).1 * vN M 178 (3 + o)
        · rw [if_pos c, if_pos c]; rfl
        · rw [if_neg c, if_neg c, e2]; rfl
theorem tiS_lt {M : gS} {has : Nat → Bool} {l : Nat} : ∀ o, tiS M has o = some l → l < o ∧ has l = true
  | 0, h => (nomatch h)
  | o + 1, h => by
    rw [tiS_s] at h
    by_cases c : has o = true
    · rw [if_pos c] at h
      cases e : tiS M has o with
      | none =>
        rw [e] at h
        have el : o = l := Option.some.inj h
        rw [← el]; exact ⟨by omega, c⟩
      | some l' =>
        rw [e] at h
        dsimp only at h
        have ih := tiS_lt (M := M) (has := has) (l := l') o e
        by_cases d : vN M 178 o * vN M 178 (3 + l') < vN M 178 l' * vN M 178 (3 + o)
        · rw [if_pos d] at h
          have el : o = l := Option.some.inj h
          rw [← el]; exact ⟨by omega, c⟩
        · rw [if_neg d] at h
          have el : l' = l := Option.some.inj h
          rw [← el]; exact ⟨by omega, ih.2⟩
    · rw [if_neg c] at h
      have := tiS_lt (M := M) (has := has) (l := l) o h
      exact ⟨by omega, this.2⟩
/-- weights and uses of the teams -/
def US (σ M : gS) : Prop := ∀ a, a < 3 → σ.2.1 158 a = jN (vN M 178 a) ∧ σ.2.1 156 a = jN (vN M 178 (3 + a))
theorem X_teamInTurn {N : Nat} {σ M M0 : gS} {V K : Nat} {cd : Nat → Option wEn} (hN : 100 ≤ N) (hW : WT σ M V cd (oLs M0 V cd K)) (hU : US σ M) (hu : UW M) (hk : ∀ q, q < 4 → M.1 172 (12 * q) = M0.1 172 (12 * q)) (hcd : ∀ k x, cd k = some x → x.1 < 4) (hle : frLe M M0 V) : fX11_teamInTurn N σ = some (iO (tiS M (fun o => (lo (pkK M V cd 1 (fun tm => decide (tm = o))) K).isSome) 3)) := by
  unfold fX11_teamInTurn
  refine lp_run (F := fX11_teamInTurn_4 N σ) (fun o => (iO (tiS M (fun o => (lo (pkK M V cd 1 (fun tm => decide (tm = o))) K).isSome) o), iN o)) 3 (fun o ho rec => ?_) (fun rec => ?_) N (by omega)
  · have hff := X_ff (wh := 1) (x2 := iN o) (f := fun tm => decide (tm = o)) hN hW (by omega) (Or.inr ⟨o, ho, rfl, rfl⟩) hk hcd hle
    rw [tiS_s]
    generalize hti : tiS M (fun o => (lo (pkK M V cd 1 (fun tm => decide (tm = o))) K).isSome) o = ti
    have e67 : ∀ x1, fX11_teamInTurn_67 N rec σ x1 (iN o) = rec (x1, iN (o + 1)) := fun x1 => by
      unfold fX11_teamInTurn_67
      rw [i_1, iN_add]
    have e65 : fX11_teamInTurn_65 N rec σ (iN o) = rec (iN o, iN (o + 1)) := by
      unfold fX11_teamInTurn_65
      exact e67 _
    unfold fX11_teamInTurn_4
    dsimp only
    rw [if_neg (show ¬ (3 : Int32) ≤ iN o by rw [i_3, iN_le (by omega) (by omega)]; omega)]
    rcases hff with ⟨f1, f2⟩ | ⟨i, k, f1, f2, f3, f4⟩
    · rw [show fX10_firstFor N σ (1 : Int32) (iN o) = some iM from f2, Option.bind_some, if_pos (show iM = (-1 : Int32) from rfl), e67, f1, if_neg (by decide)]
    · have hi20 : i < 20 := by have := hW.2.1; omega
      rw [show fX10_firstFor N σ (1 : Int32) (iN o) = some (iN i) from f4, Option.bind_some, if_neg (show ¬ iN i = (-1 : Int32) from iM_ne (by omega)), f3, if_pos (show (some k).isSome = true from rfl)]
      cases ti with
      | none =>
        rw [if_pos (show iO none = (-1 : Int32) from rfl), e65]; rfl
      | some l =>
        have hl := (tiS_lt o hti).1
        have hul := hu l (by omega)
        have huo := hu o ho
        obtain ⟨ul1, ul2⟩ := hU l (by omega)
        obtain ⟨uo1, uo2⟩ := hU o ho
        have g1 := X_get (N := N) (σ := σ) (r := 157) (j := o) (len := 3) rfl ho (show (3 : Nat) < 1000 by decide)
        have g2 := X_get (N := N) (σ := σ) (r := 155) (j := l) (len := 3) rfl (show l < 3 by omega) (show (3 : Nat) < 1000 by decide)
        have g3 := X_get (N := N) (σ := σ) (r := 157) (j := l) (len := 3) rfl (show l < 3 by omega) (show (3 : Nat) < 1000 by decide)
        have g4 := X_get (N := N) (σ := σ) (r := 155) (j := o) (len := 3) rfl ho (show (3 : Nat) < 1000 by decide)
        rw [uo1] at g1
        rw [ul2] at g2
        rw [ul1] at g3
        rw [uo2] at g4
        have m1 : vN M 178 l * vN M 178 (3 + o) ≤ 10000 * 10 := Nat.mul_le_mul (by omega) (by omega)
        have m2 : vN M 178 o * vN M 178 (3 + l) ≤ 10000 * 10 := Nat.mul_le_mul (by omega) (by omega)
        have jm : ∀ a b, jN a * jN b = jN (a * b) := fun a b => (Int64.ofNat_mul a b).symm
        rw [show iO (some l) = iN l from rfl, if_neg (show ¬ iN l = (-1 : Int32) from iM_ne (by omega)), g1, Option.bind_some, g2, Option.bind_some, g3, Option.bind_some, g4, Option.bind_some, jm, jm, e65, e67]
        have ec : ((0 : Int32) ≤ lg_cmp (jN (vN M 178 o * vN M 178 (3 + l))) (jN (vN M 178 l * vN M 178 (3 + o)))) = (vN M 178 l * vN M 178 (3 + o) ≤ vN M 178 o * vN M 178 (3 + l)) := by
          rw [cmp_ge, Int64.le_iff_toInt_le, jN_toInt (by omega), jN_toInt (by omega)]
          exact propext (by omega)
        by_cases c : vN M 178 o * vN M 178 (3 + l) < vN M 178 l * vN M 178 (3 + o)
        · rw [if_neg (by rw [ec]; omega)]
          dsimp only
          rw [if_pos c]; rfl
        · rw [if_pos (by rw [ec]; omega)]
          dsimp only
          rw [if_neg c]; rfl
  · unfold fX11_teamInTurn_4
    dsimp only
    rw [if_pos (show (3 : Int32) ≤ iN 3 by decide)]
