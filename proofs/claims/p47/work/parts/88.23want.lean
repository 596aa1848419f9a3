/-! what is wanted: the class -/
theorem mask_key {M : gS} {q : Nat} {t t2 : Int64} (hq : q < 8) : (t &&& gMask (M.1 172 (12 * q)) = t2 &&& gMask (M.1 172 (12 * q))) ↔ gKey M q t = gKey M q t2 := by
  rw [gKey_inj hq hq]
  exact ⟨fun h => ⟨rfl, h⟩, fun h => h.2⟩
theorem X_isOn {N : Nat} {σ M : gS} {T V q : Nat} {ag : Nat → Nat} {t : Int64} (hN : 100 ≤ N) (hT : T ≤ 4) (hq : q < T) (hrk : RCk σ M ag q) (hag : ∀ q, q < T → ag q < 1000) (hmc : ∀ j, j < 3 → MC σ M T V ag j) (hoth : ∀ j, 3 ≤ j → j < 6 → σ.1 (144 + j) 2 = iM) : fX11_isOn N σ (76 + 3 * q) (t &&& gMask (M.1 172 (12 * q))) = some (iB (sAny (onB M q t) 3)) := by
  have hstep : ∀ (j : Nat) (rec : Int32 → Option Int32), j < 6 → fX11_isOn_3 N σ (76 + 3 * q) (t &&& gMask (M.1 172 (12 * q))) rec (iN j) = if j < 3 ∧ onB M q t j = true then some 1 else rec (iN (j + 1)) := fun j rec hj => by
    have e54 : fX11_isOn_54 N rec σ (76 + 3 * q) (t &&& gMask (M.1 172 (12 * q))) (iN j) = rec (iN (j + 1)) := by
      unfold fX11_isOn_54
      rw [i_1, iN_add]
    unfold fX11_isOn_3
    rw [if_neg (show ¬ (6 : Int32) ≤ iN j by rw [i_6, iN_le (by omega) (by omega)]; omega), X_mach hj, Option.bind_some, hrk.1, e54]
    by_cases j3 : j < 3
    · obtain ⟨m0, m1, m2, m3⟩ := hmc j j3
      rw [m2]
      unfold onB
      rcases m3 with ⟨a1, a2⟩ | ⟨q', l, a1, a1b, a2, a3, a4, a5, a6, a7, a8⟩
      · have hne : ¬ M.1 176 (6 * j) = iN q := fun e => iM_ne (show q < 2147483648 by omega) (e.symm.trans a1)
        rw [if_neg hne, decide_eq_false hne, if_neg (by simp)]
      · rw [a2]
        by_cases e : q' = q
        · subst e
          rw [if_pos rfl, a7, decide_eq_true (rfl : iN q' = iN q'), Bool.true_and]
          have hk : (lg_cmp (M.2.1 177 j &&& gMask (M.1 172 (12 * q'))) (t &&& gMask (M.1 172 (12 * q'))) = (0 : Int32)) = (gKey M q' (M.2.1 177 j) = gKey M q' t) := by
            rw [i_0, lgc0]
            exact propext (mask_key (by omega))
          by_cases c : gKey M q' (M.2.1 177 j) = gKey M q' t
          · rw [if_pos (by rw [hk]; exact c), decide_eq_true c, hrk.2.1]
            have h7 := hag q' hq
            rcases a8 with ⟨d1, d2, d3⟩ | ⟨d1, a, d2, d3⟩
            · rw [d2, if_pos rfl, decide_eq_true d1, if_pos ⟨j3, rfl⟩]
            · rw [d3, if_neg (by rw [iN_eq (by omega) (by omega)]; omega), decide_eq_false (show ¬ M.1 176 (6 * j + 2) = iN 0 by rw [d1]; decide), if_neg (by simp)]
          · rw [if_neg (by rw [hk]; exact c), decide_eq_false c, if_neg (by simp)]
        · have hne : ¬ iN q' = iN q := by rw [iN_eq (by omega) (by omega)]; exact e
          rw [if_neg hne, decide_eq_false hne, if_neg (by simp)]
    · rw [hoth j (by omega) hj, if_neg (show ¬ iM = iN q from fun e => iM_ne (show q < 2147483648 by omega) e.symm), if_neg (fun x => j3 x.1)]
  have key : ∀ (m j N' : Nat), j + m = 6 → m < N' → (∀ i, i < j → i < 3 → onB M q t i = false) → lp (fX11_isOn_3 N σ (76 + 3 * q) (t &&& gMask (M.1 172 (12 * q)))) N' (iN j) = some (iB (sAny (onB M q t) 3)) := by
    intro m
    induction m with
    | zero =>
      intro j N' hj hN' hno
      obtain ⟨N', rfl⟩ : ∃ k, N' = k + 1 := ⟨N' - 1, by omega⟩
      have e : sAny (onB M q t) 3 = false := sAny_false.mpr (fun i hi => hno i (by omega) hi)
      rw [lp_1, e]
      unfold fX11_isOn_3
      rw [if_pos (show (6 : Int32) ≤ iN j by rw [i_6, iN_le (by omega) (by omega)]; omega)]
      rfl
    | succ m ih =>
      intro j N' hj hN' hno
      obtain ⟨N', rfl⟩ : ∃ k, N' = k + 1 := ⟨N' - 1, by omega⟩
      rw [lp_1, hstep j _ (by omega)]
      by_cases c : j < 3 ∧ onB M q t j = true
      · have e : sAny (onB M q t) 3 = true := sAny_iff.mpr ⟨j, c.1, c.2⟩
        rw [if_pos c, e]; rfl
      · rw [if_neg c]
        refine ih (j + 1) N' (by omega) (by omega) (fun i hi hi3 => ?_)
        by_cases e : i = j
        · subst e
          cases h : onB M q t i with
          | false => rfl
          | true => exact absurd ⟨hi3, h⟩ c
        · exact hno i (by omega) hi3
  unfold fX11_isOn
  exact key 6 0 N (by omega) (by omega) (fun i hi => absurd hi (Nat.not_lt_zero i))
/-- an entry of what is wanted: test, contents, team (3: none), for whom -/
def iT (tm : Nat) : Int32 := if tm = 3 then iM else iN tm
abbrev wEn : Type := Nat × Int64 × Nat × Nat
def w0 : wEn := (0, 0, 0, 0)
def WL (σ : gS) (E : List wEn) : Prop := (σ.1 126 1 = iN E.length ∧ σ.1 128 1 = iN E.length ∧ σ.1 130 1 = iN E.length ∧ σ.1 132 1 = iN E.length) ∧ ∀ i, i < E.length → σ.2.1 127 i = jN (E.getD i w0).1 ∧ σ.2.1 129 i = (E.getD i w0).2.1 ∧ σ.2.1 131 i = (iT (E.getD i w0).2.2.1).toInt64 ∧ σ.2.1 133 i = jN (E.getD i w0).2.2.2
def hasE (E : List wEn) (q : Nat) (w : Int64) : Bool := sAny (fun i => decide ((E.getD i w0).1 = q) && decide ((E.getD i w0).2.1 = w)) E.length
def addE (E : List wEn) (x : wEn) : List wEn := if hasE E x.1 x.2.1 = true then E else E ++ [x]
theorem gDw1 {E : List wEn} {x : wEn} : ∀ {i : Nat}, i < E.length → (E ++ [x]).getD i w0 = E.getD i w0 := by
  induction E with
  | nil => intro i h; exact absurd h (Nat.not_lt_zero i)
  | cons a r ih =>
    intro i h
    cases i with
    | zero => rfl
    | succ i => exact ih (by simpa using h)
theorem gDw2 {E : List wEn} {x : wEn} : (E ++ [x]).getD E.length w0 = x := by
  induction E with
  | nil => rfl
  | cons a r ih => exact ih
theorem X_addW {N : Nat} {σ : gS} {E : List wEn} {q tm wh : Nat} {w : Int64} (hN : 100 ≤ N) (hW : WL σ E) (hE : E.length < 40) (hq : q < 10) (hE9 : ∀ e ∈ E, e.1 < 10) (htm : tm ≤ 3) (hwh : wh < 10) : ∃ σ', fX10_add N σ (iN q) w (iT tm) (iN wh) = some σ' ∧ WL σ' (addE E (q, w, tm, wh)) ∧ Sm σ σ' 126 134 := by
  obtain ⟨⟨c1, c2, c3, c4⟩, hc⟩ := id hW
  have hcell : ∀ i, i < E.length → fX8_whole N σ 126 (iN i) = some (iN (E.getD i w0).1) ∧ fX8_get N σ 128 (iN i) = some (E.getD i w0).2.1 ∧ (E.getD i w0).1 < 10 := fun i hi => by
    have h9 : (E.getD i w0).1 < 10 := hE9 _ (by
      have : ∀ (E : List wEn) (i : Nat), i < E.length → E.getD i w0 ∈ E := by
        intro E
        induction E with
        | nil => intro i h; exact absurd h (Nat.not_lt_zero i)
        | cons a r ih =>
          intro i h
          cases i with
          | zero => exact List.mem_cons_self
          | succ i => exact List.mem_cons_of_mem _ (ih i (by simpa using h))
      exact this E i hi)
    have g1 := X_whole (N := N) (σ := σ) (r := 126) (j := i) (len := 50) rfl (show i < 50 by omega) (show (50 : Nat) < 1000 by decide)
    have g2 := X_get (N := N) (σ := σ) (r := 128) (j := i) (len := 50) rfl (show i < 50 by omega) (show (50 : Nat) < 1000 by decide)
    obtain ⟨x1, x2, x3, x4⟩ := hc i hi
    rw [x1, jN_32 (by omega)] at g1
    rw [x2] at g2
    exact ⟨g1, g2, h9⟩
  have key : ∀ (m i N' : Nat), i + m = E.length → m < N' → (∀ x, x < i → (decide ((E.getD x w0).1 = q) && decide ((E.getD x w0).2.1 = w)) = false) → ∃ σ', lp (fX10_add_3 N (iN q) w (iT tm) (iN wh)) N' (σ, iN i) = some σ' ∧ WL σ' (addE E (q, w, tm, wh)) ∧ Sm σ σ' 126 134 := by
    intro m
    induction m with
    | zero =>
      intro i N' hi hN' hno
      obtain ⟨N', rfl⟩ : ∃ k, N' = k + 1 := ⟨N' - 1, by omega⟩
      have e : i = E.length := by omega
      subst e
      have hh : hasE E q w = false := sAny_false.mpr hno
      have hadd : addE E (q, w, tm, wh) = E ++ [(q, w, tm, wh)] := by
        unfold addE
        rw [show hasE E (q, w, tm, wh).1 (q, w, tm, wh).2.1 = false from hh, if_neg (by decide)]
      have a1 := X_add (N := N) (v := jN q) c1 (show gle σ.2.2 127 = 50 from rfl) (show E.length < 50 by omega) (by decide)
      generalize h1 : gAdd σ 126 E.length (jN q) = σ1 at a1
      have k1 : ∀ r, r ≠ 126 → ∀ x, σ1.1 r x = σ.1 r x := fun r hr x => by rw [← h1]; exact gAdd_I hr
      have l1 : ∀ r, r ≠ 127 → ∀ x, σ1.2.1 r x = σ.2.1 r x := fun r hr x => by rw [← h1]; exact gAdd_J hr
      have s1 : Sm σ σ1 126 134 := by rw [← h1]; exact Sm.add (by omega)
      have n1 : σ1.1 126 1 = iN (E.length + 1) ∧ σ1.2.1 127 E.length = jN q ∧ ∀ x, x ≠ E.length → σ1.2.1 127 x = σ.2.1 127 x := by
        rw [← h1]; exact ⟨gAdd_1, gAdd_new, fun x hx => gAdd_old hx⟩
      have a2 := X_add (N := N) (v := w) ((k1 128 (by omega) 1).trans c2) (show gle σ1.2.2 129 = 50 from rfl) (show E.length < 50 by omega) (by decide)
      generalize h2 : gAdd σ1 128 E.length w = σ2 at a2
      have k2 : ∀ r, r ≠ 128 → ∀ x, σ2.1 r x = σ1.1 r x := fun r hr x => by rw [← h2]; exact gAdd_I hr
      have l2 : ∀ r, r ≠ 129 → ∀ x, σ2.2.1 r x = σ1.2.1 r x := fun r hr x => by rw [← h2]; exact gAdd_J hr
      have s2 : Sm σ1 σ2 126 134 := by rw [← h2]; exact Sm.add (by omega)
      have n2 : σ2.1 128 1 = iN (E.length + 1) ∧ σ2.2.1 129 E.length = w ∧ ∀ x, x ≠ E.length → σ2.2.1 129 x = σ1.2.1 129 x := by
        rw [← h2]; exact ⟨gAdd_1, gAdd_new, fun x hx => gAdd_old hx⟩
      have a3 := X_add (N := N) (v := (iT tm).toInt64) (((k2 130 (by omega) 1).trans (k1 130 (by omega) 1)).trans c3) (show gle σ2.2.2 131 = 50 from rfl) (show E.length < 50 by omega) (by decide)
      generalize h3 : gAdd σ2 130 E.length (iT tm).toInt64 = σ3 at a3
      have k3 : ∀ r, r ≠ 130 → ∀ x, σ3.1 r x = σ2.1 r x := fun r hr x => by rw [← h3]; exact gAdd_I hr
      have l3 : ∀ r, r ≠ 131 → ∀ x, σ3.2.1 r x = σ2.2.1 r x := fun r hr x => by rw [← h3]; exact gAdd_J hr
      have s3 : Sm σ2 σ3 126 134 := by rw [← h3]; exact Sm.add (by omega)
      have n3 : σ3.1 130 1 = iN (E.length + 1) ∧ σ3.2.1 131 E.length = (iT tm).toInt64 ∧ ∀ x, x ≠ E.length → σ3.2.1 131 x = σ2.2.1 131 x := by
        rw [← h3]; exact ⟨gAdd_1, gAdd_new, fun x hx => gAdd_old hx⟩
      have a4 := X_add (N := N) (v := jN wh) ((((k3 132 (by omega) 1).trans (k2 132 (by omega) 1)).trans (k1 132 (by omega) 1)).trans c4) (show gle σ3.2.2 133 = 50 from rfl) (show E.length < 50 by omega) (by decide)
      generalize h4 : gAdd σ3 132 E.length (jN wh) = σ4 at a4
      have k4 : ∀ r, r ≠ 132 → ∀ x, σ4.1 r x = σ3.1 r x := fun r hr x => by rw [← h4]; exact gAdd_I hr
      have l4 : ∀ r, r ≠ 133 → ∀ x, σ4.2.1 r x = σ3.2.1 r x := fun r hr x => by rw [← h4]; exact gAdd_J hr
      have s4 : Sm σ3 σ4 126 134 := by rw [← h4]; exact Sm.add (by omega)
      have n4 : σ4.1 132 1 = iN (E.length + 1) ∧ σ4.2.1 133 E.length = jN wh ∧ ∀ x, x ≠ E.length → σ4.2.1 133 x = σ3.2.1 133 x := by
        rw [← h4]; exact ⟨gAdd_1, gAdd_new, fun x hx => gAdd_old hx⟩
      refine ⟨σ4, ?_, ?_, s1.trans (s2.trans (s3.trans s4))⟩
      · rw [lp_1]
        unfold fX10_add_3
        dsimp only
        rw [c1, if_pos (show iN E.length ≤ iN E.length by rw [iN_le (by omega) (by omega)]; omega), iN_64 (show q < 2147483648 by omega), a1, Option.bind_some, a2, Option.bind_some, a3, Option.bind_some, iN_64 (show wh < 2147483648 by omega), a4, Option.bind_some]
      · rw [hadd]
        refine ⟨?_, fun i hi => ?_⟩
        · rw [List.length_append]
          show σ4.1 126 1 = iN (E.length + 1) ∧ σ4.1 128 1 = iN (E.length + 1) ∧ σ4.1 130 1 = iN (E.length + 1) ∧ σ4.1 132 1 = iN (E.length + 1)
          exact ⟨by rw [k4 126 (by omega), k3 126 (by omega), k2 126 (by omega)]; exact n1.1, by rw [k4 128 (by omega), k3 128 (by omega)]; exact n2.1, by rw [k4 130 (by omega)]; exact n3.1, n4.1⟩
        · rw [List.length_append] at hi
          have hi : i < E.length + 1 := hi
          rw [l4 127 (by omega), l3 127 (by omega), l2 127 (by omega), l4 129 (by omega), l3 129 (by omega), l4 131 (by omega)]
          by_cases e : i = E.length
          · subst e
            rw [gDw2]
            exact ⟨n1.2.1, n2.2.1, n3.2.1, n4.2.1⟩
          · have hx := hc i (by omega)
            rw [gDw1 (show i < E.length by omega), n1.2.2 i e, n2.2.2 i e, n3.2.2 i e, n4.2.2 i e, l1 129 (by omega), l2 131 (by omega), l1 131 (by omega), l3 133 (by omega), l2 133 (by omega), l1 133 (by omega)]
            exact hx
    | succ m ih =>
      intro i N' hi hN' hno
      obtain ⟨N', rfl⟩ : ∃ k, N' = k + 1 := ⟨N' - 1, by omega⟩
      have hiE : i < E.length := by omega
      obtain ⟨g1, g2, g3⟩ := hcell i hiE
      have hno2 : (decide ((E.getD i w0).1 = q) && decide ((E.getD i w0).2.1 = w)) = false → ∃ σ', fX10_add_43 N (lp (fX10_add_3 N (iN q) w (iT tm) (iN wh)) N') σ (iN q) w (iT tm) (iN wh) (iN i) = some σ' ∧ WL σ' (addE E (q, w, tm, wh)) ∧ Sm σ σ' 126 134 := fun h => by
        unfold fX10_add_43
        rw [i_1, iN_add]
        exact ih (i + 1) N' (by omega) (by omega) (fun x hx => by
          by_cases e : x = i
          · rw [e]; exact h
          · exact hno x (by omega))
      rw [lp_1]
      generalize lp (fX10_add_3 N (iN q) w (iT tm) (iN wh)) N' = R at hno2
      unfold fX10_add_3
      dsimp only
      rw [c1, if_neg (show ¬ iN E.length ≤ iN i by rw [iN_le (by omega) (by omega)]; omega), g1, Option.bind_some]
      by_cases d1 : (E.getD i w0).1 = q
      · rw [if_pos (show iN (E.getD i w0).1 = iN q by rw [d1]), g2, Option.bind_some]
        by_cases d2 : (E.getD i w0).2.1 = w
        · rw [if_pos (show lg_cmp _ _ = (0 : Int32) from by rw [i_0, lgc0]; exact d2)]
          have hh : hasE E q w = true := sAny_iff.mpr ⟨i, hiE, by rw [decide_eq_true d1, decide_eq_true d2]; rfl⟩
          refine ⟨σ, rfl, ?_, Sm.refl _ _ _⟩
          unfold addE
          rw [show hasE E (q, w, tm, wh).1 (q, w, tm, wh).2.1 = true from hh, if_pos rfl]; exact hW
        · rw [if_neg (show ¬ lg_cmp _ _ = (0 : Int32) from by rw [i_0, lgc0]; exact d2)]
          exact hno2 (by rw [decide_eq_false d2, Bool.and_false])
      · rw [if_neg (show ¬ iN (E.getD i w0).1 = iN q by rw [iN_eq (by omega) (by omega)]; exact d1)]
        exact hno2 (by rw [decide_eq_false d1]; rfl)
  unfold fX10_add
  exact key E.length 0 N (by omega) (by omega) (fun x hx => absurd hx (Nat.not_lt_zero x))
