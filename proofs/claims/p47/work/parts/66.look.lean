/-! the class's beginnings of the first batch -/
theorem RCv.sm {σ σ' M : gS} {T V U lo hi : Nat} {ag : Nat → Nat} (h : RCv σ M T V U ag) (hs : Sm σ σ' lo hi) (hl : 109 ≤ lo ∨ hi ≤ 106) : RCv σ' M T V U ag := by
  obtain ⟨len, f, l1, l2, l3, u1, u2, u3, hT2, hV⟩ := h
  refine ⟨len, f, by rw [hs.2]; exact l1, by rw [hs.2]; exact l2, l3, by rw [(hs.1 106 (by omega)).1]; exact u1, by rw [(hs.1 107 (by omega)).2]; exact u2, u3, by rw [(hs.1 107 (by omega)).2, (hs.1 108 (by omega)).1]; exact hT2, hV⟩
theorem RCk.sm {σ σ' M : gS} {q lo hi : Nat} {ag : Nat → Nat} (h : RCk σ M ag q) (hs : Sm σ σ' lo hi) (hl : 109 ≤ lo) (hq : q < 8) : RCk σ' M ag q := by
  unfold RCk at h ⊢
  rw [(hs.1 (76 + 3 * q) (by omega)).1, (hs.1 (76 + 3 * q) (by omega)).2]; exact h
def BgR (σ M : gS) (T G : Nat) (t : Int64) (F : List Nat) (k : Nat) : Prop := (σ.1 119 1 = iN (k + 1) ∧ ∀ j, j ≤ k → σ.2.1 120 j = treeL M t (F.take j)) ∧ (σ.1 121 1 = iN (k + 1) ∧ ∀ j, j ≤ k → σ.2.1 122 j = (rqL M T G (F.take j)).toInt64) ∧ (σ.1 123 1 = iN (k + 1) ∧ ∀ j, j ≤ k → σ.2.1 124 j = jN (wtF M F j))
def Bg (σ M : gS) (T G : Nat) (t : Int64) (F : List Nat) (k : Nat) : Prop := σ.1 118 5 = iN k ∧ BgR σ M T G t F k
theorem X_start {N : Nat} {σ M : gS} {T G : Nat} {t : Int64} {F : List Nat} : ∃ σ' : gS, fX0_start N σ t = some σ' ∧ Sm σ σ' 118 125 ∧ Bg σ' M T G t F 0 ∧ σ'.1 118 4 = iN 0 ∧ σ'.1 118 6 = iM := by
  have hs0 : Sm σ (sI (sI (sI σ 119 1 (iN 0)) 121 1 (iN 0)) 123 1 (iN 0)) 118 125 := (Sm.sI (by omega)).trans ((Sm.sI (by omega)).trans (Sm.sI (by omega)))
  have a1 := X_add (N := N) (σ := sI (sI (sI σ 119 1 (iN 0)) 121 1 (iN 0)) 123 1 (iN 0)) (r := 119) (n := 0) (v := t) (by simp only [sI_1, Nat.reduceEqDiff, true_and, false_and, if_true, if_false]) rfl (show 0 < 9 by omega) (show (9 : Nat) < 1000 by decide)
  have a2 := X_add (N := N) (σ := gAdd (sI (sI (sI σ 119 1 (iN 0)) 121 1 (iN 0)) 123 1 (iN 0)) 119 0 t) (r := 121) (n := 0) (v := jN 0) (by rw [gAdd_I (show (121 : Nat) ≠ 119 by decide)]; simp only [sI_1, Nat.reduceEqDiff, true_and, false_and, if_true, if_false]) rfl (show 0 < 9 by omega) (show (9 : Nat) < 1000 by decide)
  have a3 := X_add (N := N) (σ := gAdd (gAdd (sI (sI (sI σ 119 1 (iN 0)) 121 1 (iN 0)) 123 1 (iN 0)) 119 0 t) 121 0 (jN 0)) (r := 123) (n := 0) (v := jN 0) (by rw [gAdd_I (show (123 : Nat) ≠ 121 by decide), gAdd_I (show (123 : Nat) ≠ 119 by decide)]; simp only [sI_1, Nat.reduceEqDiff, true_and, false_and, if_true, if_false]) rfl (show 0 < 9 by omega) (show (9 : Nat) < 1000 by decide)
  have hs1 : Sm σ (gAdd (gAdd (gAdd (sI (sI (sI σ 119 1 (iN 0)) 121 1 (iN 0)) 123 1 (iN 0)) 119 0 t) 121 0 (jN 0)) 123 0 (jN 0)) 118 125 := hs0.trans ((Sm.add (by omega)).trans ((Sm.add (by omega)).trans (Sm.add (by omega))))
  generalize hE : gAdd (gAdd (gAdd (sI (sI (sI σ 119 1 (iN 0)) 121 1 (iN 0)) 123 1 (iN 0)) 119 0 t) 121 0 (jN 0)) 123 0 (jN 0) = s at hs1 a3
  have c9 : s.1 119 1 = iN (0 + 1) := by rw [← hE, gAdd_I (show (119 : Nat) ≠ 123 by decide), gAdd_I (show (119 : Nat) ≠ 121 by decide), gAdd_1]
  have c1 : s.1 121 1 = iN (0 + 1) := by rw [← hE, gAdd_I (show (121 : Nat) ≠ 123 by decide), gAdd_1]
  have c3 : s.1 123 1 = iN (0 + 1) := by rw [← hE, gAdd_1]
  have d0 : s.2.1 120 0 = t := by rw [← hE, gAdd_J (show (120 : Nat) ≠ 123 + 1 by decide), gAdd_J (show (120 : Nat) ≠ 121 + 1 by decide), gAdd_new]
  have d2 : s.2.1 122 0 = jN 0 := by rw [← hE, gAdd_J (show (122 : Nat) ≠ 123 + 1 by decide), gAdd_new]
  have d4 : s.2.1 124 0 = jN 0 := by rw [← hE, gAdd_new]
  refine ⟨sI (sI (sI s 118 4 (iN 0)) 118 5 (iN 0)) 118 6 iM, ?_, hs1.trans ((Sm.sI (by omega)).trans ((Sm.sI (by omega)).trans (Sm.sI (by omega)))), ⟨?_, ⟨?_, fun j hj => ?_⟩, ⟨?_, fun j hj => ?_⟩, ⟨?_, fun j hj => ?_⟩⟩, ?_, ?_⟩
  · simp only [fX0_start, i_0, i_1, i_m1, show (0 : Int64) = jN 0 from rfl]
    rw [a1, Option.bind_some, a2, Option.bind_some, a3, Option.bind_some]
  · simp only [sI_1, Nat.reduceEqDiff, true_and, false_and, if_true, if_false]
  · simp only [sI_1, Nat.reduceEqDiff, true_and, false_and, if_true, if_false]; exact c9
  · rw [show j = 0 by omega]; exact d0
  · simp only [sI_1, Nat.reduceEqDiff, true_and, false_and, if_true, if_false]; exact c1
  · rw [show j = 0 by omega]; exact d2
  · simp only [sI_1, Nat.reduceEqDiff, true_and, false_and, if_true, if_false]; exact c3
  · rw [show j = 0 by omega]; exact d4
  · simp only [sI_1, Nat.reduceEqDiff, true_and, false_and, if_true, if_false]
  · simp only [sI_1, Nat.reduceEqDiff, true_and, false_and, if_true, if_false]
theorem jN_add (a b : Nat) : jN a + jN b = jN (a + b) := (Int64.ofNat_add a b).symm
theorem X_addB {N : Nat} {σ M : gS} {T G k c : Nat} {t : Int64} {F : List Nat} (hB : Bg σ M T G t F k) (hk : k < F.length) (hF8 : F.length ≤ 8) (hc : F.getD k 0 = c) (hch : chB σ M c) (hrq : σ.1 (5 + c) 13 = rqG M c T G) (hc60 : c < 60) (hw : wtA M c < 100000) :
    ∃ σ' : gS, fX0_add N σ (5 + c) (iN (wtA M c)) = some σ' ∧ Sm σ σ' 118 125 ∧ Bg σ' M T G t F (k + 1) ∧ ∀ i, i ≠ 5 → σ'.1 118 i = σ.1 118 i := by
  obtain ⟨b1, ⟨b2, b3⟩, ⟨b4, b5⟩, ⟨b6, b7⟩⟩ := hB
  have g1 := X_get (N := N) (σ := σ) (r := 119) (j := k) (len := gle σ.2.2 120) rfl (show k < 9 by omega) (show (9 : Nat) < 1000 by decide)
  rw [b3 k (Nat.le_refl _)] at g1
  have g2 := X_ontoC (N := N) (t := treeL M t (F.take k)) hch
  have a1 := X_add (N := N) (σ := σ) (r := 119) (n := k + 1) (v := ontoM M (treeL M t (F.take k)) c) b2 rfl (show k + 1 < 9 by omega) (show (9 : Nat) < 1000 by decide)
  have s1 : Sm σ (gAdd σ 119 (k + 1) (ontoM M (treeL M t (F.take k)) c)) 119 125 := Sm.add (by omega)
  have o1 : ∀ j, j ≠ k + 1 → (gAdd σ 119 (k + 1) (ontoM M (treeL M t (F.take k)) c)).2.1 120 j = σ.2.1 120 j := fun j hj => gAdd_old hj
  have n1 : (gAdd σ 119 (k + 1) (ontoM M (treeL M t (F.take k)) c)).2.1 120 (k + 1) = ontoM M (treeL M t (F.take k)) c := gAdd_new
  have p1 : (gAdd σ 119 (k + 1) (ontoM M (treeL M t (F.take k)) c)).1 119 1 = iN (k + 1 + 1) := gAdd_1
  have q1 : ∀ r, r ≠ 119 → ∀ j, (gAdd σ 119 (k + 1) (ontoM M (treeL M t (F.take k)) c)).1 r j = σ.1 r j := fun r hr j => gAdd_I hr
  have r1 : ∀ r, r ≠ 120 → ∀ j, (gAdd σ 119 (k + 1) (ontoM M (treeL M t (F.take k)) c)).2.1 r j = σ.2.1 r j := fun r hr j => gAdd_J hr
  generalize gAdd σ 119 (k + 1) (ontoM M (treeL M t (F.take k)) c) = σ1 at a1 s1 o1 n1 p1 q1 r1
  have g3 := X_get (N := N) (σ := σ1) (r := 121) (j := k) (len := gle σ1.2.2 122) rfl (show k < 9 by omega) (show (9 : Nat) < 1000 by decide)
  rw [r1 122 (by omega), b5 k (Nat.le_refl _)] at g3
  have a2 := X_add (N := N) (σ := σ1) (r := 121) (n := k + 1) (v := (rqL M T G (F.take k)).toInt64 ||| (rqG M c T G).toInt64) (by rw [q1 121 (by omega)]; exact b4) rfl (show k + 1 < 9 by omega) (show (9 : Nat) < 1000 by decide)
  have s2 : Sm σ1 (gAdd σ1 121 (k + 1) ((rqL M T G (F.take k)).toInt64 ||| (rqG M c T G).toInt64)) 119 125 := Sm.add (by omega)
  have o2 : ∀ j, j ≠ k + 1 → (gAdd σ1 121 (k + 1) ((rqL M T G (F.take k)).toInt64 ||| (rqG M c T G).toInt64)).2.1 122 j = σ1.2.1 122 j := fun j hj => gAdd_old hj
  have n2 : (gAdd σ1 121 (k + 1) ((rqL M T G (F.take k)).toInt64 ||| (rqG M c T G).toInt64)).2.1 122 (k + 1) = (rqL M T G (F.take k)).toInt64 ||| (rqG M c T G).toInt64 := gAdd_new
  have p2 : (gAdd σ1 121 (k + 1) ((rqL M T G (F.take k)).toInt64 ||| (rqG M c T G).toInt64)).1 121 1 = iN (k + 1 + 1) := gAdd_1
  have q2 : ∀ r, r ≠ 121 → ∀ j, (gAdd σ1 121 (k + 1) ((rqL M T G (F.take k)).toInt64 ||| (rqG M c T G).toInt64)).1 r j = σ1.1 r j := fun r hr j => gAdd_I hr
  have r2 : ∀ r, r ≠ 122 → ∀ j, (gAdd σ1 121 (k + 1) ((rqL M T G (F.take k)).toInt64 ||| (rqG M c T G).toInt64)).2.1 r j = σ1.2.1 r j := fun r hr j => gAdd_J hr
  generalize gAdd σ1 121 (k + 1) ((rqL M T G (F.take k)).toInt64 ||| (rqG M c T G).toInt64) = σ2 at a2 s2 o2 n2 p2 q2 r2
  have g4 := X_get (N := N) (σ := σ2) (r := 123) (j := k) (len := gle σ2.2.2 124) rfl (show k < 9 by omega) (show (9 : Nat) < 1000 by decide)
  rw [r2 124 (by omega), r1 124 (by omega), b7 k (Nat.le_refl _)] at g4
  have a3 := X_add (N := N) (σ := σ2) (r := 123) (n := k + 1) (v := jN (wtF M F k + wtA M c)) (by rw [q2 123 (by omega), q1 123 (by omega)]; exact b6) rfl (show k + 1 < 9 by omega) (show (9 : Nat) < 1000 by decide)
  have s3 : Sm σ2 (gAdd σ2 123 (k + 1) (jN (wtF M F k + wtA M c))) 119 125 := Sm.add (by omega)
  have o3 : ∀ j, j ≠ k + 1 → (gAdd σ2 123 (k + 1) (jN (wtF M F k + wtA M c))).2.1 124 j = σ2.2.1 124 j := fun j hj => gAdd_old hj
  have n3 : (gAdd σ2 123 (k + 1) (jN (wtF M F k + wtA M c))).2.1 124 (k + 1) = jN (wtF M F k + wtA M c) := gAdd_new
  have p3 : (gAdd σ2 123 (k + 1) (jN (wtF M F k + wtA M c))).1 123 1 = iN (k + 1 + 1) := gAdd_1
  have q3 : ∀ r, r ≠ 123 → ∀ j, (gAdd σ2 123 (k + 1) (jN (wtF M F k + wtA M c))).1 r j = σ2.1 r j := fun r hr j => gAdd_I hr
  have r3 : ∀ r, r ≠ 124 → ∀ j, (gAdd σ2 123 (k + 1) (jN (wtF M F k + wtA M c))).2.1 r j = σ2.2.1 r j := fun r hr j => gAdd_J hr
  generalize gAdd σ2 123 (k + 1) (jN (wtF M F k + wtA M c)) = σ3 at a3 s3 o3 n3 p3 q3 r3
  have e5 : σ3.1 118 5 = iN k := by rw [q3 118 (by omega), q2 118 (by omega), q1 118 (by omega)]; exact b1
  have hsn := take_snoc hk
  rw [hc] at hsn
  refine ⟨sI σ3 118 5 (iN (k + 1)), ?_, ((s1.wide (by omega) (by omega)).trans ((s2.wide (by omega) (by omega)).trans (s3.wide (by omega) (by omega)))).trans (Sm.sI (by omega)), ⟨by rw [sI_1, if_pos ⟨rfl, rfl⟩], ⟨?_, fun j hj => ?_⟩, ⟨?_, fun j hj => ?_⟩, ⟨?_, fun j hj => ?_⟩⟩, fun i hi => ?_⟩
  · unfold fX0_add
    rw [b1, g1, Option.bind_some, g2, Option.bind_some, a1, Option.bind_some, q1 118 (by omega), b1, g3, Option.bind_some, q1 (5 + c) (by omega), hrq, a2, Option.bind_some, q2 118 (by omega), q1 118 (by omega), b1, g4, Option.bind_some, iN_64 (by omega), jN_add, a3, Option.bind_some, e5, i_1, iN_add]
  · rw [sI_1, if_neg (by omega), q3 119 (by omega), q2 119 (by omega)]; exact p1
  · rw [sI_2, r3 120 (by omega), r2 120 (by omega)]
    by_cases e : j = k + 1
    · subst e
      rw [n1, hsn]
      unfold treeL
      rw [List.foldl_append]; rfl
    · rw [o1 j e]; exact b3 j (by omega)
  · rw [sI_1, if_neg (by omega), q3 121 (by omega)]; exact p2
  · rw [sI_2, r3 122 (by omega)]
    by_cases e : j = k + 1
    · subst e
      rw [n2, hsn, ← Int32.toInt64_or]
      unfold rqL
      rw [List.foldl_append]; rfl
    · rw [o2 j e, r1 122 (by omega)]; exact b5 j (by omega)
  · rw [sI_1, if_neg (by omega)]; exact p3
  · rw [sI_2]
    by_cases e : j = k + 1
    · subst e
      rw [n3, wtF_step hk, hc]
    · rw [o3 j e, r2 124 (by omega), r1 124 (by omega)]; exact b7 j (by omega)
  · rw [sI_1, if_neg (by omega), q3 118 (by omega), q2 118 (by omega), q1 118 (by omega)]
