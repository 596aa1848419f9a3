/-! a turn of the law's deciding -/
def row7 (σ : gS) (f : Nat → Int32) : gS := (fun k => if k = 167 then f else σ.1 k, σ.2)
theorem row7_1 (σ : gS) (f : Nat → Int32) : (row7 σ f).1 167 = f := by
  show (if (167 : Nat) = 167 then f else σ.1 167) = f
  exact if_pos rfl
theorem row7_far (σ : gS) (f : Nat → Int32) {k : Nat} (h : k ≠ 167) : (row7 σ f).1 k = σ.1 k := by
  unfold row7; exact if_neg h
theorem lawOf_row7 (σ : gS) (f : Nat → Int32) : lawOf (row7 σ f) = row7 (lawOf σ) f := by
  refine Prod.ext ?_ rfl
  funext k
  by_cases h : k = 167
  · subst h
    rw [row7_1]
    show (if 161 ≤ 167 ∧ 167 < 179 then (row7 σ f).1 167 else fun _ => 0) = f
    rw [if_pos (by omega), row7_1]
  · rw [row7_far _ _ h]
    show (if 161 ≤ k ∧ k < 179 then (row7 σ f).1 k else fun _ => 0) = (if 161 ≤ k ∧ k < 179 then σ.1 k else fun _ => 0)
    rw [row7_far _ _ h]
theorem SmL.row4 (s : gS) (f : Nat → Int32) : SmL s (row4 s f) := ⟨fun k hk => ⟨row4_far _ _ (by omega), rfl⟩, rfl⟩
theorem SmL.row7 (s : gS) (f : Nat → Int32) : SmL s (row7 s f) := ⟨fun k hk => ⟨row7_far _ _ (by omega), rfl⟩, rfl⟩
def lnS (σ : gS) (F : List Nat) (h : Nat) : gS := row7 (row4 σ (fun d => if d ∈ F then iN 2 else σ.1 164 d)) (fun d => if d ∈ F then iN h else σ.1 167 d)
def landM (σ : gS) (F : List Nat) (h : Nat) (tr : Int64) : gS := sI (sJ (lnS σ F h) 171 h tr) 161 1 (iN (h + 1))
theorem lnS_0 (σ : gS) (h : Nat) : lnS σ [] h = σ := by
  refine Prod.ext ?_ rfl
  funext k
  unfold lnS
  by_cases e : k = 167
  · subst e; rw [row7_1]; funext d; rw [if_neg (by simp)]
  · rw [row7_far _ _ e]
    by_cases e2 : k = 164
    · subst e2; rw [row4_1]; funext d; rw [if_neg (by simp)]
    · rw [row4_far _ _ e2]
theorem lnS_far (σ : gS) (F : List Nat) (h : Nat) {k : Nat} (h1 : k ≠ 164) (h2 : k ≠ 167) : (lnS σ F h).1 k = σ.1 k := by
  unfold lnS
  rw [row7_far _ _ h2, row4_far _ _ h1]
theorem lnS_s (σ : gS) (F : List Nat) (h c : Nat) : sI (sI (lnS σ F h) 164 c (iN 2)) 167 c (iN h) = lnS σ (F ++ [c]) h := by
  refine Prod.ext ?_ rfl
  funext k d
  rw [sI_1, sI_1]
  unfold lnS
  by_cases e : k = 167
  · subst e
    rw [row7_1, row7_1]
    by_cases e2 : d = c
    · rw [if_pos ⟨rfl, e2⟩, if_pos (by rw [e2]; simp)]
    · rw [if_neg (fun x => e2 x.2), if_neg (by omega)]
      by_cases e3 : d ∈ F
      · rw [if_pos e3, if_pos (by simp [e3])]
      · rw [if_neg e3, if_neg (by simp [e3, e2])]
  · rw [if_neg (fun x => e x.1), row7_far _ _ e, row7_far _ _ e]
    by_cases e4 : k = 164
    · subst e4
      rw [row4_1, row4_1]
      by_cases e2 : d = c
      · rw [if_pos ⟨rfl, e2⟩, if_pos (by rw [e2]; simp)]
      · rw [if_neg (fun x => e2 x.2)]
        by_cases e3 : d ∈ F
        · rw [if_pos e3, if_pos (by simp [e3])]
        · rw [if_neg e3, if_neg (by simp [e3, e2])]
    · rw [if_neg (fun x => e4 x.1), row4_far _ _ e4, row4_far _ _ e4]
theorem L_d179 {N : Nat} {rec3 : (gS × Int32) → Option (Int64 × gS)} {σ : gS} {F : List Nat} {n h : Nat} {x20 : Int64} (hN : 100 ≤ N) (hn : n ≤ 20) (hd : dHas σ F) (hF : ∀ c ∈ F, c < n) (h1 : σ.1 161 1 = iN h) : lp (fL_decides_179 N rec3 (iN 1) x20 (iN F.length) (iN 1)) N (σ, 0) = fL_decides_217 N rec3 (lnS σ F h) (iN 1) x20 (iN F.length) (iN 1) := by
  have hd1 := hd.1
  have e0 := lnS_0 σ h
  have := lp_run (F := fL_decides_179 N rec3 (iN 1) x20 (iN F.length) (iN 1)) (out := fL_decides_217 N rec3 (lnS σ F h) (iN 1) x20 (iN F.length) (iN 1)) (fun j => (lnS σ (F.take j) h, iN j)) F.length (fun j hj rec => ?_) (fun rec => ?_) N (by omega)
  · simp only [List.take_zero] at this
    rw [e0] at this; exact this
  · have hc : F.getD j 0 < n := hF _ (gD_mem hj)
    have g179 : (lnS σ (F.take j) h).1 179 j = iN (F.getD j 0) := by rw [lnS_far _ _ _ (by omega) (by omega)]; exact hd.2 j hj
    have g161 : (lnS σ (F.take j) h).1 161 1 = iN h := by rw [lnS_far _ _ _ (by omega) (by omega)]; exact h1
    have f1 : ∀ v, (sI (lnS σ (F.take j) h) 164 (F.getD j 0) v).1 179 j = iN (F.getD j 0) := fun v => by rw [sI_1, if_neg (by omega)]; exact g179
    have f2 : ∀ v, (sI (lnS σ (F.take j) h) 164 (F.getD j 0) v).1 161 1 = iN h := fun v => by rw [sI_1, if_neg (by omega)]; exact g161
    unfold fL_decides_179
    dsimp only
    rw [if_neg (show ¬ iN F.length ≤ iN j by rw [iN_le (by omega) (by omega)]; omega), if_pos (show iN 1 = (1 : Int32) from rfl), if_neg (gi (show j < 32 by omega) (by decide)), iN_cl (show j < 2147483648 by omega), g179, if_neg (gi (show F.getD j 0 < 24 by omega) (by decide)), if_neg (gj (show j < 32 by omega) (by decide)), iN_cl (show F.getD j 0 < 2147483648 by omega), f1, f2, if_neg (gi (show F.getD j 0 < 24 by omega) (by decide)), iN_cl (show F.getD j 0 < 2147483648 by omega), i_1, iN_add, i_2, lnS_s, take_snoc hj]
  · unfold fL_decides_179
    dsimp only
    rw [if_pos (show iN F.length ≤ iN F.length by rw [iN_le (by omega) (by omega)]; omega), List.take_length]
theorem L_d179n {N : Nat} {rec3 : (gS × Int32) → Option (Int64 × gS)} {σ : gS} {F : List Nat} {x20 : Int64} {x16 x25 : Int32} (hN : 100 ≤ N) (h : ¬ x25 = 1) : lp (fL_decides_179 N rec3 x16 x20 (iN F.length) x25) N (σ, 0) = fL_decides_217 N rec3 σ x16 x20 (iN F.length) x25 := by
  obtain ⟨k, rfl⟩ : ∃ k, N = k + 1 := ⟨N - 1, by omega⟩
  rw [lp_1]
  unfold fL_decides_179
  dsimp only
  rw [if_neg h]
  split <;> rfl
theorem lawOf_land {σ : gS} {F : List Nat} {h : Nat} {tr : Int64} : lawOf (landM σ F h tr) = landM (lawOf σ) F h tr := by
  unfold landM lnS
  rw [lawOf_in (by omega), lawOf_inJ (by omega), lawOf_row7, lawOf_row4]
  have e1 : (lawOf σ).1 164 = σ.1 164 := (lw1 rfl (by omega)).symm
  have e2 : (lawOf σ).1 167 = σ.1 167 := (lw1 rfl (by omega)).symm
  rw [e1, e2]
theorem SmL.land {σ : gS} {F : List Nat} {h : Nat} {tr : Int64} : SmL σ (landM σ F h tr) := by
  unfold landM lnS
  exact (((SmL.row4 σ _).trans (SmL.row7 _ _)).trans (SmL.sJ (by omega))).trans (SmL.sI (by omega))
/-- what a turn begins with -/
theorem L_d3 {N : Nat} {rec3 : (gS × Int32) → Option (Int64 × gS)} {s M : gS} {n h : Nat} (hN : 100 ≤ N) (hM : lawOf s = M) (h0 : M.1 161 0 = iN n) (hn : n ≤ 20) (hp : parOK M n) (hh : M.1 161 1 = iN h) (h1 : 1 ≤ h) (h25 : h ≤ 25) : fL_decides_3 N rec3 (s, iN 1) = match nx M (Wl M (iN 0)) n with
    | none => fL_decides_57 N rec3 (scr s) (trT M h) iM 0
    | some c => fL_decides_57 N rec3 (scr s) (trT M h) (iN c) 1 := by
  have hM2 : lawOf (scr s) = M := (scr_law s).trans hM
  have e161 : (scr s).1 161 1 = iN h := by rw [lw1 hM2 (by omega)]; exact hh
  have e171 : (scr s).2.1 171 = M.2.1 171 := lw2 hM2 (by omega)
  have hnx := L_next (N := N) (x := iN 0) hN hM2 h0 hn hp
  unfold fL_decides_3
  dsimp only
  rw [if_neg (show ¬ iN 1 = (0 : Int32) by decide)]
  rw [show zI (zJ (zI s 179) 180) 181 = scr s from rfl, e161, i_1, iN_sub (by omega) (by omega), if_neg (gi (show h - 1 < 26 by omega) (by decide)), i_0, hnx, Option.bind_some, iN_cl (show h - 1 < 2147483648 by omega), e171]
  cases e : nx M (Wl M (iN 0)) n with
  | none =>
    rw [if_pos (show iO none < iN 0 by decide)]; rfl
  | some c =>
    have hc := (nx_lt e).1
    rw [if_neg (show ¬ iO (some c) < iN 0 by show ¬ iN c < iN 0; rw [iN_lt (by omega) (by omega)]; omega)]; rfl
