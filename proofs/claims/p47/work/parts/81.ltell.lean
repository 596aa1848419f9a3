/-! the law is told of a run -/
theorem gi {a len : Nat} (h : a < len) (hl : len < 2147483648) : ¬ (iN a < (0 : Int32) ∨ len ≤ (iN a).toNatClampNeg) := by
  rw [i_0, iN_lt (by omega) (by omega), iN_cl (by omega)]; omega
theorem gj {a len : Nat} (h : a < len) (hl : len < 2147483648) : ¬ (iN a < (0 : Int32) ∨ len ≤ a) := by
  rw [i_0, iN_lt (by omega) (by omega)]; omega
theorem lawOf_in {σ : gS} {k j : Nat} {v : Int32} (h : 161 ≤ k ∧ k < 179) : lawOf (sI σ k j v) = sI (lawOf σ) k j v := by
  refine Prod.ext ?_ (Prod.ext ?_ rfl)
  · funext k' j'
    show (if 161 ≤ k' ∧ k' < 179 then gU σ.1 k j v k' else fun _ => 0) j' = gU (fun k => if 161 ≤ k ∧ k < 179 then σ.1 k else fun _ => 0) k j v k' j'
    by_cases c : 161 ≤ k' ∧ k' < 179
    · rw [if_pos c]
      show (if k' = k ∧ j' = j then v else σ.1 k' j') = (if k' = k ∧ j' = j then v else (if 161 ≤ k' ∧ k' < 179 then σ.1 k' else fun _ => 0) j')
      rw [if_pos c]
    · rw [if_neg c]
      show (0 : Int32) = (if k' = k ∧ j' = j then v else (if 161 ≤ k' ∧ k' < 179 then σ.1 k' else fun _ => 0) j')
      rw [if_neg (fun e => c (by rw [e.1]; exact h)), if_neg c]
  · rfl
theorem lawOf_inJ {σ : gS} {k j : Nat} {v : Int64} (h : 161 ≤ k ∧ k < 179) : lawOf (sJ σ k j v) = sJ (lawOf σ) k j v := by
  refine Prod.ext rfl (Prod.ext ?_ rfl)
  funext k' j'
  show (if 161 ≤ k' ∧ k' < 179 then gU σ.2.1 k j v k' else fun _ => 0) j' = gU (fun k => if 161 ≤ k ∧ k < 179 then σ.2.1 k else fun _ => 0) k j v k' j'
  by_cases c : 161 ≤ k' ∧ k' < 179
  · rw [if_pos c]
    show (if k' = k ∧ j' = j then v else σ.2.1 k' j') = (if k' = k ∧ j' = j then v else (if 161 ≤ k' ∧ k' < 179 then σ.2.1 k' else fun _ => 0) j')
    rw [if_pos c]
  · rw [if_neg c]
    show (0 : Int64) = (if k' = k ∧ j' = j then v else (if 161 ≤ k' ∧ k' < 179 then σ.2.1 k' else fun _ => 0) j')
    rw [if_neg (fun e => c (by rw [e.1]; exact h)), if_neg c]
theorem sEnt_congr {M M' : gS} {key : Int64} (h : M'.2.1 174 = M.2.1 174) : ∀ V, sEnt M' key V = sEnt M key V
  | 0 => rfl
  | V + 1 => by
    unfold sEnt
    rw [h, sEnt_congr h V]
def tlE (M : gS) (V : Nat) (key : Int64) : Nat := match sEnt M key V with
  | none => V
  | some i => i
def tlB (M : gS) (V : Nat) (key : Int64) : gS := match sEnt M key V with
  | none => sI (sI (sJ M 174 V key) 175 V (iN 0)) 161 4 (iN (V + 1))
  | some _ => M
def tlN (f fk : Nat) (fb : Bool) : Nat := tlV (4 * f) fk fb + 4 * (f + 1) + 64 * tlF (4 * f) fb
def tlW (M : gS) (q i f fk : Nat) (fb : Bool) : gS := sI (sI (sI M 172 (12 * q + 5) (iN (tlK (4 * f) fk fb))) 172 (12 * q + 6) (iN (if tlK (4 * f) fk fb < 2 then 0 else 1))) 175 i (iN (tlN f fk fb))
def tlM (M : gS) (V q f fk : Nat) (fb : Bool) (key : Int64) : gS := tlW (tlB M V key) q (tlE M V key) f fk fb
theorem L_t297 {N : Nat} {rec : (gS × Int32) → Option gS} {σ : gS} {j i q f fl vd : Nat} {w : Int32} (hi : i < 64) (hq : q < 4) (hf : f ≤ 5) (hv : σ.1 175 i = iN (68 * f)) : fL_tells_297 N rec σ (iN j) (iN i) (iN fl) (iN vd) w (iN (12 * q + 6)) = rec (sI (sI σ 172 (12 * q + 6) w) 175 i (iN (vd + 4 * (f + 1) + 64 * fl)), iN (j + 1)) := by
  have hx : (sI σ 172 (12 * q + 6) w).1 175 i = iN (68 * f) := by rw [sI_1, if_neg (by omega)]; exact hv
  have e : 68 * f / 4 - 68 * f / 4 / 16 * 16 = f := by omega
  unfold fL_tells_297 fL_tells_324
  rw [if_neg (gi (show 12 * q + 6 < 48 by omega) (by decide)), if_neg (gi hi (by decide)), if_neg (gi hi (by decide)), iN_cl (show 12 * q + 6 < 2147483648 by omega), iN_cl (show i < 2147483648 by omega), hx]
  simp only [i_4, i_16, i_1, i_64]
  rw [iN_div (show 68 * f < 2147483648 by omega) (by omega), iN_div (show 68 * f / 4 < 2147483648 by omega) (by omega), iN_mul, iN_sub (by omega) (by omega), e]
  simp only [iN_add, iN_mul]
theorem L_t287 {N : Nat} {rec : (gS × Int32) → Option gS} {σ : gS} {j i q f fl vd : Nat} (hi : i < 64) (hq : q < 4) (hf : f ≤ 5) (hv : σ.1 175 i = iN (68 * f)) : fL_tells_287 N rec σ (iN j) (iN q) (iN i) (iN fl) (iN vd) (iN (12 * q + 6)) = rec (sI (sI σ 172 (12 * q + 6) (σ.1 172 (12 * q + 6))) 175 i (iN (vd + 4 * (f + 1) + 64 * fl)), iN (j + 1)) := by
  unfold fL_tells_287
  rw [i_12, iN_mul, i_6, iN_add, if_neg (gi (show 12 * q + 6 < 48 by omega) (by decide)), iN_cl (show 12 * q + 6 < 2147483648 by omega)]
  exact L_t297 hi hq hf hv
theorem L_t254 {N : Nat} {rec : (gS × Int32) → Option gS} {σ : gS} {j i q f fl vd fk fk' x : Nat} (hi : i < 64) (hq : q < 4) (hf : f ≤ 5) (hv : σ.1 175 i = iN (68 * f)) (h5 : σ.1 172 (12 * q + 5) = iN fk') (h6 : σ.1 172 (12 * q + 6) = iN (if fk < 2 then 0 else 1)) (hk : fk' < 100000) (hx : (x = 0 ∧ fk' = fk) ∨ (x = 1 ∧ fk' = fk + 1)) : fL_tells_254 N rec σ (iN j) (iN q) (iN i) (iN fl) (iN x) (iN vd) = rec (sI (sI σ 172 (12 * q + 6) (iN (if fk' < 2 then 0 else 1))) 175 i (iN (vd + 4 * (f + 1) + 64 * fl)), iN (j + 1)) := by
  have h287 := L_t287 (N := N) (rec := rec) (j := j) (fl := fl) (vd := vd) hi hq hf hv
  have h297 := L_t297 (N := N) (rec := rec) (j := j) (fl := fl) (vd := vd) (w := iN 1) hi hq hf hv
  rw [h6] at h287
  have e6 : (12 * iN q + 6 : Int32) = iN (12 * q + 6) := by rw [i_12, iN_mul, i_6, iN_add]
  have e5 : (12 * iN q + 5 : Int32) = iN (12 * q + 5) := by rw [i_12, iN_mul, i_5, iN_add]
  unfold fL_tells_254
  rw [e6, e5]
  rcases hx with ⟨rfl, rfl⟩ | ⟨rfl, rfl⟩
  · rw [if_pos (show iN 0 = (0 : Int32) from rfl)]; exact h287
  · rw [if_neg (show ¬ iN 1 = (0 : Int32) by decide), if_neg (gi (show 12 * q + 5 < 48 by omega) (by decide)), iN_cl (show 12 * q + 5 < 2147483648 by omega), h5]
    by_cases c : fk + 1 < 2
    · rw [if_pos (show iN (fk + 1) ≤ (1 : Int32) by rw [i_1, iN_le (by omega) (by omega)]; omega), if_pos c]
      rw [if_pos (show fk < 2 by omega)] at h287; exact h287
    · rw [if_neg (show ¬ iN (fk + 1) ≤ (1 : Int32) by rw [i_1, iN_le (by omega) (by omega)]; omega), if_neg c]
      exact h297
theorem L_t174 {N : Nat} {rec : (gS × Int32) → Option gS} {σ : gS} {j i q f fk : Nat} {fb : Bool} (hi : i < 64) (hq : q < 4) (hf : f ≤ 4) (hv : σ.1 175 i = iN (68 * f)) (h5 : σ.1 172 (12 * q + 5) = iN fk) (h6 : σ.1 172 (12 * q + 6) = iN (if fk < 2 then 0 else 1)) (hk : fk < 1000) : fL_tells_174 N rec σ (iN j) (iN q) (iN i) (iB fb) (iB fb) (iN f) = rec (tlW σ q i f fk fb, iN (j + 1)) := by
  have e6 : (12 * iN q + 6 : Int32) = iN (12 * q + 6) := by rw [i_12, iN_mul, i_6, iN_add]
  have e5 : (12 * iN q + 5 : Int32) = iN (12 * q + 5) := by rw [i_12, iN_mul, i_5, iN_add]
  have e1 : ¬ (iB true = (0 : Int32)) := by decide
  have e0 : (iB false = (0 : Int32)) := rfl
  have g : ∀ w, (sI σ 172 (12 * q + 5) w).1 175 i = iN (68 * f) := fun w => by rw [sI_1, if_neg (by omega)]; exact hv
  have g5 : ∀ w, (sI σ 172 (12 * q + 5) w).1 172 (12 * q + 5) = w := fun w => by rw [sI_1, if_pos ⟨rfl, rfl⟩]
  have g6 : ∀ w, (sI σ 172 (12 * q + 5) w).1 172 (12 * q + 6) = iN (if fk < 2 then 0 else 1) := fun w => by rw [sI_1, if_neg (by omega)]; exact h6
  cases fb with
  | true =>
    have t246 : ∀ a, a < 100 → fL_tells_246 N rec (sI σ 172 (12 * q + 5) (iN fk)) (iN j) (iN q) (iN i) (iN (f + 1)) (0 : Int32) (iN a) (iN (f + 1)) = rec (sI (sI (sI σ 172 (12 * q + 5) (iN fk)) 172 (12 * q + 6) (iN (if fk < 2 then 0 else 1))) 175 i (iN ((if f + 1 < a then 0 else 2) + 4 * (f + 1) + 64 * (f + 1))), iN (j + 1)) := fun a ha => by
      unfold fL_tells_246
      by_cases c : f + 1 < a
      · rw [if_pos (show iN (f + 1) < iN a by rw [iN_lt (by omega) (by omega)]; exact c), if_pos c, i_0]
        exact L_t254 (x := 0) (vd := 0) (fk := fk) hi hq (by omega) (g _) (g5 _) (g6 _) (by omega) (Or.inl ⟨rfl, rfl⟩)
      · rw [if_neg (show ¬ iN (f + 1) < iN a by rw [iN_lt (by omega) (by omega)]; exact c), if_neg c, i_0, i_2]
        exact L_t254 (x := 0) (vd := 2) (fk := fk) hi hq (by omega) (g _) (g5 _) (g6 _) (by omega) (Or.inl ⟨rfl, rfl⟩)
    have eK : tlK (4 * f) fk true = fk := if_neg (fun h => by cases h.1)
    have eN : tlN f fk true = (if f + 1 < (if fk < 2 then 2 else 5) then 0 else 2) + 4 * (f + 1) + 64 * (f + 1) := by
      unfold tlN tlV tlF
      rw [if_pos rfl, if_pos rfl, show 4 * f / 4 = f by omega]
    unfold fL_tells_174 fL_tells_191 fL_tells_192 tlW
    rw [if_neg e1, e5, if_neg (gi (show 12 * q + 5 < 48 by omega) (by decide)), if_pos rfl, iN_cl (show 12 * q + 5 < 2147483648 by omega), h5, iB_t, iN_add, eK, eN]
    unfold fL_tells_214
    rw [if_neg (gi (show 12 * q + 5 < 48 by omega) (by decide)), if_neg (show ¬ iN 1 = (0 : Int32) by decide), e6, if_neg (gi (show 12 * q + 6 < 48 by omega) (by decide)), iN_cl (show 12 * q + 6 < 2147483648 by omega), iN_cl (show 12 * q + 5 < 2147483648 by omega), i_0, iN_add, Nat.add_zero, g6]
    by_cases c : fk < 2
    · rw [if_pos c, if_neg (show ¬ iN 0 = (1 : Int32) by decide), if_pos c, i_2]
      have := t246 2 (by omega)
      rw [if_pos c] at this; exact this
    · rw [if_neg c, if_pos (show iN 1 = (1 : Int32) from rfl), if_neg c, i_5]
      have := t246 5 (by omega)
      rw [if_neg c] at this; exact this
  | false =>
    have eN : tlN f fk false = 1 + 4 * (f + 1) + 64 * f := by
      unfold tlN tlV tlF
      rw [if_neg (by decide), if_neg (by decide), show 4 * f / 4 = f by omega]
    unfold fL_tells_174 tlW
    rw [if_pos e0, iB_f, iN_add, Nat.add_zero, eN]
    by_cases c : f = 0
    · have eK : tlK (4 * f) fk false = fk := if_neg (fun h => by omega)
      rw [if_pos (show iN f ≤ (0 : Int32) by rw [i_0, iN_le (by omega) (by omega)]; omega), eK]
      unfold fL_tells_191 fL_tells_192
      rw [e5, if_neg (gi (show 12 * q + 5 < 48 by omega) (by decide)), if_pos rfl, iN_cl (show 12 * q + 5 < 2147483648 by omega), h5]
      unfold fL_tells_214
      rw [if_neg (gi (show 12 * q + 5 < 48 by omega) (by decide)), if_pos (show iN 0 = (0 : Int32) from rfl), iN_cl (show 12 * q + 5 < 2147483648 by omega), i_0, iN_add, Nat.add_zero, i_1]
      exact L_t254 (x := 0) (vd := 1) (fk := fk) hi hq (by omega) (g _) (g5 _) (g6 _) (by omega) (Or.inl ⟨rfl, rfl⟩)
    · have eK : tlK (4 * f) fk false = fk + 1 := if_pos ⟨rfl, by omega⟩
      rw [if_neg (show ¬ iN f ≤ (0 : Int32) by rw [i_0, iN_le (by omega) (by omega)]; omega), eK]
      unfold fL_tells_192
      rw [e5, if_neg (gi (show 12 * q + 5 < 48 by omega) (by decide)), if_neg (show ¬ (1 : Int32) = 0 by decide), iN_cl (show 12 * q + 5 < 2147483648 by omega), h5]
      unfold fL_tells_214
      rw [if_neg (gi (show 12 * q + 5 < 48 by omega) (by decide)), if_pos (show iN 0 = (0 : Int32) from rfl), iN_cl (show 12 * q + 5 < 2147483648 by omega), i_1, iN_add]
      exact L_t254 (x := 1) (vd := 1) (fk := fk) hi hq (by omega) (g _) (g5 _) (g6 _) (by omega) (Or.inr ⟨rfl, rfl⟩)
