/-! one memory for the class's objects and the law's rows: at each place k its int fields (or int row) I k j, its long ones J k j; third: how long the rows of verdicts are -/
abbrev gS : Type := (Nat → Nat → Int32) × (Nat → Nat → Int64) × Nat
def gU {β : Type} (f : Nat → Nat → β) (k j : Nat) (v : β) : Nat → Nat → β := fun k' j' => if k' = k ∧ j' = j then v else f k' j'
def sI (σ : gS) (k j : Nat) (v : Int32) : gS := (gU σ.1 k j v, σ.2)
def sJ (σ : gS) (k j : Nat) (v : Int64) : gS := (σ.1, gU σ.2.1 k j v, σ.2.2)
theorem gU_self {β : Type} (f : Nat → Nat → β) (k j : Nat) (v : β) : gU f k j v k = fun j' => if j' = j then v else f k j' := by
  funext j'; simp [gU]
theorem gU_ne {β : Type} (f : Nat → Nat → β) {k k' : Nat} (j : Nat) (v : β) (h : k' ≠ k) : gU f k j v k' = f k' := by
  funext j'; simp [gU, h]
/-- what stands at a place: a class, or a row (20 of ints, 21 of longs, 23 of changes, 24 of checks, 25 of machines) -/
def gclL : List Nat := [11, 2, 23, 1, 1, 1, 1, 1, 1, 1, 1, 1, 1, 1, 1, 1, 1, 1, 1, 1] ++ [1, 1, 1, 1, 1, 1, 1, 1, 1, 1, 1, 1, 1, 1, 1, 1, 1, 1, 1, 1] ++ [1, 1, 1, 1, 1, 1, 1, 1, 1, 1, 1, 1, 1, 1, 1, 1, 1, 1, 1, 1] ++ [1, 1, 1, 1, 1, 7, 24, 3, 8, 21, 8, 21, 8, 21, 8, 21, 3, 8, 21, 3] ++ [8, 21, 3, 8, 21, 3, 8, 21, 3, 8, 21, 3, 8, 21, 3, 8, 21, 3, 8, 21] ++ [3, 8, 21, 3, 8, 21, 9, 21, 20, 4, 8, 21, 8, 21, 8, 21, 8, 21, 0, 8] ++ [21, 8, 21, 8, 21, 10, 8, 21, 8, 21, 8, 21, 8, 21, 5, 8, 21, 8, 21, 8] ++ [21, 8, 21, 25, 6, 6, 6, 6, 6, 6, 6, 8, 21, 8, 21, 8, 21, 8, 21, 8] ++ [21, 20, 20, 20, 20, 20, 20, 20, 20, 21, 21, 21, 20, 20, 21, 20, 20, 21, 20, 20] ++ [21, 20, 21, 20]
def gcl (k : Nat) : Nat := gclL.getD k 99
def gleL : List Nat := [0, 0, 60, 0, 0, 0, 0, 0, 0, 0, 0, 0, 0, 0, 0, 0, 0, 0, 0, 0] ++ [0, 0, 0, 0, 0, 0, 0, 0, 0, 0, 0, 0, 0, 0, 0, 0, 0, 0, 0, 0] ++ [0, 0, 0, 0, 0, 0, 0, 0, 0, 0, 0, 0, 0, 0, 0, 0, 0, 0, 0, 0] ++ [0, 0, 0, 0, 0, 0, 10, 0, 0, 24, 0, 12, 0, 12, 0, 12, 0, 0, 24, 0] ++ [0, 24, 0, 0, 24, 0, 0, 24, 0, 0, 24, 0, 0, 24, 0, 0, 24, 0, 0, 24] ++ [0, 0, 24, 0, 0, 24, 0, 0, 0, 0, 0, 60, 0, 32, 0, 4, 0, 4, 0, 0] ++ [9, 0, 9, 0, 9, 0, 0, 50, 0, 50, 0, 50, 0, 50, 0, 0, 200, 0, 200, 0] ++ [18, 0, 3, 6, 0, 0, 0, 0, 0, 0, 0, 0, 61, 0, 12, 0, 3, 0, 3, 0] ++ [8, 11, 24, 24, 24, 24, 24, 24, 24, 24, 24, 26, 48, 12, 64, 64, 18, 3, 14, 32] ++ [5, 3, 0, 0]
/-- how long a row is -/
def gle (len k : Nat) : Nat := if k = 107 ∨ k = 108 then len else if k = 182 ∨ k = 183 then 2 * len else gleL.getD k 0
def gfs0 (ad : Nat → Nat) (k : Nat) (f : Nat → Int32) (g : Nat → Int64) : List Value := [.ref (ad 119), .ref (ad 121), .ref (ad 123), .int (f 3), .int (f 4), .int (f 5), .int (f 6)]
def gfs1 (ad : Nat → Nat) (k : Nat) (f : Nat → Int32) (g : Nat → Int64) : List Value := [.int (f 0), .int (f 1), .int (f 2), .int (f 3), .int (f 4), .int (f 5), .long (g 6), .long (g 7), .long (g 8), .int (f 9), .int (f 10), .int (f 11), .int (f 12), .int (f 13)]
def gfs2 (ad : Nat → Nat) (k : Nat) (f : Nat → Int32) (g : Nat → Int64) : List Value := [.ref (ad 2), .ref (ad 3), .ref (ad 4), .int (f 3), .int (f 4)]
def gfs3 (ad : Nat → Nat) (k : Nat) (f : Nat → Int32) (g : Nat → Int64) : List Value := [.int (f 0), .ref (ad (k + 1)), .int (f 2), .long (g 3), .int (f 4), .int (f 5), .int (f 6), .int (f 7), .int (f 8), .int (f 9)]
def gfs4 (ad : Nat → Nat) (k : Nat) (f : Nat → Int32) (g : Nat → Int64) : List Value := [.int (f 0), .int (f 1), .int (f 2), .int (f 3), .ref (ad 110), .ref (ad 112), .ref (ad 114), .ref (ad 116), .long (g 8)]
def gfs5 (ad : Nat → Nat) (k : Nat) (f : Nat → Int32) (g : Nat → Int64) : List Value := [.ref (ad 135), .ref (ad 137), .ref (ad 139), .ref (ad 141), .int (f 4)]
def gfs6 (ad : Nat → Nat) (k : Nat) (f : Nat → Int32) (g : Nat → Int64) : List Value := [.int (f 0), .int (f 1), .int (f 2), .long (g 3), .int (f 4), .int (f 5)]
def gfs7 (ad : Nat → Nat) (k : Nat) (f : Nat → Int32) (g : Nat → Int64) : List Value := [.ref (ad 66), .ref (ad 67), .ref (ad 70), .ref (ad 72), .ref (ad 74), .int (f 5)]
def gfs8 (ad : Nat → Nat) (k : Nat) (f : Nat → Int32) (g : Nat → Int64) : List Value := [.ref (ad (k + 1)), .int (f 1)]
def gfs9 (ad : Nat → Nat) (k : Nat) (f : Nat → Int32) (g : Nat → Int64) : List Value := [.ref (ad 107), .ref (ad 108), .int (f 2)]
def gfs10 (ad : Nat → Nat) (k : Nat) (f : Nat → Int32) (g : Nat → Int64) : List Value := [.ref (ad 126), .ref (ad 128), .ref (ad 130), .ref (ad 132)]
def gfs11 (ad : Nat → Nat) (k : Nat) (f : Nat → Int32) (g : Nat → Int64) : List Value := [.ref (ad 1), .ref (ad 65), .ref (ad 106), .ref (ad 109), .ref (ad 118), .ref (ad 125), .ref (ad 134), .ref (ad 143), .ref (ad 150), .ref (ad 151), .ref (ad 153), .ref (ad 155), .ref (ad 157), .ref (ad 159), .int (f 14), .int (f 15), .int (f 16), .int (f 17), .int (f 18)]
def gfs (ci : Nat) : (ad : Nat → Nat) → (k : Nat) → (f : Nat → Int32) → (g : Nat → Int64) → List Value := match ci with
  | 0 => gfs0
  | 1 => gfs1
  | 2 => gfs2
  | 3 => gfs3
  | 4 => gfs4
  | 5 => gfs5
  | 6 => gfs6
  | 7 => gfs7
  | 8 => gfs8
  | 9 => gfs9
  | 10 => gfs10
  | 11 => gfs11
  | _ => fun _ _ _ _ => []
def gce (y : Nat → ClassId) (ad : Nat → Nat) (k : Nat) (f : Nat → Int32) (g : Nat → Int64) (len : Nat) : va_E := match gcl k with
  | 20 => .inl (y 0, gle len k, .inl f)
  | 21 => .inl (y 1, gle len k, .inr (.inl g))
  | 23 => .inl (y 3, 60, .inr (.inr (.inr (.inr (fun j => if j < 60 then some (ad (5 + j)) else none)))))
  | 24 => .inl (y 4, 10, .inr (.inr (.inr (.inr (fun j => if j < 10 then some (ad (76 + 3 * j)) else none)))))
  | 25 => .inl (y 5, 6, .inr (.inr (.inr (.inr (fun j => if j < 6 then some (ad (144 + j)) else none)))))
  | ci => .inr (ci, gfs ci ad k f g)
def gW1 (y : Nat → ClassId) (ad : Nat → Nat) (σ : gS) (k : Nat) : Nat × va_E := (ad k, gce y ad k (σ.1 k) (σ.2.1 k) σ.2.2)
def GW (L : List Nat) (y : Nat → ClassId) (ad : Nat → Nat) (σ : gS) : va_W := L.map (gW1 y ad σ)
theorem gce_obj {y : Nat → ClassId} {ad : Nat → Nat} {k ci : Nat} {f : Nat → Int32} {g : Nat → Int64} {len : Nat} (h : gcl k = ci) (hc : ci < 13) : gce y ad k f g len = .inr (ci, gfs ci ad k f g) := by
  subst h
  unfold gce
  split <;> first | omega | rfl
theorem gce_int {y : Nat → ClassId} {ad : Nat → Nat} {k : Nat} {f : Nat → Int32} {g : Nat → Int64} {len : Nat} (h : gcl k = 20) : gce y ad k f g len = .inl (y 0, gle len k, .inl f) := by
  unfold gce; rw [h]; rfl
theorem gce_long {y : Nat → ClassId} {ad : Nat → Nat} {k : Nat} {f : Nat → Int32} {g : Nat → Int64} {len : Nat} (h : gcl k = 21) : gce y ad k f g len = .inl (y 1, gle len k, .inr (.inl g)) := by
  unfold gce; rw [h]; rfl
theorem GW_at {L : List Nat} {y : Nat → ClassId} {ad : Nat → Nat} {σ : gS} {k : Nat} (h : k ∈ L) : ∃ q : Nat, (GW L y ad σ)[q]? = some (ad k, gce y ad k (σ.1 k) (σ.2.1 k) σ.2.2) := by
  obtain ⟨q, hq⟩ := List.getElem?_of_mem h
  exact ⟨q, by unfold GW; rw [List.getElem?_map, hq]; rfl⟩
theorem GW_len {L : List Nat} {y : Nat → ClassId} {ad : Nat → Nat} {σ : gS} : (GW L y ad σ).length = L.length := by unfold GW; rw [List.length_map]
/-- one place is laid anew -/
theorem GW_set {A : Nat → Prop} {L : List Nat} {y : Nat → ClassId} {ad : Nat → Nat} {σ σ' : gS} {k q : Nat} {e : va_E} (hD : va_D A (GW L y ad σ)) (hL : k ∈ L) (hq : (GW L y ad σ)[q]? = some (ad k, gce y ad k (σ.1 k) (σ.2.1 k) σ.2.2)) (he : gW1 y ad σ' k = (ad k, e)) (ho : ∀ k', k' ≠ k → gW1 y ad σ' k' = gW1 y ad σ k') : (GW L y ad σ).set q (ad k, e) = GW L y ad σ' := by
  apply List.ext_getElem?
  intro i
  rw [List.getElem?_set]
  have hlen : q < (GW L y ad σ).length := by
    rcases Nat.lt_or_ge q (GW L y ad σ).length with h | h
    · exact h
    · rw [List.getElem?_eq_none h] at hq; cases hq
  by_cases hi : q = i
  · subst hi
    rw [if_pos rfl, if_pos hlen]
    have hq1 : L[q]?.map (gW1 y ad σ) = some (ad k, gce y ad k (σ.1 k) (σ.2.1 k) σ.2.2) := by
      have h9 := hq; unfold GW at h9; rw [List.getElem?_map] at h9; exact h9
    obtain ⟨j, hj⟩ := List.getElem?_of_mem hL
    have hj2 : (GW L y ad σ)[j]? = some (ad k, gce y ad k (σ.1 k) (σ.2.1 k) σ.2.2) := by unfold GW; rw [List.getElem?_map, hj]; rfl
    have e1 : q = j := hD.1 q j _ _ hq hj2 rfl
    subst e1
    unfold GW
    rw [List.getElem?_map, hj]
    show some _ = some (gW1 y ad σ' k)
    rw [he]
  · rw [if_neg hi]
    unfold GW
    rw [List.getElem?_map, List.getElem?_map]
    cases hLi : L[i]? with
    | none => rfl
    | some k' =>
      by_cases hk : k' = k
      · subst hk
        exfalso
        have hi2 : (GW L y ad σ)[i]? = some (ad k', gce y ad k' (σ.1 k') (σ.2.1 k') σ.2.2) := by unfold GW; rw [List.getElem?_map, hLi]; rfl
        exact hi (hD.1 q i _ _ hq hi2 rfl)
      · show some _ = some _
        rw [ho k' hk]
theorem gW1_sI {y : Nat → ClassId} {ad : Nat → Nat} {σ : gS} {k j : Nat} {v : Int32} : ∀ k', k' ≠ k → gW1 y ad (sI σ k j v) k' = gW1 y ad σ k' := fun k' h => by
  show (ad k', gce y ad k' (gU σ.1 k j v k') (σ.2.1 k') σ.2.2) = _
  rw [gU_ne _ _ _ h]; rfl
theorem gW1_sJ {y : Nat → ClassId} {ad : Nat → Nat} {σ : gS} {k j : Nat} {v : Int64} : ∀ k', k' ≠ k → gW1 y ad (sJ σ k j v) k' = gW1 y ad σ k' := fun k' h => by
  show (ad k', gce y ad k' (σ.1 k') (gU σ.2.1 k j v k') σ.2.2) = _
  rw [gU_ne _ _ _ h]; rfl
/-- the world as it stands: cells, apart, and nothing else touched -/
def gY (D : va_G) (y : Nat → ClassId) (A : Nat → Prop) (s : State) (L : List Nat) (ad : Nat → Nat) (σ : gS) (H : Heap) (locs : List Loc) : Prop := va_P D vwCl (GW L y ad σ) H ∧ va_D A (GW L y ad σ) ∧ va_S A s.heap H locs
section GG
variable {p : Program} {l : Launch} {e : Env} {R : Room} {s : State} {m : MethodId} {args : Array Value} {below : List Frame} {meth : Method} {c : Code} {H : Heap} {locs : List Loc} {cells slots : Nat} {Q : State → Prop} {pc : Nat} {ls : Array Slot} {rest : List Value} {cc : ByteArray} {D : va_G} {y : Nat → ClassId} {aS : Nat → Nat} {A : Nat → Prop} {L : List Nat} {ad : Nat → Nat} {σ : gS}
theorem G_get {ci j N index k : Nat} {T : u_T} {own C ref n d : String} {fin : Bool} {v : Value} (hx : p.tables.exec = Jvm.exec) (hb : c.code = cc) (hg : ∀ w ∈ wsL_law, w.before args s = true) (hin : ∀ w ∈ u_ws C T N, w ∈ wsL_law) (hown : s.vm.findClass own = some m.cls) (hK : gK D y aS s) (hY : gY D y A s L ad σ H locs) (hL : k ∈ L) (hk : gcl k = ci) (hci : ci < 13) (hc : vwCl[ci]? = some (C, T, N)) (hj : j < N) (hT : T j = (ref, n, d, fin)) (hlink : (Cond.fieldLink own index ref n d).before args s = true) (hv : (gfs ci ad k (σ.1 k) (σ.2.1 k))[j]? = some v) (hdg : decode cc pc = .ok (.getfield index, 3))
    (kk : W p l e R s m args below meth c H locs cells slots Q (F0 m (pc + 3) ls (v :: rest))) : W p l e R s m args below meth c H locs cells slots Q (F0 m pc ls (.ref (ad k) :: rest)) := by
  obtain ⟨q, hq⟩ := GW_at (y := y) (ad := ad) (σ := σ) hL
  rw [gce_obj hk hci] at hq
  exact gm_get hx hb hg hin hown hK.1 hY.1 q hq hc j hj hT hlink hv hdg kk
theorem G_putI {ci j N index k : Nat} {T : u_T} {own C ref n d : String} {v : Int32} {ty : FieldType} (hx : p.tables.exec = Jvm.exec) (hb : c.code = cc) (hg : ∀ w ∈ wsL_law, w.before args s = true) (hin : ∀ w ∈ u_ws C T N, w ∈ wsL_law) (ty0 : Nat → FieldType) (hty : ∀ k, k < N → parseFieldDescriptor (T k).2.2.1 = some (ty0 k)) (hnm : ∀ a, a < N → ∀ b, b < N → a ≠ b → (T a).2.1 ≠ (T b).2.1) (hown : s.vm.findClass own = some m.cls) (hK : gK D y aS s) (hY : gY D y A s L ad σ H locs) (hL : k ∈ L) (hk : gcl k = ci) (hci : ci < 13) (hc : vwCl[ci]? = some (C, T, N)) (hj : j < N) (hT : T j = (ref, n, d, false)) (hlink : (Cond.fieldLink own index ref n d).before args s = true) (hd : parseFieldDescriptor d = some ty) (hn : narrow ty (.int v) = .int v) (hfit : fits ty (.int v) = true) (hfs : ∀ (f : Nat → Int32) (g : Nat → Int64), (gfs ci ad k f g).set j (.int v) = gfs ci ad k (fun j' => if j' = j then v else f j') g) (hlen : ∀ (f : Nat → Int32) (g : Nat → Int64), j < (gfs ci ad k f g).length) (hdg : decode cc pc = .ok (.putfield index, 3))
    (kk : ∀ (H1 : Heap) (locs1 : List Loc), gY D y A s L ad (sI σ k j v) H1 locs1 → W p l e R s m args below meth c H1 locs1 cells slots Q (F0 m (pc + 3) ls rest)) : W p l e R s m args below meth c H locs cells slots Q (F0 m pc ls (.int v :: .ref (ad k) :: rest)) := by
  obtain ⟨q, hq⟩ := GW_at (y := y) (ad := ad) (σ := σ) hL
  have hs := GW_set (σ' := sI σ k j v) (e := .inr (ci, (gfs ci ad k (σ.1 k) (σ.2.1 k)).set j (.int v))) hY.2.1 hL hq (by
    show (ad k, gce y ad k (gU σ.1 k j v k) (σ.2.1 k) σ.2.2) = _
    rw [gU_self, gce_obj hk hci, hfs]) gW1_sI
  rw [gce_obj hk hci] at hq
  refine gm_put hx hb hg hin ty0 hty hnm hown hK.1 hY.1 hY.2.1 hY.2.2 q hq hc j hj hT hlink hd hn hfit (hlen _ _) hdg (fun H1 locs1 hP hD hS => ?_)
  rw [hs] at hP hD
  exact kk H1 locs1 ⟨hP, hD, hS⟩
theorem G_putJ {ci j N index k : Nat} {T : u_T} {own C ref n d : String} {v : Int64} {ty : FieldType} (hx : p.tables.exec = Jvm.exec) (hb : c.code = cc) (hg : ∀ w ∈ wsL_law, w.before args s = true) (hin : ∀ w ∈ u_ws C T N, w ∈ wsL_law) (ty0 : Nat → FieldType) (hty : ∀ k, k < N → parseFieldDescriptor (T k).2.2.1 = some (ty0 k)) (hnm : ∀ a, a < N → ∀ b, b < N → a ≠ b → (T a).2.1 ≠ (T b).2.1) (hown : s.vm.findClass own = some m.cls) (hK : gK D y aS s) (hY : gY D y A s L ad σ H locs) (hL : k ∈ L) (hk : gcl k = ci) (hci : ci < 13) (hc : vwCl[ci]? = some (C, T, N)) (hj : j < N) (hT : T j = (ref, n, d, false)) (hlink : (Cond.fieldLink own index ref n d).before args s = true) (hd : parseFieldDescriptor d = some ty) (hn : narrow ty (.long v) = .long v) (hfit : fits ty (.long v) = true) (hfs : ∀ (f : Nat → Int32) (g : Nat → Int64), (gfs ci ad k f g).set j (.long v) = gfs ci ad k f (fun j' => if j' = j then v else g j')) (hlen : ∀ (f : Nat → Int32) (g : Nat → Int64), j < (gfs ci ad k f g).length) (hdg : decode cc pc = .ok (.putfield index, 3))
    (kk : ∀ (H1 : Heap) (locs1 : List Loc), gY D y A s L ad (sJ σ k j v) H1 locs1 → W p l e R s m args below meth c H1 locs1 cells slots Q (F0 m (pc + 3) ls rest)) : W p l e R s m args below meth c H locs cells slots Q (F0 m pc ls (.long v :: .ref (ad k) :: rest)) := by
  obtain ⟨q, hq⟩ := GW_at (y := y) (ad := ad) (σ := σ) hL
  have hs := GW_set (σ' := sJ σ k j v) (e := .inr (ci, (gfs ci ad k (σ.1 k) (σ.2.1 k)).set j (.long v))) hY.2.1 hL hq (by
    show (ad k, gce y ad k (σ.1 k) (gU σ.2.1 k j v k) σ.2.2) = _
    rw [gU_self, gce_obj hk hci, hfs]) gW1_sJ
  rw [gce_obj hk hci] at hq
  refine gm_put hx hb hg hin ty0 hty hnm hown hK.1 hY.1 hY.2.1 hY.2.2 q hq hc j hj hT hlink hd hn hfit (hlen _ _) hdg (fun H1 locs1 hP hD hS => ?_)
  rw [hs] at hP hD
  exact kk H1 locs1 ⟨hP, hD, hS⟩
theorem G_iald {k j : Nat} {i : Int32} (hx : p.tables.exec = Jvm.exec) (hb : c.code = cc) (hK : gK D y aS s) (hY : gY D y A s L ad σ H locs) (hL : k ∈ L) (hk : gcl k = 20) (hin : ¬ (i < 0 ∨ gle σ.2.2 k ≤ i.toNatClampNeg)) (hj : i.toNatClampNeg = j) (hdg : decode cc pc = .ok (.iaload, 1))
    (kk : W p l e R s m args below meth c H locs cells slots Q (F0 m (pc + 1) ls (.int (σ.1 k j) :: rest))) : W p l e R s m args below meth c H locs cells slots Q (F0 m pc ls (.int i :: .ref (ad k) :: rest)) := by
  subst hj
  obtain ⟨q, hq⟩ := GW_at (y := y) (ad := ad) (σ := σ) hL
  rw [gce_int hk] at hq
  exact va_iald hx hb hK.1 hY.1 q 0 hq rfl hin hdg kk
theorem G_lald {k j : Nat} {i : Int32} (hx : p.tables.exec = Jvm.exec) (hb : c.code = cc) (hK : gK D y aS s) (hY : gY D y A s L ad σ H locs) (hL : k ∈ L) (hk : gcl k = 21) (hin : ¬ (i < 0 ∨ gle σ.2.2 k ≤ i.toNatClampNeg)) (hj : i.toNatClampNeg = j) (hdg : decode cc pc = .ok (.laload, 1))
    (kk : W p l e R s m args below meth c H locs cells slots Q (F0 m (pc + 1) ls (.long (σ.2.1 k j) :: rest))) : W p l e R s m args below meth c H locs cells slots Q (F0 m pc ls (.int i :: .ref (ad k) :: rest)) := by
  subst hj
  obtain ⟨q, hq⟩ := GW_at (y := y) (ad := ad) (σ := σ) hL
  rw [gce_long hk] at hq
  exact va_lald hx hb hK.1 hY.1 q 1 hq rfl hin hdg kk
theorem G_iast {k j : Nat} {i x : Int32} (hx : p.tables.exec = Jvm.exec) (hb : c.code = cc) (hK : gK D y aS s) (hY : gY D y A s L ad σ H locs) (hL : k ∈ L) (hk : gcl k = 20) (hin : ¬ (i < 0 ∨ gle σ.2.2 k ≤ i.toNatClampNeg)) (hj : i.toNatClampNeg = j) (hdg : decode cc pc = .ok (.iastore, 1))
    (kk : ∀ (H1 : Heap) (locs1 : List Loc), gY D y A s L ad (sI σ k j x) H1 locs1 → W p l e R s m args below meth c H1 locs1 cells slots Q (F0 m (pc + 1) ls rest)) : W p l e R s m args below meth c H locs cells slots Q (F0 m pc ls (.int x :: .int i :: .ref (ad k) :: rest)) := by
  subst hj
  obtain ⟨q, hq⟩ := GW_at (y := y) (ad := ad) (σ := σ) hL
  have hs := GW_set (σ' := sI σ k i.toNatClampNeg x) (e := .inl (y 0, gle σ.2.2 k, .inl (upd (σ.1 k) i.toNatClampNeg x))) hY.2.1 hL hq (by
    show (ad k, gce y ad k (gU σ.1 k i.toNatClampNeg x k) (σ.2.1 k) σ.2.2) = _
    rw [gU_self, gce_int hk]; rfl) gW1_sI
  rw [gce_int hk] at hq
  refine va_iast hx hb hK.1 hY.1 hY.2.1 hY.2.2 q 0 hq rfl hin hdg (fun H1 locs1 hP hD hS => ?_)
  rw [hs] at hP hD
  exact kk H1 locs1 ⟨hP, hD, hS⟩
theorem G_last {k j : Nat} {i : Int32} {x : Int64} (hx : p.tables.exec = Jvm.exec) (hb : c.code = cc) (hK : gK D y aS s) (hY : gY D y A s L ad σ H locs) (hL : k ∈ L) (hk : gcl k = 21) (hin : ¬ (i < 0 ∨ gle σ.2.2 k ≤ i.toNatClampNeg)) (hj : i.toNatClampNeg = j) (hdg : decode cc pc = .ok (.lastore, 1))
    (kk : ∀ (H1 : Heap) (locs1 : List Loc), gY D y A s L ad (sJ σ k j x) H1 locs1 → W p l e R s m args below meth c H1 locs1 cells slots Q (F0 m (pc + 1) ls rest)) : W p l e R s m args below meth c H locs cells slots Q (F0 m pc ls (.long x :: .int i :: .ref (ad k) :: rest)) := by
  subst hj
  obtain ⟨q, hq⟩ := GW_at (y := y) (ad := ad) (σ := σ) hL
  have hs := GW_set (σ' := sJ σ k i.toNatClampNeg x) (e := .inl (y 1, gle σ.2.2 k, .inr (.inl (vp_updL (σ.2.1 k) i.toNatClampNeg x)))) hY.2.1 hL hq (by
    show (ad k, gce y ad k (σ.1 k) (gU σ.2.1 k i.toNatClampNeg x k) σ.2.2) = _
    rw [gU_self, gce_long hk]; rfl) gW1_sJ
  rw [gce_long hk] at hq
  refine va_last hx hb hK.1 hY.1 hY.2.1 hY.2.2 q 1 hq rfl hin hdg (fun H1 locs1 hP hD hS => ?_)
  rw [hs] at hP hD
  exact kk H1 locs1 ⟨hP, hD, hS⟩
theorem G_alenI {k : Nat} (hx : p.tables.exec = Jvm.exec) (hb : c.code = cc) (hK : gK D y aS s) (hY : gY D y A s L ad σ H locs) (hL : k ∈ L) (hk : gcl k = 20) (hdg : decode cc pc = .ok (.arraylength, 1))
    (kk : W p l e R s m args below meth c H locs cells slots Q (F0 m (pc + 1) ls (.int (Int32.ofNat (gle σ.2.2 k)) :: rest))) : W p l e R s m args below meth c H locs cells slots Q (F0 m pc ls (.ref (ad k) :: rest)) := by
  obtain ⟨q, hq⟩ := GW_at (y := y) (ad := ad) (σ := σ) hL
  rw [gce_int hk] at hq
  exact va_alen hx hb hK.1 hY.1 q 0 hq rfl rfl hdg kk
theorem G_alenJ {k : Nat} (hx : p.tables.exec = Jvm.exec) (hb : c.code = cc) (hK : gK D y aS s) (hY : gY D y A s L ad σ H locs) (hL : k ∈ L) (hk : gcl k = 21) (hdg : decode cc pc = .ok (.arraylength, 1))
    (kk : W p l e R s m args below meth c H locs cells slots Q (F0 m (pc + 1) ls (.int (Int32.ofNat (gle σ.2.2 k)) :: rest))) : W p l e R s m args below meth c H locs cells slots Q (F0 m pc ls (.ref (ad k) :: rest)) := by
  obtain ⟨q, hq⟩ := GW_at (y := y) (ad := ad) (σ := σ) hL
  rw [gce_long hk] at hq
  exact va_alen hx hb hK.1 hY.1 q 1 hq rfl rfl hdg kk
end GG
