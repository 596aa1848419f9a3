
/-! the world while it is made -/
def gStartI (k j : Nat) : Int32 := match gcl k with
  | 1 => if j = 0 then (if k < 5 then -1 else Int32.ofNat (k - 5)) else if j = 2 ∨ j = 4 then -1 else 0
  | 3 => if j = 0 then (if k < 76 then -1 else Int32.ofNat ((k - 76) / 3)) else 0
  | 4 => if j = 0 ∨ j = 1 then 1 else 0
  | 6 => if j = 0 then (if k = 144 then 1 else 0) else if j = 1 ∨ j = 2 then -1 else 0
  | 11 => if j = 16 then -1 else 0
  | _ => 0
def gStart : gS := (gStartI, fun _ _ => 0, 256)
/-- a world that speaks of its own places alone -/
def gClL (L : List Nat) : Prop := ∀ (y : Nat → ClassId) (ad ad' : Nat → Nat) (σ : gS), (∀ j ∈ L, ad j = ad' j) → ∀ k ∈ L, gW1 y ad σ k = gW1 y ad' σ k
theorem gClL_nil : gClL [] := fun _ _ _ _ _ _ h => nomatch h
theorem gClL_app {L1 L2 : List Nat} (h1 : gClL L1) (h2 : gClL L2) : gClL (L1 ++ L2) := fun y ad ad' σ h k hk => by
  rcases List.mem_append.mp hk with q | q
  · exact h1 y ad ad' σ (fun j hj => h j (List.mem_append_left _ hj)) k q
  · exact h2 y ad ad' σ (fun j hj => h j (List.mem_append_right _ hj)) k q
theorem GW_app {L1 L2 : List Nat} {y : Nat → ClassId} {ad : Nat → Nat} {σ : gS} : GW (L1 ++ L2) y ad σ = GW L1 y ad σ ++ GW L2 y ad σ := by
  unfold GW; exact List.map_append
theorem GW_cl {L : List Nat} {y : Nat → ClassId} {ad ad' : Nat → Nat} {σ : gS} (hc : gClL L) (h : ∀ j ∈ L, ad j = ad' j) : GW L y ad σ = GW L y ad' σ := by
  unfold GW
  exact List.map_congr_left (fun k hk => hc y ad ad' σ h k hk)
theorem G_merge {L L2 : List Nat} {y : Nat → ClassId} {ad u : Nat → Nat} {σ : gS} (hc : gClL L) (hc2 : gClL L2) (hd : ∀ k, k ∈ L2 → k ∉ L) : ∃ ad' : Nat → Nat, (∀ k, k ∈ L → ad' k = ad k) ∧ (∀ k, k ∈ L2 → ad' k = u k) ∧ ∀ E : va_W, E ++ GW L y ad σ ++ GW L2 y u σ = E ++ GW (L ++ L2) y ad' σ := by
  refine ⟨fun k => if k ∈ L then ad k else u k, fun k hk => if_pos hk, fun k hk => if_neg (hd k hk), fun E => ?_⟩
  rw [GW_app, List.append_assoc]
  congr 1
  congr 1
  · exact GW_cl hc (fun j hj => (if_pos hj).symm)
  · exact GW_cl hc2 (fun j hj => (if_neg (hd j hj)).symm)
theorem va_nd_range (n : Nat) : ∀ (l : List Nat), l.Nodup → va_nd l = true
  | [], _ => rfl
  | a :: l, h => by
    have h2 := List.nodup_cons.mp h
    show (decide (a ∉ l) && va_nd l) = true
    rw [va_nd_range n l h2.2, decide_eq_true h2.1]; rfl
theorem g_mapr (ws : va_W) (e : Nat × va_E) : (List.range ws.length).map (fun i => (ws ++ [e])[i]?) = ws.map some := by
  apply List.ext_getElem?
  intro i
  rw [List.getElem?_map, List.getElem?_map]
  rcases Nat.lt_or_ge i ws.length with h | h
  · rw [List.getElem?_range h, List.getElem?_eq_getElem h]
    show some ((ws ++ [e])[i]?) = _
    rw [List.getElem?_append_left h, List.getElem?_eq_getElem h]; rfl
  · rw [List.getElem?_eq_none h, List.getElem?_eq_none (by rw [List.length_range]; exact h)]; rfl
theorem va_P_mem {D : va_G} {ws ws' : va_W} {H : Heap} (hP : va_P D vwCl ws H) (h : ∀ e ∈ ws', e ∈ ws) : va_P D vwCl ws' H := fun k q hk => by
  obtain ⟨j, hj⟩ := List.getElem?_of_mem (h q (List.mem_of_getElem? hk))
  exact hP j q hj
theorem va_D_nd {A : Nat → Prop} {ws : va_W} : va_D A ws ↔ (ws.map Prod.fst).Nodup ∧ ∀ e ∈ ws, A e.1 := by
  constructor
  · intro ⟨h1, h2⟩
    refine ⟨?_, fun e he => by obtain ⟨j, hj⟩ := List.getElem?_of_mem he; exact h2 j e hj⟩
    unfold List.Nodup
    rw [List.pairwise_iff_getElem]
    intro i j hi hj hij he
    rw [List.length_map] at hi hj
    rw [List.getElem_map, List.getElem_map] at he
    exact Nat.ne_of_lt hij (h1 i j _ _ (List.getElem?_eq_getElem hi) (List.getElem?_eq_getElem hj) he)
  · intro ⟨h1, h2⟩
    refine ⟨fun i j p q hi hj he => ?_, fun k e hk => h2 e (List.mem_of_getElem? hk)⟩
    unfold List.Nodup at h1
    rw [List.pairwise_iff_getElem] at h1
    obtain ⟨li, ei⟩ := List.getElem?_eq_some_iff.mp hi
    obtain ⟨lj, ej⟩ := List.getElem?_eq_some_iff.mp hj
    rcases Nat.lt_trichotomy i j with h | h | h
    · exact absurd (by rw [List.getElem_map, List.getElem_map, ei, ej]; exact he) (h1 i j (by rw [List.length_map]; exact li) (by rw [List.length_map]; exact lj) h)
    · exact h
    · exact absurd (by rw [List.getElem_map, List.getElem_map, ei, ej]; exact he.symm) (h1 j i (by rw [List.length_map]; exact lj) (by rw [List.length_map]; exact li) h)
theorem va_perm {D : va_G} {A : Nat → Prop} {ws ws' : va_W} {H : Heap} (hp : List.Perm ws ws') (hP : va_P D vwCl ws H) (hD : va_D A ws) : va_P D vwCl ws' H ∧ va_D A ws' := by
  refine ⟨va_P_mem hP (fun e he => hp.mem_iff.mpr he), va_D_nd.mpr ?_⟩
  obtain ⟨h1, h2⟩ := va_D_nd.mp hD
  exact ⟨(hp.map Prod.fst).nodup_iff.mp h1, fun e he => h2 e (hp.mem_iff.mpr he)⟩
theorem va_upE {f : Nat → Option Nat} {i j : Nat} {v : Option Nat} : va_up f i v j = if j = i then v else f j := by
  unfold va_up; rfl
section GK
variable {p : Program} {l : Launch} {e : Env} {R : Room} {s : State} {m : MethodId} {args : Array Value} {below : List Frame} {meth : Method} {c : Code} {H : Heap} {locs : List Loc} {cells slots mc ms : Nat} {Q : State → Prop} {D : va_G} {y : Nat → ClassId} {aS : Nat → Nat} {A : Nat → Prop} {ws : va_W} {e0 : Nat × va_E} {a : Array Value} {pc : Nat} {ls : Array Slot} {st0 rest : List Value} {S : Type} {W1 : S → va_W}
/-- a constructor of what was just made -/
theorem g_avI {post : S → Prop} (hr : va_Run p l e R s m args below meth c H locs cells slots mc ms (F0 m pc ls st0) rest (va_Qv post (fun u => gO D (va_A [e0] H.size) (W1 u)) (va_A [e0] H.size) a) (va_A [e0] H.size)) (hP : va_P D vwCl (ws ++ [e0]) H) (hD : va_D A (ws ++ [e0])) (hS : va_S A s.heap H locs) (hA : ∀ q, s.heap.size ≤ q → A q)
    (kk : ∀ (u : S) (H1 : Heap) (locs1 : List Loc), post u → va_P D vwCl (ws ++ W1 u) H1 → va_D A (ws ++ W1 u) → va_S A s.heap H1 locs1 → W p l e R s m args below meth c H1 locs1 (cells + mc) (slots + ms) Q (F0 m (pc + 3) ls (rest))) : W p l e R s m args below meth c H locs cells slots Q (F0 m pc ls st0) :=
  g_av hr hP hD hS hA [ws.length] (List.range ws.length) (by simp) (g_mapr ws e0) (va_nd_range 0 _ List.nodup_range) (fun i hi => by
    have := List.mem_range.mp hi
    rw [List.mem_singleton]; omega) kk
theorem g_preI {As : List Value} (hK : gK D y aS s) (hP : va_P D vwCl (ws ++ [e0]) H) (hD : va_D A (ws ++ [e0])) : PreS s H (va_Pc As (gI D y aS [e0] H.size)) As :=
  g_preS hK hP hD [ws.length] (by simp) rfl
/-- a call over what stands behind the first one -/
theorem g_avT {W0 : va_W} {post : S → Prop} (hr : va_Run p l e R s m args below meth c H locs cells slots mc ms (F0 m pc ls st0) rest (va_Qv post (fun u => gO D (va_A W0 H.size) (W1 u)) (va_A W0 H.size) a) (va_A W0 H.size)) (hP : va_P D vwCl ([e0] ++ W0) H) (hD : va_D A ([e0] ++ W0)) (hS : va_S A s.heap H locs) (hA : ∀ q, s.heap.size ≤ q → A q)
    (kk : ∀ (u : S) (H1 : Heap) (locs1 : List Loc), post u → va_P D vwCl ([e0] ++ W1 u) H1 → va_D A ([e0] ++ W1 u) → va_S A s.heap H1 locs1 → W p l e R s m args below meth c H1 locs1 (cells + mc) (slots + ms) Q (F0 m (pc + 3) ls (rest))) : W p l e R s m args below meth c H locs cells slots Q (F0 m pc ls st0) :=
  g_av hr hP hD hS hA ((List.range W0.length).map (· + 1)) [0] (by
    apply List.ext_getElem?
    intro i
    rw [List.map_map, List.getElem?_map, List.getElem?_map]
    rcases Nat.lt_or_ge i W0.length with h | h
    · rw [List.getElem?_range h, List.getElem?_eq_getElem h]
      show some (([e0] ++ W0)[i + 1]?) = _
      show some (W0[i]?) = _
      rw [List.getElem?_eq_getElem h]; rfl
    · rw [List.getElem?_eq_none h, List.getElem?_eq_none (by rw [List.length_range]; exact h)]; rfl) rfl rfl (fun i hi => by
    rw [List.mem_singleton] at hi
    subst hi
    intro h
    obtain ⟨j, -, h2⟩ := List.mem_map.mp h
    omega) kk
theorem g_preT {W0 : va_W} {As : List Value} {b ci q1 : Nat} {q : vw_C} {fs : List Value} (hK : gK D y aS s) (hP : va_P D vwCl ([e0] ++ W0) H) (hD : va_D A ([e0] ++ W0)) (hc : vwCl[ci]? = some q) (he : W0[q1]? = some (b, .inr (ci, fs))) : PreV s H q.1 b (va_Pc (.ref b :: As) (gI D y aS W0 H.size)) As := by
  refine g_preV hK hP hD ((List.range W0.length).map (· + 1)) ?_ ?_ hc (q0 := q1 + 1) he
  · apply List.ext_getElem?
    intro i
    rw [List.map_map, List.getElem?_map, List.getElem?_map]
    rcases Nat.lt_or_ge i W0.length with h | h
    · rw [List.getElem?_range h, List.getElem?_eq_getElem h]
      show some (([e0] ++ W0)[i + 1]?) = _
      show some (W0[i]?) = _
      rw [List.getElem?_eq_getElem h]; rfl
    · rw [List.getElem?_eq_none h, List.getElem?_eq_none (by rw [List.length_range]; exact h)]; rfl
  · refine va_nd_range 0 _ ?_
    unfold List.Nodup
    rw [List.pairwise_map]
    exact List.Pairwise.imp (fun h h2 => h (Nat.succ.inj h2)) (show List.Nodup (List.range W0.length) from List.nodup_range)
end GK
theorem gW_obj {k ci : Nat} {y : Nat → ClassId} {ad : Nat → Nat} {σ : gS} (h : gcl k = ci) (hc : ci < 13) : gW1 y ad σ k = (ad k, .inr (ci, gfs ci ad k (σ.1 k) (σ.2.1 k))) := by
  show (ad k, gce y ad k _ _ _) = _
  rw [gce_obj h hc]
theorem gW_long {k : Nat} {y : Nat → ClassId} {ad : Nat → Nat} {σ : gS} (h : gcl k = 21) : gW1 y ad σ k = (ad k, .inl (y 1, gle σ.2.2 k, .inr (.inl (σ.2.1 k)))) := by
  show (ad k, gce y ad k _ _ _) = _
  rw [gce_long h]
theorem gW_int {k : Nat} {y : Nat → ClassId} {ad : Nat → Nat} {σ : gS} (h : gcl k = 20) : gW1 y ad σ k = (ad k, .inl (y 0, gle σ.2.2 k, .inl (σ.1 k))) := by
  show (ad k, gce y ad k _ _ _) = _
  rw [gce_int h]
theorem gClL_change {k : Nat} (h : gcl k = 1) : gClL [k] := fun y ad ad' σ ha j hj => by
  rw [List.mem_singleton] at hj; subst hj
  rw [gW_obj h (by decide), gW_obj h (by decide), ha j (List.mem_singleton_self _)]; rfl
theorem gClL_machine {k : Nat} (h : gcl k = 6) : gClL [k] := fun y ad ad' σ ha j hj => by
  rw [List.mem_singleton] at hj; subst hj
  rw [gW_obj h (by decide), gW_obj h (by decide), ha j (List.mem_singleton_self _)]; rfl
theorem gClL_row {k : Nat} (h : gcl k = 8) (h1 : gcl (k + 1) = 21) : gClL [k, k + 1] := fun y ad ad' σ ha j hj => by
  have a0 := ha k (by simp)
  have a1 := ha (k + 1) (by simp)
  simp only [List.mem_cons, List.not_mem_nil, or_false] at hj
  rcases hj with rfl | rfl
  · rw [gW_obj h (by decide), gW_obj h (by decide), a0]
    show (_, Sum.inr (8, [Value.ref (ad (j + 1)), _])) = (_, Sum.inr (8, [Value.ref (ad' (j + 1)), _]))
    rw [a1]
  · rw [gW_long h1, gW_long h1, a1]
theorem gClL_chk {k : Nat} (h : gcl k = 3) : gClL ([k + 1, k + 1 + 1] ++ [k]) := fun y ad ad' σ ha j hj => by
  have hr : gcl (k + 1) = 8 := gcl_chk h
  have hl : gcl (k + 1 + 1) = 21 := gcl_row hr
  rcases List.mem_append.mp hj with q | q
  · exact gClL_row hr hl y ad ad' σ (fun j hj => ha j (List.mem_append_left _ hj)) j q
  · rw [List.mem_singleton] at q; subst q
    rw [gW_obj h (by decide), gW_obj h (by decide), ha j (by simp)]
    show (_, Sum.inr (3, [_, Value.ref (ad (j + 1)), _, _, _, _, _, _, _, _])) = (_, Sum.inr (3, [_, Value.ref (ad' (j + 1)), _, _, _, _, _, _, _, _]))
    rw [ha (j + 1) (by simp)]

theorem G_abs {K addr : Nat} {en : va_E} {L : List Nat} {y : Nat → ClassId} {ad : Nat → Nat} {σ : gS} (hc : gClL L) (hK : K ∉ L) (hen : gW1 y (fun k => if k = K then addr else ad k) σ K = (addr, en)) : (addr, en) :: GW L y ad σ = GW (K :: L) y (fun k => if k = K then addr else ad k) σ := by
  show _ = gW1 y _ σ K :: GW L y _ σ
  rw [hen]
  congr 1
  exact GW_cl hc (fun j hj => (if_neg (fun h => by subst h; exact hK hj)).symm)
theorem gClL_cons {K : Nat} {L : List Nat} (hc : gClL L) (h : ∀ (y : Nat → ClassId) (ad ad' : Nat → Nat) (σ : gS), ad K = ad' K → (∀ j ∈ L, ad j = ad' j) → gW1 y ad σ K = gW1 y ad' σ K) : gClL (K :: L) := fun y ad ad' σ ha k hk => by
  rcases List.mem_cons.mp hk with rfl | q
  · exact h y ad ad' σ (ha _ List.mem_cons_self) (fun j hj => ha j (List.mem_cons_of_mem _ hj))
  · exact hc y ad ad' σ (fun j hj => ha j (List.mem_cons_of_mem _ hj)) k q
theorem g_permA {D : va_G} {A : Nat → Prop} {E X : va_W} {x : Nat × va_E} {H : Heap} (hP : va_P D vwCl (E ++ X ++ [x]) H) (hD : va_D A (E ++ X ++ [x])) : va_P D vwCl (E ++ (x :: X)) H ∧ va_D A (E ++ (x :: X)) :=
  va_perm (by rw [List.append_assoc]; exact List.Perm.append_left _ (List.perm_append_comm (l₁ := X) (l₂ := [x]))) hP hD
theorem g_dec_gcl {k : Nat} {c : Nat} (h : gcl k = c) : gcl k = c := h
theorem g_i0 {n : Nat} (h : n < 2147483648) : (Int32.ofNat n).toInt = n := Int32.toInt_ofNat_of_lt (by omega)
theorem g_iN {n : Nat} (h : n < 2147483648) : (Int32.ofNat n).toNatClampNeg = n := by
  have := g_i0 h
  show (Int32.ofNat n).toInt.toNat = n
  rw [this]; omega
theorem g_ilt {n k : Nat} (hk : k < 2147483648) (h : n < k) : ¬ (Int32.ofNat k ≤ Int32.ofNat n) := by
  rw [Int32.le_iff_toInt_le, g_i0 hk, g_i0 (by omega)]; omega
theorem g_ige {n : Nat} : Int32.ofNat n ≤ Int32.ofNat n := by rw [Int32.le_iff_toInt_le]; omega
theorem g_isu (n : Nat) : Int32.ofNat n + 1 = Int32.ofNat (n + 1) := (Int32.ofNat_add n 1).symm
theorem g_in0 {n : Nat} (h : n < 2147483648) : ¬ (Int32.ofNat n < 0) := by
  rw [Int32.lt_iff_toInt_lt, g_i0 h]; show ¬ ((n : Int) < 0); omega
theorem gW_a23 {k : Nat} {y : Nat → ClassId} {ad : Nat → Nat} {σ : gS} (h : gcl k = 23) : gW1 y ad σ k = (ad k, .inl (y 3, 60, .inr (.inr (.inr (.inr (fun j => if j < 60 then some (ad (5 + j)) else none)))))) := by
  show (ad k, gce y ad k _ _ _) = _
  unfold gce; rw [h]; rfl
theorem gW_a24 {k : Nat} {y : Nat → ClassId} {ad : Nat → Nat} {σ : gS} (h : gcl k = 24) : gW1 y ad σ k = (ad k, .inl (y 4, 10, .inr (.inr (.inr (.inr (fun j => if j < 10 then some (ad (76 + 3 * j)) else none)))))) := by
  show (ad k, gce y ad k _ _ _) = _
  unfold gce; rw [h]; rfl
theorem gW_a25 {k : Nat} {y : Nat → ClassId} {ad : Nat → Nat} {σ : gS} (h : gcl k = 25) : gW1 y ad σ k = (ad k, .inl (y 5, 6, .inr (.inr (.inr (.inr (fun j => if j < 6 then some (ad (144 + j)) else none)))))) := by
  show (ad k, gce y ad k _ _ _) = _
  unfold gce; rw [h]; rfl
theorem g_start1 {k j : Nat} (h : gcl k = 1) (hj : j ≠ 0) : gStart.1 k j = if j = 2 ∨ j = 4 then -1 else 0 := by
  show gStartI k j = _
  unfold gStartI; rw [h]; exact if_neg hj
theorem g_start3 {k j : Nat} (h : gcl k = 3) (hj : j ≠ 0) : gStart.1 k j = 0 := by
  show gStartI k j = _
  unfold gStartI; rw [h]; exact if_neg hj
theorem g_start6 {k j : Nat} (h : gcl k = 6) (hj : j ≠ 0) : gStart.1 k j = if j = 1 ∨ j = 2 then -1 else 0 := by
  show gStartI k j = _
  unfold gStartI; rw [h]; exact if_neg hj
theorem g_start8 {k j : Nat} (h : gcl k = 8) : gStart.1 k j = 0 := by
  show gStartI k j = _
  unfold gStartI; rw [h]; rfl
theorem GW_sg {L : List Nat} {y : Nat → ClassId} {ad : Nat → Nat} {σ σ' : gS} (h : ∀ k ∈ L, σ.1 k = σ'.1 k ∧ σ.2.1 k = σ'.2.1 k) (hl : σ.2.2 = σ'.2.2) : GW L y ad σ = GW L y ad σ' := by
  unfold GW
  refine List.map_congr_left (fun k hk => ?_)
  show (ad k, gce y ad k (σ.1 k) (σ.2.1 k) σ.2.2) = _
  rw [(h k hk).1, (h k hk).2, hl]; rfl
theorem g_numC {i : Nat} (h : i < 60) : gStart.1 (5 + i) 0 = Int32.ofNat i := by
  show gStartI (5 + i) 0 = _
  unfold gStartI; rw [gc_23k h]
  show (if (0 : Nat) = 0 then (if 5 + i < 5 then -1 else Int32.ofNat (5 + i - 5)) else _) = _
  rw [if_pos rfl, if_neg (by omega), Nat.add_sub_cancel_left]
theorem g_numK {i : Nat} (h : i < 10) : gStart.1 (76 + 3 * i) 0 = Int32.ofNat i := by
  show gStartI (76 + 3 * i) 0 = _
  unfold gStartI; rw [gc_24k h]
  show (if (0 : Nat) = 0 then (if 76 + 3 * i < 76 then -1 else Int32.ofNat ((76 + 3 * i - 76) / 3)) else _) = _
  rw [if_pos rfl, if_neg (by omega), show (76 + 3 * i - 76) / 3 = i by omega]
theorem g_numM {i : Nat} (h : i < 6) : gStart.1 (144 + i) 0 = (if i = 0 then 1 else 0) := by
  show gStartI (144 + i) 0 = _
  unfold gStartI; rw [gc_25k h]
  show (if (0 : Nat) = 0 then (if 144 + i = 144 then 1 else 0) else _) = _
  rw [if_pos rfl]
  by_cases q : i = 0
  · rw [if_pos q, if_pos (by omega)]
  · rw [if_neg q, if_neg (by omega)]
theorem g_leK {i : Nat} (h : i < 10) : gle 256 (76 + 3 * i + 1 + 1) = 24 := (show ∀ i : Nat, i < 10 → gle 256 (76 + 3 * i + 1 + 1) = 24 by decide +kernel) i h
section GP
variable {p : Program} {l : Launch} {e : Env} {R : Room} {s : State} {m : MethodId} {args : Array Value} {below : List Frame} {meth : Method} {c : Code} {H : Heap} {locs : List Loc} {cells slots : Nat} {Q : State → Prop} {ls : Array Slot} {rest : List Value} {cc : ByteArray}
theorem g_pick {i : Nat} (hi : i < 2147483648) (hx : p.tables.exec = Jvm.exec) (hb : c.code = cc) (d0 : decode cc 111 = .ok (.ifCond .ne 7, 3)) (d1 : decode cc 114 = .ok (.iconst 1, 1)) (d2 : decode cc 115 = .ok (.goto 4, 3)) (d3 : decode cc 118 = .ok (.iconst 0, 1)) (kk : W p l e R s m args below meth c H locs cells slots Q (F0 m 119 ls (.int (if i = 0 then 1 else 0) :: rest))) : W p l e R s m args below meth c H locs cells slots Q (F0 m 111 ls (.int (Int32.ofNat i) :: rest)) := by
  refine lv_if_ne (tgt := 118) hx hb d0 (by decide) (fun z => ?_) (fun z => ?_)
  · have h0 : i ≠ 0 := fun h => z (by rw [h]; rfl)
    rw [if_neg h0] at kk
    exact lv_iconst (v := 0) hx hb d3 (by decide) kk
  · have h0 : i = 0 := by
      have h1 := congrArg Int32.toInt z
      rw [g_i0 hi] at h1
      have h2 : (i : Int) = 0 := h1
      omega
    rw [if_pos h0] at kk
    refine lv_iconst (v := 1) hx hb d1 (by decide) ?_
    exact lv_goto (tgt := 119) hx hb d2 (by decide) kk
end GP

section
variable {p : Program} {l : Launch} {e : Env} {s : State} {m : MethodId} {args : Array Value} {below : List Frame} {meth : Method} {c : Code} {D : va_G} {y : Nat → ClassId} {aS : Nat → Nat} {A : Nat → Prop} {L : List Nat} {ad : Nat → Nat} {N : Nat} {res : gS}
set_option maxRecDepth 100000 in
set_option maxHeartbeats 4000000 in
theorem wCX8_add_39 {r0 : Nat} {σ : gS} (hx : p.tables.exec = Jvm.exec) (hb : c.code = cX8_add) (hr : meth.sig.returnType = none) (hml : c.maxLocals = 3) (hown : s.vm.findClass RX8 = some m.cls) (hg : ∀ w ∈ wsL_law, w.before args s = true) (hlocks : meth.locks = false) (hK : gK D y aS s) (hA : ∀ q, s.heap.size ≤ q → A q) (hL : r0 ∈ L ∧ (r0 + 1) ∈ L) {H : Heap} {locs : List Loc} {ls : Array Slot} (hY : gY D y A s L ad σ H locs) (hl : lv_has ls 3 []) (h : fX8_add_39 N σ = some res) : W p l e ({ frames := 0, cells := 0, slots := 0, locals := 0 } : Room) s m args below meth c H locs 0 0 (MQ below (va_Qv (fun (_ : Unit) => True) (fun _ => gO D A (GW L y ad res)) A) args s 0 0 A) (F0 m 39 ls []) := by
  unfold fX8_add_39 at h
  cases h
  exact g_vret hx hb hr hlocks () hY.1 hY.2.1 hY.2.2 trivial (Nat.le_of_ble_eq_true rfl) (Nat.le_of_ble_eq_true rfl) dX8_add_39
end
set_option maxRecDepth 100000 in
set_option maxHeartbeats 4000000 in
theorem kCX8_add (l : Launch) (D : va_G) (y : Nat → ClassId) (aS : Nat → Nat) (sz : Nat) (L : List Nat) (r0 : Nat) (hL : r0 ∈ L ∧ (r0 + 1) ∈ L) (ad : Nat → Nat) (N : Nat) (σ : gS) (x1 : Int64) (res : gS) (hr0 : gcl r0 = 8) (h : fX8_add N σ r0 x1 = some res) : Met l yX8_add (Cond.code yX8_add cX8_add 3 none :: wsL_law) ({ frames := 0, cells := 0, slots := 0, locals := 0 } : Room) (va_Pc [.ref (ad r0), .long x1] (gI D y aS (GW L y ad σ) sz)) (va_Qv (fun (_ : Unit) => True) (fun _ => gO D (va_A (GW L y ad σ) sz) (GW L y ad res)) (va_A (GW L y ad σ) sz)) 0 0 (va_A (GW L y ad σ) sz) := by
  refine g_of (by decide) (Nat.le_of_ble_eq_true rfl) ?_
  intro p e s m below meth c ls A hx hb hr hml hown hg hlocks hin hsz hK hP hD hS hA hAe hl
  rw [← hAe]
  replace hown : s.vm.findClass RX8 = some m.cls := hown
  have hY : gY D y A s L ad σ s.heap [] := ⟨hP, hD, hS⟩
  clear hP hD hS
  replace hl : lv_has ls 3 [(0, .ref (ad r0)), (1, .long x1)] := hl
  unfold fX8_add at h
  refine lv_aload_n hx hb dX8_add_0 rfl (lv_at hl 0 rfl) ?_
  refine G_get (ci := 8) (j := 1) (C := RX8) (T := TX8) (N := 2) (v := .int (σ.1 r0 1)) hx hb hg inlX8 hown hK hY hL.1 hr0 (by decide) rfl (by decide) tX8_1 (hg _ gw_154) rfl dX8_add_1 ?_
  refine lv_if_lt (tgt := 39) hx hb dX8_add_4 (by decide) (fun z_1 => ?_) (fun z_1 => ?_)
  ·
    rw [if_pos z_1] at h
    exact wCX8_add_39 hx hb hr hml hown hg hlocks hK hA hL hY (lv_sub hl [] rfl) h
  ·
    rw [if_neg z_1] at h
    refine lv_aload_n hx hb dX8_add_7 rfl (lv_at hl 0 rfl) ?_
    refine G_get (ci := 8) (j := 1) (C := RX8) (T := TX8) (N := 2) (v := .int (σ.1 r0 1)) hx hb hg inlX8 hown hK hY hL.1 hr0 (by decide) rfl (by decide) tX8_1 (hg _ gw_154) rfl dX8_add_8 ?_
    refine lv_aload_n hx hb dX8_add_11 rfl (lv_at hl 0 rfl) ?_
    refine G_get (ci := 8) (j := 0) (C := RX8) (T := TX8) (N := 2) (v := .ref (ad (r0 + 1))) hx hb hg inlX8 hown hK hY hL.1 hr0 (by decide) rfl (by decide) tX8_0 (hg _ gw_98) rfl dX8_add_12 ?_
    refine G_alenJ hx hb hK hY hL.2 (gcl_row hr0) dX8_add_15 ?_
    refine lv_icmp_ge (tgt := 39) hx hb dX8_add_16 (by decide) (fun z_2 => ?_) (fun z_2 => ?_)
    ·
      rw [if_pos z_2] at h
      exact wCX8_add_39 hx hb hr hml hown hg hlocks hK hA hL hY (lv_sub hl [] rfl) h
    ·
      rw [if_neg z_2] at h
      refine lv_aload_n hx hb dX8_add_19 rfl (lv_at hl 0 rfl) ?_
      refine G_get (ci := 8) (j := 0) (C := RX8) (T := TX8) (N := 2) (v := .ref (ad (r0 + 1))) hx hb hg inlX8 hown hK hY hL.1 hr0 (by decide) rfl (by decide) tX8_0 (hg _ gw_98) rfl dX8_add_20 ?_
      refine lv_aload_n hx hb dX8_add_23 rfl (lv_at hl 0 rfl) ?_
      refine G_get (ci := 8) (j := 1) (C := RX8) (T := TX8) (N := 2) (v := .int (σ.1 r0 1)) hx hb hg inlX8 hown hK hY hL.1 hr0 (by decide) rfl (by decide) tX8_1 (hg _ gw_154) rfl dX8_add_24 ?_
      refine lv_lload_n hx hb dX8_add_27 rfl (lv_at hl 1 rfl) ?_
      obtain ⟨z_3, h⟩ := g_guard h
      refine G_last (j := (σ.1 r0 1).toNatClampNeg) hx hb hK hY hL.2 (gcl_row hr0) z_3 rfl dX8_add_28 ?_
      clear hY
      intro H locs hY
      refine lv_aload_n hx hb dX8_add_29 rfl (lv_at hl 0 rfl) ?_
      refine lv_dup hx hb dX8_add_30 rfl ?_
      refine G_get (ci := 8) (j := 1) (C := RX8) (T := TX8) (N := 2) (v := .int ((sJ σ (r0 + 1) ((σ.1 r0 1).toNatClampNeg) x1).1 r0 1)) hx hb hg inlX8 hown hK hY hL.1 hr0 (by decide) rfl (by decide) tX8_1 (hg _ gw_154) rfl dX8_add_31 ?_
      refine lv_iconst (v := 1) hx hb dX8_add_34 (by decide) ?_
      refine lv_iadd hx hb dX8_add_35 ?_
      refine G_putI (ci := 8) (j := 1) (C := RX8) (T := TX8) (N := 2) (v := (((sJ σ (r0 + 1) ((σ.1 r0 1).toNatClampNeg) x1).1 r0 1) + 1)) (ty := .int) hx hb hg inlX8 tyX8 tyX8_ok nmX8 hown hK hY hL.1 hr0 (by decide) rfl (by decide) tX8_1 (hg _ gw_154) (by decide +kernel) rfl rfl (fun _ _ => rfl) (fun _ _ => Nat.le_of_ble_eq_true rfl) dX8_add_36 ?_
      clear hY
      intro H locs hY
      exact wCX8_add_39 hx hb hr hml hown hg hlocks hK hA hL hY (lv_sub hl [] rfl) h
section
variable {p : Program} {l : Launch} {e : Env} {s : State} {m : MethodId} {args : Array Value} {below : List Frame} {meth : Method} {c : Code} {D : va_G} {y : Nat → ClassId} {aS : Nat → Nat} {A : Nat → Prop} {L : List Nat} {ad : Nat → Nat} {N : Nat} {res : gS}
set_option maxRecDepth 100000 in
set_option maxHeartbeats 4000000 in
theorem wCX8_addMany_30 {r0 : Nat} {σ : gS} (hx : p.tables.exec = Jvm.exec) (hb : c.code = cX8_addMany) (hr : meth.sig.returnType = none) (hml : c.maxLocals = 5) (hown : s.vm.findClass RX8 = some m.cls) (hg : ∀ w ∈ wsL_law, w.before args s = true) (hlocks : meth.locks = false) (hK : gK D y aS s) (hA : ∀ q, s.heap.size ≤ q → A q) (hL : r0 ∈ L ∧ (r0 + 1) ∈ L) {H : Heap} {locs : List Loc} {ls : Array Slot} (hY : gY D y A s L ad σ H locs) (hl : lv_has ls 5 []) (h : fX8_addMany_30 N σ = some res) : W p l e ({ frames := 1, cells := 0, slots := 0, locals := 22 } : Room) s m args below meth c H locs 0 0 (MQ below (va_Qv (fun (_ : Unit) => True) (fun _ => gO D A (GW L y ad res)) A) args s 0 0 A) (F0 m 30 ls []) := by
  unfold fX8_addMany_30 at h
  cases h
  exact g_vret hx hb hr hlocks () hY.1 hY.2.1 hY.2.2 trivial (Nat.le_of_ble_eq_true rfl) (Nat.le_of_ble_eq_true rfl) dX8_addMany_30
set_option maxRecDepth 100000 in
set_option maxHeartbeats 4000000 in
theorem wCX8_addMany_3 {r0 : Nat} {x1 : Int32} {x2 : Int64} (hx : p.tables.exec = Jvm.exec) (hb : c.code = cX8_addMany) (hr : meth.sig.returnType = none) (hml : c.maxLocals = 5) (hown : s.vm.findClass RX8 = some m.cls) (hg : ∀ w ∈ wsL_law, w.before args s = true) (hlocks : meth.locks = false) (hK : gK D y aS s) (hA : ∀ q, s.heap.size ≤ q → A q) (hL : r0 ∈ L ∧ (r0 + 1) ∈ L) (hr0 : gcl r0 = 8) : ∀ (n : Nat) {σ : gS} {x4 : Int32} (H : Heap) (locs : List Loc) (ls : Array Slot), gY D y A s L ad σ H locs → lv_has ls 5 [(0, .ref (ad r0)), (1, .int x1), (2, .long x2), (4, .int x4)] → lp (fX8_addMany_3 N r0 x1 x2) n (σ, x4) = some res → W p l e ({ frames := 1, cells := 0, slots := 0, locals := 22 } : Room) s m args below meth c H locs 0 0 (MQ below (va_Qv (fun (_ : Unit) => True) (fun _ => gO D A (GW L y ad res)) A) args s 0 0 A) (F0 m 3 ls []) := by
  intro n
  induction n with
  | zero => intro σ x4 H locs ls hY hl h; exact nomatch (show none = some res from h)
  | succ n hrec3 =>
    intro σ x4 H locs ls hY hl h
    replace h : fX8_addMany_3 N r0 x1 x2 (lp (fX8_addMany_3 N r0 x1 x2) n) (σ, x4) = some res := h
    generalize lp (fX8_addMany_3 N r0 x1 x2) n = rec3 at h hrec3
    unfold fX8_addMany_3 at h
    try dsimp only at h
    refine lv_iload hx hb dX8_addMany_3 (lv_at hl 3 rfl) ?_
    refine lv_iload_n hx hb dX8_addMany_5 rfl (lv_at hl 1 rfl) ?_
    refine lv_icmp_ge (tgt := 30) hx hb dX8_addMany_6 (by decide) (fun z_1 => ?_) (fun z_1 => ?_)
    ·
      rw [if_pos z_1] at h
      exact wCX8_addMany_30 hx hb hr hml hown hg hlocks hK hA hL hY (lv_sub hl [] rfl) h
    ·
      rw [if_neg z_1] at h
      refine lv_iload hx hb dX8_addMany_9 (lv_at hl 3 rfl) ?_
      refine lv_aload_n hx hb dX8_addMany_11 rfl (lv_at hl 0 rfl) ?_
      refine G_get (ci := 8) (j := 0) (C := RX8) (T := TX8) (N := 2) (v := .ref (ad (r0 + 1))) hx hb hg inlX8 hown hK hY hL.1 hr0 (by decide) rfl (by decide) tX8_0 (hg _ gw_98) rfl dX8_addMany_12 ?_
      refine G_alenJ hx hb hK hY hL.2 (gcl_row hr0) dX8_addMany_15 ?_
      refine lv_icmp_ge (tgt := 30) hx hb dX8_addMany_16 (by decide) (fun z_2 => ?_) (fun z_2 => ?_)
      ·
        rw [if_pos z_2] at h
        exact wCX8_addMany_30 hx hb hr hml hown hg hlocks hK hA hL hY (lv_sub hl [] rfl) h
      ·
        rw [if_neg z_2] at h
        refine lv_aload_n hx hb dX8_addMany_19 rfl (lv_at hl 0 rfl) ?_
        refine lv_lload_n hx hb dX8_addMany_20 rfl (lv_at hl 2 rfl) ?_
        obtain ⟨r_3, e_4, h⟩ := g_bind h
        refine G_av hY hA (va_runV (As := [.long x2]) (rest := []) ⟨hx, hb, hml, hown, hg⟩ (kCX8_add l D y aS H.size L r0 hL ad N σ x2 _ hr0 e_4) (cwV 1 hg ggV_RX8_19_X8_add rfl rfl rfl (by decide +kernel) ⟨Nat.le_of_ble_eq_true rfl, Nat.le_of_ble_eq_true rfl⟩) (G_pV (q := (RX8, TX8, 2)) hK hY hL.1 hr0 (by decide) rfl) rfl rfl hl.1 rfl (lv_room (Nat.le_of_ble_eq_true rfl)) dX8_addMany_21 ⟨Nat.le_of_ble_eq_true rfl, Nat.le_of_ble_eq_true rfl⟩) ?_
        clear hY
        rintro H locs hY
        refine lv_iinc (v := (x4 + 1)) (lv' := [(4, .int (x4 + 1)), (0, .ref (ad r0)), (1, .int x1), (2, .long x2)]) hx hb dX8_addMany_24 hl (k := 3) rfl rfl (by decide) rfl ?_
        clear hl
        intro ls hl
        refine lv_goto (tgt := 3) hx hb dX8_addMany_27 (by decide) ?_
        exact hrec3 _ _ _ hY (lv_sub hl [1, 2, 3, 0] rfl) h
end
set_option maxRecDepth 100000 in
set_option maxHeartbeats 4000000 in
theorem kCX8_addMany (l : Launch) (D : va_G) (y : Nat → ClassId) (aS : Nat → Nat) (sz : Nat) (L : List Nat) (r0 : Nat) (hL : r0 ∈ L ∧ (r0 + 1) ∈ L) (ad : Nat → Nat) (N : Nat) (σ : gS) (x1 : Int32) (x2 : Int64) (res : gS) (hr0 : gcl r0 = 8) (h : fX8_addMany N σ r0 x1 x2 = some res) : Met l yX8_addMany (Cond.code yX8_addMany cX8_addMany 5 none :: wsL_law) ({ frames := 1, cells := 0, slots := 0, locals := 22 } : Room) (va_Pc [.ref (ad r0), .int x1, .long x2] (gI D y aS (GW L y ad σ) sz)) (va_Qv (fun (_ : Unit) => True) (fun _ => gO D (va_A (GW L y ad σ) sz) (GW L y ad res)) (va_A (GW L y ad σ) sz)) 0 0 (va_A (GW L y ad σ) sz) := by
  refine g_of (by decide) (Nat.le_of_ble_eq_true rfl) ?_
  intro p e s m below meth c ls A hx hb hr hml hown hg hlocks hin hsz hK hP hD hS hA hAe hl
  rw [← hAe]
  replace hown : s.vm.findClass RX8 = some m.cls := hown
  have hY : gY D y A s L ad σ s.heap [] := ⟨hP, hD, hS⟩
  clear hP hD hS
  replace hl : lv_has ls 5 [(0, .ref (ad r0)), (1, .int x1), (2, .long x2)] := hl
  unfold fX8_addMany at h
  refine lv_iconst (v := 0) hx hb dX8_addMany_0 (by decide) ?_
  refine lv_istore (lv' := [(4, .int 0), (0, .ref (ad r0)), (1, .int x1), (2, .long x2)]) hx hb dX8_addMany_1 hl (by decide) rfl ?_
  clear hl
  intro ls hl
  exact wCX8_addMany_3 hx hb hr hml hown hg hlocks hK hA hL hr0 N _ _ _ hY (lv_sub hl [1, 2, 3, 0] rfl) h
