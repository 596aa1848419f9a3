theorem gcl_chkL {k : Nat} (h : gcl k = 3) : k + 1 < 179 := by
  rcases Nat.lt_or_ge k 184 with q | q
  · exact (show ∀ k : Nat, k < 184 → gcl k = 3 → k + 1 < 179 by decide +kernel) k q h
  · rw [gcl_big q] at h; omega
theorem gfs0_ad {ad ad' : Nat → Nat} {k : Nat} {f : Nat → Int32} {g : Nat → Int64} (hk : gcl k = 0) (h : ∀ j, j < 179 → ad' j = ad j) : gfs0 ad' k f g = gfs0 ad k f g := by
  unfold gfs0
  rw [h 119 (by decide), h 121 (by decide), h 123 (by decide)]
theorem gfs1_ad {ad ad' : Nat → Nat} {k : Nat} {f : Nat → Int32} {g : Nat → Int64} (hk : gcl k = 1) (h : ∀ j, j < 179 → ad' j = ad j) : gfs1 ad' k f g = gfs1 ad k f g := by
  unfold gfs1
  rfl
theorem gfs2_ad {ad ad' : Nat → Nat} {k : Nat} {f : Nat → Int32} {g : Nat → Int64} (hk : gcl k = 2) (h : ∀ j, j < 179 → ad' j = ad j) : gfs2 ad' k f g = gfs2 ad k f g := by
  unfold gfs2
  rw [h 2 (by decide), h 3 (by decide), h 4 (by decide)]
theorem gfs3_ad {ad ad' : Nat → Nat} {k : Nat} {f : Nat → Int32} {g : Nat → Int64} (hk : gcl k = 3) (h : ∀ j, j < 179 → ad' j = ad j) : gfs3 ad' k f g = gfs3 ad k f g := by
  unfold gfs3
  rw [h _ (gcl_chkL hk)]
theorem gfs4_ad {ad ad' : Nat → Nat} {k : Nat} {f : Nat → Int32} {g : Nat → Int64} (hk : gcl k = 4) (h : ∀ j, j < 179 → ad' j = ad j) : gfs4 ad' k f g = gfs4 ad k f g := by
  unfold gfs4
  rw [h 110 (by decide), h 112 (by decide), h 114 (by decide), h 116 (by decide)]
theorem gfs5_ad {ad ad' : Nat → Nat} {k : Nat} {f : Nat → Int32} {g : Nat → Int64} (hk : gcl k = 5) (h : ∀ j, j < 179 → ad' j = ad j) : gfs5 ad' k f g = gfs5 ad k f g := by
  unfold gfs5
  rw [h 135 (by decide), h 137 (by decide), h 139 (by decide), h 141 (by decide)]
theorem gfs6_ad {ad ad' : Nat → Nat} {k : Nat} {f : Nat → Int32} {g : Nat → Int64} (hk : gcl k = 6) (h : ∀ j, j < 179 → ad' j = ad j) : gfs6 ad' k f g = gfs6 ad k f g := by
  unfold gfs6
  rfl
theorem gfs7_ad {ad ad' : Nat → Nat} {k : Nat} {f : Nat → Int32} {g : Nat → Int64} (hk : gcl k = 7) (h : ∀ j, j < 179 → ad' j = ad j) : gfs7 ad' k f g = gfs7 ad k f g := by
  unfold gfs7
  rw [h 66 (by decide), h 67 (by decide), h 70 (by decide), h 72 (by decide), h 74 (by decide)]
theorem gfs8_ad {ad ad' : Nat → Nat} {k : Nat} {f : Nat → Int32} {g : Nat → Int64} (hk : gcl k = 8) (h : ∀ j, j < 179 → ad' j = ad j) : gfs8 ad' k f g = gfs8 ad k f g := by
  unfold gfs8
  rw [h _ (gcl_rowL hk)]
theorem gfs9_ad {ad ad' : Nat → Nat} {k : Nat} {f : Nat → Int32} {g : Nat → Int64} (hk : gcl k = 9) (h : ∀ j, j < 179 → ad' j = ad j) : gfs9 ad' k f g = gfs9 ad k f g := by
  unfold gfs9
  rw [h 107 (by decide), h 108 (by decide)]
theorem gfs10_ad {ad ad' : Nat → Nat} {k : Nat} {f : Nat → Int32} {g : Nat → Int64} (hk : gcl k = 10) (h : ∀ j, j < 179 → ad' j = ad j) : gfs10 ad' k f g = gfs10 ad k f g := by
  unfold gfs10
  rw [h 126 (by decide), h 128 (by decide), h 130 (by decide), h 132 (by decide)]
theorem gfs11_ad {ad ad' : Nat → Nat} {k : Nat} {f : Nat → Int32} {g : Nat → Int64} (hk : gcl k = 11) (h : ∀ j, j < 179 → ad' j = ad j) : gfs11 ad' k f g = gfs11 ad k f g := by
  unfold gfs11
  rw [h 1 (by decide), h 65 (by decide), h 106 (by decide), h 109 (by decide), h 118 (by decide), h 125 (by decide), h 134 (by decide), h 143 (by decide), h 150 (by decide), h 151 (by decide), h 153 (by decide), h 155 (by decide), h 157 (by decide), h 159 (by decide)]
theorem gce_ad {y : Nat → ClassId} {ad ad' : Nat → Nat} {k : Nat} {f : Nat → Int32} {g : Nat → Int64} {len : Nat} (h : ∀ j, j < 179 → ad' j = ad j) : gce y ad' k f g len = gce y ad k f g len := by
  unfold gce
  split
  · rfl
  · rfl
  · have e9 : (fun j => if j < 60 then some (ad' (5 + j)) else none) = (fun j => if j < 60 then some (ad (5 + j)) else none) := by
      funext j; by_cases q : j < 60
      · rw [if_pos q, if_pos q, h _ (by omega)]
      · rw [if_neg q, if_neg q]
    rw [e9]
  · have e9 : (fun j => if j < 10 then some (ad' (76 + 3 * j)) else none) = (fun j => if j < 10 then some (ad (76 + 3 * j)) else none) := by
      funext j; by_cases q : j < 10
      · rw [if_pos q, if_pos q, h _ (by omega)]
      · rw [if_neg q, if_neg q]
    rw [e9]
  · have e9 : (fun j => if j < 6 then some (ad' (144 + j)) else none) = (fun j => if j < 6 then some (ad (144 + j)) else none) := by
      funext j; by_cases q : j < 6
      · rw [if_pos q, if_pos q, h _ (by omega)]
      · rw [if_neg q, if_neg q]
    rw [e9]
  · have e9 : gfs (gcl k) ad' k f g = gfs (gcl k) ad k f g := by
      generalize hc : gcl k = ci
      unfold gfs
      split
      · exact gfs0_ad hc h
      · exact gfs1_ad hc h
      · exact gfs2_ad hc h
      · exact gfs3_ad hc h
      · exact gfs4_ad hc h
      · exact gfs5_ad hc h
      · exact gfs6_ad hc h
      · exact gfs7_ad hc h
      · exact gfs8_ad hc h
      · exact gfs9_ad hc h
      · exact gfs10_ad hc h
      · exact gfs11_ad hc h
      · rfl
    rw [e9]
/-- the memory with a row of noughts -/
def zI (σ : gS) (k : Nat) : gS := (fun k' j => if k' = k then 0 else σ.1 k' j, σ.2)
def zJ (σ : gS) (k : Nat) : gS := (σ.1, fun k' j => if k' = k then 0 else σ.2.1 k' j, σ.2.2)
def adU (ad : Nat → Nat) (k q : Nat) : Nat → Nat := fun k' => if k' = k then q else ad k'
theorem GW_ext {L : List Nat} {y : Nat → ClassId} {ad ad' : Nat → Nat} {σ σ' : gS} (h1 : ∀ j, j < 179 → ad' j = ad j) (h2 : ∀ k ∈ L, ad' k = ad k) (hI : ∀ k ∈ L, σ'.1 k = σ.1 k) (hJ : ∀ k ∈ L, σ'.2.1 k = σ.2.1 k) (hl : σ'.2.2 = σ.2.2) : GW L y ad' σ' = GW L y ad σ := by
  unfold GW
  apply List.map_congr_left
  intro k hk
  unfold gW1
  rw [h2 k hk, hI k hk, hJ k hk, hl, gce_ad h1]
theorem GW_push {L : List Nat} {y : Nat → ClassId} {ad : Nat → Nat} {σ σ' : gS} {K q : Nat} (hLK : ∀ k ∈ L, k < K) (hK : 179 ≤ K) (hI : ∀ k, k ≠ K → σ'.1 k = σ.1 k) (hJ : ∀ k, k ≠ K → σ'.2.1 k = σ.2.1 k) (hl : σ'.2.2 = σ.2.2) : GW L y ad σ ++ [(q, gce y (adU ad K q) K (σ'.1 K) (σ'.2.1 K) σ'.2.2)] = GW (L ++ [K]) y (adU ad K q) σ' := by
  have e : GW L y (adU ad K q) σ' = GW L y ad σ := GW_ext (fun j hj => if_neg (by omega)) (fun k hk => if_neg (Nat.ne_of_lt (hLK k hk))) (fun k hk => hI k (Nat.ne_of_lt (hLK k hk))) (fun k hk => hJ k (Nat.ne_of_lt (hLK k hk))) hl
  unfold GW at e ⊢
  rw [List.map_append, e]
  show _ ++ [(q, _)] = _ ++ [(adU ad K q K, _)]
  rw [show adU ad K q K = q from if_pos rfl]
section GN
variable {p : Program} {l : Launch} {e : Env} {R : Room} {s : State} {m : MethodId} {args : Array Value} {below : List Frame} {meth : Method} {c : Code} {H : Heap} {locs : List Loc} {cells slots : Nat} {Q : State → Prop} {pc : Nat} {ls : Array Slot} {rest : List Value} {cc : ByteArray} {D : va_G} {y : Nat → ClassId} {aS : Nat → Nat} {A : Nat → Prop} {L : List Nat} {ad : Nat → Nat} {σ : gS}
theorem G_newI {K : Nat} {n : Int32} (hx : p.tables.exec = Jvm.exec) (hb : c.code = cc) (hg : ∀ w ∈ wsL_law, w.before args s = true) (hK : gK D y aS s) (hA : ∀ q, s.heap.size ≤ q → A q) (hY : gY D y A s L ad σ H locs) (hLK : ∀ k ∈ L, k < K) (hKB : 179 ≤ K) (hk : gcl K = 20) (hn : ¬ n < 0) (hN : n.toNatClampNeg = gle σ.2.2 K) (hbytes : gle σ.2.2 K * componentBytes .int ≤ 536870912) (hcells : cells + 1 ≤ R.cells) (hslots : slots + gle σ.2.2 K ≤ R.slots) (hdg : decode cc pc = .ok (.newarray .int, 2))
    (kk : ∀ (q : Nat) (H1 : Heap), gY D y A s (L ++ [K]) (adU ad K q) (zI σ K) H1 locs → W p l e R s m args below meth c H1 locs (cells + 1) (slots + gle σ.2.2 K) Q (F0 m (pc + 2) ls (.ref (adU ad K q K) :: rest))) : W p l e R s m args below meth c H locs cells slots Q (F0 m pc ls (.int n :: rest)) := by
  refine g_newa (atype := .int) (ty := .int) (N' := gle σ.2.2 K) (a0 := (gle σ.2.2 K, .inl (fun _ => 0))) hx hb 0 rfl (fun _ h => by cases h) (hg _ gw_3) rfl hK hY.1 hY.2.1 hY.2.2 hA (fun _ => rfl) hn hN hbytes hcells hslots hdg (fun q H1 hP hD hS => ?_)
  have e9 : (GW L y ad σ ++ [(q, .inl (y 0, (gle σ.2.2 K, .inl (fun _ => 0))))]) = GW (L ++ [K]) y (adU ad K q) (zI σ K) := by
    rw [← GW_push (σ := σ) (σ' := zI σ K) hLK hKB (fun k h => by funext j; exact if_neg h) (fun _ _ => rfl) rfl, gce_int hk]
    simp only [zI, if_true]
  rw [e9] at hP hD
  have := kk q H1 ⟨hP, hD, hS⟩
  rw [show adU ad K q K = q from if_pos rfl] at this
  exact this
theorem G_newJ {K : Nat} {n : Int32} (hx : p.tables.exec = Jvm.exec) (hb : c.code = cc) (hg : ∀ w ∈ wsL_law, w.before args s = true) (hK : gK D y aS s) (hA : ∀ q, s.heap.size ≤ q → A q) (hY : gY D y A s L ad σ H locs) (hLK : ∀ k ∈ L, k < K) (hKB : 179 ≤ K) (hk : gcl K = 21) (hn : ¬ n < 0) (hN : n.toNatClampNeg = gle σ.2.2 K) (hbytes : gle σ.2.2 K * componentBytes .long ≤ 536870912) (hcells : cells + 1 ≤ R.cells) (hslots : slots + gle σ.2.2 K ≤ R.slots) (hdg : decode cc pc = .ok (.newarray .long, 2))
    (kk : ∀ (q : Nat) (H1 : Heap), gY D y A s (L ++ [K]) (adU ad K q) (zJ σ K) H1 locs → W p l e R s m args below meth c H1 locs (cells + 1) (slots + gle σ.2.2 K) Q (F0 m (pc + 2) ls (.ref (adU ad K q K) :: rest))) : W p l e R s m args below meth c H locs cells slots Q (F0 m pc ls (.int n :: rest)) := by
  refine g_newa (atype := .long) (ty := .long) (N' := gle σ.2.2 K) (a0 := (gle σ.2.2 K, .inr (.inl (fun _ => 0)))) hx hb 1 rfl (fun _ h => by cases h) (hg _ gw_4) rfl hK hY.1 hY.2.1 hY.2.2 hA (fun _ => rfl) hn hN hbytes hcells hslots hdg (fun q H1 hP hD hS => ?_)
  have e9 : (GW L y ad σ ++ [(q, .inl (y 1, (gle σ.2.2 K, .inr (.inl (fun _ => 0)))))]) = GW (L ++ [K]) y (adU ad K q) (zJ σ K) := by
    rw [← GW_push (σ := σ) (σ' := zJ σ K) hLK hKB (fun _ _ => rfl) (fun k h => by funext j; exact if_neg h) rfl, gce_long hk]
    simp only [zJ, if_true]
  rw [e9] at hP hD
  have := kk q H1 ⟨hP, hD, hS⟩
  rw [show adU ad K q K = q from if_pos rfl] at this
  exact this
end GN
