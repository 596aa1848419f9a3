def dt127_X9_grow : List (Nat × Instr × Nat) := [(121, (.aload_n 0, 1)), (122, (.aload_n 2, 1)), (123, (.putfield 11, 3)), (126, (.aload_n 0, 1)), (127, (.aload_n 3, 1)), (128, (.putfield 15, 3)), (131, (.return_, 1)), (115, (.iinc 4 1, 3)), (118, (.goto (-81), 3)), (37, (.iload 4, 2)), (39, (.aload_n 0, 1)), (40, (.getfield 11, 3)), (43, (.arraylength, 1)), (44, (.if_icmp .ge 77, 3)), (47, (.iload 4, 2)), (49, (.aload_n 0, 1)), (50, (.getfield 15, 3)), (53, (.arraylength, 1)), (54, (.if_icmp .ge 67, 3)), (57, (.aload_n 0, 1)), (58, (.getfield 11, 3)), (61, (.iload 4, 2)), (63, (.laload, 1)), (64, (.lconst 0, 1)), (65, (.lcmp, 1)), (66, (.ifCond .eq 49, 3)), (69, (.aload_n 2, 1)), (70, (.aload_n 0, 1)), (71, (.getfield 11, 3)), (74, (.iload 4, 2)), (76, (.laload, 1)), (77, (.invokestatic 23, 3)), (80, (.istore 5, 2)), (82, (.iload 5, 2)), (84, (.ifCond .lt 31, 3)), (87, (.iload 5, 2)), (89, (.iload_n 1, 1)), (90, (.if_icmp .ge 25, 3)), (93, (.aload_n 2, 1)), (94, (.iload 5, 2)), (96, (.aload_n 0, 1)), (97, (.getfield 11, 3)), (100, (.iload 4, 2)), (102, (.laload, 1)), (103, (.lastore, 1)), (104, (.aload_n 3, 1)), (105, (.iload 5, 2)), (107, (.aload_n 0, 1)), (108, (.getfield 15, 3)), (111, (.iload 4, 2)), (113, (.iaload, 1)), (114, (.iastore, 1)), (25, (.istore_n 1, 1)), (26, (.iload_n 1, 1)), (27, (.newarray .long, 2)), (29, (.astore_n 2, 1)), (30, (.iload_n 1, 1)), (31, (.newarray .int, 2)), (33, (.astore_n 3, 1)), (34, (.iconst 0, 1))]
theorem dt127_X9_grow_ok : ∀ q ∈ dt127_X9_grow, decode cX9_grow q.1 = .ok q.2 := by decide +kernel
theorem dX9_grow_121 : decode cX9_grow 121 = .ok (.aload_n 0, 1) := g_dec dt127_X9_grow_ok (k := 0) rfl
theorem dX9_grow_122 : decode cX9_grow 122 = .ok (.aload_n 2, 1) := g_dec dt127_X9_grow_ok (k := 1) rfl
theorem dX9_grow_123 : decode cX9_grow 123 = .ok (.putfield 11, 3) := g_dec dt127_X9_grow_ok (k := 2) rfl
theorem dX9_grow_126 : decode cX9_grow 126 = .ok (.aload_n 0, 1) := g_dec dt127_X9_grow_ok (k := 3) rfl
theorem dX9_grow_127 : decode cX9_grow 127 = .ok (.aload_n 3, 1) := g_dec dt127_X9_grow_ok (k := 4) rfl
theorem dX9_grow_128 : decode cX9_grow 128 = .ok (.putfield 15, 3) := g_dec dt127_X9_grow_ok (k := 5) rfl
theorem dX9_grow_131 : decode cX9_grow 131 = .ok (.return_, 1) := g_dec dt127_X9_grow_ok (k := 6) rfl
theorem dX9_grow_115 : decode cX9_grow 115 = .ok (.iinc 4 1, 3) := g_dec dt127_X9_grow_ok (k := 7) rfl
theorem dX9_grow_118 : decode cX9_grow 118 = .ok (.goto (-81), 3) := g_dec dt127_X9_grow_ok (k := 8) rfl
theorem dX9_grow_37 : decode cX9_grow 37 = .ok (.iload 4, 2) := g_dec dt127_X9_grow_ok (k := 9) rfl
theorem dX9_grow_39 : decode cX9_grow 39 = .ok (.aload_n 0, 1) := g_dec dt127_X9_grow_ok (k := 10) rfl
theorem dX9_grow_40 : decode cX9_grow 40 = .ok (.getfield 11, 3) := g_dec dt127_X9_grow_ok (k := 11) rfl
theorem dX9_grow_43 : decode cX9_grow 43 = .ok (.arraylength, 1) := g_dec dt127_X9_grow_ok (k := 12) rfl
theorem dX9_grow_44 : decode cX9_grow 44 = .ok (.if_icmp .ge 77, 3) := g_dec dt127_X9_grow_ok (k := 13) rfl
theorem dX9_grow_47 : decode cX9_grow 47 = .ok (.iload 4, 2) := g_dec dt127_X9_grow_ok (k := 14) rfl
theorem dX9_grow_49 : decode cX9_grow 49 = .ok (.aload_n 0, 1) := g_dec dt127_X9_grow_ok (k := 15) rfl
theorem dX9_grow_50 : decode cX9_grow 50 = .ok (.getfield 15, 3) := g_dec dt127_X9_grow_ok (k := 16) rfl
theorem dX9_grow_53 : decode cX9_grow 53 = .ok (.arraylength, 1) := g_dec dt127_X9_grow_ok (k := 17) rfl
theorem dX9_grow_54 : decode cX9_grow 54 = .ok (.if_icmp .ge 67, 3) := g_dec dt127_X9_grow_ok (k := 18) rfl
theorem dX9_grow_57 : decode cX9_grow 57 = .ok (.aload_n 0, 1) := g_dec dt127_X9_grow_ok (k := 19) rfl
theorem dX9_grow_58 : decode cX9_grow 58 = .ok (.getfield 11, 3) := g_dec dt127_X9_grow_ok (k := 20) rfl
theorem dX9_grow_61 : decode cX9_grow 61 = .ok (.iload 4, 2) := g_dec dt127_X9_grow_ok (k := 21) rfl
theorem dX9_grow_63 : decode cX9_grow 63 = .ok (.laload, 1) := g_dec dt127_X9_grow_ok (k := 22) rfl
theorem dX9_grow_64 : decode cX9_grow 64 = .ok (.lconst 0, 1) := g_dec dt127_X9_grow_ok (k := 23) rfl
theorem dX9_grow_65 : decode cX9_grow 65 = .ok (.lcmp, 1) := g_dec dt127_X9_grow_ok (k := 24) rfl
theorem dX9_grow_66 : decode cX9_grow 66 = .ok (.ifCond .eq 49, 3) := g_dec dt127_X9_grow_ok (k := 25) rfl
theorem dX9_grow_69 : decode cX9_grow 69 = .ok (.aload_n 2, 1) := g_dec dt127_X9_grow_ok (k := 26) rfl
theorem dX9_grow_70 : decode cX9_grow 70 = .ok (.aload_n 0, 1) := g_dec dt127_X9_grow_ok (k := 27) rfl
theorem dX9_grow_71 : decode cX9_grow 71 = .ok (.getfield 11, 3) := g_dec dt127_X9_grow_ok (k := 28) rfl
theorem dX9_grow_74 : decode cX9_grow 74 = .ok (.iload 4, 2) := g_dec dt127_X9_grow_ok (k := 29) rfl
theorem dX9_grow_76 : decode cX9_grow 76 = .ok (.laload, 1) := g_dec dt127_X9_grow_ok (k := 30) rfl
theorem dX9_grow_77 : decode cX9_grow 77 = .ok (.invokestatic 23, 3) := g_dec dt127_X9_grow_ok (k := 31) rfl
theorem dX9_grow_80 : decode cX9_grow 80 = .ok (.istore 5, 2) := g_dec dt127_X9_grow_ok (k := 32) rfl
theorem dX9_grow_82 : decode cX9_grow 82 = .ok (.iload 5, 2) := g_dec dt127_X9_grow_ok (k := 33) rfl
theorem dX9_grow_84 : decode cX9_grow 84 = .ok (.ifCond .lt 31, 3) := g_dec dt127_X9_grow_ok (k := 34) rfl
theorem dX9_grow_87 : decode cX9_grow 87 = .ok (.iload 5, 2) := g_dec dt127_X9_grow_ok (k := 35) rfl
theorem dX9_grow_89 : decode cX9_grow 89 = .ok (.iload_n 1, 1) := g_dec dt127_X9_grow_ok (k := 36) rfl
theorem dX9_grow_90 : decode cX9_grow 90 = .ok (.if_icmp .ge 25, 3) := g_dec dt127_X9_grow_ok (k := 37) rfl
theorem dX9_grow_93 : decode cX9_grow 93 = .ok (.aload_n 2, 1) := g_dec dt127_X9_grow_ok (k := 38) rfl
theorem dX9_grow_94 : decode cX9_grow 94 = .ok (.iload 5, 2) := g_dec dt127_X9_grow_ok (k := 39) rfl
theorem dX9_grow_96 : decode cX9_grow 96 = .ok (.aload_n 0, 1) := g_dec dt127_X9_grow_ok (k := 40) rfl
theorem dX9_grow_97 : decode cX9_grow 97 = .ok (.getfield 11, 3) := g_dec dt127_X9_grow_ok (k := 41) rfl
theorem dX9_grow_100 : decode cX9_grow 100 = .ok (.iload 4, 2) := g_dec dt127_X9_grow_ok (k := 42) rfl
theorem dX9_grow_102 : decode cX9_grow 102 = .ok (.laload, 1) := g_dec dt127_X9_grow_ok (k := 43) rfl
theorem dX9_grow_103 : decode cX9_grow 103 = .ok (.lastore, 1) := g_dec dt127_X9_grow_ok (k := 44) rfl
theorem dX9_grow_104 : decode cX9_grow 104 = .ok (.aload_n 3, 1) := g_dec dt127_X9_grow_ok (k := 45) rfl
theorem dX9_grow_105 : decode cX9_grow 105 = .ok (.iload 5, 2) := g_dec dt127_X9_grow_ok (k := 46) rfl
theorem dX9_grow_107 : decode cX9_grow 107 = .ok (.aload_n 0, 1) := g_dec dt127_X9_grow_ok (k := 47) rfl
theorem dX9_grow_108 : decode cX9_grow 108 = .ok (.getfield 15, 3) := g_dec dt127_X9_grow_ok (k := 48) rfl
theorem dX9_grow_111 : decode cX9_grow 111 = .ok (.iload 4, 2) := g_dec dt127_X9_grow_ok (k := 49) rfl
theorem dX9_grow_113 : decode cX9_grow 113 = .ok (.iaload, 1) := g_dec dt127_X9_grow_ok (k := 50) rfl
theorem dX9_grow_114 : decode cX9_grow 114 = .ok (.iastore, 1) := g_dec dt127_X9_grow_ok (k := 51) rfl
theorem dX9_grow_25 : decode cX9_grow 25 = .ok (.istore_n 1, 1) := g_dec dt127_X9_grow_ok (k := 52) rfl
theorem dX9_grow_26 : decode cX9_grow 26 = .ok (.iload_n 1, 1) := g_dec dt127_X9_grow_ok (k := 53) rfl
theorem dX9_grow_27 : decode cX9_grow 27 = .ok (.newarray .long, 2) := g_dec dt127_X9_grow_ok (k := 54) rfl
theorem dX9_grow_29 : decode cX9_grow 29 = .ok (.astore_n 2, 1) := g_dec dt127_X9_grow_ok (k := 55) rfl
theorem dX9_grow_30 : decode cX9_grow 30 = .ok (.iload_n 1, 1) := g_dec dt127_X9_grow_ok (k := 56) rfl
theorem dX9_grow_31 : decode cX9_grow 31 = .ok (.newarray .int, 2) := g_dec dt127_X9_grow_ok (k := 57) rfl
theorem dX9_grow_33 : decode cX9_grow 33 = .ok (.astore_n 3, 1) := g_dec dt127_X9_grow_ok (k := 58) rfl
theorem dX9_grow_34 : decode cX9_grow 34 = .ok (.iconst 0, 1) := g_dec dt127_X9_grow_ok (k := 59) rfl
def dt128_X9_grow : List (Nat × Instr × Nat) := [(35, (.istore 4, 2)), (0, (.aload_n 0, 1)), (1, (.getfield 11, 3)), (4, (.arraylength, 1)), (5, (.ldc 70, 2)), (7, (.if_icmp .ge 13, 3)), (20, (.aload_n 0, 1)), (21, (.getfield 11, 3)), (24, (.arraylength, 1)), (10, (.iconst 2, 1)), (11, (.aload_n 0, 1)), (12, (.getfield 11, 3)), (15, (.arraylength, 1)), (16, (.imul, 1)), (17, (.goto 8, 3))]
theorem dt128_X9_grow_ok : ∀ q ∈ dt128_X9_grow, decode cX9_grow q.1 = .ok q.2 := by decide +kernel
theorem dX9_grow_35 : decode cX9_grow 35 = .ok (.istore 4, 2) := g_dec dt128_X9_grow_ok (k := 0) rfl
theorem dX9_grow_0 : decode cX9_grow 0 = .ok (.aload_n 0, 1) := g_dec dt128_X9_grow_ok (k := 1) rfl
theorem dX9_grow_1 : decode cX9_grow 1 = .ok (.getfield 11, 3) := g_dec dt128_X9_grow_ok (k := 2) rfl
theorem dX9_grow_4 : decode cX9_grow 4 = .ok (.arraylength, 1) := g_dec dt128_X9_grow_ok (k := 3) rfl
theorem dX9_grow_5 : decode cX9_grow 5 = .ok (.ldc 70, 2) := g_dec dt128_X9_grow_ok (k := 4) rfl
theorem dX9_grow_7 : decode cX9_grow 7 = .ok (.if_icmp .ge 13, 3) := g_dec dt128_X9_grow_ok (k := 5) rfl
theorem dX9_grow_20 : decode cX9_grow 20 = .ok (.aload_n 0, 1) := g_dec dt128_X9_grow_ok (k := 6) rfl
theorem dX9_grow_21 : decode cX9_grow 21 = .ok (.getfield 11, 3) := g_dec dt128_X9_grow_ok (k := 7) rfl
theorem dX9_grow_24 : decode cX9_grow 24 = .ok (.arraylength, 1) := g_dec dt128_X9_grow_ok (k := 8) rfl
theorem dX9_grow_10 : decode cX9_grow 10 = .ok (.iconst 2, 1) := g_dec dt128_X9_grow_ok (k := 9) rfl
theorem dX9_grow_11 : decode cX9_grow 11 = .ok (.aload_n 0, 1) := g_dec dt128_X9_grow_ok (k := 10) rfl
theorem dX9_grow_12 : decode cX9_grow 12 = .ok (.getfield 11, 3) := g_dec dt128_X9_grow_ok (k := 11) rfl
theorem dX9_grow_15 : decode cX9_grow 15 = .ok (.arraylength, 1) := g_dec dt128_X9_grow_ok (k := 12) rfl
theorem dX9_grow_16 : decode cX9_grow 16 = .ok (.imul, 1) := g_dec dt128_X9_grow_ok (k := 13) rfl
theorem dX9_grow_17 : decode cX9_grow 17 = .ok (.goto 8, 3) := g_dec dt128_X9_grow_ok (k := 14) rfl
section
variable {p : Program} {l : Launch} {e : Env} {s : State} {m : MethodId} {args : Array Value} {below : List Frame} {meth : Method} {c : Code} {D : va_G} {y : Nat → ClassId} {aS : Nat → Nat} {A : Nat → Prop} {L : List Nat} {ad0 : Nat → Nat} {N : Nat} {res : gS}
def fX9_grow_121 (N : Nat) (σ : gS) : Option gS := some (gGrown σ)
set_option maxRecDepth 100000 in
set_option maxHeartbeats 4000000 in
theorem wX9_grow_121 {σ : gS} {ad : Nat → Nat} {kc ns : Nat} (hx : p.tables.exec = Jvm.exec) (hb : c.code = cX9_grow) (hr : meth.sig.returnType = none) (hml : c.maxLocals = 6) (hown : s.vm.findClass RX9 = some m.cls) (hg : ∀ w ∈ wsL_law, w.before args s = true) (hlocks : meth.locks = false) (hK : gK D y aS s) (hA : ∀ q, s.heap.size ≤ q → A q) (hL : ∀ k, k < 179 → k ∈ (L ++ [182, 183])) (hL2 : ∀ k ∈ L, k < 182) (ha : ∀ k, k < 182 → ad k = ad0 k) (hkc : kc ≤ 2) (hns : ns ≤ 4096) {H : Heap} {locs : List Loc} {ls : Array Slot} (hY : gY D y A s (L ++ [182, 183]) ad σ H locs) (hl : lv_has ls 6 [(0, .ref (ad 106)), (2, .ref (ad 182)), (3, .ref (ad 183))]) (h : fX9_grow_121 N σ = some res) : W p l e ({ frames := 1, cells := 2, slots := 4096, locals := 24 } : Room) s m args below meth c H locs kc ns (MQ below (va_Qv (fun (u : Nat → Nat) => ∀ k, k ≠ 107 → k ≠ 108 → u k = ad0 k) (fun u => gO D A (GW L y u res)) A) args s 2 4096 A) (F0 m 121 ls []) := by
  unfold fX9_grow_121 at h
  cases h
  obtain ⟨q, hq⟩ := GW_at (y := y) (ad := ad) (σ := σ) (hL 106 (by decide))
  have hq0 := hq
  rw [gce_obj gk_106 (by decide)] at hq
  have hlen : q < (GW (L ++ [182, 183]) y ad σ).length := by
    rcases Nat.lt_or_ge q (GW (L ++ [182, 183]) y ad σ).length with h | h
    · exact h
    · rw [List.getElem?_eq_none h] at hq; cases hq
  refine lv_aload_n hx hb dX9_grow_121 rfl (lv_at hl 0 rfl) ?_
  refine lv_aload_n hx hb dX9_grow_122 rfl (lv_at hl 1 rfl) ?_
  refine gm_put (D := D) (ci := 9) (v := .ref (ad 182)) (ty := .array .long) (C := RX9) (T := TX9) (N := 3) hx hb hg inlX9 tyX9 tyX9_ok nmX9 hown hK.1 hY.1 hY.2.1 hY.2.2 q hq rfl 0 (by decide) tX9_0 (hg _ gw_103) (by decide +kernel) rfl rfl (Nat.le_of_ble_eq_true rfl) dX9_grow_123 ?_
  intro H1 locs1 hP hD hS
  refine lv_aload_n hx hb dX9_grow_126 rfl (lv_at hl 0 rfl) ?_
  refine lv_aload_n hx hb dX9_grow_127 rfl (lv_at hl 2 rfl) ?_
  refine gm_put (D := D) (ci := 9) (v := .ref (ad 183)) (ty := .array .int) (C := RX9) (T := TX9) (N := 3) hx hb hg inlX9 tyX9 tyX9_ok nmX9 hown hK.1 hP hD hS q (List.getElem?_set_self hlen) rfl 1 (by decide) tX9_1 (hg _ gw_104) (by decide +kernel) rfl rfl (Nat.le_of_ble_eq_true rfl) dX9_grow_128 ?_
  intro H2 locs2 hP2 hD2 hS2
  rw [List.set_set] at hP2 hD2
  obtain ⟨hP3, hD3⟩ := GW_grown hL2 hq0 hY.2.1 hP2
  have hD4 : va_D A (GW L y (adG ad) (gGrown σ)) := hD3
  have e9 : GW L y (fun k => if k = 107 ∨ k = 108 then adG ad k else ad0 k) (gGrown σ) = GW L y (adG ad) (gGrown σ) := by
    have hq9 : ∀ k, k < 182 → (fun k => if k = 107 ∨ k = 108 then adG ad k else ad0 k) k = adG ad k := fun k hk => by
      show (if k = 107 ∨ k = 108 then adG ad k else ad0 k) = _
      split
      · rfl
      · rename_i h9
        unfold adG
        rw [if_neg (fun h => h9 (Or.inl h)), if_neg (fun h => h9 (Or.inr h)), ha k hk]
    exact GW_ext (fun j hj => hq9 j (by omega)) (fun k hk => hq9 k (hL2 k hk)) (fun _ _ => rfl) (fun _ _ => rfl) rfl
  rw [← e9] at hP3 hD4
  exact g_vret hx hb hr hlocks (fun k => if k = 107 ∨ k = 108 then adG ad k else ad0 k) hP3 hD4 hS2 (fun k h7 h8 => if_neg (fun h => h.elim h7 h8)) (by omega) (by omega) dX9_grow_131
def fX9_grow_115 (N : Nat) (rec37 : (gS × Int32) → Option gS) (σ : gS) (x1 : Int32) (x4 : Int32) : Option gS := rec37 (σ, (x4 + 1))
set_option maxRecDepth 100000 in
set_option maxHeartbeats 4000000 in
theorem wX9_grow_115 {rec37 : (gS × Int32) → Option gS} {σ : gS} {x1 : Int32} {x4 : Int32} {ad : Nat → Nat} {kc ns : Nat} (hx : p.tables.exec = Jvm.exec) (hb : c.code = cX9_grow) (hr : meth.sig.returnType = none) (hml : c.maxLocals = 6) (hown : s.vm.findClass RX9 = some m.cls) (hg : ∀ w ∈ wsL_law, w.before args s = true) (hlocks : meth.locks = false) (hK : gK D y aS s) (hA : ∀ q, s.heap.size ≤ q → A q) (hL : ∀ k, k < 179 → k ∈ (L ++ [182, 183])) (hL2 : ∀ k ∈ L, k < 182) (ha : ∀ k, k < 182 → ad k = ad0 k) (hrec37 : ∀ {ad : Nat → Nat} {kc ns : Nat} (ha : ∀ k, k < 182 → ad k = ad0 k) {σ9 : gS} {x4n9 : Int32} (hkc : kc ≤ 2) (hns : ns ≤ 4096) (H : Heap) (locs : List Loc) (ls : Array Slot), gY D y A s (L ++ [182, 183]) ad σ9 H locs → lv_has ls 6 [(0, .ref (ad 106)), (1, .int x1), (2, .ref (ad 182)), (3, .ref (ad 183)), (4, .int x4n9)] → rec37 (σ9, x4n9) = some res → W p l e ({ frames := 1, cells := 2, slots := 4096, locals := 24 } : Room) s m args below meth c H locs kc ns (MQ below (va_Qv (fun (u : Nat → Nat) => ∀ k, k ≠ 107 → k ≠ 108 → u k = ad0 k) (fun u => gO D A (GW L y u res)) A) args s 2 4096 A) (F0 m 37 ls [])) (hkc : kc ≤ 2) (hns : ns ≤ 4096) {H : Heap} {locs : List Loc} {ls : Array Slot} (hY : gY D y A s (L ++ [182, 183]) ad σ H locs) (hl : lv_has ls 6 [(0, .ref (ad 106)), (1, .int x1), (2, .ref (ad 182)), (3, .ref (ad 183)), (4, .int x4)]) (h : fX9_grow_115 N rec37 σ x1 x4 = some res) : W p l e ({ frames := 1, cells := 2, slots := 4096, locals := 24 } : Room) s m args below meth c H locs kc ns (MQ below (va_Qv (fun (u : Nat → Nat) => ∀ k, k ≠ 107 → k ≠ 108 → u k = ad0 k) (fun u => gO D A (GW L y u res)) A) args s 2 4096 A) (F0 m 115 ls []) := by
  unfold fX9_grow_115 at h
  refine lv_iinc (v := (x4 + 1)) (lv' := [(4, .int (x4 + 1)), (0, .ref (ad 106)), (1, .int x1), (2, .ref (ad 182)), (3, .ref (ad 183))]) hx hb dX9_grow_115 hl (k := 4) rfl rfl (by decide) rfl ?_
  clear hl
  intro ls hl
  refine lv_goto (tgt := 37) hx hb dX9_grow_118 (by decide) ?_
  exact hrec37 ha (by first | omega | (simp only [g_l0]; omega)) (by first | omega | (simp only [g_l0]; omega)) _ _ _ hY (lv_sub hl [1, 2, 3, 4, 0] rfl) h
def fX9_grow_37 (N : Nat) (x1 : Int32) (rec37 : (gS × Int32) → Option gS) (xx : gS × Int32) : Option gS := match xx with
  | (σ, x4) => if (Int32.ofNat (gle σ.2.2 107)) ≤ x4 then (fX9_grow_121 N σ) else (if (Int32.ofNat (gle σ.2.2 108)) ≤ x4 then (fX9_grow_121 N σ) else (if x4 < 0 ∨ gle σ.2.2 107 ≤ x4.toNatClampNeg then none else (if (lg_cmp (σ.2.1 107 x4.toNatClampNeg) 0) = 0 then (fX9_grow_115 N rec37 σ x1 x4) else (if x4 < 0 ∨ gle σ.2.2 107 ≤ x4.toNatClampNeg then none else ((fX9_placeFor N σ 182 (σ.2.1 107 x4.toNatClampNeg)).bind fun r_6 => if r_6 < 0 then (fX9_grow_115 N rec37 σ x1 x4) else (if x1 ≤ r_6 then (fX9_grow_115 N rec37 σ x1 x4) else (if x4 < 0 ∨ gle σ.2.2 107 ≤ x4.toNatClampNeg then none else (if r_6 < 0 ∨ gle σ.2.2 182 ≤ r_6.toNatClampNeg then none else (if x4 < 0 ∨ gle (sJ σ 182 r_6.toNatClampNeg (σ.2.1 107 x4.toNatClampNeg)).2.2 108 ≤ x4.toNatClampNeg then none else (if r_6 < 0 ∨ gle (sJ σ 182 r_6.toNatClampNeg (σ.2.1 107 x4.toNatClampNeg)).2.2 183 ≤ r_6.toNatClampNeg then none else (fX9_grow_115 N rec37 (sI (sJ σ 182 r_6.toNatClampNeg (σ.2.1 107 x4.toNatClampNeg)) 183 r_6.toNatClampNeg ((sJ σ 182 r_6.toNatClampNeg (σ.2.1 107 x4.toNatClampNeg)).1 108 x4.toNatClampNeg)) x1 x4)))))))))))
set_option maxRecDepth 100000 in
set_option maxHeartbeats 4000000 in
theorem wX9_grow_37 {x1 : Int32} (hx : p.tables.exec = Jvm.exec) (hb : c.code = cX9_grow) (hr : meth.sig.returnType = none) (hml : c.maxLocals = 6) (hown : s.vm.findClass RX9 = some m.cls) (hg : ∀ w ∈ wsL_law, w.before args s = true) (hlocks : meth.locks = false) (hK : gK D y aS s) (hA : ∀ q, s.heap.size ≤ q → A q) (hL : ∀ k, k < 179 → k ∈ (L ++ [182, 183])) (hL2 : ∀ k ∈ L, k < 182) : ∀ (n : Nat) {ad : Nat → Nat} {kc ns : Nat} (ha : ∀ k, k < 182 → ad k = ad0 k) {σ : gS} {x4 : Int32} (hkc : kc ≤ 2) (hns : ns ≤ 4096) (H : Heap) (locs : List Loc) (ls : Array Slot), gY D y A s (L ++ [182, 183]) ad σ H locs → lv_has ls 6 [(0, .ref (ad 106)), (1, .int x1), (2, .ref (ad 182)), (3, .ref (ad 183)), (4, .int x4)] → lp (fX9_grow_37 N x1) n (σ, x4) = some res → W p l e ({ frames := 1, cells := 2, slots := 4096, locals := 24 } : Room) s m args below meth c H locs kc ns (MQ below (va_Qv (fun (u : Nat → Nat) => ∀ k, k ≠ 107 → k ≠ 108 → u k = ad0 k) (fun u => gO D A (GW L y u res)) A) args s 2 4096 A) (F0 m 37 ls []) := by
  intro n
  induction n with
  | zero => intro ad kc ns ha σ x4 hkc hns H locs ls hY hl h; exact nomatch (show none = some res from h)
  | succ n hrec37 =>
    intro ad kc ns ha σ x4 hkc hns H locs ls hY hl h
    replace h : fX9_grow_37 N x1 (lp (fX9_grow_37 N x1) n) (σ, x4) = some res := h
    generalize lp (fX9_grow_37 N x1) n = rec37 at h hrec37
    unfold fX9_grow_37 at h
    try dsimp only at h
    refine lv_iload hx hb dX9_grow_37 (lv_at hl 4 rfl) ?_
    refine lv_aload_n hx hb dX9_grow_39 rfl (lv_at hl 0 rfl) ?_
    refine G_get (ci := 9) (j := 0) (C := RX9) (T := TX9) (N := 3) (v := .ref (ad 107)) hx hb hg inlX9 hown hK hY (hL 106 (by decide)) gk_106 (by decide) rfl (by decide) tX9_0 (hg _ gw_103) rfl dX9_grow_40 ?_
    refine G_alenJ hx hb hK hY (hL 107 (by decide)) gk_107 dX9_grow_43 ?_
    refine lv_icmp_ge (tgt := 121) hx hb dX9_grow_44 (by decide) (fun z_1 => ?_) (fun z_1 => ?_)
    ·
      rw [if_pos z_1] at h
      exact wX9_grow_121 hx hb hr hml hown hg hlocks hK hA hL hL2 ha (by first | omega | (simp only [g_l0]; omega)) (by first | omega | (simp only [g_l0]; omega)) hY (lv_sub hl [0, 2, 3] rfl) h
    ·
      rw [if_neg z_1] at h
      refine lv_iload hx hb dX9_grow_47 (lv_at hl 4 rfl) ?_
      refine lv_aload_n hx hb dX9_grow_49 rfl (lv_at hl 0 rfl) ?_
      refine G_get (ci := 9) (j := 1) (C := RX9) (T := TX9) (N := 3) (v := .ref (ad 108)) hx hb hg inlX9 hown hK hY (hL 106 (by decide)) gk_106 (by decide) rfl (by decide) tX9_1 (hg _ gw_104) rfl dX9_grow_50 ?_
      refine G_alenI hx hb hK hY (hL 108 (by decide)) gk_108 dX9_grow_53 ?_
      refine lv_icmp_ge (tgt := 121) hx hb dX9_grow_54 (by decide) (fun z_2 => ?_) (fun z_2 => ?_)
      ·
        rw [if_pos z_2] at h
        exact wX9_grow_121 hx hb hr hml hown hg hlocks hK hA hL hL2 ha (by first | omega | (simp only [g_l0]; omega)) (by first | omega | (simp only [g_l0]; omega)) hY (lv_sub hl [0, 2, 3] rfl) h
      ·
        rw [if_neg z_2] at h
        refine lv_aload_n hx hb dX9_grow_57 rfl (lv_at hl 0 rfl) ?_
        refine G_get (ci := 9) (j := 0) (C := RX9) (T := TX9) (N := 3) (v := .ref (ad 107)) hx hb hg inlX9 hown hK hY (hL 106 (by decide)) gk_106 (by decide) rfl (by decide) tX9_0 (hg _ gw_103) rfl dX9_grow_58 ?_
        refine lv_iload hx hb dX9_grow_61 (lv_at hl 4 rfl) ?_
        obtain ⟨z_3, h⟩ := g_guard h
        refine G_lald (j := x4.toNatClampNeg) hx hb hK hY (hL 107 (by decide)) gk_107 z_3 rfl dX9_grow_63 ?_
        refine lv_lconst (v := 0) hx hb dX9_grow_64 (by decide) ?_
        refine W.lcmp hx hb dX9_grow_65 ?_
        refine lv_if_eq (tgt := 115) hx hb dX9_grow_66 (by decide) (fun z_4 => ?_) (fun z_4 => ?_)
        ·
          rw [if_pos z_4] at h
          exact wX9_grow_115 hx hb hr hml hown hg hlocks hK hA hL hL2 ha hrec37 (by first | omega | (simp only [g_l0]; omega)) (by first | omega | (simp only [g_l0]; omega)) hY (lv_sub hl [0, 1, 2, 3, 4] rfl) h
        ·
          rw [if_neg z_4] at h
          refine lv_aload_n hx hb dX9_grow_69 rfl (lv_at hl 2 rfl) ?_
          refine lv_aload_n hx hb dX9_grow_70 rfl (lv_at hl 0 rfl) ?_
          refine G_get (ci := 9) (j := 0) (C := RX9) (T := TX9) (N := 3) (v := .ref (ad 107)) hx hb hg inlX9 hown hK hY (hL 106 (by decide)) gk_106 (by decide) rfl (by decide) tX9_0 (hg _ gw_103) rfl dX9_grow_71 ?_
          refine lv_iload hx hb dX9_grow_74 (lv_at hl 4 rfl) ?_
          obtain ⟨z_5, h⟩ := g_guard h
          refine G_lald (j := x4.toNatClampNeg) hx hb hK hY (hL 107 (by decide)) gk_107 z_5 rfl dX9_grow_76 ?_
          obtain ⟨r_6, e_7, h⟩ := g_bind h
          refine G_ai hY hA (va_runS (As := [.ref (ad 182), .long (σ.2.1 107 x4.toNatClampNeg)]) (rest := []) ⟨hx, hb, hml, hown, hg⟩ (kX9_placeFor l D y aS H.size (L ++ [182, 183]) hL ad N σ 182 (σ.2.1 107 x4.toNatClampNeg) _ gk_182 (by simp) e_7) (va_cwS 2 hg ggS_RX9_23_X9_placeFor rfl rfl rfl (by decide +kernel) ⟨Nat.le_of_ble_eq_true rfl, Nat.le_of_ble_eq_true rfl⟩) (G_pS hK hY) rfl rfl hl.1 rfl (lv_room (Nat.le_of_ble_eq_true rfl)) dX9_grow_77 ⟨(by dsimp only; omega), (by dsimp only; omega)⟩) ?_
          clear hY
          rintro _ H locs rfl hY
          refine lv_istore (lv' := [(5, .int r_6), (0, .ref (ad 106)), (1, .int x1), (2, .ref (ad 182)), (3, .ref (ad 183)), (4, .int x4)]) hx hb dX9_grow_80 hl (by decide) rfl ?_
          clear hl
          intro ls hl
          refine lv_iload hx hb dX9_grow_82 (lv_at hl 0 rfl) ?_
          refine lv_if_lt (tgt := 115) hx hb dX9_grow_84 (by decide) (fun z_8 => ?_) (fun z_8 => ?_)
          ·
            rw [if_pos z_8] at h
            exact wX9_grow_115 hx hb hr hml hown hg hlocks hK hA hL hL2 ha hrec37 (by first | omega | (simp only [g_l0]; omega)) (by first | omega | (simp only [g_l0]; omega)) hY (lv_sub hl [1, 2, 3, 4, 5] rfl) h
          ·
            rw [if_neg z_8] at h
            refine lv_iload hx hb dX9_grow_87 (lv_at hl 0 rfl) ?_
            refine lv_iload_n hx hb dX9_grow_89 rfl (lv_at hl 2 rfl) ?_
            refine lv_icmp_ge (tgt := 115) hx hb dX9_grow_90 (by decide) (fun z_9 => ?_) (fun z_9 => ?_)
            ·
              rw [if_pos z_9] at h
              exact wX9_grow_115 hx hb hr hml hown hg hlocks hK hA hL hL2 ha hrec37 (by first | omega | (simp only [g_l0]; omega)) (by first | omega | (simp only [g_l0]; omega)) hY (lv_sub hl [1, 2, 3, 4, 5] rfl) h
            ·
              rw [if_neg z_9] at h
              refine lv_aload_n hx hb dX9_grow_93 rfl (lv_at hl 3 rfl) ?_
              refine lv_iload hx hb dX9_grow_94 (lv_at hl 0 rfl) ?_
              refine lv_aload_n hx hb dX9_grow_96 rfl (lv_at hl 1 rfl) ?_
              refine G_get (ci := 9) (j := 0) (C := RX9) (T := TX9) (N := 3) (v := .ref (ad 107)) hx hb hg inlX9 hown hK hY (hL 106 (by decide)) gk_106 (by decide) rfl (by decide) tX9_0 (hg _ gw_103) rfl dX9_grow_97 ?_
              refine lv_iload hx hb dX9_grow_100 (lv_at hl 5 rfl) ?_
              obtain ⟨z_10, h⟩ := g_guard h
              refine G_lald (j := x4.toNatClampNeg) hx hb hK hY (hL 107 (by decide)) gk_107 z_10 rfl dX9_grow_102 ?_
              obtain ⟨z_11, h⟩ := g_guard h
              refine G_last (j := r_6.toNatClampNeg) hx hb hK hY (by simp) gk_182 z_11 rfl dX9_grow_103 ?_
              clear hY
              intro H locs hY
              refine lv_aload_n hx hb dX9_grow_104 rfl (lv_at hl 4 rfl) ?_
              refine lv_iload hx hb dX9_grow_105 (lv_at hl 0 rfl) ?_
              refine lv_aload_n hx hb dX9_grow_107 rfl (lv_at hl 1 rfl) ?_
              refine G_get (ci := 9) (j := 1) (C := RX9) (T := TX9) (N := 3) (v := .ref (ad 108)) hx hb hg inlX9 hown hK hY (hL 106 (by decide)) gk_106 (by decide) rfl (by decide) tX9_1 (hg _ gw_104) rfl dX9_grow_108 ?_
              refine lv_iload hx hb dX9_grow_111 (lv_at hl 5 rfl) ?_
              obtain ⟨z_12, h⟩ := g_guard h
              refine G_iald (j := x4.toNatClampNeg) hx hb hK hY (hL 108 (by decide)) gk_108 z_12 rfl dX9_grow_113 ?_
              obtain ⟨z_13, h⟩ := g_guard h
              refine G_iast (j := r_6.toNatClampNeg) hx hb hK hY (by simp) gk_183 z_13 rfl dX9_grow_114 ?_
              clear hY
              intro H locs hY
              exact wX9_grow_115 hx hb hr hml hown hg hlocks hK hA hL hL2 ha hrec37 (by first | omega | (simp only [g_l0]; omega)) (by first | omega | (simp only [g_l0]; omega)) hY (lv_sub hl [1, 2, 3, 4, 5] rfl) h
def fX9_grow_25 (N : Nat) (σ : gS) (xs0 : Int32) : Option gS := if xs0 < 0 ∨ ¬ xs0.toNatClampNeg = gle σ.2.2 182 ∨ 2048 < gle σ.2.2 182 then none else (if xs0 < 0 ∨ ¬ xs0.toNatClampNeg = gle (zJ σ 182).2.2 183 ∨ 2048 < gle (zJ σ 182).2.2 183 then none else (lp (fX9_grow_37 N xs0) N ((zI (zJ σ 182) 183), 0)))
set_option maxRecDepth 100000 in
set_option maxHeartbeats 4000000 in
theorem wX9_grow_25 {σ : gS} {xs0 : Int32} {ad : Nat → Nat} {kc ns : Nat} (hx : p.tables.exec = Jvm.exec) (hb : c.code = cX9_grow) (hr : meth.sig.returnType = none) (hml : c.maxLocals = 6) (hown : s.vm.findClass RX9 = some m.cls) (hg : ∀ w ∈ wsL_law, w.before args s = true) (hlocks : meth.locks = false) (hK : gK D y aS s) (hA : ∀ q, s.heap.size ≤ q → A q) (hL : ∀ k, k < 179 → k ∈ L) (hL2 : ∀ k ∈ L, k < 182) (ha : ∀ k, k < 182 → ad k = ad0 k) (hkc : kc = 0) (hns : ns = 0) {H : Heap} {locs : List Loc} {ls : Array Slot} (hY : gY D y A s L ad σ H locs) (hl : lv_has ls 6 [(0, .ref (ad 106))]) (h : fX9_grow_25 N σ xs0 = some res) : W p l e ({ frames := 1, cells := 2, slots := 4096, locals := 24 } : Room) s m args below meth c H locs kc ns (MQ below (va_Qv (fun (u : Nat → Nat) => ∀ k, k ≠ 107 → k ≠ 108 → u k = ad0 k) (fun u => gO D A (GW L y u res)) A) args s 2 4096 A) (F0 m 25 ls [.int xs0]) := by
  unfold fX9_grow_25 at h
  refine lv_istore_n (lv' := [(1, .int xs0), (0, .ref (ad 106))]) hx hb dX9_grow_25 rfl hl (by decide) rfl ?_
  clear hl
  intro ls hl
  refine lv_iload_n hx hb dX9_grow_26 rfl (lv_at hl 0 rfl) ?_
  obtain ⟨z1, h⟩ := g_guard h
  have b1 : gle σ.2.2 182 ≤ 2048 := Nat.not_lt.mp fun q => z1 (Or.inr (Or.inr q))
  refine G_newJ (K := 182) hx hb hg hK hA hY hL2 (by decide) gk_182 (fun q => z1 (Or.inl q)) (Classical.not_not.mp fun q => z1 (Or.inr (Or.inl q))) (by show _ * 8 ≤ _; omega) (by dsimp only; omega) (by dsimp only; omega) dX9_grow_27 ?_
  intro q1 H1 hY1
  have hu1 : ∀ k, k < 182 → adU ad 182 q1 k = ad k := fun k hk => if_neg (Nat.ne_of_lt hk)
  replace hl : lv_has ls 6 [(1, .int xs0), (0, .ref (adU ad 182 q1 106))] := by rw [hu1 106 (by decide)]; exact hl
  refine lv_astore_n (lv' := [(2, .ref (adU ad 182 q1 182)), (1, .int xs0), (0, .ref (adU ad 182 q1 106))]) hx hb dX9_grow_29 rfl hl (by decide) rfl ?_
  clear hl
  intro ls hl
  refine lv_iload_n hx hb dX9_grow_30 rfl (lv_at hl 1 rfl) ?_
  obtain ⟨z2, h⟩ := g_guard h
  have b2 : gle (zJ σ 182).2.2 183 ≤ 2048 := Nat.not_lt.mp fun q => z2 (Or.inr (Or.inr q))
  refine G_newI (K := 183) hx hb hg hK hA hY1 (fun k hk => (List.mem_append.mp hk).elim (fun h => Nat.lt_succ_of_lt (hL2 k h)) (fun h => by rw [List.mem_singleton.mp h]; decide)) (by decide) gk_183 (fun q => z2 (Or.inl q)) (Classical.not_not.mp fun q => z2 (Or.inr (Or.inl q))) (by show _ * 4 ≤ _; omega) (by dsimp only; omega) (by dsimp only; omega) dX9_grow_31 ?_
  intro q2 H2 hY2
  have hu2 : ∀ k, k < 183 → adU (adU ad 182 q1) 183 q2 k = adU ad 182 q1 k := fun k hk => if_neg (Nat.ne_of_lt hk)
  rw [List.append_assoc] at hY2
  generalize adU (adU ad 182 q1) 183 q2 = a2 at hY2 hu2 ⊢
  replace hl : lv_has ls 6 [(2, .ref (a2 182)), (1, .int xs0), (0, .ref (a2 106))] := by rw [hu2 182 (by decide), hu2 106 (by decide)]; exact hl
  have ha2 : ∀ k, k < 182 → a2 k = ad0 k := fun k hk => by rw [hu2 k (by omega), hu1 k hk, ha k hk]
  refine lv_astore_n (lv' := [(3, .ref (a2 183)), (2, .ref (a2 182)), (1, .int xs0), (0, .ref (a2 106))]) hx hb dX9_grow_33 rfl hl (by decide) rfl ?_
  clear hl
  intro ls hl
  refine lv_iconst (v := 0) hx hb dX9_grow_34 (by decide) ?_
  refine lv_istore (lv' := [(4, .int 0), (3, .ref (a2 183)), (2, .ref (a2 182)), (1, .int xs0), (0, .ref (a2 106))]) hx hb dX9_grow_35 hl (by decide) rfl ?_
  clear hl
  intro ls hl
  exact wX9_grow_37 hx hb hr hml hown hg hlocks hK hA (fun k hk => List.mem_append_left _ (hL k hk)) hL2 N ha2 (by omega) (by omega) _ _ _ hY2 (lv_sub hl [4, 3, 2, 1, 0] rfl) h
end
def fX9_grow (N : Nat) (σ : gS) : Option gS := if 16777216 ≤ (Int32.ofNat (gle σ.2.2 107)) then (fX9_grow_25 N σ (Int32.ofNat (gle σ.2.2 107))) else (fX9_grow_25 N σ (2 * (Int32.ofNat (gle σ.2.2 107))))
set_option maxRecDepth 100000 in
set_option maxHeartbeats 4000000 in
theorem kX9_grow (l : Launch) (D : va_G) (y : Nat → ClassId) (aS : Nat → Nat) (sz : Nat) (L : List Nat) (hL : ∀ k, k < 179 → k ∈ L) (hL2 : ∀ k ∈ L, k < 182) (ad : Nat → Nat) (ad0 : Nat → Nat) (ha : ∀ k, k < 182 → ad k = ad0 k) (N : Nat) (σ : gS) (res : gS) (h : fX9_grow N σ = some res) : Met l yX9_grow (Cond.code yX9_grow cX9_grow 6 none :: wsL_law) ({ frames := 1, cells := 2, slots := 4096, locals := 24 } : Room) (va_Pc [.ref (ad 106)] (gI D y aS (GW L y ad σ) sz)) (va_Qv (fun (u : Nat → Nat) => ∀ k, k ≠ 107 → k ≠ 108 → u k = ad0 k) (fun u => gO D (va_A (GW L y ad σ) sz) (GW L y u res)) (va_A (GW L y ad σ) sz)) 2 4096 (va_A (GW L y ad σ) sz) := by
  refine g_of (by decide) (Nat.le_of_ble_eq_true rfl) ?_
  intro p e s m below meth c ls A hx hb hr hml hown hg hlocks hin hsz hK hP hD hS hA hAe hl
  rw [← hAe]
  replace hown : s.vm.findClass RX9 = some m.cls := hown
  have hY : gY D y A s L ad σ s.heap [] := ⟨hP, hD, hS⟩
  clear hP hD hS
  replace hl : lv_has ls 6 [(0, .ref (ad 106))] := hl
  unfold fX9_grow at h
  refine lv_aload_n hx hb dX9_grow_0 rfl (lv_at hl 0 rfl) ?_
  refine G_get (ci := 9) (j := 0) (C := RX9) (T := TX9) (N := 3) (v := .ref (ad 107)) hx hb hg inlX9 hown hK hY (hL 106 (by decide)) gk_106 (by decide) rfl (by decide) tX9_0 (hg _ gw_103) rfl dX9_grow_1 ?_
  refine G_alenJ hx hb hK hY (hL 107 (by decide)) gk_107 dX9_grow_4 ?_
  refine lv_ldc (v := 16777216) hx hb hown (hg _ gw_805) dX9_grow_5 ?_
  refine lv_icmp_ge (tgt := 20) hx hb dX9_grow_7 (by decide) (fun z_1 => ?_) (fun z_1 => ?_)
  ·
    rw [if_pos z_1] at h
    refine lv_aload_n hx hb dX9_grow_20 rfl (lv_at hl 0 rfl) ?_
    refine G_get (ci := 9) (j := 0) (C := RX9) (T := TX9) (N := 3) (v := .ref (ad 107)) hx hb hg inlX9 hown hK hY (hL 106 (by decide)) gk_106 (by decide) rfl (by decide) tX9_0 (hg _ gw_103) rfl dX9_grow_21 ?_
    refine G_alenJ hx hb hK hY (hL 107 (by decide)) gk_107 dX9_grow_24 ?_
    exact wX9_grow_25 hx hb hr hml hown hg hlocks hK hA hL hL2 ha (by first | omega | (simp only [g_l0]; omega)) (by first | omega | (simp only [g_l0]; omega)) hY (lv_sub hl [0] rfl) h
  ·
    rw [if_neg z_1] at h
    refine lv_iconst (v := 2) hx hb dX9_grow_10 (by decide) ?_
    refine lv_aload_n hx hb dX9_grow_11 rfl (lv_at hl 0 rfl) ?_
    refine G_get (ci := 9) (j := 0) (C := RX9) (T := TX9) (N := 3) (v := .ref (ad 107)) hx hb hg inlX9 hown hK hY (hL 106 (by decide)) gk_106 (by decide) rfl (by decide) tX9_0 (hg _ gw_103) rfl dX9_grow_12 ?_
    refine G_alenJ hx hb hK hY (hL 107 (by decide)) gk_107 dX9_grow_15 ?_
    refine lv_imul hx hb dX9_grow_16 ?_
    refine lv_goto (tgt := 25) hx hb dX9_grow_17 (by decide) ?_
    exact wX9_grow_25 hx hb hr hml hown hg hlocks hK hA hL hL2 ha (by first | omega | (simp only [g_l0]; omega)) (by first | omega | (simp only [g_l0]; omega)) hY (lv_sub hl [0] rfl) h
