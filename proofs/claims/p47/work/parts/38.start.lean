def dt8001_L_law : List (Nat × Instr × Nat) := [(0, (.new 68, 3)), (3, (.dup, 1)), (4, (.invokespecial 202, 3)), (7, (.astore_n 1, 1)), (8, (.bipush 11, 2)), (10, (.newarray .int, 2)), (12, (.astore_n 2, 1)), (13, (.bipush 24, 2)), (15, (.newarray .int, 2)), (17, (.astore_n 3, 1)), (18, (.bipush 24, 2)), (20, (.newarray .int, 2)), (22, (.astore 4, 2)), (24, (.bipush 24, 2)), (26, (.newarray .int, 2)), (28, (.astore 5, 2)), (30, (.bipush 24, 2)), (32, (.newarray .int, 2)), (34, (.astore 6, 2)), (36, (.bipush 24, 2)), (38, (.newarray .int, 2)), (40, (.astore 7, 2)), (42, (.bipush 24, 2)), (44, (.newarray .int, 2)), (46, (.astore 8, 2)), (48, (.bipush 24, 2)), (50, (.newarray .int, 2)), (52, (.astore 9, 2)), (54, (.bipush 24, 2)), (56, (.newarray .long, 2)), (58, (.astore 10, 2)), (60, (.bipush 24, 2)), (62, (.newarray .long, 2)), (64, (.astore 11, 2)), (66, (.bipush 26, 2)), (68, (.newarray .long, 2)), (70, (.astore 12, 2)), (72, (.bipush 48, 2)), (74, (.newarray .int, 2)), (76, (.astore 13, 2)), (78, (.bipush 12, 2)), (80, (.newarray .int, 2)), (82, (.astore 14, 2)), (84, (.bipush 64, 2)), (86, (.newarray .long, 2)), (88, (.astore 15, 2)), (90, (.bipush 64, 2)), (92, (.newarray .int, 2)), (94, (.astore 16, 2)), (96, (.bipush 18, 2)), (98, (.newarray .int, 2)), (100, (.astore 17, 2)), (102, (.iconst 3, 1)), (103, (.newarray .long, 2)), (105, (.astore 18, 2)), (107, (.bipush 14, 2)), (109, (.newarray .int, 2)), (111, (.astore 19, 2)), (113, (.aload_n 2, 1)), (114, (.iconst 1, 1))]
theorem dt8001_L_law_ok : ∀ q ∈ dt8001_L_law, decode cL_law q.1 = .ok q.2 := by decide +kernel
theorem dL_law_0 : decode cL_law 0 = .ok (.new 68, 3) := g_dec dt8001_L_law_ok (k := 0) rfl
theorem dL_law_3 : decode cL_law 3 = .ok (.dup, 1) := g_dec dt8001_L_law_ok (k := 1) rfl
theorem dL_law_4 : decode cL_law 4 = .ok (.invokespecial 202, 3) := g_dec dt8001_L_law_ok (k := 2) rfl
theorem dL_law_7 : decode cL_law 7 = .ok (.astore_n 1, 1) := g_dec dt8001_L_law_ok (k := 3) rfl
theorem dL_law_8 : decode cL_law 8 = .ok (.bipush 11, 2) := g_dec dt8001_L_law_ok (k := 4) rfl
theorem dL_law_10 : decode cL_law 10 = .ok (.newarray .int, 2) := g_dec dt8001_L_law_ok (k := 5) rfl
theorem dL_law_12 : decode cL_law 12 = .ok (.astore_n 2, 1) := g_dec dt8001_L_law_ok (k := 6) rfl
theorem dL_law_13 : decode cL_law 13 = .ok (.bipush 24, 2) := g_dec dt8001_L_law_ok (k := 7) rfl
theorem dL_law_15 : decode cL_law 15 = .ok (.newarray .int, 2) := g_dec dt8001_L_law_ok (k := 8) rfl
theorem dL_law_17 : decode cL_law 17 = .ok (.astore_n 3, 1) := g_dec dt8001_L_law_ok (k := 9) rfl
theorem dL_law_18 : decode cL_law 18 = .ok (.bipush 24, 2) := g_dec dt8001_L_law_ok (k := 10) rfl
theorem dL_law_20 : decode cL_law 20 = .ok (.newarray .int, 2) := g_dec dt8001_L_law_ok (k := 11) rfl
theorem dL_law_22 : decode cL_law 22 = .ok (.astore 4, 2) := g_dec dt8001_L_law_ok (k := 12) rfl
theorem dL_law_24 : decode cL_law 24 = .ok (.bipush 24, 2) := g_dec dt8001_L_law_ok (k := 13) rfl
theorem dL_law_26 : decode cL_law 26 = .ok (.newarray .int, 2) := g_dec dt8001_L_law_ok (k := 14) rfl
theorem dL_law_28 : decode cL_law 28 = .ok (.astore 5, 2) := g_dec dt8001_L_law_ok (k := 15) rfl
theorem dL_law_30 : decode cL_law 30 = .ok (.bipush 24, 2) := g_dec dt8001_L_law_ok (k := 16) rfl
theorem dL_law_32 : decode cL_law 32 = .ok (.newarray .int, 2) := g_dec dt8001_L_law_ok (k := 17) rfl
theorem dL_law_34 : decode cL_law 34 = .ok (.astore 6, 2) := g_dec dt8001_L_law_ok (k := 18) rfl
theorem dL_law_36 : decode cL_law 36 = .ok (.bipush 24, 2) := g_dec dt8001_L_law_ok (k := 19) rfl
theorem dL_law_38 : decode cL_law 38 = .ok (.newarray .int, 2) := g_dec dt8001_L_law_ok (k := 20) rfl
theorem dL_law_40 : decode cL_law 40 = .ok (.astore 7, 2) := g_dec dt8001_L_law_ok (k := 21) rfl
theorem dL_law_42 : decode cL_law 42 = .ok (.bipush 24, 2) := g_dec dt8001_L_law_ok (k := 22) rfl
theorem dL_law_44 : decode cL_law 44 = .ok (.newarray .int, 2) := g_dec dt8001_L_law_ok (k := 23) rfl
theorem dL_law_46 : decode cL_law 46 = .ok (.astore 8, 2) := g_dec dt8001_L_law_ok (k := 24) rfl
theorem dL_law_48 : decode cL_law 48 = .ok (.bipush 24, 2) := g_dec dt8001_L_law_ok (k := 25) rfl
theorem dL_law_50 : decode cL_law 50 = .ok (.newarray .int, 2) := g_dec dt8001_L_law_ok (k := 26) rfl
theorem dL_law_52 : decode cL_law 52 = .ok (.astore 9, 2) := g_dec dt8001_L_law_ok (k := 27) rfl
theorem dL_law_54 : decode cL_law 54 = .ok (.bipush 24, 2) := g_dec dt8001_L_law_ok (k := 28) rfl
theorem dL_law_56 : decode cL_law 56 = .ok (.newarray .long, 2) := g_dec dt8001_L_law_ok (k := 29) rfl
theorem dL_law_58 : decode cL_law 58 = .ok (.astore 10, 2) := g_dec dt8001_L_law_ok (k := 30) rfl
theorem dL_law_60 : decode cL_law 60 = .ok (.bipush 24, 2) := g_dec dt8001_L_law_ok (k := 31) rfl
theorem dL_law_62 : decode cL_law 62 = .ok (.newarray .long, 2) := g_dec dt8001_L_law_ok (k := 32) rfl
theorem dL_law_64 : decode cL_law 64 = .ok (.astore 11, 2) := g_dec dt8001_L_law_ok (k := 33) rfl
theorem dL_law_66 : decode cL_law 66 = .ok (.bipush 26, 2) := g_dec dt8001_L_law_ok (k := 34) rfl
theorem dL_law_68 : decode cL_law 68 = .ok (.newarray .long, 2) := g_dec dt8001_L_law_ok (k := 35) rfl
theorem dL_law_70 : decode cL_law 70 = .ok (.astore 12, 2) := g_dec dt8001_L_law_ok (k := 36) rfl
theorem dL_law_72 : decode cL_law 72 = .ok (.bipush 48, 2) := g_dec dt8001_L_law_ok (k := 37) rfl
theorem dL_law_74 : decode cL_law 74 = .ok (.newarray .int, 2) := g_dec dt8001_L_law_ok (k := 38) rfl
theorem dL_law_76 : decode cL_law 76 = .ok (.astore 13, 2) := g_dec dt8001_L_law_ok (k := 39) rfl
theorem dL_law_78 : decode cL_law 78 = .ok (.bipush 12, 2) := g_dec dt8001_L_law_ok (k := 40) rfl
theorem dL_law_80 : decode cL_law 80 = .ok (.newarray .int, 2) := g_dec dt8001_L_law_ok (k := 41) rfl
theorem dL_law_82 : decode cL_law 82 = .ok (.astore 14, 2) := g_dec dt8001_L_law_ok (k := 42) rfl
theorem dL_law_84 : decode cL_law 84 = .ok (.bipush 64, 2) := g_dec dt8001_L_law_ok (k := 43) rfl
theorem dL_law_86 : decode cL_law 86 = .ok (.newarray .long, 2) := g_dec dt8001_L_law_ok (k := 44) rfl
theorem dL_law_88 : decode cL_law 88 = .ok (.astore 15, 2) := g_dec dt8001_L_law_ok (k := 45) rfl
theorem dL_law_90 : decode cL_law 90 = .ok (.bipush 64, 2) := g_dec dt8001_L_law_ok (k := 46) rfl
theorem dL_law_92 : decode cL_law 92 = .ok (.newarray .int, 2) := g_dec dt8001_L_law_ok (k := 47) rfl
theorem dL_law_94 : decode cL_law 94 = .ok (.astore 16, 2) := g_dec dt8001_L_law_ok (k := 48) rfl
theorem dL_law_96 : decode cL_law 96 = .ok (.bipush 18, 2) := g_dec dt8001_L_law_ok (k := 49) rfl
theorem dL_law_98 : decode cL_law 98 = .ok (.newarray .int, 2) := g_dec dt8001_L_law_ok (k := 50) rfl
theorem dL_law_100 : decode cL_law 100 = .ok (.astore 17, 2) := g_dec dt8001_L_law_ok (k := 51) rfl
theorem dL_law_102 : decode cL_law 102 = .ok (.iconst 3, 1) := g_dec dt8001_L_law_ok (k := 52) rfl
theorem dL_law_103 : decode cL_law 103 = .ok (.newarray .long, 2) := g_dec dt8001_L_law_ok (k := 53) rfl
theorem dL_law_105 : decode cL_law 105 = .ok (.astore 18, 2) := g_dec dt8001_L_law_ok (k := 54) rfl
theorem dL_law_107 : decode cL_law 107 = .ok (.bipush 14, 2) := g_dec dt8001_L_law_ok (k := 55) rfl
theorem dL_law_109 : decode cL_law 109 = .ok (.newarray .int, 2) := g_dec dt8001_L_law_ok (k := 56) rfl
theorem dL_law_111 : decode cL_law 111 = .ok (.astore 19, 2) := g_dec dt8001_L_law_ok (k := 57) rfl
theorem dL_law_113 : decode cL_law 113 = .ok (.aload_n 2, 1) := g_dec dt8001_L_law_ok (k := 58) rfl
theorem dL_law_114 : decode cL_law 114 = .ok (.iconst 1, 1) := g_dec dt8001_L_law_ok (k := 59) rfl
def dt8002_L_law : List (Nat × Instr × Nat) := [(115, (.iconst 1, 1)), (116, (.iastore, 1)), (117, (.aload_n 2, 1)), (118, (.iconst 5, 1)), (119, (.iconst 1, 1)), (120, (.iastore, 1)), (121, (.aload_n 2, 1)), (122, (.bipush 6, 2)), (124, (.iconst 1, 1)), (125, (.iastore, 1)), (126, (.aload_n 2, 1)), (127, (.bipush 9, 2)), (129, (.iconst (-1), 1)), (130, (.iastore, 1)), (131, (.iconst 0, 1)), (132, (.istore 20, 2))]
theorem dt8002_L_law_ok : ∀ q ∈ dt8002_L_law, decode cL_law q.1 = .ok q.2 := by decide +kernel
theorem dL_law_115 : decode cL_law 115 = .ok (.iconst 1, 1) := g_dec dt8002_L_law_ok (k := 0) rfl
theorem dL_law_116 : decode cL_law 116 = .ok (.iastore, 1) := g_dec dt8002_L_law_ok (k := 1) rfl
theorem dL_law_117 : decode cL_law 117 = .ok (.aload_n 2, 1) := g_dec dt8002_L_law_ok (k := 2) rfl
theorem dL_law_118 : decode cL_law 118 = .ok (.iconst 5, 1) := g_dec dt8002_L_law_ok (k := 3) rfl
theorem dL_law_119 : decode cL_law 119 = .ok (.iconst 1, 1) := g_dec dt8002_L_law_ok (k := 4) rfl
theorem dL_law_120 : decode cL_law 120 = .ok (.iastore, 1) := g_dec dt8002_L_law_ok (k := 5) rfl
theorem dL_law_121 : decode cL_law 121 = .ok (.aload_n 2, 1) := g_dec dt8002_L_law_ok (k := 6) rfl
theorem dL_law_122 : decode cL_law 122 = .ok (.bipush 6, 2) := g_dec dt8002_L_law_ok (k := 7) rfl
theorem dL_law_124 : decode cL_law 124 = .ok (.iconst 1, 1) := g_dec dt8002_L_law_ok (k := 8) rfl
theorem dL_law_125 : decode cL_law 125 = .ok (.iastore, 1) := g_dec dt8002_L_law_ok (k := 9) rfl
theorem dL_law_126 : decode cL_law 126 = .ok (.aload_n 2, 1) := g_dec dt8002_L_law_ok (k := 10) rfl
theorem dL_law_127 : decode cL_law 127 = .ok (.bipush 9, 2) := g_dec dt8002_L_law_ok (k := 11) rfl
theorem dL_law_129 : decode cL_law 129 = .ok (.iconst (-1), 1) := g_dec dt8002_L_law_ok (k := 12) rfl
theorem dL_law_130 : decode cL_law 130 = .ok (.iastore, 1) := g_dec dt8002_L_law_ok (k := 13) rfl
theorem dL_law_131 : decode cL_law 131 = .ok (.iconst 0, 1) := g_dec dt8002_L_law_ok (k := 14) rfl
theorem dL_law_132 : decode cL_law 132 = .ok (.istore 20, 2) := g_dec dt8002_L_law_ok (k := 15) rfl
theorem GW_pushC {L : List Nat} {y : Nat → ClassId} {ad : Nat → Nat} {σ : gS} {K q : Nat} (hc : gClL L) (hLK : K ∉ L) : GW L y ad σ ++ [(q, gce y (adU ad K q) K (σ.1 K) (σ.2.1 K) σ.2.2)] = GW (L ++ [K]) y (adU ad K q) σ := by
  rw [GW_app]
  congr 1
  · exact GW_cl hc (fun j hj => (if_neg (fun h => by subst h; exact hLK hj)).symm)
  · show _ = [(adU ad K q K, _)]
    rw [show adU ad K q K = q from if_pos rfl]
theorem gClL_int {K : Nat} (h : gcl K = 20) : gClL [K] := fun y ad ad' σ ha j hj => by
  rw [List.mem_singleton] at hj; subst hj
  rw [gW_int h, gW_int h, ha j (List.mem_singleton_self _)]
theorem gClL_long {K : Nat} (h : gcl K = 21) : gClL [K] := fun y ad ad' σ ha j hj => by
  rw [List.mem_singleton] at hj; subst hj
  rw [gW_long h, gW_long h, ha j (List.mem_singleton_self _)]
section GH2
variable {p : Program} {l : Launch} {e : Env} {R : Room} {s : State} {m : MethodId} {args : Array Value} {below : List Frame} {meth : Method} {c : Code} {H : Heap} {locs : List Loc} {cells slots : Nat} {Q : State → Prop} {pc : Nat} {ls : Array Slot} {rest : List Value} {cc : ByteArray} {D : va_G} {y : Nat → ClassId} {aS : Nat → Nat} {A : Nat → Prop} {L : List Nat} {ad : Nat → Nat} {σ : gS}
theorem G_newIC {K : Nat} {n : Int32} (hx : p.tables.exec = Jvm.exec) (hb : c.code = cc) (hg : ∀ w ∈ wsL_law, w.before args s = true) (hK : gK D y aS s) (hA : ∀ q, s.heap.size ≤ q → A q) (hY : gY D y A s L ad σ H locs) (hc : gClL L) (hLK : K ∉ L) (hk : gcl K = 20) (hz : σ.1 K = fun _ => 0) (hn : ¬ n < 0) (hN : n.toNatClampNeg = gle σ.2.2 K) (hbytes : gle σ.2.2 K * componentBytes .int ≤ 536870912) (hcells : cells + 1 ≤ R.cells) (hslots : slots + gle σ.2.2 K ≤ R.slots) (hdg : decode cc pc = .ok (.newarray .int, 2))
    (kk : ∀ (q : Nat) (H1 : Heap), gClL (L ++ [K]) → gY D y A s (L ++ [K]) (adU ad K q) σ H1 locs → W p l e R s m args below meth c H1 locs (cells + 1) (slots + gle σ.2.2 K) Q (F0 m (pc + 2) ls (.ref (adU ad K q K) :: rest))) : W p l e R s m args below meth c H locs cells slots Q (F0 m pc ls (.int n :: rest)) := by
  refine g_newa (atype := .int) (ty := .int) (N' := gle σ.2.2 K) (a0 := (gle σ.2.2 K, .inl (fun _ => 0))) hx hb 0 rfl (fun _ h => by cases h) (hg _ gw_3) rfl hK hY.1 hY.2.1 hY.2.2 hA (fun _ => rfl) hn hN hbytes hcells hslots hdg (fun q H1 hP hD hS => ?_)
  have e9 : (GW L y ad σ ++ [(q, .inl (y 0, (gle σ.2.2 K, .inl (fun _ => 0))))]) = GW (L ++ [K]) y (adU ad K q) σ := by
    rw [← GW_pushC hc hLK, gce_int hk, hz]
  rw [e9] at hP hD
  have := kk q H1 (gClL_app hc (gClL_int hk)) ⟨hP, hD, hS⟩
  rw [show adU ad K q K = q from if_pos rfl] at this
  exact this
theorem G_newJC {K : Nat} {n : Int32} (hx : p.tables.exec = Jvm.exec) (hb : c.code = cc) (hg : ∀ w ∈ wsL_law, w.before args s = true) (hK : gK D y aS s) (hA : ∀ q, s.heap.size ≤ q → A q) (hY : gY D y A s L ad σ H locs) (hc : gClL L) (hLK : K ∉ L) (hk : gcl K = 21) (hz : σ.2.1 K = fun _ => 0) (hn : ¬ n < 0) (hN : n.toNatClampNeg = gle σ.2.2 K) (hbytes : gle σ.2.2 K * componentBytes .long ≤ 536870912) (hcells : cells + 1 ≤ R.cells) (hslots : slots + gle σ.2.2 K ≤ R.slots) (hdg : decode cc pc = .ok (.newarray .long, 2))
    (kk : ∀ (q : Nat) (H1 : Heap), gClL (L ++ [K]) → gY D y A s (L ++ [K]) (adU ad K q) σ H1 locs → W p l e R s m args below meth c H1 locs (cells + 1) (slots + gle σ.2.2 K) Q (F0 m (pc + 2) ls (.ref (adU ad K q K) :: rest))) : W p l e R s m args below meth c H locs cells slots Q (F0 m pc ls (.int n :: rest)) := by
  refine g_newa (atype := .long) (ty := .long) (N' := gle σ.2.2 K) (a0 := (gle σ.2.2 K, .inr (.inl (fun _ => 0)))) hx hb 1 rfl (fun _ h => by cases h) (hg _ gw_4) rfl hK hY.1 hY.2.1 hY.2.2 hA (fun _ => rfl) hn hN hbytes hcells hslots hdg (fun q H1 hP hD hS => ?_)
  have e9 : (GW L y ad σ ++ [(q, .inl (y 1, (gle σ.2.2 K, .inr (.inl (fun _ => 0)))))]) = GW (L ++ [K]) y (adU ad K q) σ := by
    rw [← GW_pushC hc hLK, gce_long hk, hz]
  rw [e9] at hP hD
  have := kk q H1 (gClL_app hc (gClL_long hk)) ⟨hP, hD, hS⟩
  rw [show adU ad K q K = q from if_pos rfl] at this
  exact this
end GH2
/-! the class's start memory -/
def gAdd (σ : gS) (r n : Nat) (v : Int64) : gS := sI (sJ σ (r + 1) n v) r 1 (Int32.ofNat (n + 1))
def gAdds (σ : gS) (r : Nat) (v : Int64) : Nat → gS
  | 0 => σ
  | n + 1 => gAdd (gAdds σ r v n) r n v
def gN1 : gS := gAdd gStart 151 0 0
def gN2 : gS := gAdds gN1 153 (-1) 12
def gN3 : gS := gAdds gN2 155 1 3
def gN4 : gS := gAdds gN3 157 0 3
def gN5 : gS := gAdds gN4 159 0 8
abbrev NG : Nat := 20
theorem gAdd_far {σ : gS} {r n : Nat} {v : Int64} {k : Nat} (h : k < r ∨ r + 2 ≤ k) : (gAdd σ r n v).1 k = σ.1 k ∧ (gAdd σ r n v).2.1 k = σ.2.1 k :=
  ⟨gU_ne _ _ _ (by omega), gU_ne _ _ _ (by omega)⟩
theorem gAdds_far {σ : gS} {r : Nat} {v : Int64} {k : Nat} (h : k < r ∨ r + 2 ≤ k) : ∀ n, (gAdds σ r v n).1 k = σ.1 k ∧ (gAdds σ r v n).2.1 k = σ.2.1 k
  | 0 => ⟨rfl, rfl⟩
  | n + 1 => ⟨(gAdd_far h).1.trans (gAdds_far h n).1, (gAdd_far h).2.trans (gAdds_far h n).2⟩
theorem gAdds_len {σ : gS} {r : Nat} {v : Int64} : ∀ n, (gAdds σ r v n).2.2 = σ.2.2
  | 0 => rfl
  | n + 1 => (show (gAdds σ r v n).2.2 = _ from gAdds_len n)
theorem gn_l1 : gStart.2.2 = gN1.2.2 := rfl
theorem gn_l2 : gStart.2.2 = gN2.2.2 := gn_l1.trans (gAdds_len 12).symm
theorem gn_l3 : gStart.2.2 = gN3.2.2 := gn_l2.trans (gAdds_len 3).symm
theorem gn_l4 : gStart.2.2 = gN4.2.2 := gn_l3.trans (gAdds_len 3).symm
theorem gn_l5 : gStart.2.2 = gN5.2.2 := gn_l4.trans (gAdds_len 8).symm
theorem gn_a1 : ∀ k, k < 151 ∨ 153 ≤ k → gStart.1 k = gN1.1 k ∧ gStart.2.1 k = gN1.2.1 k := fun k h => ⟨(gAdd_far (by omega)).1.symm, (gAdd_far (by omega)).2.symm⟩
theorem gn_a2 : ∀ k, k < 151 ∨ 155 ≤ k → gStart.1 k = gN2.1 k ∧ gStart.2.1 k = gN2.2.1 k := fun k h => ⟨(gn_a1 k (by omega)).1.trans (gAdds_far (by omega) 12).1.symm, (gn_a1 k (by omega)).2.trans (gAdds_far (by omega) 12).2.symm⟩
theorem gn_a3 : ∀ k, k < 151 ∨ 157 ≤ k → gStart.1 k = gN3.1 k ∧ gStart.2.1 k = gN3.2.1 k := fun k h => ⟨(gn_a2 k (by omega)).1.trans (gAdds_far (by omega) 3).1.symm, (gn_a2 k (by omega)).2.trans (gAdds_far (by omega) 3).2.symm⟩
theorem gn_a4 : ∀ k, k < 151 ∨ 159 ≤ k → gStart.1 k = gN4.1 k ∧ gStart.2.1 k = gN4.2.1 k := fun k h => ⟨(gn_a3 k (by omega)).1.trans (gAdds_far (by omega) 3).1.symm, (gn_a3 k (by omega)).2.trans (gAdds_far (by omega) 3).2.symm⟩
theorem gn_a5 : ∀ k, k < 151 ∨ 161 ≤ k → gStart.1 k = gN5.1 k ∧ gStart.2.1 k = gN5.2.1 k := fun k h => ⟨(gn_a4 k (by omega)).1.trans (gAdds_far (by omega) 8).1.symm, (gn_a4 k (by omega)).2.trans (gAdds_far (by omega) 8).2.symm⟩
theorem gn_zI {K : Nat} (h : 161 ≤ K ∧ K < 179) : gN5.1 K = fun _ => 0 := by
  rw [← (gn_a5 K (by omega)).1]
  funext j
  show gStartI K j = 0
  unfold gStartI
  have hc : gcl K = 20 ∨ gcl K = 21 := (show ∀ K : Nat, K < 179 → 161 ≤ K → gcl K = 20 ∨ gcl K = 21 by decide +kernel) K h.2 h.1
  rcases hc with hc | hc <;> (rw [hc]; rfl)
theorem gn_zJ {K : Nat} (h : 161 ≤ K ∧ K < 179) : gN5.2.1 K = fun _ => 0 := by
  rw [← (gn_a5 K (by omega)).2]; rfl
theorem gAdd_ok {N : Nat} {σ : gS} {r n len : Nat} {v : Int64} (hc : σ.1 r 1 = Int32.ofNat n) (hl : gle σ.2.2 (r + 1) = len) (hn : n < len) (hlen : len < 1000) : fX8_add N σ r v = some (gAdd σ r n v) := by
  have hN : (Int32.ofNat n).toNatClampNeg = n := g_iN (by omega)
  unfold fX8_add
  rw [hc, hl, if_neg (g_in0 (by omega)), if_neg (g_ilt (by omega) hn), hN, if_neg (fun h => h.elim (g_in0 (by omega)) (fun h => by omega))]
  show some (sI _ _ _ _) = _
  show some (sI (sJ σ (r + 1) n v) r 1 (σ.1 r 1 + 1)) = _
  rw [hc, g_isu]; rfl
theorem gAdds_c {σ : gS} {r : Nat} {v : Int64} (h : σ.1 r 1 = 0) : ∀ n, (gAdds σ r v n).1 r 1 = Int32.ofNat n
  | 0 => h
  | n + 1 => by
    show gU _ r 1 _ r 1 = _
    unfold gU; rw [if_pos ⟨rfl, rfl⟩]
theorem gAddMany_ok {σ : gS} {r len n : Nat} {v : Int64} {w : Int32} (hw : w = Int32.ofNat n) (h0 : σ.1 r 1 = 0) (hl : gle σ.2.2 (r + 1) = len) (hn : n ≤ len) (hlen : len < 1000) (hN : n < 20) : fX8_addMany 20 σ r w v = some (gAdds σ r v n) := by
  subst hw
  have key : ∀ (m i : Nat), i + m = n → ∀ k, m < k → lp (fX8_addMany_3 20 r (Int32.ofNat n) v) k (gAdds σ r v i, Int32.ofNat i) = some (gAdds σ r v n) := by
    intro m
    induction m with
    | zero =>
      intro i hi k hk
      obtain rfl : i = n := by omega
      obtain ⟨k, rfl⟩ : ∃ k', k = k' + 1 := ⟨k - 1, by omega⟩
      show fX8_addMany_3 20 r (Int32.ofNat i) v _ (gAdds σ r v i, Int32.ofNat i) = _
      unfold fX8_addMany_3
      dsimp only
      rw [if_pos g_ige]; rfl
    | succ m ih =>
      intro i hi k hk
      obtain ⟨k, rfl⟩ : ∃ k', k = k' + 1 := ⟨k - 1, by omega⟩
      show fX8_addMany_3 20 r (Int32.ofNat n) v (lp _ k) (gAdds σ r v i, Int32.ofNat i) = _
      unfold fX8_addMany_3
      dsimp only
      rw [if_neg (g_ilt (by omega) (by omega)), gAdds_len, hl, if_neg (g_ilt (by omega) (by omega)), gAdd_ok (n := i) (len := len) (gAdds_c h0 i) (by rw [gAdds_len]; exact hl) (by omega) hlen]
      show lp (fX8_addMany_3 20 r (Int32.ofNat n) v) k (gAdd (gAdds σ r v i) r i v, Int32.ofNat i + 1) = _
      rw [g_isu]
      exact ih (i + 1) (by omega) k (by omega)
  exact key n 0 (by omega) 20 (by omega)
theorem gn_e1 : fX8_add NG gStart 151 0 = some gN1 := gAdd_ok (n := 0) (len := 61) (by rw [g_start8 gk_151]; rfl) rfl (by decide) (by decide)
theorem gn_e2 : fX8_addMany NG gN1 153 12 (-1) = some gN2 := gAddMany_ok (n := 12) (len := 12) rfl (by rw [← (gn_a1 153 (by omega)).1, g_start8 gk_153]) (by rw [← gn_l1]; rfl) (by decide) (by decide) (by decide)
theorem gn_e3 : fX8_addMany NG gN2 155 3 1 = some gN3 := gAddMany_ok (n := 3) (len := 3) rfl (by rw [← (gn_a2 155 (by omega)).1, g_start8 gk_155]) (by rw [← gn_l2]; rfl) (by decide) (by decide) (by decide)
theorem gn_e4 : fX8_addMany NG gN3 157 3 0 = some gN4 := gAddMany_ok (n := 3) (len := 3) rfl (by rw [← (gn_a3 157 (by omega)).1, g_start8 gk_157]) (by rw [← gn_l3]; rfl) (by decide) (by decide) (by decide)
theorem gn_e5 : fX8_addMany NG gN4 159 8 0 = some gN5 := gAddMany_ok (n := 8) (len := 8) rfl (by rw [← (gn_a4 159 (by omega)).1, g_start8 gk_159]) (by rw [← gn_l4]; rfl) (by decide) (by decide) (by decide)
theorem ggI_RL_202_X11_init : GoodIn wsL_law ([] ++ (Cond.code yX11_init cX11_init 2 none :: wsL_law)) := g_gi (fun _ h => h) gW_good (fun _ h => nomatch h) ⟨gw_9, rfl⟩
set_option maxRecDepth 100000 in
set_option maxHeartbeats 4000000 in
theorem whole_start {p : Program} {e : Env} {s : State} {m : MethodId} {below : List Frame} {meth : Method} {c : Code} (l : Launch) (hflags : l.flags = flags0) {b Lx : Nat} {xs : Nat → Int32} (N : Nat) (hp : lp (fL_law_134 N xs Lx) N ((sI (sI (sI (sI gN5 161 1 1) 161 5 1) 161 6 1) 161 9 (-1)), 0) = some 1) (C0 : lw_At p s m meth c b Lx xs) : W p l e room_1 s m #[Value.ref b] below meth c s.heap [] 0 0 (lw_Z below #[Value.ref b] s) (entryFrame m ([Value.ref b] : List Value).toArray 37) := by
  obtain ⟨hx, hb, hr, hml, hown, hts, hX, hbl, hlocks, hgv⟩ := id C0
  have hfl : l.stackTraces = false := by
    show (!l.flags.contains noTraceFlag) = false
    rw [hflags]
    decide +kernel
  have hA : ∀ q : Nat, s.heap.size ≤ q → (fun q : Nat => s.heap.size ≤ q) q := fun _ h => h
  have hAA : ∀ a : Nat, a < s.heap.size → ¬ (fun q : Nat => s.heap.size ≤ q) a := fun a h => Nat.not_le.mpr h
  have hs := flat_of_before _ hgv
  have hg : ∀ w ∈ wsL_law, w.before #[Value.ref b] s = true := fun w h => hts w (gl_in w h)
  have hown : s.vm.findClass RL = some m.cls := hown
  obtain ⟨c0, iS0, hKn0⟩ := u_known (C := RX0) (T := TX0) (N := 7) (n := 7) hts gf_0 (hg _ gw_30)
  obtain ⟨c1, iS1, hKn1⟩ := u_known (C := RX1) (T := TX1) (N := 14) (n := 14) hts gf_1 (hg _ gw_62)
  obtain ⟨c2, iS2, hKn2⟩ := u_known (C := RX2) (T := TX2) (N := 5) (n := 5) hts gf_2 (hg _ gw_14)
  obtain ⟨c3, iS3, hKn3⟩ := u_known (C := RX3) (T := TX3) (N := 10) (n := 10) hts gf_3 (hg _ gw_80)
  obtain ⟨c4, iS4, hKn4⟩ := u_known (C := RX4) (T := TX4) (N := 9) (n := 9) hts gf_4 (hg _ gw_26)
  obtain ⟨c5, iS5, hKn5⟩ := u_known (C := RX5) (T := TX5) (N := 5) (n := 5) hts gf_5 (hg _ gw_38)
  obtain ⟨c6, iS6, hKn6⟩ := u_known (C := RX6) (T := TX6) (N := 6) (n := 6) hts gf_6 (hg _ gw_43)
  obtain ⟨c7, iS7, hKn7⟩ := u_known (C := RX7) (T := TX7) (N := 6) (n := 6) hts gf_7 (hg _ gw_18)
  obtain ⟨c8, iS8, hKn8⟩ := u_known (C := RX8) (T := TX8) (N := 2) (n := 2) hts gf_8 (hg _ gw_47)
  obtain ⟨c9, iS9, hKn9⟩ := u_known (C := RX9) (T := TX9) (N := 3) (n := 3) hts gf_9 (hg _ gw_22)
  obtain ⟨c10, iS10, hKn10⟩ := u_known (C := RX10) (T := TX10) (N := 4) (n := 4) hts gf_10 (hg _ gw_34)
  obtain ⟨c11, iS11, hKn11⟩ := u_known (C := RX11) (T := TX11) (N := 19) (n := 19) hts gf_11 (hg _ gw_1)
  obtain ⟨D, hKc⟩ : ∃ D : va_G, ∀ (k : Nat) (q : vw_C), vwCl[k]? = some q → u_Kn s q.1 q.2.1 q.2.2 (D.1 k) (D.2 k) := by
    refine ⟨(fun k => match k with | 0 => c0 | 1 => c1 | 2 => c2 | 3 => c3 | 4 => c4 | 5 => c5 | 6 => c6 | 7 => c7 | 8 => c8 | 9 => c9 | 10 => c10 | _ => c11, fun k => match k with | 0 => iS0 | 1 => iS1 | 2 => iS2 | 3 => iS3 | 4 => iS4 | 5 => iS5 | 6 => iS6 | 7 => iS7 | 8 => iS8 | 9 => iS9 | 10 => iS10 | _ => iS11), ?_⟩
    intro k q hq
    match k, hq with
    | 0, hq => cases hq; exact hKn0
    | 1, hq => cases hq; exact hKn1
    | 2, hq => cases hq; exact hKn2
    | 3, hq => cases hq; exact hKn3
    | 4, hq => cases hq; exact hKn4
    | 5, hq => cases hq; exact hKn5
    | 6, hq => cases hq; exact hKn6
    | 7, hq => cases hq; exact hKn7
    | 8, hq => cases hq; exact hKn8
    | 9, hq => cases hq; exact hKn9
    | 10, hq => cases hq; exact hKn10
    | 11, hq => cases hq; exact hKn11
    | k + 12, hq => simp [vwCl] at hq
  obtain ⟨y0, ya0, yr0⟩ := g_arrP (ty := .int) (fun _ h => by cases h) (hg _ gw_3)
  obtain ⟨y1, ya1, yr1⟩ := g_arrP (ty := .long) (fun _ h => by cases h) (hg _ gw_4)
  obtain ⟨y2, ya2, yr2⟩ := g_arrP (ty := .int) (fun _ h => by cases h) (hg _ gw_3)
  have yo3 : (Cond.arrayOver (.object RX1)).before #[Value.ref b] s = true := hts _ (List.mem_of_getElem? (i := 66) (by decide +kernel))
  obtain ⟨y3, ya3, yr3⟩ := g_arrO yo3
  have yo4 : (Cond.arrayOver (.object RX3)).before #[Value.ref b] s = true := hts _ (List.mem_of_getElem? (i := 162) (by decide +kernel))
  obtain ⟨y4, ya4, yr4⟩ := g_arrO yo4
  have yo5 : (Cond.arrayOver (.object RX6)).before #[Value.ref b] s = true := hts _ (List.mem_of_getElem? (i := 404) (by decide +kernel))
  obtain ⟨y5, ya5, yr5⟩ := g_arrO yo5
  obtain ⟨y, hKy⟩ : ∃ y : Nat → ClassId, va_K D vwCl (gT y) s := by
    refine ⟨fun k => match k with | 0 => y0 | 1 => y1 | 2 => y2 | 3 => y3 | 4 => y4 | _ => y5, hKc, fun k q hq => ?_⟩
    match k, hq with
    | 0, hq => cases hq; exact ⟨ya0, yr0⟩
    | 1, hq => cases hq; exact ⟨ya1, yr1⟩
    | 2, hq => cases hq; exact ⟨ya2, yr2⟩
    | 3, hq => cases hq; exact ⟨ya3, yr3⟩
    | 4, hq => cases hq; exact ⟨ya4, yr4⟩
    | 5, hq => cases hq; exact ⟨ya5, yr5⟩
    | k + 6, hq => simp [gT] at hq
  obtain ⟨t0, ht0⟩ := g_str (cls := RX11) (tx := "there is no such one") (k := 366) (hts (.stringRef "Greentrunk" 366 "there is no such one") (List.mem_of_getElem? (i := 633) (by decide +kernel))) (hs (.exactly (.string "Greentrunk" 366) "java/lang/String") (by decide +kernel))
  obtain ⟨t1, ht1⟩ := g_str (cls := RX11) (tx := "this can't be done as things are") (k := 380) (hts (.stringRef "Greentrunk" 380 "this can't be done as things are") (List.mem_of_getElem? (i := 591) (by decide +kernel))) (hs (.exactly (.string "Greentrunk" 380) "java/lang/String") (by decide +kernel))
  obtain ⟨t2, ht2⟩ := g_str (cls := RX11) (tx := "an argument is out of its range") (k := 373) (hts (.stringRef "Greentrunk" 373 "an argument is out of its range") (List.mem_of_getElem? (i := 552) (by decide +kernel))) (hs (.exactly (.string "Greentrunk" 373) "java/lang/String") (by decide +kernel))
  obtain ⟨t3, ht3⟩ := g_str (cls := RX11) (tx := "an argument does not go with the others") (k := 376) (hts (.stringRef "Greentrunk" 376 "an argument does not go with the others") (List.mem_of_getElem? (i := 644) (by decide +kernel))) (hs (.exactly (.string "Greentrunk" 376) "java/lang/String") (by decide +kernel))
  obtain ⟨aS, haS⟩ : ∃ aS : Nat → Nat, ∀ q ∈ gStr, vk_R RX11 q.1 q.2.1 (aS q.2.2) s :=
    ⟨fun k => match k with | 0 => t0 | 1 => t1 | 2 => t2 | _ => t3, List.forall_mem_cons.mpr ⟨ht0, List.forall_mem_cons.mpr ⟨ht1, List.forall_mem_cons.mpr ⟨ht2, List.forall_mem_cons.mpr ⟨ht3, fun _ h => nomatch h⟩⟩⟩⟩⟩
  have hK : gK D y aS s := ⟨hKy, fun w hw => va_Nw.of (gkind_ot (gB_ok w hw)) (hts w (gB_in w hw)), ⟨va_AO.of yo3, va_AO.of yo4, va_AO.of yo5⟩, haS, List.forall_mem_cons.mpr ⟨va_Nc.of (hs (.not (.castable "java/lang/IllegalStateException" "java/lang/IndexOutOfBoundsException")) (by decide +kernel)), List.forall_mem_cons.mpr ⟨va_Nc.of (hs (.not (.castable "java/lang/IllegalArgumentException" "java/lang/IndexOutOfBoundsException")) (by decide +kernel)), List.forall_mem_cons.mpr ⟨va_Nc.of (hs (.not (.castable "java/lang/IllegalStateException" "java/lang/IllegalArgumentException")) (by decide +kernel)), List.forall_mem_cons.mpr ⟨va_Nc.of (hs (.not (.castable "java/lang/IndexOutOfBoundsException" "java/lang/IllegalArgumentException")) (by decide +kernel)), fun _ h => nomatch h⟩⟩⟩⟩⟩
  have hZ : gZ (fun q : Nat => s.heap.size ≤ q) s s.heap := ⟨vx_Zqof (hts (.laysStatic "java/lang/Throwable" "UNASSIGNED_STACK" "[Ljava/lang/StackTraceElement;") (List.mem_of_getElem? (i := 538) (by decide +kernel))) (hts _ (List.mem_of_getElem? (i := 43) (by decide +kernel))) (hs (.isRef (.static "java/lang/Throwable" "UNASSIGNED_STACK" "[Ljava/lang/StackTraceElement;")) (by decide +kernel)) hAA, vx_Zqof (hts (.laysStatic "java/lang/Throwable" "SUPPRESSED_SENTINEL" "Ljava/util/List;") (List.mem_of_getElem? (i := 540) (by decide +kernel))) (hts _ (List.mem_of_getElem? (i := 43) (by decide +kernel))) (hs (.isRef (.static "java/lang/Throwable" "SUPPRESSED_SENTINEL" "Ljava/util/List;")) (by decide +kernel)) hAA⟩
  have hS : va_S (fun q : Nat => s.heap.size ≤ q) s.heap s.heap [] := va_S.rf
  have hP : va_P D vwCl [] s.heap := fun k q h => by simp at h
  have hD : va_D (fun q : Nat => s.heap.size ≤ q) [] := ⟨fun i j p q h => by simp at h, fun k q h => by simp at h⟩
  have hl := lv_entry ([.ref b]) (n := 37) (Nat.le_of_ble_eq_true rfl)
  rw [lg_entry_eq]
  generalize (lg_sl ([.ref b]) ++ List.replicate (37 - (lg_sl ([.ref b])).length) Slot.unset).toArray = ls at hl ⊢
  replace hl : lv_has ls 37 [(0, .ref b)] := hl
  refine va_new (ci := 11) (fs := [.null, .null, .null, .null, .null, .null, .null, .null, .null, .null, .null, .null, .null, .null, .int 0, .int 0, .int 0, .int 0, .int 0]) (C := RX11) (T := TX11) (N := 19) hx hb hg inlX11 tyX11 tyX11_ok hown (hg _ gw_0) (hg _ gw_1) (hg _ gw_2) hK.1 hP hD hS hA rfl dfX11 (Nat.le_of_ble_eq_true rfl) (Nat.le_of_ble_eq_true rfl) dL_law_0 ?_
  clear hP hD hS
  intro q0 H hP hD hS
  refine lv_dup hx hb dL_law_3 rfl ?_
  refine g_avI (ws := []) (va_runI (As := []) (rest := [.ref q0]) ⟨hx, hb, hml, hown, hg⟩ (kc_Green l D y aS H.size q0 NG gN1 gN2 gN3 gN4 gN5 gn_e1 gn_e2 gn_e3 gn_e4 gn_e5 gn_a1 gn_l1 gn_a2 gn_l2 gn_a3 gn_l3 gn_a4 gn_l4 gn_a5 gn_l5) (cwI 0 hg ggI_RL_202_X11_init rfl rfl rfl (hg _ gw_2) (hg _ gw_7) (hg _ gw_8) rfl (by decide +kernel) ⟨Nat.le_of_ble_eq_true rfl, Nat.le_of_ble_eq_true rfl⟩) (g_preI hK hP hD) rfl rfl hl.1 rfl (lv_room (Nat.le_of_ble_eq_true rfl)) dL_law_4 ⟨(Nat.le_of_ble_eq_true rfl), (Nat.le_of_ble_eq_true rfl)⟩) hP hD hS hA ?_
  clear hP hD hS H
  rintro ⟨ad, L⟩ H locs ⟨hq0, hc, hM⟩ hP hD hS
  have hY : gY D y (fun q : Nat => s.heap.size ≤ q) s L ad gN5 H locs := ⟨hP, hD, hS⟩
  clear hP hD hS
  replace hq0 : ad 0 = q0 := hq0
  subst hq0
  refine lv_astore_n (lv' := [(1, .ref (ad 0)), (0, .ref b)]) hx hb dL_law_7 rfl hl (by decide) rfl ?_
  clear hl
  intro ls hl
  have hR : ∀ k, k ∈ L ↔ k < 161 := hM
  refine lv_bipush (v := 11) hx hb dL_law_8 (by decide +kernel) ?_
  refine G_newIC (K := 161) hx hb hg hK hA hY hc (fun h => by have := (hR 161).mp h; omega) gk_161 (gn_zI (by decide)) (by decide +kernel) (by rw [gl_161]; decide +kernel) (by rw [gl_161]; decide +kernel) (Nat.le_of_ble_eq_true rfl) (Nat.le_of_ble_eq_true rfl) dL_law_10 ?_
  clear hY hc
  intro q161 H hc hY
  obtain ⟨ad161, had⟩ : ∃ x, x = adU ad 161 q161 := ⟨_, rfl⟩
  rw [← had] at hY ⊢
  have hu := adU_ne had
  clear had
  replace hl : lv_has ls 37 [(1, .ref (ad161 0)), (0, .ref b)] := by rw [hu 0 (by decide)]; exact hl
  clear hu
  replace hR : ∀ k, k ∈ L ++ [161] ↔ k < 162 := fun k => List.mem_append.trans (by rw [hR k, List.mem_singleton]; omega)
  generalize L ++ [161] = L161 at hR hc hY
  refine lv_astore_n (lv' := [(2, .ref (ad161 161)), (1, .ref (ad161 0)), (0, .ref b)]) hx hb dL_law_12 rfl hl (by decide) rfl ?_
  clear hl
  intro ls hl
  refine lv_bipush (v := 24) hx hb dL_law_13 (by decide +kernel) ?_
  refine G_newIC (K := 162) hx hb hg hK hA hY hc (fun h => by have := (hR 162).mp h; omega) gk_162 (gn_zI (by decide)) (by decide +kernel) (by rw [gl_162]; decide +kernel) (by rw [gl_162]; decide +kernel) (Nat.le_of_ble_eq_true rfl) (Nat.le_of_ble_eq_true rfl) dL_law_15 ?_
  clear hY hc
  intro q162 H hc hY
  obtain ⟨ad162, had⟩ : ∃ x, x = adU ad161 162 q162 := ⟨_, rfl⟩
  rw [← had] at hY ⊢
  have hu := adU_ne had
  clear had
  replace hl : lv_has ls 37 [(2, .ref (ad162 161)), (1, .ref (ad162 0)), (0, .ref b)] := by rw [hu 161 (by decide), hu 0 (by decide)]; exact hl
  clear hu
  replace hR : ∀ k, k ∈ L161 ++ [162] ↔ k < 163 := fun k => List.mem_append.trans (by rw [hR k, List.mem_singleton]; omega)
  generalize L161 ++ [162] = L162 at hR hc hY
  refine lv_astore_n (lv' := [(3, .ref (ad162 162)), (2, .ref (ad162 161)), (1, .ref (ad162 0)), (0, .ref b)]) hx hb dL_law_17 rfl hl (by decide) rfl ?_
  clear hl
  intro ls hl
  refine lv_bipush (v := 24) hx hb dL_law_18 (by decide +kernel) ?_
  refine G_newIC (K := 163) hx hb hg hK hA hY hc (fun h => by have := (hR 163).mp h; omega) gk_163 (gn_zI (by decide)) (by decide +kernel) (by rw [gl_163]; decide +kernel) (by rw [gl_163]; decide +kernel) (Nat.le_of_ble_eq_true rfl) (Nat.le_of_ble_eq_true rfl) dL_law_20 ?_
  clear hY hc
  intro q163 H hc hY
  obtain ⟨ad163, had⟩ : ∃ x, x = adU ad162 163 q163 := ⟨_, rfl⟩
  rw [← had] at hY ⊢
  have hu := adU_ne had
  clear had
  replace hl : lv_has ls 37 [(3, .ref (ad163 162)), (2, .ref (ad163 161)), (1, .ref (ad163 0)), (0, .ref b)] := by rw [hu 162 (by decide), hu 161 (by decide), hu 0 (by decide)]; exact hl
  clear hu
  replace hR : ∀ k, k ∈ L162 ++ [163] ↔ k < 164 := fun k => List.mem_append.trans (by rw [hR k, List.mem_singleton]; omega)
  generalize L162 ++ [163] = L163 at hR hc hY
  refine lv_astore (lv' := [(4, .ref (ad163 163)), (3, .ref (ad163 162)), (2, .ref (ad163 161)), (1, .ref (ad163 0)), (0, .ref b)]) hx hb dL_law_22 hl (by decide) rfl ?_
  clear hl
  intro ls hl
  refine lv_bipush (v := 24) hx hb dL_law_24 (by decide +kernel) ?_
  refine G_newIC (K := 164) hx hb hg hK hA hY hc (fun h => by have := (hR 164).mp h; omega) gk_164 (gn_zI (by decide)) (by decide +kernel) (by rw [gl_164]; decide +kernel) (by rw [gl_164]; decide +kernel) (Nat.le_of_ble_eq_true rfl) (Nat.le_of_ble_eq_true rfl) dL_law_26 ?_
  clear hY hc
  intro q164 H hc hY
  obtain ⟨ad164, had⟩ : ∃ x, x = adU ad163 164 q164 := ⟨_, rfl⟩
  rw [← had] at hY ⊢
  have hu := adU_ne had
  clear had
  replace hl : lv_has ls 37 [(4, .ref (ad164 163)), (3, .ref (ad164 162)), (2, .ref (ad164 161)), (1, .ref (ad164 0)), (0, .ref b)] := by rw [hu 163 (by decide), hu 162 (by decide), hu 161 (by decide), hu 0 (by decide)]; exact hl
  clear hu
  replace hR : ∀ k, k ∈ L163 ++ [164] ↔ k < 165 := fun k => List.mem_append.trans (by rw [hR k, List.mem_singleton]; omega)
  generalize L163 ++ [164] = L164 at hR hc hY
  refine lv_astore (lv' := [(5, .ref (ad164 164)), (4, .ref (ad164 163)), (3, .ref (ad164 162)), (2, .ref (ad164 161)), (1, .ref (ad164 0)), (0, .ref b)]) hx hb dL_law_28 hl (by decide) rfl ?_
  clear hl
  intro ls hl
  refine lv_bipush (v := 24) hx hb dL_law_30 (by decide +kernel) ?_
  refine G_newIC (K := 165) hx hb hg hK hA hY hc (fun h => by have := (hR 165).mp h; omega) gk_165 (gn_zI (by decide)) (by decide +kernel) (by rw [gl_165]; decide +kernel) (by rw [gl_165]; decide +kernel) (Nat.le_of_ble_eq_true rfl) (Nat.le_of_ble_eq_true rfl) dL_law_32 ?_
  clear hY hc
  intro q165 H hc hY
  obtain ⟨ad165, had⟩ : ∃ x, x = adU ad164 165 q165 := ⟨_, rfl⟩
  rw [← had] at hY ⊢
  have hu := adU_ne had
  clear had
  replace hl : lv_has ls 37 [(5, .ref (ad165 164)), (4, .ref (ad165 163)), (3, .ref (ad165 162)), (2, .ref (ad165 161)), (1, .ref (ad165 0)), (0, .ref b)] := by rw [hu 164 (by decide), hu 163 (by decide), hu 162 (by decide), hu 161 (by decide), hu 0 (by decide)]; exact hl
  clear hu
  replace hR : ∀ k, k ∈ L164 ++ [165] ↔ k < 166 := fun k => List.mem_append.trans (by rw [hR k, List.mem_singleton]; omega)
  generalize L164 ++ [165] = L165 at hR hc hY
  refine lv_astore (lv' := [(6, .ref (ad165 165)), (5, .ref (ad165 164)), (4, .ref (ad165 163)), (3, .ref (ad165 162)), (2, .ref (ad165 161)), (1, .ref (ad165 0)), (0, .ref b)]) hx hb dL_law_34 hl (by decide) rfl ?_
  clear hl
  intro ls hl
  refine lv_bipush (v := 24) hx hb dL_law_36 (by decide +kernel) ?_
  refine G_newIC (K := 166) hx hb hg hK hA hY hc (fun h => by have := (hR 166).mp h; omega) gk_166 (gn_zI (by decide)) (by decide +kernel) (by rw [gl_166]; decide +kernel) (by rw [gl_166]; decide +kernel) (Nat.le_of_ble_eq_true rfl) (Nat.le_of_ble_eq_true rfl) dL_law_38 ?_
  clear hY hc
  intro q166 H hc hY
  obtain ⟨ad166, had⟩ : ∃ x, x = adU ad165 166 q166 := ⟨_, rfl⟩
  rw [← had] at hY ⊢
  have hu := adU_ne had
  clear had
  replace hl : lv_has ls 37 [(6, .ref (ad166 165)), (5, .ref (ad166 164)), (4, .ref (ad166 163)), (3, .ref (ad166 162)), (2, .ref (ad166 161)), (1, .ref (ad166 0)), (0, .ref b)] := by rw [hu 165 (by decide), hu 164 (by decide), hu 163 (by decide), hu 162 (by decide), hu 161 (by decide), hu 0 (by decide)]; exact hl
  clear hu
  replace hR : ∀ k, k ∈ L165 ++ [166] ↔ k < 167 := fun k => List.mem_append.trans (by rw [hR k, List.mem_singleton]; omega)
  generalize L165 ++ [166] = L166 at hR hc hY
  refine lv_astore (lv' := [(7, .ref (ad166 166)), (6, .ref (ad166 165)), (5, .ref (ad166 164)), (4, .ref (ad166 163)), (3, .ref (ad166 162)), (2, .ref (ad166 161)), (1, .ref (ad166 0)), (0, .ref b)]) hx hb dL_law_40 hl (by decide) rfl ?_
  clear hl
  intro ls hl
  refine lv_bipush (v := 24) hx hb dL_law_42 (by decide +kernel) ?_
  refine G_newIC (K := 167) hx hb hg hK hA hY hc (fun h => by have := (hR 167).mp h; omega) gk_167 (gn_zI (by decide)) (by decide +kernel) (by rw [gl_167]; decide +kernel) (by rw [gl_167]; decide +kernel) (Nat.le_of_ble_eq_true rfl) (Nat.le_of_ble_eq_true rfl) dL_law_44 ?_
  clear hY hc
  intro q167 H hc hY
  obtain ⟨ad167, had⟩ : ∃ x, x = adU ad166 167 q167 := ⟨_, rfl⟩
  rw [← had] at hY ⊢
  have hu := adU_ne had
  clear had
  replace hl : lv_has ls 37 [(7, .ref (ad167 166)), (6, .ref (ad167 165)), (5, .ref (ad167 164)), (4, .ref (ad167 163)), (3, .ref (ad167 162)), (2, .ref (ad167 161)), (1, .ref (ad167 0)), (0, .ref b)] := by rw [hu 166 (by decide), hu 165 (by decide), hu 164 (by decide), hu 163 (by decide), hu 162 (by decide), hu 161 (by decide), hu 0 (by decide)]; exact hl
  clear hu
  replace hR : ∀ k, k ∈ L166 ++ [167] ↔ k < 168 := fun k => List.mem_append.trans (by rw [hR k, List.mem_singleton]; omega)
  generalize L166 ++ [167] = L167 at hR hc hY
  refine lv_astore (lv' := [(8, .ref (ad167 167)), (7, .ref (ad167 166)), (6, .ref (ad167 165)), (5, .ref (ad167 164)), (4, .ref (ad167 163)), (3, .ref (ad167 162)), (2, .ref (ad167 161)), (1, .ref (ad167 0)), (0, .ref b)]) hx hb dL_law_46 hl (by decide) rfl ?_
  clear hl
  intro ls hl
  refine lv_bipush (v := 24) hx hb dL_law_48 (by decide +kernel) ?_
  refine G_newIC (K := 168) hx hb hg hK hA hY hc (fun h => by have := (hR 168).mp h; omega) gk_168 (gn_zI (by decide)) (by decide +kernel) (by rw [gl_168]; decide +kernel) (by rw [gl_168]; decide +kernel) (Nat.le_of_ble_eq_true rfl) (Nat.le_of_ble_eq_true rfl) dL_law_50 ?_
  clear hY hc
  intro q168 H hc hY
  obtain ⟨ad168, had⟩ : ∃ x, x = adU ad167 168 q168 := ⟨_, rfl⟩
  rw [← had] at hY ⊢
  have hu := adU_ne had
  clear had
  replace hl : lv_has ls 37 [(8, .ref (ad168 167)), (7, .ref (ad168 166)), (6, .ref (ad168 165)), (5, .ref (ad168 164)), (4, .ref (ad168 163)), (3, .ref (ad168 162)), (2, .ref (ad168 161)), (1, .ref (ad168 0)), (0, .ref b)] := by rw [hu 167 (by decide), hu 166 (by decide), hu 165 (by decide), hu 164 (by decide), hu 163 (by decide), hu 162 (by decide), hu 161 (by decide), hu 0 (by decide)]; exact hl
  clear hu
  replace hR : ∀ k, k ∈ L167 ++ [168] ↔ k < 169 := fun k => List.mem_append.trans (by rw [hR k, List.mem_singleton]; omega)
  generalize L167 ++ [168] = L168 at hR hc hY
  refine lv_astore (lv' := [(9, .ref (ad168 168)), (8, .ref (ad168 167)), (7, .ref (ad168 166)), (6, .ref (ad168 165)), (5, .ref (ad168 164)), (4, .ref (ad168 163)), (3, .ref (ad168 162)), (2, .ref (ad168 161)), (1, .ref (ad168 0)), (0, .ref b)]) hx hb dL_law_52 hl (by decide) rfl ?_
  clear hl
  intro ls hl
  refine lv_bipush (v := 24) hx hb dL_law_54 (by decide +kernel) ?_
  refine G_newJC (K := 169) hx hb hg hK hA hY hc (fun h => by have := (hR 169).mp h; omega) gk_169 (gn_zJ (by decide)) (by decide +kernel) (by rw [gl_169]; decide +kernel) (by rw [gl_169]; decide +kernel) (Nat.le_of_ble_eq_true rfl) (Nat.le_of_ble_eq_true rfl) dL_law_56 ?_
  clear hY hc
  intro q169 H hc hY
  obtain ⟨ad169, had⟩ : ∃ x, x = adU ad168 169 q169 := ⟨_, rfl⟩
  rw [← had] at hY ⊢
  have hu := adU_ne had
  clear had
  replace hl : lv_has ls 37 [(9, .ref (ad169 168)), (8, .ref (ad169 167)), (7, .ref (ad169 166)), (6, .ref (ad169 165)), (5, .ref (ad169 164)), (4, .ref (ad169 163)), (3, .ref (ad169 162)), (2, .ref (ad169 161)), (1, .ref (ad169 0)), (0, .ref b)] := by rw [hu 168 (by decide), hu 167 (by decide), hu 166 (by decide), hu 165 (by decide), hu 164 (by decide), hu 163 (by decide), hu 162 (by decide), hu 161 (by decide), hu 0 (by decide)]; exact hl
  clear hu
  replace hR : ∀ k, k ∈ L168 ++ [169] ↔ k < 170 := fun k => List.mem_append.trans (by rw [hR k, List.mem_singleton]; omega)
  generalize L168 ++ [169] = L169 at hR hc hY
  refine lv_astore (lv' := [(10, .ref (ad169 169)), (9, .ref (ad169 168)), (8, .ref (ad169 167)), (7, .ref (ad169 166)), (6, .ref (ad169 165)), (5, .ref (ad169 164)), (4, .ref (ad169 163)), (3, .ref (ad169 162)), (2, .ref (ad169 161)), (1, .ref (ad169 0)), (0, .ref b)]) hx hb dL_law_58 hl (by decide) rfl ?_
  clear hl
  intro ls hl
  refine lv_bipush (v := 24) hx hb dL_law_60 (by decide +kernel) ?_
  refine G_newJC (K := 170) hx hb hg hK hA hY hc (fun h => by have := (hR 170).mp h; omega) gk_170 (gn_zJ (by decide)) (by decide +kernel) (by rw [gl_170]; decide +kernel) (by rw [gl_170]; decide +kernel) (Nat.le_of_ble_eq_true rfl) (Nat.le_of_ble_eq_true rfl) dL_law_62 ?_
  clear hY hc
  intro q170 H hc hY
  obtain ⟨ad170, had⟩ : ∃ x, x = adU ad169 170 q170 := ⟨_, rfl⟩
  rw [← had] at hY ⊢
  have hu := adU_ne had
  clear had
  replace hl : lv_has ls 37 [(10, .ref (ad170 169)), (9, .ref (ad170 168)), (8, .ref (ad170 167)), (7, .ref (ad170 166)), (6, .ref (ad170 165)), (5, .ref (ad170 164)), (4, .ref (ad170 163)), (3, .ref (ad170 162)), (2, .ref (ad170 161)), (1, .ref (ad170 0)), (0, .ref b)] := by rw [hu 169 (by decide), hu 168 (by decide), hu 167 (by decide), hu 166 (by decide), hu 165 (by decide), hu 164 (by decide), hu 163 (by decide), hu 162 (by decide), hu 161 (by decide), hu 0 (by decide)]; exact hl
  clear hu
  replace hR : ∀ k, k ∈ L169 ++ [170] ↔ k < 171 := fun k => List.mem_append.trans (by rw [hR k, List.mem_singleton]; omega)
  generalize L169 ++ [170] = L170 at hR hc hY
  refine lv_astore (lv' := [(11, .ref (ad170 170)), (10, .ref (ad170 169)), (9, .ref (ad170 168)), (8, .ref (ad170 167)), (7, .ref (ad170 166)), (6, .ref (ad170 165)), (5, .ref (ad170 164)), (4, .ref (ad170 163)), (3, .ref (ad170 162)), (2, .ref (ad170 161)), (1, .ref (ad170 0)), (0, .ref b)]) hx hb dL_law_64 hl (by decide) rfl ?_
  clear hl
  intro ls hl
  refine lv_bipush (v := 26) hx hb dL_law_66 (by decide +kernel) ?_
  refine G_newJC (K := 171) hx hb hg hK hA hY hc (fun h => by have := (hR 171).mp h; omega) gk_171 (gn_zJ (by decide)) (by decide +kernel) (by rw [gl_171]; decide +kernel) (by rw [gl_171]; decide +kernel) (Nat.le_of_ble_eq_true rfl) (Nat.le_of_ble_eq_true rfl) dL_law_68 ?_
  clear hY hc
  intro q171 H hc hY
  obtain ⟨ad171, had⟩ : ∃ x, x = adU ad170 171 q171 := ⟨_, rfl⟩
  rw [← had] at hY ⊢
  have hu := adU_ne had
  clear had
  replace hl : lv_has ls 37 [(11, .ref (ad171 170)), (10, .ref (ad171 169)), (9, .ref (ad171 168)), (8, .ref (ad171 167)), (7, .ref (ad171 166)), (6, .ref (ad171 165)), (5, .ref (ad171 164)), (4, .ref (ad171 163)), (3, .ref (ad171 162)), (2, .ref (ad171 161)), (1, .ref (ad171 0)), (0, .ref b)] := by rw [hu 170 (by decide), hu 169 (by decide), hu 168 (by decide), hu 167 (by decide), hu 166 (by decide), hu 165 (by decide), hu 164 (by decide), hu 163 (by decide), hu 162 (by decide), hu 161 (by decide), hu 0 (by decide)]; exact hl
  clear hu
  replace hR : ∀ k, k ∈ L170 ++ [171] ↔ k < 172 := fun k => List.mem_append.trans (by rw [hR k, List.mem_singleton]; omega)
  generalize L170 ++ [171] = L171 at hR hc hY
  refine lv_astore (lv' := [(12, .ref (ad171 171)), (11, .ref (ad171 170)), (10, .ref (ad171 169)), (9, .ref (ad171 168)), (8, .ref (ad171 167)), (7, .ref (ad171 166)), (6, .ref (ad171 165)), (5, .ref (ad171 164)), (4, .ref (ad171 163)), (3, .ref (ad171 162)), (2, .ref (ad171 161)), (1, .ref (ad171 0)), (0, .ref b)]) hx hb dL_law_70 hl (by decide) rfl ?_
  clear hl
  intro ls hl
  refine lv_bipush (v := 48) hx hb dL_law_72 (by decide +kernel) ?_
  refine G_newIC (K := 172) hx hb hg hK hA hY hc (fun h => by have := (hR 172).mp h; omega) gk_172 (gn_zI (by decide)) (by decide +kernel) (by rw [gl_172]; decide +kernel) (by rw [gl_172]; decide +kernel) (Nat.le_of_ble_eq_true rfl) (Nat.le_of_ble_eq_true rfl) dL_law_74 ?_
  clear hY hc
  intro q172 H hc hY
  obtain ⟨ad172, had⟩ : ∃ x, x = adU ad171 172 q172 := ⟨_, rfl⟩
  rw [← had] at hY ⊢
  have hu := adU_ne had
  clear had
  replace hl : lv_has ls 37 [(12, .ref (ad172 171)), (11, .ref (ad172 170)), (10, .ref (ad172 169)), (9, .ref (ad172 168)), (8, .ref (ad172 167)), (7, .ref (ad172 166)), (6, .ref (ad172 165)), (5, .ref (ad172 164)), (4, .ref (ad172 163)), (3, .ref (ad172 162)), (2, .ref (ad172 161)), (1, .ref (ad172 0)), (0, .ref b)] := by rw [hu 171 (by decide), hu 170 (by decide), hu 169 (by decide), hu 168 (by decide), hu 167 (by decide), hu 166 (by decide), hu 165 (by decide), hu 164 (by decide), hu 163 (by decide), hu 162 (by decide), hu 161 (by decide), hu 0 (by decide)]; exact hl
  clear hu
  replace hR : ∀ k, k ∈ L171 ++ [172] ↔ k < 173 := fun k => List.mem_append.trans (by rw [hR k, List.mem_singleton]; omega)
  generalize L171 ++ [172] = L172 at hR hc hY
  refine lv_astore (lv' := [(13, .ref (ad172 172)), (12, .ref (ad172 171)), (11, .ref (ad172 170)), (10, .ref (ad172 169)), (9, .ref (ad172 168)), (8, .ref (ad172 167)), (7, .ref (ad172 166)), (6, .ref (ad172 165)), (5, .ref (ad172 164)), (4, .ref (ad172 163)), (3, .ref (ad172 162)), (2, .ref (ad172 161)), (1, .ref (ad172 0)), (0, .ref b)]) hx hb dL_law_76 hl (by decide) rfl ?_
  clear hl
  intro ls hl
  refine lv_bipush (v := 12) hx hb dL_law_78 (by decide +kernel) ?_
  refine G_newIC (K := 173) hx hb hg hK hA hY hc (fun h => by have := (hR 173).mp h; omega) gk_173 (gn_zI (by decide)) (by decide +kernel) (by rw [gl_173]; decide +kernel) (by rw [gl_173]; decide +kernel) (Nat.le_of_ble_eq_true rfl) (Nat.le_of_ble_eq_true rfl) dL_law_80 ?_
  clear hY hc
  intro q173 H hc hY
  obtain ⟨ad173, had⟩ : ∃ x, x = adU ad172 173 q173 := ⟨_, rfl⟩
  rw [← had] at hY ⊢
  have hu := adU_ne had
  clear had
  replace hl : lv_has ls 37 [(13, .ref (ad173 172)), (12, .ref (ad173 171)), (11, .ref (ad173 170)), (10, .ref (ad173 169)), (9, .ref (ad173 168)), (8, .ref (ad173 167)), (7, .ref (ad173 166)), (6, .ref (ad173 165)), (5, .ref (ad173 164)), (4, .ref (ad173 163)), (3, .ref (ad173 162)), (2, .ref (ad173 161)), (1, .ref (ad173 0)), (0, .ref b)] := by rw [hu 172 (by decide), hu 171 (by decide), hu 170 (by decide), hu 169 (by decide), hu 168 (by decide), hu 167 (by decide), hu 166 (by decide), hu 165 (by decide), hu 164 (by decide), hu 163 (by decide), hu 162 (by decide), hu 161 (by decide), hu 0 (by decide)]; exact hl
  clear hu
  replace hR : ∀ k, k ∈ L172 ++ [173] ↔ k < 174 := fun k => List.mem_append.trans (by rw [hR k, List.mem_singleton]; omega)
  generalize L172 ++ [173] = L173 at hR hc hY
  refine lv_astore (lv' := [(14, .ref (ad173 173)), (13, .ref (ad173 172)), (12, .ref (ad173 171)), (11, .ref (ad173 170)), (10, .ref (ad173 169)), (9, .ref (ad173 168)), (8, .ref (ad173 167)), (7, .ref (ad173 166)), (6, .ref (ad173 165)), (5, .ref (ad173 164)), (4, .ref (ad173 163)), (3, .ref (ad173 162)), (2, .ref (ad173 161)), (1, .ref (ad173 0)), (0, .ref b)]) hx hb dL_law_82 hl (by decide) rfl ?_
  clear hl
  intro ls hl
  refine lv_bipush (v := 64) hx hb dL_law_84 (by decide +kernel) ?_
  refine G_newJC (K := 174) hx hb hg hK hA hY hc (fun h => by have := (hR 174).mp h; omega) gk_174 (gn_zJ (by decide)) (by decide +kernel) (by rw [gl_174]; decide +kernel) (by rw [gl_174]; decide +kernel) (Nat.le_of_ble_eq_true rfl) (Nat.le_of_ble_eq_true rfl) dL_law_86 ?_
  clear hY hc
  intro q174 H hc hY
  obtain ⟨ad174, had⟩ : ∃ x, x = adU ad173 174 q174 := ⟨_, rfl⟩
  rw [← had] at hY ⊢
  have hu := adU_ne had
  clear had
  replace hl : lv_has ls 37 [(14, .ref (ad174 173)), (13, .ref (ad174 172)), (12, .ref (ad174 171)), (11, .ref (ad174 170)), (10, .ref (ad174 169)), (9, .ref (ad174 168)), (8, .ref (ad174 167)), (7, .ref (ad174 166)), (6, .ref (ad174 165)), (5, .ref (ad174 164)), (4, .ref (ad174 163)), (3, .ref (ad174 162)), (2, .ref (ad174 161)), (1, .ref (ad174 0)), (0, .ref b)] := by rw [hu 173 (by decide), hu 172 (by decide), hu 171 (by decide), hu 170 (by decide), hu 169 (by decide), hu 168 (by decide), hu 167 (by decide), hu 166 (by decide), hu 165 (by decide), hu 164 (by decide), hu 163 (by decide), hu 162 (by decide), hu 161 (by decide), hu 0 (by decide)]; exact hl
  clear hu
  replace hR : ∀ k, k ∈ L173 ++ [174] ↔ k < 175 := fun k => List.mem_append.trans (by rw [hR k, List.mem_singleton]; omega)
  generalize L173 ++ [174] = L174 at hR hc hY
  refine lv_astore (lv' := [(15, .ref (ad174 174)), (14, .ref (ad174 173)), (13, .ref (ad174 172)), (12, .ref (ad174 171)), (11, .ref (ad174 170)), (10, .ref (ad174 169)), (9, .ref (ad174 168)), (8, .ref (ad174 167)), (7, .ref (ad174 166)), (6, .ref (ad174 165)), (5, .ref (ad174 164)), (4, .ref (ad174 163)), (3, .ref (ad174 162)), (2, .ref (ad174 161)), (1, .ref (ad174 0)), (0, .ref b)]) hx hb dL_law_88 hl (by decide) rfl ?_
  clear hl
  intro ls hl
  refine lv_bipush (v := 64) hx hb dL_law_90 (by decide +kernel) ?_
  refine G_newIC (K := 175) hx hb hg hK hA hY hc (fun h => by have := (hR 175).mp h; omega) gk_175 (gn_zI (by decide)) (by decide +kernel) (by rw [gl_175]; decide +kernel) (by rw [gl_175]; decide +kernel) (Nat.le_of_ble_eq_true rfl) (Nat.le_of_ble_eq_true rfl) dL_law_92 ?_
  clear hY hc
  intro q175 H hc hY
  obtain ⟨ad175, had⟩ : ∃ x, x = adU ad174 175 q175 := ⟨_, rfl⟩
  rw [← had] at hY ⊢
  have hu := adU_ne had
  clear had
  replace hl : lv_has ls 37 [(15, .ref (ad175 174)), (14, .ref (ad175 173)), (13, .ref (ad175 172)), (12, .ref (ad175 171)), (11, .ref (ad175 170)), (10, .ref (ad175 169)), (9, .ref (ad175 168)), (8, .ref (ad175 167)), (7, .ref (ad175 166)), (6, .ref (ad175 165)), (5, .ref (ad175 164)), (4, .ref (ad175 163)), (3, .ref (ad175 162)), (2, .ref (ad175 161)), (1, .ref (ad175 0)), (0, .ref b)] := by rw [hu 174 (by decide), hu 173 (by decide), hu 172 (by decide), hu 171 (by decide), hu 170 (by decide), hu 169 (by decide), hu 168 (by decide), hu 167 (by decide), hu 166 (by decide), hu 165 (by decide), hu 164 (by decide), hu 163 (by decide), hu 162 (by decide), hu 161 (by decide), hu 0 (by decide)]; exact hl
  clear hu
  replace hR : ∀ k, k ∈ L174 ++ [175] ↔ k < 176 := fun k => List.mem_append.trans (by rw [hR k, List.mem_singleton]; omega)
  generalize L174 ++ [175] = L175 at hR hc hY
  refine lv_astore (lv' := [(16, .ref (ad175 175)), (15, .ref (ad175 174)), (14, .ref (ad175 173)), (13, .ref (ad175 172)), (12, .ref (ad175 171)), (11, .ref (ad175 170)), (10, .ref (ad175 169)), (9, .ref (ad175 168)), (8, .ref (ad175 167)), (7, .ref (ad175 166)), (6, .ref (ad175 165)), (5, .ref (ad175 164)), (4, .ref (ad175 163)), (3, .ref (ad175 162)), (2, .ref (ad175 161)), (1, .ref (ad175 0)), (0, .ref b)]) hx hb dL_law_94 hl (by decide) rfl ?_
  clear hl
  intro ls hl
  refine lv_bipush (v := 18) hx hb dL_law_96 (by decide +kernel) ?_
  refine G_newIC (K := 176) hx hb hg hK hA hY hc (fun h => by have := (hR 176).mp h; omega) gk_176 (gn_zI (by decide)) (by decide +kernel) (by rw [gl_176]; decide +kernel) (by rw [gl_176]; decide +kernel) (Nat.le_of_ble_eq_true rfl) (Nat.le_of_ble_eq_true rfl) dL_law_98 ?_
  clear hY hc
  intro q176 H hc hY
  obtain ⟨ad176, had⟩ : ∃ x, x = adU ad175 176 q176 := ⟨_, rfl⟩
  rw [← had] at hY ⊢
  have hu := adU_ne had
  clear had
  replace hl : lv_has ls 37 [(16, .ref (ad176 175)), (15, .ref (ad176 174)), (14, .ref (ad176 173)), (13, .ref (ad176 172)), (12, .ref (ad176 171)), (11, .ref (ad176 170)), (10, .ref (ad176 169)), (9, .ref (ad176 168)), (8, .ref (ad176 167)), (7, .ref (ad176 166)), (6, .ref (ad176 165)), (5, .ref (ad176 164)), (4, .ref (ad176 163)), (3, .ref (ad176 162)), (2, .ref (ad176 161)), (1, .ref (ad176 0)), (0, .ref b)] := by rw [hu 175 (by decide), hu 174 (by decide), hu 173 (by decide), hu 172 (by decide), hu 171 (by decide), hu 170 (by decide), hu 169 (by decide), hu 168 (by decide), hu 167 (by decide), hu 166 (by decide), hu 165 (by decide), hu 164 (by decide), hu 163 (by decide), hu 162 (by decide), hu 161 (by decide), hu 0 (by decide)]; exact hl
  clear hu
  replace hR : ∀ k, k ∈ L175 ++ [176] ↔ k < 177 := fun k => List.mem_append.trans (by rw [hR k, List.mem_singleton]; omega)
  generalize L175 ++ [176] = L176 at hR hc hY
  refine lv_astore (lv' := [(17, .ref (ad176 176)), (16, .ref (ad176 175)), (15, .ref (ad176 174)), (14, .ref (ad176 173)), (13, .ref (ad176 172)), (12, .ref (ad176 171)), (11, .ref (ad176 170)), (10, .ref (ad176 169)), (9, .ref (ad176 168)), (8, .ref (ad176 167)), (7, .ref (ad176 166)), (6, .ref (ad176 165)), (5, .ref (ad176 164)), (4, .ref (ad176 163)), (3, .ref (ad176 162)), (2, .ref (ad176 161)), (1, .ref (ad176 0)), (0, .ref b)]) hx hb dL_law_100 hl (by decide) rfl ?_
  clear hl
  intro ls hl
  refine lv_iconst (v := 3) hx hb dL_law_102 (by decide) ?_
  refine G_newJC (K := 177) hx hb hg hK hA hY hc (fun h => by have := (hR 177).mp h; omega) gk_177 (gn_zJ (by decide)) (by decide +kernel) (by rw [gl_177]; decide +kernel) (by rw [gl_177]; decide +kernel) (Nat.le_of_ble_eq_true rfl) (Nat.le_of_ble_eq_true rfl) dL_law_103 ?_
  clear hY hc
  intro q177 H hc hY
  obtain ⟨ad177, had⟩ : ∃ x, x = adU ad176 177 q177 := ⟨_, rfl⟩
  rw [← had] at hY ⊢
  have hu := adU_ne had
  clear had
  replace hl : lv_has ls 37 [(17, .ref (ad177 176)), (16, .ref (ad177 175)), (15, .ref (ad177 174)), (14, .ref (ad177 173)), (13, .ref (ad177 172)), (12, .ref (ad177 171)), (11, .ref (ad177 170)), (10, .ref (ad177 169)), (9, .ref (ad177 168)), (8, .ref (ad177 167)), (7, .ref (ad177 166)), (6, .ref (ad177 165)), (5, .ref (ad177 164)), (4, .ref (ad177 163)), (3, .ref (ad177 162)), (2, .ref (ad177 161)), (1, .ref (ad177 0)), (0, .ref b)] := by rw [hu 176 (by decide), hu 175 (by decide), hu 174 (by decide), hu 173 (by decide), hu 172 (by decide), hu 171 (by decide), hu 170 (by decide), hu 169 (by decide), hu 168 (by decide), hu 167 (by decide), hu 166 (by decide), hu 165 (by decide), hu 164 (by decide), hu 163 (by decide), hu 162 (by decide), hu 161 (by decide), hu 0 (by decide)]; exact hl
  clear hu
  replace hR : ∀ k, k ∈ L176 ++ [177] ↔ k < 178 := fun k => List.mem_append.trans (by rw [hR k, List.mem_singleton]; omega)
  generalize L176 ++ [177] = L177 at hR hc hY
  refine lv_astore (lv' := [(18, .ref (ad177 177)), (17, .ref (ad177 176)), (16, .ref (ad177 175)), (15, .ref (ad177 174)), (14, .ref (ad177 173)), (13, .ref (ad177 172)), (12, .ref (ad177 171)), (11, .ref (ad177 170)), (10, .ref (ad177 169)), (9, .ref (ad177 168)), (8, .ref (ad177 167)), (7, .ref (ad177 166)), (6, .ref (ad177 165)), (5, .ref (ad177 164)), (4, .ref (ad177 163)), (3, .ref (ad177 162)), (2, .ref (ad177 161)), (1, .ref (ad177 0)), (0, .ref b)]) hx hb dL_law_105 hl (by decide) rfl ?_
  clear hl
  intro ls hl
  refine lv_bipush (v := 14) hx hb dL_law_107 (by decide +kernel) ?_
  refine G_newIC (K := 178) hx hb hg hK hA hY hc (fun h => by have := (hR 178).mp h; omega) gk_178 (gn_zI (by decide)) (by decide +kernel) (by rw [gl_178]; decide +kernel) (by rw [gl_178]; decide +kernel) (Nat.le_of_ble_eq_true rfl) (Nat.le_of_ble_eq_true rfl) dL_law_109 ?_
  clear hY hc
  intro q178 H hc hY
  obtain ⟨ad178, had⟩ : ∃ x, x = adU ad177 178 q178 := ⟨_, rfl⟩
  rw [← had] at hY ⊢
  have hu := adU_ne had
  clear had
  replace hl : lv_has ls 37 [(18, .ref (ad178 177)), (17, .ref (ad178 176)), (16, .ref (ad178 175)), (15, .ref (ad178 174)), (14, .ref (ad178 173)), (13, .ref (ad178 172)), (12, .ref (ad178 171)), (11, .ref (ad178 170)), (10, .ref (ad178 169)), (9, .ref (ad178 168)), (8, .ref (ad178 167)), (7, .ref (ad178 166)), (6, .ref (ad178 165)), (5, .ref (ad178 164)), (4, .ref (ad178 163)), (3, .ref (ad178 162)), (2, .ref (ad178 161)), (1, .ref (ad178 0)), (0, .ref b)] := by rw [hu 177 (by decide), hu 176 (by decide), hu 175 (by decide), hu 174 (by decide), hu 173 (by decide), hu 172 (by decide), hu 171 (by decide), hu 170 (by decide), hu 169 (by decide), hu 168 (by decide), hu 167 (by decide), hu 166 (by decide), hu 165 (by decide), hu 164 (by decide), hu 163 (by decide), hu 162 (by decide), hu 161 (by decide), hu 0 (by decide)]; exact hl
  clear hu
  replace hR : ∀ k, k ∈ L177 ++ [178] ↔ k < 179 := fun k => List.mem_append.trans (by rw [hR k, List.mem_singleton]; omega)
  generalize L177 ++ [178] = L178 at hR hc hY
  refine lv_astore (lv' := [(19, .ref (ad178 178)), (18, .ref (ad178 177)), (17, .ref (ad178 176)), (16, .ref (ad178 175)), (15, .ref (ad178 174)), (14, .ref (ad178 173)), (13, .ref (ad178 172)), (12, .ref (ad178 171)), (11, .ref (ad178 170)), (10, .ref (ad178 169)), (9, .ref (ad178 168)), (8, .ref (ad178 167)), (7, .ref (ad178 166)), (6, .ref (ad178 165)), (5, .ref (ad178 164)), (4, .ref (ad178 163)), (3, .ref (ad178 162)), (2, .ref (ad178 161)), (1, .ref (ad178 0)), (0, .ref b)]) hx hb dL_law_111 hl (by decide) rfl ?_
  clear hl
  intro ls hl
  have hL : ∀ k, k < 179 → k ∈ L178 := fun k h => (hR k).mpr h
  have hL2 : ∀ k ∈ L178, k < 179 := fun k h => (hR k).mp h
  refine lv_aload_n hx hb dL_law_113 rfl (lv_at hl 17 rfl) ?_
  refine lv_iconst (v := 1) hx hb dL_law_114 (by decide) ?_
  refine lv_iconst (v := 1) hx hb dL_law_115 (by decide) ?_
  refine G_iast (j := 1) hx hb hK hY (hL 161 (by decide)) gk_161 (by rw [gl_161]; decide +kernel) (by decide +kernel) dL_law_116 ?_
  clear hY
  intro H locs hY
  refine lv_aload_n hx hb dL_law_117 rfl (lv_at hl 17 rfl) ?_
  refine lv_iconst (v := 5) hx hb dL_law_118 (by decide) ?_
  refine lv_iconst (v := 1) hx hb dL_law_119 (by decide) ?_
  refine G_iast (j := 5) hx hb hK hY (hL 161 (by decide)) gk_161 (by rw [gl_161]; decide +kernel) (by decide +kernel) dL_law_120 ?_
  clear hY
  intro H locs hY
  refine lv_aload_n hx hb dL_law_121 rfl (lv_at hl 17 rfl) ?_
  refine lv_bipush (v := 6) hx hb dL_law_122 (by decide +kernel) ?_
  refine lv_iconst (v := 1) hx hb dL_law_124 (by decide) ?_
  refine G_iast (j := 6) hx hb hK hY (hL 161 (by decide)) gk_161 (by rw [gl_161]; decide +kernel) (by decide +kernel) dL_law_125 ?_
  clear hY
  intro H locs hY
  refine lv_aload_n hx hb dL_law_126 rfl (lv_at hl 17 rfl) ?_
  refine lv_bipush (v := 9) hx hb dL_law_127 (by decide +kernel) ?_
  refine lv_iconst (v := (-1)) hx hb dL_law_129 (by decide) ?_
  refine G_iast (j := 9) hx hb hK hY (hL 161 (by decide)) gk_161 (by rw [gl_161]; decide +kernel) (by decide +kernel) dL_law_130 ?_
  clear hY
  intro H locs hY
  refine lv_iconst (v := 0) hx hb dL_law_131 (by decide) ?_
  refine lv_istore (lv' := [(20, .int 0), (19, .ref (ad178 178)), (18, .ref (ad178 177)), (17, .ref (ad178 176)), (16, .ref (ad178 175)), (15, .ref (ad178 174)), (14, .ref (ad178 173)), (13, .ref (ad178 172)), (12, .ref (ad178 171)), (11, .ref (ad178 170)), (10, .ref (ad178 169)), (9, .ref (ad178 168)), (8, .ref (ad178 167)), (7, .ref (ad178 166)), (6, .ref (ad178 165)), (5, .ref (ad178 164)), (4, .ref (ad178 163)), (3, .ref (ad178 162)), (2, .ref (ad178 161)), (1, .ref (ad178 0)), (0, .ref b)]) hx hb dL_law_132 hl (by decide) rfl ?_
  clear hl
  intro ls hl
  exact wL_law_134 hx hb hr hml hown hg hlocks hK hA hL hfl hZ hX hbl (fun _ h => h) rfl hL2 N (Nat.le_of_ble_eq_true rfl) (Nat.le_of_ble_eq_true rfl) _ _ _ hY (lv_sub hl [20, 19, 18, 17, 16, 15, 14, 13, 12, 11, 10, 9, 8, 7, 6, 5, 4, 3, 2, 1, 0] rfl) hp
