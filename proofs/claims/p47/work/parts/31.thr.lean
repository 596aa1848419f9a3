def dt186_L_does : List (Nat × Instr × Nat) := [(121, (.ireturn, 1)), (0, (.iload_n 1, 1)), (1, (.ifCond .ne 20, 3)), (21, (.iload_n 1, 1)), (22, (.iconst 1, 1)), (23, (.if_icmp .ne 12, 3)), (35, (.iload_n 1, 1)), (36, (.iconst 2, 1)), (37, (.if_icmp .ne 10, 3)), (47, (.iload_n 1, 1)), (48, (.iconst 3, 1)), (49, (.if_icmp .ne 11, 3)), (60, (.iload_n 1, 1)), (61, (.iconst 4, 1)), (62, (.if_icmp .ne 12, 3)), (74, (.iload_n 1, 1)), (75, (.iconst 5, 1)), (76, (.if_icmp .ne 11, 3)), (87, (.iload_n 1, 1)), (88, (.bipush 6, 2)), (90, (.if_icmp .ne 12, 3)), (102, (.iload_n 1, 1)), (103, (.bipush 7, 2)), (105, (.if_icmp .ne 11, 3)), (116, (.aload_n 0, 1)), (117, (.iload_n 2, 1)), (118, (.invokevirtual 97, 3)), (108, (.aload_n 0, 1)), (109, (.iload_n 2, 1)), (110, (.invokevirtual 94, 3)), (122, (.astore 5, 2)), (124, (.bipush (-11), 2)), (126, (.ireturn, 1)), (127, (.astore 5, 2)), (129, (.bipush (-12), 2)), (131, (.ireturn, 1)), (132, (.astore 5, 2)), (134, (.bipush (-13), 2)), (136, (.ireturn, 1)), (113, (.goto 8, 3)), (93, (.aload_n 0, 1)), (94, (.iload_n 2, 1)), (95, (.iload_n 3, 1)), (96, (.invokevirtual 91, 3)), (99, (.goto 22, 3)), (79, (.aload_n 0, 1)), (80, (.iload_n 2, 1)), (81, (.invokevirtual 88, 3)), (84, (.goto 37, 3)), (65, (.aload_n 0, 1)), (66, (.iload_n 2, 1)), (67, (.iload_n 3, 1)), (68, (.invokevirtual 85, 3)), (71, (.goto 50, 3)), (52, (.aload_n 0, 1)), (53, (.iload_n 2, 1)), (54, (.invokevirtual 81, 3)), (57, (.goto 64, 3)), (40, (.aload_n 0, 1)), (41, (.invokevirtual 77, 3))]
theorem dt186_L_does_ok : ∀ q ∈ dt186_L_does, decode cL_does q.1 = .ok q.2 := by decide +kernel
theorem dL_does_121 : decode cL_does 121 = .ok (.ireturn, 1) := g_dec dt186_L_does_ok (k := 0) rfl
theorem dL_does_0 : decode cL_does 0 = .ok (.iload_n 1, 1) := g_dec dt186_L_does_ok (k := 1) rfl
theorem dL_does_1 : decode cL_does 1 = .ok (.ifCond .ne 20, 3) := g_dec dt186_L_does_ok (k := 2) rfl
theorem dL_does_21 : decode cL_does 21 = .ok (.iload_n 1, 1) := g_dec dt186_L_does_ok (k := 3) rfl
theorem dL_does_22 : decode cL_does 22 = .ok (.iconst 1, 1) := g_dec dt186_L_does_ok (k := 4) rfl
theorem dL_does_23 : decode cL_does 23 = .ok (.if_icmp .ne 12, 3) := g_dec dt186_L_does_ok (k := 5) rfl
theorem dL_does_35 : decode cL_does 35 = .ok (.iload_n 1, 1) := g_dec dt186_L_does_ok (k := 6) rfl
theorem dL_does_36 : decode cL_does 36 = .ok (.iconst 2, 1) := g_dec dt186_L_does_ok (k := 7) rfl
theorem dL_does_37 : decode cL_does 37 = .ok (.if_icmp .ne 10, 3) := g_dec dt186_L_does_ok (k := 8) rfl
theorem dL_does_47 : decode cL_does 47 = .ok (.iload_n 1, 1) := g_dec dt186_L_does_ok (k := 9) rfl
theorem dL_does_48 : decode cL_does 48 = .ok (.iconst 3, 1) := g_dec dt186_L_does_ok (k := 10) rfl
theorem dL_does_49 : decode cL_does 49 = .ok (.if_icmp .ne 11, 3) := g_dec dt186_L_does_ok (k := 11) rfl
theorem dL_does_60 : decode cL_does 60 = .ok (.iload_n 1, 1) := g_dec dt186_L_does_ok (k := 12) rfl
theorem dL_does_61 : decode cL_does 61 = .ok (.iconst 4, 1) := g_dec dt186_L_does_ok (k := 13) rfl
theorem dL_does_62 : decode cL_does 62 = .ok (.if_icmp .ne 12, 3) := g_dec dt186_L_does_ok (k := 14) rfl
theorem dL_does_74 : decode cL_does 74 = .ok (.iload_n 1, 1) := g_dec dt186_L_does_ok (k := 15) rfl
theorem dL_does_75 : decode cL_does 75 = .ok (.iconst 5, 1) := g_dec dt186_L_does_ok (k := 16) rfl
theorem dL_does_76 : decode cL_does 76 = .ok (.if_icmp .ne 11, 3) := g_dec dt186_L_does_ok (k := 17) rfl
theorem dL_does_87 : decode cL_does 87 = .ok (.iload_n 1, 1) := g_dec dt186_L_does_ok (k := 18) rfl
theorem dL_does_88 : decode cL_does 88 = .ok (.bipush 6, 2) := g_dec dt186_L_does_ok (k := 19) rfl
theorem dL_does_90 : decode cL_does 90 = .ok (.if_icmp .ne 12, 3) := g_dec dt186_L_does_ok (k := 20) rfl
theorem dL_does_102 : decode cL_does 102 = .ok (.iload_n 1, 1) := g_dec dt186_L_does_ok (k := 21) rfl
theorem dL_does_103 : decode cL_does 103 = .ok (.bipush 7, 2) := g_dec dt186_L_does_ok (k := 22) rfl
theorem dL_does_105 : decode cL_does 105 = .ok (.if_icmp .ne 11, 3) := g_dec dt186_L_does_ok (k := 23) rfl
theorem dL_does_116 : decode cL_does 116 = .ok (.aload_n 0, 1) := g_dec dt186_L_does_ok (k := 24) rfl
theorem dL_does_117 : decode cL_does 117 = .ok (.iload_n 2, 1) := g_dec dt186_L_does_ok (k := 25) rfl
theorem dL_does_118 : decode cL_does 118 = .ok (.invokevirtual 97, 3) := g_dec dt186_L_does_ok (k := 26) rfl
theorem dL_does_108 : decode cL_does 108 = .ok (.aload_n 0, 1) := g_dec dt186_L_does_ok (k := 27) rfl
theorem dL_does_109 : decode cL_does 109 = .ok (.iload_n 2, 1) := g_dec dt186_L_does_ok (k := 28) rfl
theorem dL_does_110 : decode cL_does 110 = .ok (.invokevirtual 94, 3) := g_dec dt186_L_does_ok (k := 29) rfl
theorem dL_does_122 : decode cL_does 122 = .ok (.astore 5, 2) := g_dec dt186_L_does_ok (k := 30) rfl
theorem dL_does_124 : decode cL_does 124 = .ok (.bipush (-11), 2) := g_dec dt186_L_does_ok (k := 31) rfl
theorem dL_does_126 : decode cL_does 126 = .ok (.ireturn, 1) := g_dec dt186_L_does_ok (k := 32) rfl
theorem dL_does_127 : decode cL_does 127 = .ok (.astore 5, 2) := g_dec dt186_L_does_ok (k := 33) rfl
theorem dL_does_129 : decode cL_does 129 = .ok (.bipush (-12), 2) := g_dec dt186_L_does_ok (k := 34) rfl
theorem dL_does_131 : decode cL_does 131 = .ok (.ireturn, 1) := g_dec dt186_L_does_ok (k := 35) rfl
theorem dL_does_132 : decode cL_does 132 = .ok (.astore 5, 2) := g_dec dt186_L_does_ok (k := 36) rfl
theorem dL_does_134 : decode cL_does 134 = .ok (.bipush (-13), 2) := g_dec dt186_L_does_ok (k := 37) rfl
theorem dL_does_136 : decode cL_does 136 = .ok (.ireturn, 1) := g_dec dt186_L_does_ok (k := 38) rfl
theorem dL_does_113 : decode cL_does 113 = .ok (.goto 8, 3) := g_dec dt186_L_does_ok (k := 39) rfl
theorem dL_does_93 : decode cL_does 93 = .ok (.aload_n 0, 1) := g_dec dt186_L_does_ok (k := 40) rfl
theorem dL_does_94 : decode cL_does 94 = .ok (.iload_n 2, 1) := g_dec dt186_L_does_ok (k := 41) rfl
theorem dL_does_95 : decode cL_does 95 = .ok (.iload_n 3, 1) := g_dec dt186_L_does_ok (k := 42) rfl
theorem dL_does_96 : decode cL_does 96 = .ok (.invokevirtual 91, 3) := g_dec dt186_L_does_ok (k := 43) rfl
theorem dL_does_99 : decode cL_does 99 = .ok (.goto 22, 3) := g_dec dt186_L_does_ok (k := 44) rfl
theorem dL_does_79 : decode cL_does 79 = .ok (.aload_n 0, 1) := g_dec dt186_L_does_ok (k := 45) rfl
theorem dL_does_80 : decode cL_does 80 = .ok (.iload_n 2, 1) := g_dec dt186_L_does_ok (k := 46) rfl
theorem dL_does_81 : decode cL_does 81 = .ok (.invokevirtual 88, 3) := g_dec dt186_L_does_ok (k := 47) rfl
theorem dL_does_84 : decode cL_does 84 = .ok (.goto 37, 3) := g_dec dt186_L_does_ok (k := 48) rfl
theorem dL_does_65 : decode cL_does 65 = .ok (.aload_n 0, 1) := g_dec dt186_L_does_ok (k := 49) rfl
theorem dL_does_66 : decode cL_does 66 = .ok (.iload_n 2, 1) := g_dec dt186_L_does_ok (k := 50) rfl
theorem dL_does_67 : decode cL_does 67 = .ok (.iload_n 3, 1) := g_dec dt186_L_does_ok (k := 51) rfl
theorem dL_does_68 : decode cL_does 68 = .ok (.invokevirtual 85, 3) := g_dec dt186_L_does_ok (k := 52) rfl
theorem dL_does_71 : decode cL_does 71 = .ok (.goto 50, 3) := g_dec dt186_L_does_ok (k := 53) rfl
theorem dL_does_52 : decode cL_does 52 = .ok (.aload_n 0, 1) := g_dec dt186_L_does_ok (k := 54) rfl
theorem dL_does_53 : decode cL_does 53 = .ok (.iload_n 2, 1) := g_dec dt186_L_does_ok (k := 55) rfl
theorem dL_does_54 : decode cL_does 54 = .ok (.invokevirtual 81, 3) := g_dec dt186_L_does_ok (k := 56) rfl
theorem dL_does_57 : decode cL_does 57 = .ok (.goto 64, 3) := g_dec dt186_L_does_ok (k := 57) rfl
theorem dL_does_40 : decode cL_does 40 = .ok (.aload_n 0, 1) := g_dec dt186_L_does_ok (k := 58) rfl
theorem dL_does_41 : decode cL_does 41 = .ok (.invokevirtual 77, 3) := g_dec dt186_L_does_ok (k := 59) rfl
def dt187_L_does : List (Nat × Instr × Nat) := [(44, (.goto 77, 3)), (26, (.aload_n 0, 1)), (27, (.iload_n 2, 1)), (28, (.iload_n 3, 1)), (29, (.invokevirtual 73, 3)), (32, (.goto 89, 3)), (4, (.aload_n 0, 1)), (5, (.iload_n 2, 1)), (6, (.iload_n 3, 1)), (7, (.invokevirtual 67, 3)), (10, (.ifCond .eq 7, 3)), (17, (.iconst 0, 1)), (18, (.goto 103, 3)), (13, (.iconst 1, 1)), (14, (.goto 107, 3))]
theorem dt187_L_does_ok : ∀ q ∈ dt187_L_does, decode cL_does q.1 = .ok q.2 := by decide +kernel
theorem dL_does_44 : decode cL_does 44 = .ok (.goto 77, 3) := g_dec dt187_L_does_ok (k := 0) rfl
theorem dL_does_26 : decode cL_does 26 = .ok (.aload_n 0, 1) := g_dec dt187_L_does_ok (k := 1) rfl
theorem dL_does_27 : decode cL_does 27 = .ok (.iload_n 2, 1) := g_dec dt187_L_does_ok (k := 2) rfl
theorem dL_does_28 : decode cL_does 28 = .ok (.iload_n 3, 1) := g_dec dt187_L_does_ok (k := 3) rfl
theorem dL_does_29 : decode cL_does 29 = .ok (.invokevirtual 73, 3) := g_dec dt187_L_does_ok (k := 4) rfl
theorem dL_does_32 : decode cL_does 32 = .ok (.goto 89, 3) := g_dec dt187_L_does_ok (k := 5) rfl
theorem dL_does_4 : decode cL_does 4 = .ok (.aload_n 0, 1) := g_dec dt187_L_does_ok (k := 6) rfl
theorem dL_does_5 : decode cL_does 5 = .ok (.iload_n 2, 1) := g_dec dt187_L_does_ok (k := 7) rfl
theorem dL_does_6 : decode cL_does 6 = .ok (.iload_n 3, 1) := g_dec dt187_L_does_ok (k := 8) rfl
theorem dL_does_7 : decode cL_does 7 = .ok (.invokevirtual 67, 3) := g_dec dt187_L_does_ok (k := 9) rfl
theorem dL_does_10 : decode cL_does 10 = .ok (.ifCond .eq 7, 3) := g_dec dt187_L_does_ok (k := 10) rfl
theorem dL_does_17 : decode cL_does 17 = .ok (.iconst 0, 1) := g_dec dt187_L_does_ok (k := 11) rfl
theorem dL_does_18 : decode cL_does 18 = .ok (.goto 103, 3) := g_dec dt187_L_does_ok (k := 12) rfl
theorem dL_does_13 : decode cL_does 13 = .ok (.iconst 1, 1) := g_dec dt187_L_does_ok (k := 13) rfl
theorem dL_does_14 : decode cL_does 14 = .ok (.goto 107, 3) := g_dec dt187_L_does_ok (k := 14) rfl
section
variable {p : Program} {l : Launch} {e : Env} {s : State} {m : MethodId} {args : Array Value} {below : List Frame} {meth : Method} {c : Code} {D : va_G} {y : Nat → ClassId} {aS : Nat → Nat} {A : Nat → Prop} {L : List Nat} {ad : Nat → Nat} {N : Nat} {res : (Sum Int32 String × gS)}
def fTX11_queue_93 (N : Nat) (σ : gS) (x1 : Int32) (x2 : Int32) (r3 : Nat) : Option (Sum Int32 String × gS) := (fX11_putInQueue N σ r3 x2).bind fun r_1 => (fX11_formBatches N r_1).bind fun r_3 => (fX8_placeOf N r_3 110 (x1.toInt64)).bind fun r_5 => some (.inl r_5, r_3)
set_option maxRecDepth 100000 in
set_option maxHeartbeats 4000000 in
theorem wTX11_queue_93 {σ : gS} {x1 : Int32} {x2 : Int32} {r3 : Nat} (hx : p.tables.exec = Jvm.exec) (hb : c.code = cX11_queue) (hr : meth.sig.returnType = (some .int)) (hml : c.maxLocals = 5) (hown : s.vm.findClass RX11 = some m.cls) (hg : ∀ w ∈ wsL_law, w.before args s = true) (hlocks : meth.locks = false) (hK : gK D y aS s) (hA : ∀ q, s.heap.size ≤ q → A q) (hL : ∀ k, k < 179 → k ∈ L) (hfl : l.stackTraces = false) (hZ : gZ A s s.heap) (htab : ∀ x ∈ c.exceptionTable.toList, False) (hr3 : gcl r3 = 1) {H : Heap} {locs : List Loc} {ls : Array Slot} (hY : gY D y A s L ad σ H locs) (hl : lv_has ls 5 [(0, .ref (ad 0)), (1, .int x1), (2, .int x2), (3, .ref (ad r3))]) (h : fTX11_queue_93 N σ x1 x2 r3 = some res) : W p l e ({ frames := 7, cells := 1, slots := 6, locals := 104 } : Room) s m args below meth c H locs 0 0 (vx_MQ below (va_Qi (fun (r : Int32) (_ : Unit) => res.1 = .inl r) (fun _ => gO D A (GW L y ad res.2)) A) (vx_X (fun E => res.1 = .inr E) (fun E u t => E = u ∧ gO D A (GW L y ad res.2) t) A) args s 1 6 A) (F0 m 93 ls []) := by
  unfold fTX11_queue_93 at h
  refine lv_aload_n hx hb dX11_queue_93 rfl (lv_at hl 0 rfl) ?_
  refine lv_aload_n hx hb dX11_queue_94 rfl (lv_at hl 3 rfl) ?_
  refine lv_iload_n hx hb dX11_queue_95 rfl (lv_at hl 2 rfl) ?_
  obtain ⟨r_1, e_2, h⟩ := g_bind h
  refine G_av hY hA (va_runV (As := [.ref (ad r3), .int x2]) (rest := []) ⟨hx, hb, hml, hown, hg⟩ (kX11_putInQueue l D y aS H.size L hL ad N σ r3 x2 _ hr3 e_2) (cwV 2 hg ggV_RX11_200_X11_putInQueue rfl rfl rfl (by decide +kernel) ⟨Nat.le_of_ble_eq_true rfl, Nat.le_of_ble_eq_true rfl⟩) (G_pV (q := (RX11, TX11, 19)) hK hY (hL 0 (by decide)) gk_0 (by decide) rfl) rfl rfl hl.1 rfl (lv_room (Nat.le_of_ble_eq_true rfl)) dX11_queue_96 ⟨Nat.le_of_ble_eq_true rfl, Nat.le_of_ble_eq_true rfl⟩) ?_
  clear hY
  rintro H locs hY
  refine lv_aload_n hx hb dX11_queue_99 rfl (lv_at hl 0 rfl) ?_
  obtain ⟨r_3, e_4, h⟩ := g_bind h
  refine G_av hY hA (va_runV (As := []) (rest := []) ⟨hx, hb, hml, hown, hg⟩ (kX11_formBatches l D y aS H.size L hL ad N r_1 _ e_4) (cwV 0 hg ggV_RX11_204_X11_formBatches rfl rfl rfl (by decide +kernel) ⟨Nat.le_of_ble_eq_true rfl, Nat.le_of_ble_eq_true rfl⟩) (G_pV (q := (RX11, TX11, 19)) hK hY (hL 0 (by decide)) gk_0 (by decide) rfl) rfl rfl hl.1 rfl (lv_room (Nat.le_of_ble_eq_true rfl)) dX11_queue_100 ⟨Nat.le_of_ble_eq_true rfl, Nat.le_of_ble_eq_true rfl⟩) ?_
  clear hY
  rintro H locs hY
  refine lv_aload_n hx hb dX11_queue_103 rfl (lv_at hl 0 rfl) ?_
  refine G_get (ci := 11) (j := 3) (C := RX11) (T := TX11) (N := 19) (v := .ref (ad 109)) hx hb hg inlX11 hown hK hY (hL 0 (by decide)) gk_0 (by decide) rfl (by decide) tX11_3 (hg _ gw_28) rfl dX11_queue_104 ?_
  refine G_get (ci := 4) (j := 4) (C := RX4) (T := TX4) (N := 9) (v := .ref (ad 110)) hx hb hg inlX4 hown hK hY (hL 109 (by decide)) gk_109 (by decide) rfl (by decide) tX4_4 (hg _ gw_190) rfl dX11_queue_107 ?_
  refine lv_iload_n hx hb dX11_queue_110 rfl (lv_at hl 1 rfl) ?_
  refine lv_i2l (v := (x1.toInt64)) hx hb dX11_queue_111 rfl ?_
  obtain ⟨r_5, e_6, h⟩ := g_bind h
  refine G_ai hY hA (va_runV (As := [.long (x1.toInt64)]) (rest := []) ⟨hx, hb, hml, hown, hg⟩ (kX8_placeOf l D y aS H.size L hL ad N r_3 110 (x1.toInt64) _ gk_110 e_6) (cwV 1 hg ggV_RX11_210_X8_placeOf rfl rfl rfl (by decide +kernel) ⟨Nat.le_of_ble_eq_true rfl, Nat.le_of_ble_eq_true rfl⟩) (G_pV (q := (RX8, TX8, 2)) hK hY (hL 110 (by decide)) gk_110 (by decide) rfl) rfl rfl hl.1 rfl (lv_room (Nat.le_of_ble_eq_true rfl)) dX11_queue_112 ⟨Nat.le_of_ble_eq_true rfl, Nat.le_of_ble_eq_true rfl⟩) ?_
  clear hY
  rintro _ H locs rfl hY
  cases h
  exact vx_ret (g_iret hx hb hr hlocks () hY.1 hY.2.1 hY.2.2 rfl rfl (Nat.le_of_ble_eq_true rfl) (Nat.le_of_ble_eq_true rfl) dX11_queue_115)
def fTX11_queue_90 (N : Nat) (σ : gS) (x1 : Int32) (x2 : Int32) (r3 : Nat) (xs0 : Int32) : Option (Sum Int32 String × gS) := g_tc (fX11_needState N σ xs0) (some (.inr "java/lang/IllegalStateException", σ)) (fTX11_queue_93 N σ x1 x2 r3)
set_option maxRecDepth 100000 in
set_option maxHeartbeats 4000000 in
theorem wTX11_queue_90 {σ : gS} {x1 : Int32} {x2 : Int32} {r3 : Nat} {xs0 : Int32} (hx : p.tables.exec = Jvm.exec) (hb : c.code = cX11_queue) (hr : meth.sig.returnType = (some .int)) (hml : c.maxLocals = 5) (hown : s.vm.findClass RX11 = some m.cls) (hg : ∀ w ∈ wsL_law, w.before args s = true) (hlocks : meth.locks = false) (hK : gK D y aS s) (hA : ∀ q, s.heap.size ≤ q → A q) (hL : ∀ k, k < 179 → k ∈ L) (hfl : l.stackTraces = false) (hZ : gZ A s s.heap) (htab : ∀ x ∈ c.exceptionTable.toList, False) (hr3 : gcl r3 = 1) {H : Heap} {locs : List Loc} {ls : Array Slot} (hY : gY D y A s L ad σ H locs) (hl : lv_has ls 5 [(0, .ref (ad 0)), (1, .int x1), (2, .int x2), (3, .ref (ad r3))]) (h : fTX11_queue_90 N σ x1 x2 r3 xs0 = some res) : W p l e ({ frames := 7, cells := 1, slots := 6, locals := 104 } : Room) s m args below meth c H locs 0 0 (vx_MQ below (va_Qi (fun (r : Int32) (_ : Unit) => res.1 = .inl r) (fun _ => gO D A (GW L y ad res.2)) A) (vx_X (fun E => res.1 = .inr E) (fun E u t => E = u ∧ gO D A (GW L y ad res.2) t) A) args s 1 6 A) (F0 m 90 ls [.int xs0]) := by
  unfold fTX11_queue_90 at h
  rcases g_tcase h with ⟨e_2, h⟩ | ⟨e_2, h⟩
  ·
    cases h
    refine G_xav hY hA (vx_runS (As := [.int xs0]) (rest := []) ⟨hx, hb, hml, hown, hg⟩ (xX11_needState l hfl D y aS H.size L ad N σ xs0 e_2) (va_cwS 1 hg ggS_RX11_123_X11_needState rfl rfl rfl (by decide +kernel) ⟨Nat.le_of_ble_eq_true rfl, Nat.le_of_ble_eq_true rfl⟩) (G_xpS hZ hA hK hY) rfl rfl hl.1 rfl (lv_room (Nat.le_of_ble_eq_true rfl)) dX11_queue_90 ⟨Nat.le_of_ble_eq_true rfl, Nat.le_of_ble_eq_true rfl⟩) (fun E ce q9 H1 locs1 hE hY hce hcv hcl => ?_) (fun _ _ hf _ => hf.elim)
    subst hE
    exact gx_out htab hlocks hce hcv hcl hY.1 hY.2.1 hY.2.2 rfl (Nat.le_of_ble_eq_true rfl) (Nat.le_of_ble_eq_true rfl)
  ·
    refine G_av hY hA (va_runS (As := [.int xs0]) (rest := []) ⟨hx, hb, hml, hown, hg⟩ (kX11_needState l D y aS H.size L hL ad N σ xs0 _ e_2) (va_cwS 1 hg ggS_RX11_123_X11_needState rfl rfl rfl (by decide +kernel) ⟨Nat.le_of_ble_eq_true rfl, Nat.le_of_ble_eq_true rfl⟩) (G_pS hK hY) rfl rfl hl.1 rfl (lv_room (Nat.le_of_ble_eq_true rfl)) dX11_queue_90 ⟨Nat.le_of_ble_eq_true rfl, Nat.le_of_ble_eq_true rfl⟩) ?_
    clear hY
    rintro H locs hY
    exact wTX11_queue_93 hx hb hr hml hown hg hlocks hK hA hL hfl hZ htab hr3 hY (lv_sub hl [0, 1, 2, 3] rfl) h
def fTX11_queue_85 (N : Nat) (σ : gS) (x1 : Int32) (x2 : Int32) (r3 : Nat) : Option (Sum Int32 String × gS) := fTX11_queue_90 N σ x1 x2 r3 1
set_option maxRecDepth 100000 in
set_option maxHeartbeats 4000000 in
theorem wTX11_queue_85 {σ : gS} {x1 : Int32} {x2 : Int32} {r3 : Nat} (hx : p.tables.exec = Jvm.exec) (hb : c.code = cX11_queue) (hr : meth.sig.returnType = (some .int)) (hml : c.maxLocals = 5) (hown : s.vm.findClass RX11 = some m.cls) (hg : ∀ w ∈ wsL_law, w.before args s = true) (hlocks : meth.locks = false) (hK : gK D y aS s) (hA : ∀ q, s.heap.size ≤ q → A q) (hL : ∀ k, k < 179 → k ∈ L) (hfl : l.stackTraces = false) (hZ : gZ A s s.heap) (htab : ∀ x ∈ c.exceptionTable.toList, False) (hr3 : gcl r3 = 1) {H : Heap} {locs : List Loc} {ls : Array Slot} (hY : gY D y A s L ad σ H locs) (hl : lv_has ls 5 [(0, .ref (ad 0)), (1, .int x1), (2, .int x2), (3, .ref (ad r3))]) (h : fTX11_queue_85 N σ x1 x2 r3 = some res) : W p l e ({ frames := 7, cells := 1, slots := 6, locals := 104 } : Room) s m args below meth c H locs 0 0 (vx_MQ below (va_Qi (fun (r : Int32) (_ : Unit) => res.1 = .inl r) (fun _ => gO D A (GW L y ad res.2)) A) (vx_X (fun E => res.1 = .inr E) (fun E u t => E = u ∧ gO D A (GW L y ad res.2) t) A) args s 1 6 A) (F0 m 85 ls []) := by
  unfold fTX11_queue_85 at h
  refine lv_iconst (v := 1) hx hb dX11_queue_85 (by decide) ?_
  refine lv_goto (tgt := 90) hx hb dX11_queue_86 (by decide) ?_
  exact wTX11_queue_90 hx hb hr hml hown hg hlocks hK hA hL hfl hZ htab hr3 hY (lv_sub hl [0, 1, 2, 3] rfl) h
def fTX11_queue_46 (N : Nat) (σ : gS) (x1 : Int32) (x2 : Int32) (r3 : Nat) (xs0 : Int32) : Option (Sum Int32 String × gS) := g_tc (fX11_needState N σ xs0) (some (.inr "java/lang/IllegalStateException", σ)) (if (σ.1 r3 2) = (-1) then (fTX11_queue_93 N σ x1 x2 r3) else ((fX2_at N σ (σ.1 r3 2)).bind fun r_4 => if (σ.1 r_4 3) = 1 then (fTX11_queue_85 N σ x1 x2 r3) else (if (σ.1 r_4 3) = 2 then (fTX11_queue_85 N σ x1 x2 r3) else (fTX11_queue_90 N σ x1 x2 r3 0))))
set_option maxRecDepth 100000 in
set_option maxHeartbeats 4000000 in
theorem wTX11_queue_46 {σ : gS} {x1 : Int32} {x2 : Int32} {r3 : Nat} {xs0 : Int32} (hx : p.tables.exec = Jvm.exec) (hb : c.code = cX11_queue) (hr : meth.sig.returnType = (some .int)) (hml : c.maxLocals = 5) (hown : s.vm.findClass RX11 = some m.cls) (hg : ∀ w ∈ wsL_law, w.before args s = true) (hlocks : meth.locks = false) (hK : gK D y aS s) (hA : ∀ q, s.heap.size ≤ q → A q) (hL : ∀ k, k < 179 → k ∈ L) (hfl : l.stackTraces = false) (hZ : gZ A s s.heap) (htab : ∀ x ∈ c.exceptionTable.toList, False) (hr3 : gcl r3 = 1) {H : Heap} {locs : List Loc} {ls : Array Slot} (hY : gY D y A s L ad σ H locs) (hl : lv_has ls 5 [(0, .ref (ad 0)), (1, .int x1), (2, .int x2), (3, .ref (ad r3))]) (h : fTX11_queue_46 N σ x1 x2 r3 xs0 = some res) : W p l e ({ frames := 7, cells := 1, slots := 6, locals := 104 } : Room) s m args below meth c H locs 0 0 (vx_MQ below (va_Qi (fun (r : Int32) (_ : Unit) => res.1 = .inl r) (fun _ => gO D A (GW L y ad res.2)) A) (vx_X (fun E => res.1 = .inr E) (fun E u t => E = u ∧ gO D A (GW L y ad res.2) t) A) args s 1 6 A) (F0 m 46 ls [.int xs0]) := by
  unfold fTX11_queue_46 at h
  rcases g_tcase h with ⟨e_2, h⟩ | ⟨e_2, h⟩
  ·
    cases h
    refine G_xav hY hA (vx_runS (As := [.int xs0]) (rest := []) ⟨hx, hb, hml, hown, hg⟩ (xX11_needState l hfl D y aS H.size L ad N σ xs0 e_2) (va_cwS 1 hg ggS_RX11_123_X11_needState rfl rfl rfl (by decide +kernel) ⟨Nat.le_of_ble_eq_true rfl, Nat.le_of_ble_eq_true rfl⟩) (G_xpS hZ hA hK hY) rfl rfl hl.1 rfl (lv_room (Nat.le_of_ble_eq_true rfl)) dX11_queue_46 ⟨Nat.le_of_ble_eq_true rfl, Nat.le_of_ble_eq_true rfl⟩) (fun E ce q9 H1 locs1 hE hY hce hcv hcl => ?_) (fun _ _ hf _ => hf.elim)
    subst hE
    exact gx_out htab hlocks hce hcv hcl hY.1 hY.2.1 hY.2.2 rfl (Nat.le_of_ble_eq_true rfl) (Nat.le_of_ble_eq_true rfl)
  ·
    refine G_av hY hA (va_runS (As := [.int xs0]) (rest := []) ⟨hx, hb, hml, hown, hg⟩ (kX11_needState l D y aS H.size L hL ad N σ xs0 _ e_2) (va_cwS 1 hg ggS_RX11_123_X11_needState rfl rfl rfl (by decide +kernel) ⟨Nat.le_of_ble_eq_true rfl, Nat.le_of_ble_eq_true rfl⟩) (G_pS hK hY) rfl rfl hl.1 rfl (lv_room (Nat.le_of_ble_eq_true rfl)) dX11_queue_46 ⟨Nat.le_of_ble_eq_true rfl, Nat.le_of_ble_eq_true rfl⟩) ?_
    clear hY
    rintro H locs hY
    refine lv_aload_n hx hb dX11_queue_49 rfl (lv_at hl 3 rfl) ?_
    refine G_get (ci := 1) (j := 2) (C := RX1) (T := TX1) (N := 14) (v := .int (σ.1 r3 2)) hx hb hg inlX1 hown hK hY (hL _ (gcl_lt hr3 (by decide))) hr3 (by decide) rfl (by decide) tX1_2 (hg _ gw_356) rfl dX11_queue_50 ?_
    refine lv_iconst (v := (-1)) hx hb dX11_queue_53 (by decide) ?_
    refine lv_icmp_eq (tgt := 93) hx hb dX11_queue_54 (by decide) (fun z_3 => ?_) (fun z_3 => ?_)
    ·
      rw [if_pos z_3] at h
      exact wTX11_queue_93 hx hb hr hml hown hg hlocks hK hA hL hfl hZ htab hr3 hY (lv_sub hl [0, 1, 2, 3] rfl) h
    ·
      rw [if_neg z_3] at h
      refine lv_aload_n hx hb dX11_queue_57 rfl (lv_at hl 0 rfl) ?_
      refine G_get (ci := 11) (j := 0) (C := RX11) (T := TX11) (N := 19) (v := .ref (ad 1)) hx hb hg inlX11 hown hK hY (hL 0 (by decide)) gk_0 (by decide) rfl (by decide) tX11_0 (hg _ gw_16) rfl dX11_queue_58 ?_
      refine lv_aload_n hx hb dX11_queue_61 rfl (lv_at hl 3 rfl) ?_
      refine G_get (ci := 1) (j := 2) (C := RX1) (T := TX1) (N := 14) (v := .int (σ.1 r3 2)) hx hb hg inlX1 hown hK hY (hL _ (gcl_lt hr3 (by decide))) hr3 (by decide) rfl (by decide) tX1_2 (hg _ gw_356) rfl dX11_queue_62 ?_
      obtain ⟨r_4, e_5, h⟩ := g_bind h
      refine G_ar hY hA (va_runV (As := [.int (σ.1 r3 2)]) (rest := []) ⟨hx, hb, hml, hown, hg⟩ (kX2_at l D y aS H.size L hL ad N σ (σ.1 r3 2) _ e_5) (cwV 1 hg ggV_RX11_113_X2_at rfl rfl rfl (by decide +kernel) ⟨Nat.le_of_ble_eq_true rfl, Nat.le_of_ble_eq_true rfl⟩) (G_pV (q := (RX2, TX2, 5)) hK hY (hL 1 (by decide)) gk_1 (by decide) rfl) rfl rfl hl.1 rfl (lv_room (Nat.le_of_ble_eq_true rfl)) dX11_queue_65 ⟨Nat.le_of_ble_eq_true rfl, Nat.le_of_ble_eq_true rfl⟩) ?_
      clear hY
      rintro H locs k_6 hY
      refine G_get (ci := 1) (j := 3) (C := RX1) (T := TX1) (N := 14) (v := .int (σ.1 r_4 3)) hx hb hg inlX1 hown hK hY (hL _ (gcl_lt k_6 (by decide))) k_6 (by decide) rfl (by decide) tX1_3 (hg _ gw_379) rfl dX11_queue_68 ?_
      refine lv_istore (lv' := [(4, .int (σ.1 r_4 3)), (0, .ref (ad 0)), (1, .int x1), (2, .int x2), (3, .ref (ad r3))]) hx hb dX11_queue_71 hl (by decide) rfl ?_
      clear hl
      intro ls hl
      refine lv_iload hx hb dX11_queue_73 (lv_at hl 0 rfl) ?_
      refine lv_iconst (v := 1) hx hb dX11_queue_75 (by decide) ?_
      refine lv_icmp_eq (tgt := 85) hx hb dX11_queue_76 (by decide) (fun z_7 => ?_) (fun z_7 => ?_)
      ·
        rw [if_pos z_7] at h
        exact wTX11_queue_85 hx hb hr hml hown hg hlocks hK hA hL hfl hZ htab hr3 hY (lv_sub hl [1, 2, 3, 4] rfl) h
      ·
        rw [if_neg z_7] at h
        refine lv_iload hx hb dX11_queue_79 (lv_at hl 0 rfl) ?_
        refine lv_iconst (v := 2) hx hb dX11_queue_81 (by decide) ?_
        refine lv_icmp_ne (tgt := 89) hx hb dX11_queue_82 (by decide) (fun z_8 => ?_) (fun z_8 => ?_)
        ·
          rw [if_neg z_8] at h
          refine lv_iconst (v := 0) hx hb dX11_queue_89 (by decide) ?_
          exact wTX11_queue_90 hx hb hr hml hown hg hlocks hK hA hL hfl hZ htab hr3 hY (lv_sub hl [1, 2, 3, 4] rfl) h
        ·
          rw [if_pos z_8] at h
          exact wTX11_queue_85 hx hb hr hml hown hg hlocks hK hA hL hfl hZ htab hr3 hY (lv_sub hl [1, 2, 3, 4] rfl) h
def fTX11_queue_45 (N : Nat) (σ : gS) (x1 : Int32) (x2 : Int32) (r3 : Nat) : Option (Sum Int32 String × gS) := fTX11_queue_46 N σ x1 x2 r3 0
set_option maxRecDepth 100000 in
set_option maxHeartbeats 4000000 in
theorem wTX11_queue_45 {σ : gS} {x1 : Int32} {x2 : Int32} {r3 : Nat} (hx : p.tables.exec = Jvm.exec) (hb : c.code = cX11_queue) (hr : meth.sig.returnType = (some .int)) (hml : c.maxLocals = 5) (hown : s.vm.findClass RX11 = some m.cls) (hg : ∀ w ∈ wsL_law, w.before args s = true) (hlocks : meth.locks = false) (hK : gK D y aS s) (hA : ∀ q, s.heap.size ≤ q → A q) (hL : ∀ k, k < 179 → k ∈ L) (hfl : l.stackTraces = false) (hZ : gZ A s s.heap) (htab : ∀ x ∈ c.exceptionTable.toList, False) (hr3 : gcl r3 = 1) {H : Heap} {locs : List Loc} {ls : Array Slot} (hY : gY D y A s L ad σ H locs) (hl : lv_has ls 5 [(0, .ref (ad 0)), (1, .int x1), (2, .int x2), (3, .ref (ad r3))]) (h : fTX11_queue_45 N σ x1 x2 r3 = some res) : W p l e ({ frames := 7, cells := 1, slots := 6, locals := 104 } : Room) s m args below meth c H locs 0 0 (vx_MQ below (va_Qi (fun (r : Int32) (_ : Unit) => res.1 = .inl r) (fun _ => gO D A (GW L y ad res.2)) A) (vx_X (fun E => res.1 = .inr E) (fun E u t => E = u ∧ gO D A (GW L y ad res.2) t) A) args s 1 6 A) (F0 m 45 ls []) := by
  unfold fTX11_queue_45 at h
  refine lv_iconst (v := 0) hx hb dX11_queue_45 (by decide) ?_
  exact wTX11_queue_46 hx hb hr hml hown hg hlocks hK hA hL hfl hZ htab hr3 hY (lv_sub hl [0, 1, 2, 3] rfl) h
end
def fTX11_queue (N : Nat) (σ : gS) (x1 : Int32) (x2 : Int32) : Option (Sum Int32 String × gS) := g_tc (fX11_needPlace N σ x1 (σ.1 1 4)) (some (.inr "java/lang/IndexOutOfBoundsException", σ)) (g_tc (fX11_needRange N σ x2 (0 : Int32) (3 : Int32)) (some (.inr "java/lang/IllegalArgumentException", σ)) ((fX2_at N σ x1).bind fun r_5 => if (σ.1 r_5 3) = 0 then ((fX11_isApproved N σ r_5).bind fun r_9 => if r_9 = 0 then (fTX11_queue_45 N σ x1 x2 r_5) else (fTX11_queue_46 N σ x1 x2 r_5 1)) else (fTX11_queue_45 N σ x1 x2 r_5)))
set_option maxRecDepth 100000 in
set_option maxHeartbeats 4000000 in
theorem kTX11_queue (l : Launch) (hfl : l.stackTraces = false) (D : va_G) (y : Nat → ClassId) (aS : Nat → Nat) (sz : Nat) (L : List Nat) (hL : ∀ k, k < 179 → k ∈ L) (ad : Nat → Nat) (N : Nat) (σ : gS) (x1 : Int32) (x2 : Int32) (res : (Sum Int32 String × gS)) (h : fTX11_queue N σ x1 x2 = some res) : vx_Met l yX11_queue (Cond.code yX11_queue cX11_queue 5 (some .int) :: wsL_law) ({ frames := 7, cells := 1, slots := 6, locals := 104 } : Room) (va_Pc [.ref (ad 0), .int x1, .int x2] (gIX D y aS (GW L y ad σ) sz)) (va_Qi (fun (r : Int32) (_ : Unit) => res.1 = .inl r) (fun _ => gO D (va_A (GW L y ad σ) sz) (GW L y ad res.2)) (va_A (GW L y ad σ) sz)) (vx_X (fun E => res.1 = .inr E) (fun E u t => E = u ∧ gO D (va_A (GW L y ad σ) sz) (GW L y ad res.2) t) (va_A (GW L y ad σ) sz)) 1 6 (va_A (GW L y ad σ) sz) := by
  refine gx_of (by decide) (Nat.le_of_ble_eq_true rfl) ?_
  intro p e s m below meth c ls A hx hb hr hml hown hg hlocks hin hsz hK hP hD hS hA hAe hl htab hZ
  rw [← hAe]
  replace hown : s.vm.findClass RX11 = some m.cls := hown
  have hY : gY D y A s L ad σ s.heap [] := ⟨hP, hD, hS⟩
  clear hP hD hS
  replace hl : lv_has ls 5 [(0, .ref (ad 0)), (1, .int x1), (2, .int x2)] := hl
  unfold fTX11_queue at h
  refine lv_iload_n hx hb dX11_queue_0 rfl (lv_at hl 1 rfl) ?_
  refine lv_aload_n hx hb dX11_queue_1 rfl (lv_at hl 0 rfl) ?_
  refine G_get (ci := 11) (j := 0) (C := RX11) (T := TX11) (N := 19) (v := .ref (ad 1)) hx hb hg inlX11 hown hK hY (hL 0 (by decide)) gk_0 (by decide) rfl (by decide) tX11_0 (hg _ gw_16) rfl dX11_queue_2 ?_
  refine G_get (ci := 2) (j := 4) (C := RX2) (T := TX2) (N := 5) (v := .int (σ.1 1 4)) hx hb hg inlX2 hown hK hY (hL 1 (by decide)) gk_1 (by decide) rfl (by decide) tX2_4 (hg _ gw_173) rfl dX11_queue_5 ?_
  rcases g_tcase h with ⟨e_2, h⟩ | ⟨e_2, h⟩
  ·
    cases h
    refine G_xav hY hA (vx_runS (As := [.int x1, .int (σ.1 1 4)]) (rest := []) ⟨hx, hb, hml, hown, hg⟩ (xX11_needPlace l hfl D y aS s.heap.size L ad N σ x1 (σ.1 1 4) e_2) (va_cwS 2 hg ggS_RX11_106_X11_needPlace rfl rfl rfl (by decide +kernel) ⟨Nat.le_of_ble_eq_true rfl, Nat.le_of_ble_eq_true rfl⟩) (G_xpS hZ hA hK hY) rfl rfl hl.1 rfl (lv_room (Nat.le_of_ble_eq_true rfl)) dX11_queue_8 ⟨Nat.le_of_ble_eq_true rfl, Nat.le_of_ble_eq_true rfl⟩) (fun E ce q9 H1 locs1 hE hY hce hcv hcl => ?_) (fun _ _ hf _ => hf.elim)
    subst hE
    exact gx_out htab hlocks hce hcv hcl hY.1 hY.2.1 hY.2.2 rfl (Nat.le_of_ble_eq_true rfl) (Nat.le_of_ble_eq_true rfl)
  ·
    refine G_av hY hA (va_runS (As := [.int x1, .int (σ.1 1 4)]) (rest := []) ⟨hx, hb, hml, hown, hg⟩ (kX11_needPlace l D y aS s.heap.size L hL ad N σ x1 (σ.1 1 4) _ e_2) (va_cwS 2 hg ggS_RX11_106_X11_needPlace rfl rfl rfl (by decide +kernel) ⟨Nat.le_of_ble_eq_true rfl, Nat.le_of_ble_eq_true rfl⟩) (G_pS hK hY) rfl rfl hl.1 rfl (lv_room (Nat.le_of_ble_eq_true rfl)) dX11_queue_8 ⟨Nat.le_of_ble_eq_true rfl, Nat.le_of_ble_eq_true rfl⟩) ?_
    clear hY
    rintro H locs hY
    refine lv_iload_n hx hb dX11_queue_11 rfl (lv_at hl 2 rfl) ?_
    refine lv_iconst (v := 0) hx hb dX11_queue_12 (by decide) ?_
    refine lv_iconst (v := 3) hx hb dX11_queue_13 (by decide) ?_
    rcases g_tcase h with ⟨e_4, h⟩ | ⟨e_4, h⟩
    ·
      cases h
      refine G_xav hY hA (vx_runS (As := [.int x2, .int 0, .int 3]) (rest := []) ⟨hx, hb, hml, hown, hg⟩ (xX11_needRange l hfl D y aS H.size L ad N σ x2 (0 : Int32) (3 : Int32) e_4) (va_cwS 3 hg ggS_RX11_133_X11_needRange rfl rfl rfl (by decide +kernel) ⟨Nat.le_of_ble_eq_true rfl, Nat.le_of_ble_eq_true rfl⟩) (G_xpS hZ hA hK hY) rfl rfl hl.1 rfl (lv_room (Nat.le_of_ble_eq_true rfl)) dX11_queue_14 ⟨Nat.le_of_ble_eq_true rfl, Nat.le_of_ble_eq_true rfl⟩) (fun E ce q9 H1 locs1 hE hY hce hcv hcl => ?_) (fun _ _ hf _ => hf.elim)
      subst hE
      exact gx_out htab hlocks hce hcv hcl hY.1 hY.2.1 hY.2.2 rfl (Nat.le_of_ble_eq_true rfl) (Nat.le_of_ble_eq_true rfl)
    ·
      refine G_av hY hA (va_runS (As := [.int x2, .int 0, .int 3]) (rest := []) ⟨hx, hb, hml, hown, hg⟩ (kX11_needRange l D y aS H.size L hL ad N σ x2 (0 : Int32) (3 : Int32) _ e_4) (va_cwS 3 hg ggS_RX11_133_X11_needRange rfl rfl rfl (by decide +kernel) ⟨Nat.le_of_ble_eq_true rfl, Nat.le_of_ble_eq_true rfl⟩) (G_pS hK hY) rfl rfl hl.1 rfl (lv_room (Nat.le_of_ble_eq_true rfl)) dX11_queue_14 ⟨Nat.le_of_ble_eq_true rfl, Nat.le_of_ble_eq_true rfl⟩) ?_
      clear hY
      rintro H locs hY
      refine lv_aload_n hx hb dX11_queue_17 rfl (lv_at hl 0 rfl) ?_
      refine G_get (ci := 11) (j := 0) (C := RX11) (T := TX11) (N := 19) (v := .ref (ad 1)) hx hb hg inlX11 hown hK hY (hL 0 (by decide)) gk_0 (by decide) rfl (by decide) tX11_0 (hg _ gw_16) rfl dX11_queue_18 ?_
      refine lv_iload_n hx hb dX11_queue_21 rfl (lv_at hl 1 rfl) ?_
      obtain ⟨r_5, e_6, h⟩ := g_bind h
      refine G_ar hY hA (va_runV (As := [.int x1]) (rest := []) ⟨hx, hb, hml, hown, hg⟩ (kX2_at l D y aS H.size L hL ad N σ x1 _ e_6) (cwV 1 hg ggV_RX11_113_X2_at rfl rfl rfl (by decide +kernel) ⟨Nat.le_of_ble_eq_true rfl, Nat.le_of_ble_eq_true rfl⟩) (G_pV (q := (RX2, TX2, 5)) hK hY (hL 1 (by decide)) gk_1 (by decide) rfl) rfl rfl hl.1 rfl (lv_room (Nat.le_of_ble_eq_true rfl)) dX11_queue_22 ⟨Nat.le_of_ble_eq_true rfl, Nat.le_of_ble_eq_true rfl⟩) ?_
      clear hY
      rintro H locs k_7 hY
      refine lv_astore_n (lv' := [(3, .ref (ad r_5)), (0, .ref (ad 0)), (1, .int x1), (2, .int x2)]) hx hb dX11_queue_25 rfl hl (by decide) rfl ?_
      clear hl
      intro ls hl
      refine lv_aload_n hx hb dX11_queue_26 rfl (lv_at hl 0 rfl) ?_
      refine G_get (ci := 1) (j := 3) (C := RX1) (T := TX1) (N := 14) (v := .int (σ.1 r_5 3)) hx hb hg inlX1 hown hK hY (hL _ (gcl_lt k_7 (by decide))) k_7 (by decide) rfl (by decide) tX1_3 (hg _ gw_379) rfl dX11_queue_27 ?_
      refine lv_if_ne (tgt := 45) hx hb dX11_queue_30 (by decide) (fun z_8 => ?_) (fun z_8 => ?_)
      ·
        rw [if_neg z_8] at h
        exact wTX11_queue_45 hx hb hr hml hown hg hlocks hK hA hL hfl hZ htab k_7 hY (lv_sub hl [1, 2, 3, 0] rfl) h
      ·
        rw [if_pos z_8] at h
        refine lv_aload_n hx hb dX11_queue_33 rfl (lv_at hl 1 rfl) ?_
        refine lv_aload_n hx hb dX11_queue_34 rfl (lv_at hl 0 rfl) ?_
        obtain ⟨r_9, e_10, h⟩ := g_bind h
        refine G_ai hY hA (va_runV (As := [.ref (ad r_5)]) (rest := []) ⟨hx, hb, hml, hown, hg⟩ (kX11_isApproved l D y aS H.size L hL ad N σ r_5 _ k_7 e_10) (cwV 1 hg ggV_RX11_196_X11_isApproved rfl rfl rfl (by decide +kernel) ⟨Nat.le_of_ble_eq_true rfl, Nat.le_of_ble_eq_true rfl⟩) (G_pV (q := (RX11, TX11, 19)) hK hY (hL 0 (by decide)) gk_0 (by decide) rfl) rfl rfl hl.1 rfl (lv_room (Nat.le_of_ble_eq_true rfl)) dX11_queue_35 ⟨Nat.le_of_ble_eq_true rfl, Nat.le_of_ble_eq_true rfl⟩) ?_
        clear hY
        rintro _ H locs rfl hY
        refine lv_if_eq (tgt := 45) hx hb dX11_queue_38 (by decide) (fun z_11 => ?_) (fun z_11 => ?_)
        ·
          rw [if_pos z_11] at h
          exact wTX11_queue_45 hx hb hr hml hown hg hlocks hK hA hL hfl hZ htab k_7 hY (lv_sub hl [1, 2, 3, 0] rfl) h
        ·
          rw [if_neg z_11] at h
          refine lv_iconst (v := 1) hx hb dX11_queue_41 (by decide) ?_
          refine lv_goto (tgt := 46) hx hb dX11_queue_42 (by decide) ?_
          exact wTX11_queue_46 hx hb hr hml hown hg hlocks hK hA hL hfl hZ htab k_7 hY (lv_sub hl [1, 2, 3, 0] rfl) h
section
variable {p : Program} {l : Launch} {e : Env} {s : State} {m : MethodId} {args : Array Value} {below : List Frame} {meth : Method} {c : Code} {D : va_G} {y : Nat → ClassId} {aS : Nat → Nat} {A : Nat → Prop} {L : List Nat} {ad : Nat → Nat} {N : Nat} {res : (Sum Int32 String × gS)}
def fTX11_drop_33 (N : Nat) (σ : gS) (r2 : Nat) (xs0 : Int32) : Option (Sum Int32 String × gS) := g_tc (fX11_needState N σ xs0) (some (.inr "java/lang/IllegalStateException", σ)) ((fX11_takeOutOfQueue N σ r2 (5 : Int32)).bind fun r_3 => some (.inl r_3.1, r_3.2))
set_option maxRecDepth 100000 in
set_option maxHeartbeats 4000000 in
theorem wTX11_drop_33 {σ : gS} {r2 : Nat} {xs0 : Int32} (hx : p.tables.exec = Jvm.exec) (hb : c.code = cX11_drop) (hr : meth.sig.returnType = (some .int)) (hml : c.maxLocals = 3) (hown : s.vm.findClass RX11 = some m.cls) (hg : ∀ w ∈ wsL_law, w.before args s = true) (hlocks : meth.locks = false) (hK : gK D y aS s) (hA : ∀ q, s.heap.size ≤ q → A q) (hL : ∀ k, k < 179 → k ∈ L) (hfl : l.stackTraces = false) (hZ : gZ A s s.heap) (htab : ∀ x ∈ c.exceptionTable.toList, False) (hr2 : gcl r2 = 1) {H : Heap} {locs : List Loc} {ls : Array Slot} (hY : gY D y A s L ad σ H locs) (hl : lv_has ls 3 [(0, .ref (ad 0)), (2, .ref (ad r2))]) (h : fTX11_drop_33 N σ r2 xs0 = some res) : W p l e ({ frames := 7, cells := 1, slots := 6, locals := 103 } : Room) s m args below meth c H locs 0 0 (vx_MQ below (va_Qi (fun (r : Int32) (_ : Unit) => res.1 = .inl r) (fun _ => gO D A (GW L y ad res.2)) A) (vx_X (fun E => res.1 = .inr E) (fun E u t => E = u ∧ gO D A (GW L y ad res.2) t) A) args s 1 6 A) (F0 m 33 ls [.int xs0]) := by
  unfold fTX11_drop_33 at h
  rcases g_tcase h with ⟨e_2, h⟩ | ⟨e_2, h⟩
  ·
    cases h
    refine G_xav hY hA (vx_runS (As := [.int xs0]) (rest := []) ⟨hx, hb, hml, hown, hg⟩ (xX11_needState l hfl D y aS H.size L ad N σ xs0 e_2) (va_cwS 1 hg ggS_RX11_123_X11_needState rfl rfl rfl (by decide +kernel) ⟨Nat.le_of_ble_eq_true rfl, Nat.le_of_ble_eq_true rfl⟩) (G_xpS hZ hA hK hY) rfl rfl hl.1 rfl (lv_room (Nat.le_of_ble_eq_true rfl)) dX11_drop_33 ⟨Nat.le_of_ble_eq_true rfl, Nat.le_of_ble_eq_true rfl⟩) (fun E ce q9 H1 locs1 hE hY hce hcv hcl => ?_) (fun _ _ hf _ => hf.elim)
    subst hE
    exact gx_out htab hlocks hce hcv hcl hY.1 hY.2.1 hY.2.2 rfl (Nat.le_of_ble_eq_true rfl) (Nat.le_of_ble_eq_true rfl)
  ·
    refine G_av hY hA (va_runS (As := [.int xs0]) (rest := []) ⟨hx, hb, hml, hown, hg⟩ (kX11_needState l D y aS H.size L hL ad N σ xs0 _ e_2) (va_cwS 1 hg ggS_RX11_123_X11_needState rfl rfl rfl (by decide +kernel) ⟨Nat.le_of_ble_eq_true rfl, Nat.le_of_ble_eq_true rfl⟩) (G_pS hK hY) rfl rfl hl.1 rfl (lv_room (Nat.le_of_ble_eq_true rfl)) dX11_drop_33 ⟨Nat.le_of_ble_eq_true rfl, Nat.le_of_ble_eq_true rfl⟩) ?_
    clear hY
    rintro H locs hY
    refine lv_aload_n hx hb dX11_drop_36 rfl (lv_at hl 0 rfl) ?_
    refine lv_aload_n hx hb dX11_drop_37 rfl (lv_at hl 1 rfl) ?_
    refine lv_iconst (v := 5) hx hb dX11_drop_38 (by decide) ?_
    obtain ⟨r_3, e_4, h⟩ := g_bind h
    refine G_ai hY hA (va_runV (As := [.ref (ad r2), .int 5]) (rest := []) ⟨hx, hb, hml, hown, hg⟩ (kX11_takeOutOfQueue l D y aS H.size L hL ad N σ r2 (5 : Int32) _ hr2 e_4) (cwV 2 hg ggV_RX11_213_X11_takeOutOfQueue rfl rfl rfl (by decide +kernel) ⟨Nat.le_of_ble_eq_true rfl, Nat.le_of_ble_eq_true rfl⟩) (G_pV (q := (RX11, TX11, 19)) hK hY (hL 0 (by decide)) gk_0 (by decide) rfl) rfl rfl hl.1 rfl (lv_room (Nat.le_of_ble_eq_true rfl)) dX11_drop_39 ⟨Nat.le_of_ble_eq_true rfl, Nat.le_of_ble_eq_true rfl⟩) ?_
    clear hY
    rintro _ H locs rfl hY
    cases h
    exact vx_ret (g_iret hx hb hr hlocks () hY.1 hY.2.1 hY.2.2 rfl rfl (Nat.le_of_ble_eq_true rfl) (Nat.le_of_ble_eq_true rfl) dX11_drop_42)
end
def fTX11_drop (N : Nat) (σ : gS) (x1 : Int32) : Option (Sum Int32 String × gS) := g_tc (fX11_needPlace N σ x1 (σ.1 1 4)) (some (.inr "java/lang/IndexOutOfBoundsException", σ)) ((fX2_at N σ x1).bind fun r_3 => if (σ.1 r_3 3) = 1 then (fTX11_drop_33 N σ r_3 1) else (fTX11_drop_33 N σ r_3 0))
set_option maxRecDepth 100000 in
set_option maxHeartbeats 4000000 in
theorem kTX11_drop (l : Launch) (hfl : l.stackTraces = false) (D : va_G) (y : Nat → ClassId) (aS : Nat → Nat) (sz : Nat) (L : List Nat) (hL : ∀ k, k < 179 → k ∈ L) (ad : Nat → Nat) (N : Nat) (σ : gS) (x1 : Int32) (res : (Sum Int32 String × gS)) (h : fTX11_drop N σ x1 = some res) : vx_Met l yX11_drop (Cond.code yX11_drop cX11_drop 3 (some .int) :: wsL_law) ({ frames := 7, cells := 1, slots := 6, locals := 103 } : Room) (va_Pc [.ref (ad 0), .int x1] (gIX D y aS (GW L y ad σ) sz)) (va_Qi (fun (r : Int32) (_ : Unit) => res.1 = .inl r) (fun _ => gO D (va_A (GW L y ad σ) sz) (GW L y ad res.2)) (va_A (GW L y ad σ) sz)) (vx_X (fun E => res.1 = .inr E) (fun E u t => E = u ∧ gO D (va_A (GW L y ad σ) sz) (GW L y ad res.2) t) (va_A (GW L y ad σ) sz)) 1 6 (va_A (GW L y ad σ) sz) := by
  refine gx_of (by decide) (Nat.le_of_ble_eq_true rfl) ?_
  intro p e s m below meth c ls A hx hb hr hml hown hg hlocks hin hsz hK hP hD hS hA hAe hl htab hZ
  rw [← hAe]
  replace hown : s.vm.findClass RX11 = some m.cls := hown
  have hY : gY D y A s L ad σ s.heap [] := ⟨hP, hD, hS⟩
  clear hP hD hS
  replace hl : lv_has ls 3 [(0, .ref (ad 0)), (1, .int x1)] := hl
  unfold fTX11_drop at h
  refine lv_iload_n hx hb dX11_drop_0 rfl (lv_at hl 1 rfl) ?_
  refine lv_aload_n hx hb dX11_drop_1 rfl (lv_at hl 0 rfl) ?_
  refine G_get (ci := 11) (j := 0) (C := RX11) (T := TX11) (N := 19) (v := .ref (ad 1)) hx hb hg inlX11 hown hK hY (hL 0 (by decide)) gk_0 (by decide) rfl (by decide) tX11_0 (hg _ gw_16) rfl dX11_drop_2 ?_
  refine G_get (ci := 2) (j := 4) (C := RX2) (T := TX2) (N := 5) (v := .int (σ.1 1 4)) hx hb hg inlX2 hown hK hY (hL 1 (by decide)) gk_1 (by decide) rfl (by decide) tX2_4 (hg _ gw_173) rfl dX11_drop_5 ?_
  rcases g_tcase h with ⟨e_2, h⟩ | ⟨e_2, h⟩
  ·
    cases h
    refine G_xav hY hA (vx_runS (As := [.int x1, .int (σ.1 1 4)]) (rest := []) ⟨hx, hb, hml, hown, hg⟩ (xX11_needPlace l hfl D y aS s.heap.size L ad N σ x1 (σ.1 1 4) e_2) (va_cwS 2 hg ggS_RX11_106_X11_needPlace rfl rfl rfl (by decide +kernel) ⟨Nat.le_of_ble_eq_true rfl, Nat.le_of_ble_eq_true rfl⟩) (G_xpS hZ hA hK hY) rfl rfl hl.1 rfl (lv_room (Nat.le_of_ble_eq_true rfl)) dX11_drop_8 ⟨Nat.le_of_ble_eq_true rfl, Nat.le_of_ble_eq_true rfl⟩) (fun E ce q9 H1 locs1 hE hY hce hcv hcl => ?_) (fun _ _ hf _ => hf.elim)
    subst hE
    exact gx_out htab hlocks hce hcv hcl hY.1 hY.2.1 hY.2.2 rfl (Nat.le_of_ble_eq_true rfl) (Nat.le_of_ble_eq_true rfl)
  ·
    refine G_av hY hA (va_runS (As := [.int x1, .int (σ.1 1 4)]) (rest := []) ⟨hx, hb, hml, hown, hg⟩ (kX11_needPlace l D y aS s.heap.size L hL ad N σ x1 (σ.1 1 4) _ e_2) (va_cwS 2 hg ggS_RX11_106_X11_needPlace rfl rfl rfl (by decide +kernel) ⟨Nat.le_of_ble_eq_true rfl, Nat.le_of_ble_eq_true rfl⟩) (G_pS hK hY) rfl rfl hl.1 rfl (lv_room (Nat.le_of_ble_eq_true rfl)) dX11_drop_8 ⟨Nat.le_of_ble_eq_true rfl, Nat.le_of_ble_eq_true rfl⟩) ?_
    clear hY
    rintro H locs hY
    refine lv_aload_n hx hb dX11_drop_11 rfl (lv_at hl 0 rfl) ?_
    refine G_get (ci := 11) (j := 0) (C := RX11) (T := TX11) (N := 19) (v := .ref (ad 1)) hx hb hg inlX11 hown hK hY (hL 0 (by decide)) gk_0 (by decide) rfl (by decide) tX11_0 (hg _ gw_16) rfl dX11_drop_12 ?_
    refine lv_iload_n hx hb dX11_drop_15 rfl (lv_at hl 1 rfl) ?_
    obtain ⟨r_3, e_4, h⟩ := g_bind h
    refine G_ar hY hA (va_runV (As := [.int x1]) (rest := []) ⟨hx, hb, hml, hown, hg⟩ (kX2_at l D y aS H.size L hL ad N σ x1 _ e_4) (cwV 1 hg ggV_RX11_113_X2_at rfl rfl rfl (by decide +kernel) ⟨Nat.le_of_ble_eq_true rfl, Nat.le_of_ble_eq_true rfl⟩) (G_pV (q := (RX2, TX2, 5)) hK hY (hL 1 (by decide)) gk_1 (by decide) rfl) rfl rfl hl.1 rfl (lv_room (Nat.le_of_ble_eq_true rfl)) dX11_drop_16 ⟨Nat.le_of_ble_eq_true rfl, Nat.le_of_ble_eq_true rfl⟩) ?_
    clear hY
    rintro H locs k_5 hY
    refine lv_astore_n (lv' := [(2, .ref (ad r_3)), (0, .ref (ad 0)), (1, .int x1)]) hx hb dX11_drop_19 rfl hl (by decide) rfl ?_
    clear hl
    intro ls hl
    refine lv_aload_n hx hb dX11_drop_20 rfl (lv_at hl 0 rfl) ?_
    refine G_get (ci := 1) (j := 3) (C := RX1) (T := TX1) (N := 14) (v := .int (σ.1 r_3 3)) hx hb hg inlX1 hown hK hY (hL _ (gcl_lt k_5 (by decide))) k_5 (by decide) rfl (by decide) tX1_3 (hg _ gw_379) rfl dX11_drop_21 ?_
    refine lv_iconst (v := 1) hx hb dX11_drop_24 (by decide) ?_
    refine lv_icmp_ne (tgt := 32) hx hb dX11_drop_25 (by decide) (fun z_6 => ?_) (fun z_6 => ?_)
    ·
      rw [if_neg z_6] at h
      refine lv_iconst (v := 0) hx hb dX11_drop_32 (by decide) ?_
      exact wTX11_drop_33 hx hb hr hml hown hg hlocks hK hA hL hfl hZ htab k_5 hY (lv_sub hl [1, 0] rfl) h
    ·
      rw [if_pos z_6] at h
      refine lv_iconst (v := 1) hx hb dX11_drop_28 (by decide) ?_
      refine lv_goto (tgt := 33) hx hb dX11_drop_29 (by decide) ?_
      exact wTX11_drop_33 hx hb hr hml hown hg hlocks hK hA hL hfl hZ htab k_5 hY (lv_sub hl [1, 0] rfl) h
section
variable {p : Program} {l : Launch} {e : Env} {s : State} {m : MethodId} {args : Array Value} {below : List Frame} {meth : Method} {c : Code} {D : va_G} {y : Nat → ClassId} {aS : Nat → Nat} {A : Nat → Prop} {L : List Nat} {ad : Nat → Nat} {N : Nat} {res : (Sum Int32 String × gS)}
def fTX11_revert_133 (N : Nat) (rec77 : (gS × Int32 × Int32) → Option (Sum Int32 String × gS)) (σ : gS) (x2 : Int32) (x3 : Int64) (x5 : Int64) (x7 : Int64) (x9 : Int32) (x10 : Int32) : Option (Sum Int32 String × gS) := rec77 (σ, x9, (x10 + 1))
set_option maxRecDepth 100000 in
set_option maxHeartbeats 4000000 in
theorem wTX11_revert_133 {rec77 : (gS × Int32 × Int32) → Option (Sum Int32 String × gS)} {σ : gS} {x2 : Int32} {x3 : Int64} {x5 : Int64} {x7 : Int64} {x9 : Int32} {x10 : Int32} (hx : p.tables.exec = Jvm.exec) (hb : c.code = cX11_revert) (hr : meth.sig.returnType = (some .int)) (hml : c.maxLocals = 11) (hown : s.vm.findClass RX11 = some m.cls) (hg : ∀ w ∈ wsL_law, w.before args s = true) (hlocks : meth.locks = false) (hK : gK D y aS s) (hA : ∀ q, s.heap.size ≤ q → A q) (hL : ∀ k, k < 179 → k ∈ L) (hfl : l.stackTraces = false) (hZ : gZ A s s.heap) (htab : ∀ x ∈ c.exceptionTable.toList, False) (hrec77 : ∀ {σ9 : gS} {x9n9 : Int32} {x10n9 : Int32} (H : Heap) (locs : List Loc) (ls : Array Slot), gY D y A s L ad σ9 H locs → lv_has ls 11 [(0, .ref (ad 0)), (2, .int x2), (3, .long x3), (5, .long x5), (7, .long x7), (9, .int x9n9), (10, .int x10n9)] → rec77 (σ9, x9n9, x10n9) = some res → W p l e ({ frames := 7, cells := 1, slots := 6, locals := 104 } : Room) s m args below meth c H locs 0 0 (vx_MQ below (va_Qi (fun (r : Int32) (_ : Unit) => res.1 = .inl r) (fun _ => gO D A (GW L y ad res.2)) A) (vx_X (fun E => res.1 = .inr E) (fun E u t => E = u ∧ gO D A (GW L y ad res.2) t) A) args s 1 6 A) (F0 m 77 ls [])) {H : Heap} {locs : List Loc} {ls : Array Slot} (hY : gY D y A s L ad σ H locs) (hl : lv_has ls 11 [(0, .ref (ad 0)), (2, .int x2), (3, .long x3), (5, .long x5), (7, .long x7), (9, .int x9), (10, .int x10)]) (h : fTX11_revert_133 N rec77 σ x2 x3 x5 x7 x9 x10 = some res) : W p l e ({ frames := 7, cells := 1, slots := 6, locals := 104 } : Room) s m args below meth c H locs 0 0 (vx_MQ below (va_Qi (fun (r : Int32) (_ : Unit) => res.1 = .inl r) (fun _ => gO D A (GW L y ad res.2)) A) (vx_X (fun E => res.1 = .inr E) (fun E u t => E = u ∧ gO D A (GW L y ad res.2) t) A) args s 1 6 A) (F0 m 133 ls []) := by
  unfold fTX11_revert_133 at h
  refine lv_iinc (v := (x10 + 1)) (lv' := [(10, .int (x10 + 1)), (0, .ref (ad 0)), (2, .int x2), (3, .long x3), (5, .long x5), (7, .long x7), (9, .int x9)]) hx hb dX11_revert_133 hl (k := 6) rfl rfl (by decide) rfl ?_
  clear hl
  intro ls hl
  refine lv_goto (tgt := 77) hx hb dX11_revert_136 (by decide) ?_
  exact hrec77 _ _ _ hY (lv_sub hl [1, 2, 3, 4, 5, 6, 0] rfl) h
def fTX11_revert_121 (N : Nat) (rec77 : (gS × Int32 × Int32) → Option (Sum Int32 String × gS)) (σ : gS) (x2 : Int32) (x3 : Int64) (x5 : Int64) (x7 : Int64) (x9 : Int32) (x10 : Int32) (xs0 : Int32) : Option (Sum Int32 String × gS) := g_tc (fX11_needState N σ xs0) (some (.inr "java/lang/IllegalStateException", σ)) (fTX11_revert_133 N rec77 σ x2 x3 x5 x7 (x9 ||| ((1 : Int32) <<< (x10 &&& 31))) x10)
set_option maxRecDepth 100000 in
set_option maxHeartbeats 4000000 in
theorem wTX11_revert_121 {rec77 : (gS × Int32 × Int32) → Option (Sum Int32 String × gS)} {σ : gS} {x2 : Int32} {x3 : Int64} {x5 : Int64} {x7 : Int64} {x9 : Int32} {x10 : Int32} {xs0 : Int32} (hx : p.tables.exec = Jvm.exec) (hb : c.code = cX11_revert) (hr : meth.sig.returnType = (some .int)) (hml : c.maxLocals = 11) (hown : s.vm.findClass RX11 = some m.cls) (hg : ∀ w ∈ wsL_law, w.before args s = true) (hlocks : meth.locks = false) (hK : gK D y aS s) (hA : ∀ q, s.heap.size ≤ q → A q) (hL : ∀ k, k < 179 → k ∈ L) (hfl : l.stackTraces = false) (hZ : gZ A s s.heap) (htab : ∀ x ∈ c.exceptionTable.toList, False) (hrec77 : ∀ {σ9 : gS} {x9n9 : Int32} {x10n9 : Int32} (H : Heap) (locs : List Loc) (ls : Array Slot), gY D y A s L ad σ9 H locs → lv_has ls 11 [(0, .ref (ad 0)), (2, .int x2), (3, .long x3), (5, .long x5), (7, .long x7), (9, .int x9n9), (10, .int x10n9)] → rec77 (σ9, x9n9, x10n9) = some res → W p l e ({ frames := 7, cells := 1, slots := 6, locals := 104 } : Room) s m args below meth c H locs 0 0 (vx_MQ below (va_Qi (fun (r : Int32) (_ : Unit) => res.1 = .inl r) (fun _ => gO D A (GW L y ad res.2)) A) (vx_X (fun E => res.1 = .inr E) (fun E u t => E = u ∧ gO D A (GW L y ad res.2) t) A) args s 1 6 A) (F0 m 77 ls [])) {H : Heap} {locs : List Loc} {ls : Array Slot} (hY : gY D y A s L ad σ H locs) (hl : lv_has ls 11 [(0, .ref (ad 0)), (2, .int x2), (3, .long x3), (5, .long x5), (7, .long x7), (9, .int x9), (10, .int x10)]) (h : fTX11_revert_121 N rec77 σ x2 x3 x5 x7 x9 x10 xs0 = some res) : W p l e ({ frames := 7, cells := 1, slots := 6, locals := 104 } : Room) s m args below meth c H locs 0 0 (vx_MQ below (va_Qi (fun (r : Int32) (_ : Unit) => res.1 = .inl r) (fun _ => gO D A (GW L y ad res.2)) A) (vx_X (fun E => res.1 = .inr E) (fun E u t => E = u ∧ gO D A (GW L y ad res.2) t) A) args s 1 6 A) (F0 m 121 ls [.int xs0]) := by
  unfold fTX11_revert_121 at h
  rcases g_tcase h with ⟨e_2, h⟩ | ⟨e_2, h⟩
  ·
    cases h
    refine G_xav hY hA (vx_runS (As := [.int xs0]) (rest := []) ⟨hx, hb, hml, hown, hg⟩ (xX11_needState l hfl D y aS H.size L ad N σ xs0 e_2) (va_cwS 1 hg ggS_RX11_123_X11_needState rfl rfl rfl (by decide +kernel) ⟨Nat.le_of_ble_eq_true rfl, Nat.le_of_ble_eq_true rfl⟩) (G_xpS hZ hA hK hY) rfl rfl hl.1 rfl (lv_room (Nat.le_of_ble_eq_true rfl)) dX11_revert_121 ⟨Nat.le_of_ble_eq_true rfl, Nat.le_of_ble_eq_true rfl⟩) (fun E ce q9 H1 locs1 hE hY hce hcv hcl => ?_) (fun _ _ hf _ => hf.elim)
    subst hE
    exact gx_out htab hlocks hce hcv hcl hY.1 hY.2.1 hY.2.2 rfl (Nat.le_of_ble_eq_true rfl) (Nat.le_of_ble_eq_true rfl)
  ·
    refine G_av hY hA (va_runS (As := [.int xs0]) (rest := []) ⟨hx, hb, hml, hown, hg⟩ (kX11_needState l D y aS H.size L hL ad N σ xs0 _ e_2) (va_cwS 1 hg ggS_RX11_123_X11_needState rfl rfl rfl (by decide +kernel) ⟨Nat.le_of_ble_eq_true rfl, Nat.le_of_ble_eq_true rfl⟩) (G_pS hK hY) rfl rfl hl.1 rfl (lv_room (Nat.le_of_ble_eq_true rfl)) dX11_revert_121 ⟨Nat.le_of_ble_eq_true rfl, Nat.le_of_ble_eq_true rfl⟩) ?_
    clear hY
    rintro H locs hY
    refine lv_iload hx hb dX11_revert_124 (lv_at hl 5 rfl) ?_
    refine lv_iconst (v := 1) hx hb dX11_revert_126 (by decide) ?_
    refine lv_iload hx hb dX11_revert_127 (lv_at hl 6 rfl) ?_
    refine lv_ishl hx hb dX11_revert_129 ?_
    refine lv_ior hx hb dX11_revert_130 ?_
    refine lv_istore (lv' := [(9, .int (x9 ||| ((1 : Int32) <<< (x10 &&& 31)))), (0, .ref (ad 0)), (2, .int x2), (3, .long x3), (5, .long x5), (7, .long x7), (10, .int x10)]) hx hb dX11_revert_131 hl (by decide) rfl ?_
    clear hl
    intro ls hl
    exact wTX11_revert_133 hx hb hr hml hown hg hlocks hK hA hL hfl hZ htab hrec77 hY (lv_sub hl [1, 2, 3, 4, 5, 0, 6] rfl) h
def fTX11_revert_77 (N : Nat) (x2 : Int32) (x3 : Int64) (x5 : Int64) (x7 : Int64) (rec77 : (gS × Int32 × Int32) → Option (Sum Int32 String × gS)) (xx : gS × Int32 × Int32) : Option (Sum Int32 String × gS) := match xx with
  | (σ, x9, x10) => if 12 ≤ x10 then ((fX2_addRevert N σ x2 x7 x9 x5).bind fun r_2 => (fX11_putInQueue N r_2.2 r_2.1 (0 : Int32)).bind fun r_5 => some (.inl (r_5.1 r_2.1 0), r_5)) else ((fX11_contentIn N σ x3 x10).bind fun r_7 => (fX11_contentIn N σ x5 x10).bind fun r_9 => if r_7 = r_9 then (fTX11_revert_133 N rec77 σ x2 x3 x5 x7 x9 x10) else ((fX11_contentIn N σ x7 x10).bind fun r_12 => (fX11_contentIn N σ x3 x10).bind fun r_14 => if r_12 = r_14 then (fTX11_revert_121 N rec77 σ x2 x3 x5 x7 x9 x10 1) else (fTX11_revert_121 N rec77 σ x2 x3 x5 x7 x9 x10 0)))
set_option maxRecDepth 100000 in
set_option maxHeartbeats 4000000 in
theorem wTX11_revert_77 {x2 : Int32} {x3 : Int64} {x5 : Int64} {x7 : Int64} (hx : p.tables.exec = Jvm.exec) (hb : c.code = cX11_revert) (hr : meth.sig.returnType = (some .int)) (hml : c.maxLocals = 11) (hown : s.vm.findClass RX11 = some m.cls) (hg : ∀ w ∈ wsL_law, w.before args s = true) (hlocks : meth.locks = false) (hK : gK D y aS s) (hA : ∀ q, s.heap.size ≤ q → A q) (hL : ∀ k, k < 179 → k ∈ L) (hfl : l.stackTraces = false) (hZ : gZ A s s.heap) (htab : ∀ x ∈ c.exceptionTable.toList, False) : ∀ (n : Nat) {σ : gS} {x9 : Int32} {x10 : Int32} (H : Heap) (locs : List Loc) (ls : Array Slot), gY D y A s L ad σ H locs → lv_has ls 11 [(0, .ref (ad 0)), (2, .int x2), (3, .long x3), (5, .long x5), (7, .long x7), (9, .int x9), (10, .int x10)] → lp (fTX11_revert_77 N x2 x3 x5 x7) n (σ, x9, x10) = some res → W p l e ({ frames := 7, cells := 1, slots := 6, locals := 104 } : Room) s m args below meth c H locs 0 0 (vx_MQ below (va_Qi (fun (r : Int32) (_ : Unit) => res.1 = .inl r) (fun _ => gO D A (GW L y ad res.2)) A) (vx_X (fun E => res.1 = .inr E) (fun E u t => E = u ∧ gO D A (GW L y ad res.2) t) A) args s 1 6 A) (F0 m 77 ls []) := by
  intro n
  induction n with
  | zero => intro σ x9 x10 H locs ls hY hl h; exact nomatch (show none = some res from h)
  | succ n hrec77 =>
    intro σ x9 x10 H locs ls hY hl h
    replace h : fTX11_revert_77 N x2 x3 x5 x7 (lp (fTX11_revert_77 N x2 x3 x5 x7) n) (σ, x9, x10) = some res := h
    generalize lp (fTX11_revert_77 N x2 x3 x5 x7) n = rec77 at h hrec77
    unfold fTX11_revert_77 at h
    try dsimp only at h
    refine lv_iload hx hb dX11_revert_77 (lv_at hl 6 rfl) ?_
    refine lv_bipush (v := 12) hx hb dX11_revert_79 (by decide +kernel) ?_
    refine lv_icmp_ge (tgt := 139) hx hb dX11_revert_81 (by decide) (fun z_1 => ?_) (fun z_1 => ?_)
    ·
      rw [if_pos z_1] at h
      refine lv_aload_n hx hb dX11_revert_139 rfl (lv_at hl 0 rfl) ?_
      refine G_get (ci := 11) (j := 0) (C := RX11) (T := TX11) (N := 19) (v := .ref (ad 1)) hx hb hg inlX11 hown hK hY (hL 0 (by decide)) gk_0 (by decide) rfl (by decide) tX11_0 (hg _ gw_16) rfl dX11_revert_140 ?_
      refine lv_iload_n hx hb dX11_revert_143 rfl (lv_at hl 1 rfl) ?_
      refine lv_lload hx hb dX11_revert_144 (lv_at hl 4 rfl) ?_
      refine lv_iload hx hb dX11_revert_146 (lv_at hl 5 rfl) ?_
      refine lv_lload hx hb dX11_revert_148 (lv_at hl 3 rfl) ?_
      obtain ⟨r_2, e_3, h⟩ := g_bind h
      refine G_ar hY hA (va_runV (As := [.int x2, .long x7, .int x9, .long x5]) (rest := []) ⟨hx, hb, hml, hown, hg⟩ (kX2_addRevert l D y aS H.size L hL ad N σ x2 x7 x9 x5 _ e_3) (cwV 4 hg ggV_RX11_222_X2_addRevert rfl rfl rfl (by decide +kernel) ⟨Nat.le_of_ble_eq_true rfl, Nat.le_of_ble_eq_true rfl⟩) (G_pV (q := (RX2, TX2, 5)) hK hY (hL 1 (by decide)) gk_1 (by decide) rfl) rfl rfl hl.1 rfl (lv_room (Nat.le_of_ble_eq_true rfl)) dX11_revert_150 ⟨Nat.le_of_ble_eq_true rfl, Nat.le_of_ble_eq_true rfl⟩) ?_
      clear hY
      rintro H locs k_4 hY
      refine lv_astore (lv' := [(10, .ref (ad r_2.1)), (0, .ref (ad 0)), (2, .int x2), (3, .long x3), (5, .long x5), (7, .long x7), (9, .int x9)]) hx hb dX11_revert_153 hl (by decide) rfl ?_
      clear hl
      intro ls hl
      refine lv_aload_n hx hb dX11_revert_155 rfl (lv_at hl 1 rfl) ?_
      refine lv_aload hx hb dX11_revert_156 (lv_at hl 0 rfl) ?_
      refine lv_iconst (v := 0) hx hb dX11_revert_158 (by decide) ?_
      obtain ⟨r_5, e_6, h⟩ := g_bind h
      refine G_av hY hA (va_runV (As := [.ref (ad r_2.1), .int 0]) (rest := []) ⟨hx, hb, hml, hown, hg⟩ (kX11_putInQueue l D y aS H.size L hL ad N r_2.2 r_2.1 (0 : Int32) _ k_4 e_6) (cwV 2 hg ggV_RX11_200_X11_putInQueue rfl rfl rfl (by decide +kernel) ⟨Nat.le_of_ble_eq_true rfl, Nat.le_of_ble_eq_true rfl⟩) (G_pV (q := (RX11, TX11, 19)) hK hY (hL 0 (by decide)) gk_0 (by decide) rfl) rfl rfl hl.1 rfl (lv_room (Nat.le_of_ble_eq_true rfl)) dX11_revert_159 ⟨Nat.le_of_ble_eq_true rfl, Nat.le_of_ble_eq_true rfl⟩) ?_
      clear hY
      rintro H locs hY
      refine lv_aload hx hb dX11_revert_162 (lv_at hl 0 rfl) ?_
      refine G_get (ci := 1) (j := 0) (C := RX1) (T := TX1) (N := 14) (v := .int (r_5.1 r_2.1 0)) hx hb hg inlX1 hown hK hY (hL _ (gcl_lt k_4 (by decide))) k_4 (by decide) rfl (by decide) tX1_0 (hg _ gw_421) rfl dX11_revert_164 ?_
      cases h
      exact vx_ret (g_iret hx hb hr hlocks () hY.1 hY.2.1 hY.2.2 rfl rfl (Nat.le_of_ble_eq_true rfl) (Nat.le_of_ble_eq_true rfl) dX11_revert_167)
    ·
      rw [if_neg z_1] at h
      refine lv_lload_n hx hb dX11_revert_84 rfl (lv_at hl 2 rfl) ?_
      refine lv_iload hx hb dX11_revert_85 (lv_at hl 6 rfl) ?_
      obtain ⟨r_7, e_8, h⟩ := g_bind h
      refine G_ai hY hA (va_runS (As := [.long x3, .int x10]) (rest := []) ⟨hx, hb, hml, hown, hg⟩ (kX11_contentIn l D y aS H.size L hL ad N σ x3 x10 _ e_8) (va_cwS 2 hg ggS_RX11_179_X11_contentIn rfl rfl rfl (by decide +kernel) ⟨Nat.le_of_ble_eq_true rfl, Nat.le_of_ble_eq_true rfl⟩) (G_pS hK hY) rfl rfl hl.1 rfl (lv_room (Nat.le_of_ble_eq_true rfl)) dX11_revert_87 ⟨Nat.le_of_ble_eq_true rfl, Nat.le_of_ble_eq_true rfl⟩) ?_
      clear hY
      rintro _ H locs rfl hY
      refine lv_lload hx hb dX11_revert_90 (lv_at hl 3 rfl) ?_
      refine lv_iload hx hb dX11_revert_92 (lv_at hl 6 rfl) ?_
      obtain ⟨r_9, e_10, h⟩ := g_bind h
      refine G_ai hY hA (va_runS (As := [.long x5, .int x10]) (rest := [.int r_7]) ⟨hx, hb, hml, hown, hg⟩ (kX11_contentIn l D y aS H.size L hL ad N σ x5 x10 _ e_10) (va_cwS 2 hg ggS_RX11_179_X11_contentIn rfl rfl rfl (by decide +kernel) ⟨Nat.le_of_ble_eq_true rfl, Nat.le_of_ble_eq_true rfl⟩) (G_pS hK hY) rfl rfl hl.1 rfl (lv_room (Nat.le_of_ble_eq_true rfl)) dX11_revert_94 ⟨Nat.le_of_ble_eq_true rfl, Nat.le_of_ble_eq_true rfl⟩) ?_
      clear hY
      rintro _ H locs rfl hY
      refine lv_icmp_eq (tgt := 133) hx hb dX11_revert_97 (by decide) (fun z_11 => ?_) (fun z_11 => ?_)
      ·
        rw [if_pos z_11] at h
        exact wTX11_revert_133 hx hb hr hml hown hg hlocks hK hA hL hfl hZ htab hrec77 hY (lv_sub hl [0, 1, 2, 3, 4, 5, 6] rfl) h
      ·
        rw [if_neg z_11] at h
        refine lv_lload hx hb dX11_revert_100 (lv_at hl 4 rfl) ?_
        refine lv_iload hx hb dX11_revert_102 (lv_at hl 6 rfl) ?_
        obtain ⟨r_12, e_13, h⟩ := g_bind h
        refine G_ai hY hA (va_runS (As := [.long x7, .int x10]) (rest := []) ⟨hx, hb, hml, hown, hg⟩ (kX11_contentIn l D y aS H.size L hL ad N σ x7 x10 _ e_13) (va_cwS 2 hg ggS_RX11_179_X11_contentIn rfl rfl rfl (by decide +kernel) ⟨Nat.le_of_ble_eq_true rfl, Nat.le_of_ble_eq_true rfl⟩) (G_pS hK hY) rfl rfl hl.1 rfl (lv_room (Nat.le_of_ble_eq_true rfl)) dX11_revert_104 ⟨Nat.le_of_ble_eq_true rfl, Nat.le_of_ble_eq_true rfl⟩) ?_
        clear hY
        rintro _ H locs rfl hY
        refine lv_lload_n hx hb dX11_revert_107 rfl (lv_at hl 2 rfl) ?_
        refine lv_iload hx hb dX11_revert_108 (lv_at hl 6 rfl) ?_
        obtain ⟨r_14, e_15, h⟩ := g_bind h
        refine G_ai hY hA (va_runS (As := [.long x3, .int x10]) (rest := [.int r_12]) ⟨hx, hb, hml, hown, hg⟩ (kX11_contentIn l D y aS H.size L hL ad N σ x3 x10 _ e_15) (va_cwS 2 hg ggS_RX11_179_X11_contentIn rfl rfl rfl (by decide +kernel) ⟨Nat.le_of_ble_eq_true rfl, Nat.le_of_ble_eq_true rfl⟩) (G_pS hK hY) rfl rfl hl.1 rfl (lv_room (Nat.le_of_ble_eq_true rfl)) dX11_revert_110 ⟨Nat.le_of_ble_eq_true rfl, Nat.le_of_ble_eq_true rfl⟩) ?_
        clear hY
        rintro _ H locs rfl hY
        refine lv_icmp_ne (tgt := 120) hx hb dX11_revert_113 (by decide) (fun z_16 => ?_) (fun z_16 => ?_)
        ·
          rw [if_neg z_16] at h
          refine lv_iconst (v := 0) hx hb dX11_revert_120 (by decide) ?_
          exact wTX11_revert_121 hx hb hr hml hown hg hlocks hK hA hL hfl hZ htab hrec77 hY (lv_sub hl [0, 1, 2, 3, 4, 5, 6] rfl) h
        ·
          rw [if_pos z_16] at h
          refine lv_iconst (v := 1) hx hb dX11_revert_116 (by decide) ?_
          refine lv_goto (tgt := 121) hx hb dX11_revert_117 (by decide) ?_
          exact wTX11_revert_121 hx hb hr hml hown hg hlocks hK hA hL hfl hZ htab hrec77 hY (lv_sub hl [0, 1, 2, 3, 4, 5, 6] rfl) h
def fTX11_revert_41 (N : Nat) (σ : gS) (x1 : Int32) (x2 : Int32) (xs0 : Int32) : Option (Sum Int32 String × gS) := g_tc (fX11_needState N σ xs0) (some (.inr "java/lang/IllegalStateException", σ)) ((fX8_get N σ 151 x1).bind fun r_3 => (fX8_get N σ 151 (x1 - 1)).bind fun r_5 => (fX11_trunkTree N σ).bind fun r_7 => lp (fTX11_revert_77 N x2 r_3 r_5 r_7) N (σ, 0, 0))
set_option maxRecDepth 100000 in
set_option maxHeartbeats 4000000 in
theorem wTX11_revert_41 {σ : gS} {x1 : Int32} {x2 : Int32} {xs0 : Int32} (hx : p.tables.exec = Jvm.exec) (hb : c.code = cX11_revert) (hr : meth.sig.returnType = (some .int)) (hml : c.maxLocals = 11) (hown : s.vm.findClass RX11 = some m.cls) (hg : ∀ w ∈ wsL_law, w.before args s = true) (hlocks : meth.locks = false) (hK : gK D y aS s) (hA : ∀ q, s.heap.size ≤ q → A q) (hL : ∀ k, k < 179 → k ∈ L) (hfl : l.stackTraces = false) (hZ : gZ A s s.heap) (htab : ∀ x ∈ c.exceptionTable.toList, False) {H : Heap} {locs : List Loc} {ls : Array Slot} (hY : gY D y A s L ad σ H locs) (hl : lv_has ls 11 [(0, .ref (ad 0)), (1, .int x1), (2, .int x2)]) (h : fTX11_revert_41 N σ x1 x2 xs0 = some res) : W p l e ({ frames := 7, cells := 1, slots := 6, locals := 104 } : Room) s m args below meth c H locs 0 0 (vx_MQ below (va_Qi (fun (r : Int32) (_ : Unit) => res.1 = .inl r) (fun _ => gO D A (GW L y ad res.2)) A) (vx_X (fun E => res.1 = .inr E) (fun E u t => E = u ∧ gO D A (GW L y ad res.2) t) A) args s 1 6 A) (F0 m 41 ls [.int xs0]) := by
  unfold fTX11_revert_41 at h
  rcases g_tcase h with ⟨e_2, h⟩ | ⟨e_2, h⟩
  ·
    cases h
    refine G_xav hY hA (vx_runS (As := [.int xs0]) (rest := []) ⟨hx, hb, hml, hown, hg⟩ (xX11_needState l hfl D y aS H.size L ad N σ xs0 e_2) (va_cwS 1 hg ggS_RX11_123_X11_needState rfl rfl rfl (by decide +kernel) ⟨Nat.le_of_ble_eq_true rfl, Nat.le_of_ble_eq_true rfl⟩) (G_xpS hZ hA hK hY) rfl rfl hl.1 rfl (lv_room (Nat.le_of_ble_eq_true rfl)) dX11_revert_41 ⟨Nat.le_of_ble_eq_true rfl, Nat.le_of_ble_eq_true rfl⟩) (fun E ce q9 H1 locs1 hE hY hce hcv hcl => ?_) (fun _ _ hf _ => hf.elim)
    subst hE
    exact gx_out htab hlocks hce hcv hcl hY.1 hY.2.1 hY.2.2 rfl (Nat.le_of_ble_eq_true rfl) (Nat.le_of_ble_eq_true rfl)
  ·
    refine G_av hY hA (va_runS (As := [.int xs0]) (rest := []) ⟨hx, hb, hml, hown, hg⟩ (kX11_needState l D y aS H.size L hL ad N σ xs0 _ e_2) (va_cwS 1 hg ggS_RX11_123_X11_needState rfl rfl rfl (by decide +kernel) ⟨Nat.le_of_ble_eq_true rfl, Nat.le_of_ble_eq_true rfl⟩) (G_pS hK hY) rfl rfl hl.1 rfl (lv_room (Nat.le_of_ble_eq_true rfl)) dX11_revert_41 ⟨Nat.le_of_ble_eq_true rfl, Nat.le_of_ble_eq_true rfl⟩) ?_
    clear hY
    rintro H locs hY
    refine lv_aload_n hx hb dX11_revert_44 rfl (lv_at hl 0 rfl) ?_
    refine G_get (ci := 11) (j := 9) (C := RX11) (T := TX11) (N := 19) (v := .ref (ad 151)) hx hb hg inlX11 hown hK hY (hL 0 (by decide)) gk_0 (by decide) rfl (by decide) tX11_9 (hg _ gw_49) rfl dX11_revert_45 ?_
    refine lv_iload_n hx hb dX11_revert_48 rfl (lv_at hl 1 rfl) ?_
    obtain ⟨r_3, e_4, h⟩ := g_bind h
    refine G_al hY hA (va_runV (As := [.int x1]) (rest := []) ⟨hx, hb, hml, hown, hg⟩ (kX8_get l D y aS H.size L hL ad N σ 151 x1 _ gk_151 e_4) (cwV 1 hg ggV_RX11_218_X8_get rfl rfl rfl (by decide +kernel) ⟨Nat.le_of_ble_eq_true rfl, Nat.le_of_ble_eq_true rfl⟩) (G_pV (q := (RX8, TX8, 2)) hK hY (hL 151 (by decide)) gk_151 (by decide) rfl) rfl rfl hl.1 rfl (lv_room (Nat.le_of_ble_eq_true rfl)) dX11_revert_49 ⟨Nat.le_of_ble_eq_true rfl, Nat.le_of_ble_eq_true rfl⟩) ?_
    clear hY
    rintro _ H locs rfl hY
    refine lv_lstore_n (lv' := [(3, .long r_3), (0, .ref (ad 0)), (1, .int x1), (2, .int x2)]) hx hb dX11_revert_52 rfl hl (by decide) rfl ?_
    clear hl
    intro ls hl
    refine lv_aload_n hx hb dX11_revert_53 rfl (lv_at hl 1 rfl) ?_
    refine G_get (ci := 11) (j := 9) (C := RX11) (T := TX11) (N := 19) (v := .ref (ad 151)) hx hb hg inlX11 hown hK hY (hL 0 (by decide)) gk_0 (by decide) rfl (by decide) tX11_9 (hg _ gw_49) rfl dX11_revert_54 ?_
    refine lv_iload_n hx hb dX11_revert_57 rfl (lv_at hl 2 rfl) ?_
    refine lv_iconst (v := 1) hx hb dX11_revert_58 (by decide) ?_
    refine lv_isub hx hb dX11_revert_59 ?_
    obtain ⟨r_5, e_6, h⟩ := g_bind h
    refine G_al hY hA (va_runV (As := [.int (x1 - 1)]) (rest := []) ⟨hx, hb, hml, hown, hg⟩ (kX8_get l D y aS H.size L hL ad N σ 151 (x1 - 1) _ gk_151 e_6) (cwV 1 hg ggV_RX11_218_X8_get rfl rfl rfl (by decide +kernel) ⟨Nat.le_of_ble_eq_true rfl, Nat.le_of_ble_eq_true rfl⟩) (G_pV (q := (RX8, TX8, 2)) hK hY (hL 151 (by decide)) gk_151 (by decide) rfl) rfl rfl hl.1 rfl (lv_room (Nat.le_of_ble_eq_true rfl)) dX11_revert_60 ⟨Nat.le_of_ble_eq_true rfl, Nat.le_of_ble_eq_true rfl⟩) ?_
    clear hY
    rintro _ H locs rfl hY
    refine lv_lstore (lv' := [(5, .long r_5), (3, .long r_3), (0, .ref (ad 0)), (1, .int x1), (2, .int x2)]) hx hb dX11_revert_63 hl (by decide) rfl ?_
    clear hl
    intro ls hl
    refine lv_aload_n hx hb dX11_revert_65 rfl (lv_at hl 2 rfl) ?_
    obtain ⟨r_7, e_8, h⟩ := g_bind h
    refine G_al hY hA (va_runV (As := []) (rest := []) ⟨hx, hb, hml, hown, hg⟩ (kX11_trunkTree l D y aS H.size L hL ad N σ _ e_8) (cwV 0 hg ggV_RX11_156_X11_trunkTree rfl rfl rfl (by decide +kernel) ⟨Nat.le_of_ble_eq_true rfl, Nat.le_of_ble_eq_true rfl⟩) (G_pV (q := (RX11, TX11, 19)) hK hY (hL 0 (by decide)) gk_0 (by decide) rfl) rfl rfl hl.1 rfl (lv_room (Nat.le_of_ble_eq_true rfl)) dX11_revert_66 ⟨Nat.le_of_ble_eq_true rfl, Nat.le_of_ble_eq_true rfl⟩) ?_
    clear hY
    rintro _ H locs rfl hY
    refine lv_lstore (lv' := [(7, .long r_7), (5, .long r_5), (3, .long r_3), (0, .ref (ad 0)), (1, .int x1), (2, .int x2)]) hx hb dX11_revert_69 hl (by decide) rfl ?_
    clear hl
    intro ls hl
    refine lv_iconst (v := 0) hx hb dX11_revert_71 (by decide) ?_
    refine lv_istore (lv' := [(9, .int 0), (7, .long r_7), (5, .long r_5), (3, .long r_3), (0, .ref (ad 0)), (1, .int x1), (2, .int x2)]) hx hb dX11_revert_72 hl (by decide) rfl ?_
    clear hl
    intro ls hl
    refine lv_iconst (v := 0) hx hb dX11_revert_74 (by decide) ?_
    refine lv_istore (lv' := [(10, .int 0), (9, .int 0), (7, .long r_7), (5, .long r_5), (3, .long r_3), (0, .ref (ad 0)), (1, .int x1), (2, .int x2)]) hx hb dX11_revert_75 hl (by decide) rfl ?_
    clear hl
    intro ls hl
    exact wTX11_revert_77 hx hb hr hml hown hg hlocks hK hA hL hfl hZ htab N _ _ _ hY (lv_sub hl [5, 7, 4, 3, 2, 1, 0] rfl) h
end
def fTX11_revert (N : Nat) (σ : gS) (x1 : Int32) (x2 : Int32) : Option (Sum Int32 String × gS) := g_tc (fX11_needPlace N σ x1 (σ.1 151 1)) (some (.inr "java/lang/IndexOutOfBoundsException", σ)) (g_tc (fX11_needPlace N σ x2 (8 : Int32)) (some (.inr "java/lang/IndexOutOfBoundsException", σ)) (g_tc (fX11_needRange N σ x1 (1 : Int32) (60 : Int32)) (some (.inr "java/lang/IllegalArgumentException", σ)) (if 60 ≤ (σ.1 1 4) then (fTX11_revert_41 N σ x1 x2 0) else (fTX11_revert_41 N σ x1 x2 1))))
set_option maxRecDepth 100000 in
set_option maxHeartbeats 4000000 in
theorem kTX11_revert (l : Launch) (hfl : l.stackTraces = false) (D : va_G) (y : Nat → ClassId) (aS : Nat → Nat) (sz : Nat) (L : List Nat) (hL : ∀ k, k < 179 → k ∈ L) (ad : Nat → Nat) (N : Nat) (σ : gS) (x1 : Int32) (x2 : Int32) (res : (Sum Int32 String × gS)) (h : fTX11_revert N σ x1 x2 = some res) : vx_Met l yX11_revert (Cond.code yX11_revert cX11_revert 11 (some .int) :: wsL_law) ({ frames := 7, cells := 1, slots := 6, locals := 104 } : Room) (va_Pc [.ref (ad 0), .int x1, .int x2] (gIX D y aS (GW L y ad σ) sz)) (va_Qi (fun (r : Int32) (_ : Unit) => res.1 = .inl r) (fun _ => gO D (va_A (GW L y ad σ) sz) (GW L y ad res.2)) (va_A (GW L y ad σ) sz)) (vx_X (fun E => res.1 = .inr E) (fun E u t => E = u ∧ gO D (va_A (GW L y ad σ) sz) (GW L y ad res.2) t) (va_A (GW L y ad σ) sz)) 1 6 (va_A (GW L y ad σ) sz) := by
  refine gx_of (by decide) (Nat.le_of_ble_eq_true rfl) ?_
  intro p e s m below meth c ls A hx hb hr hml hown hg hlocks hin hsz hK hP hD hS hA hAe hl htab hZ
  rw [← hAe]
  replace hown : s.vm.findClass RX11 = some m.cls := hown
  have hY : gY D y A s L ad σ s.heap [] := ⟨hP, hD, hS⟩
  clear hP hD hS
  replace hl : lv_has ls 11 [(0, .ref (ad 0)), (1, .int x1), (2, .int x2)] := hl
  unfold fTX11_revert at h
  refine lv_iload_n hx hb dX11_revert_0 rfl (lv_at hl 1 rfl) ?_
  refine lv_aload_n hx hb dX11_revert_1 rfl (lv_at hl 0 rfl) ?_
  refine G_get (ci := 11) (j := 9) (C := RX11) (T := TX11) (N := 19) (v := .ref (ad 151)) hx hb hg inlX11 hown hK hY (hL 0 (by decide)) gk_0 (by decide) rfl (by decide) tX11_9 (hg _ gw_49) rfl dX11_revert_2 ?_
  refine G_get (ci := 8) (j := 1) (C := RX8) (T := TX8) (N := 2) (v := .int (σ.1 151 1)) hx hb hg inlX8 hown hK hY (hL 151 (by decide)) gk_151 (by decide) rfl (by decide) tX8_1 (hg _ gw_178) rfl dX11_revert_5 ?_
  rcases g_tcase h with ⟨e_2, h⟩ | ⟨e_2, h⟩
  ·
    cases h
    refine G_xav hY hA (vx_runS (As := [.int x1, .int (σ.1 151 1)]) (rest := []) ⟨hx, hb, hml, hown, hg⟩ (xX11_needPlace l hfl D y aS s.heap.size L ad N σ x1 (σ.1 151 1) e_2) (va_cwS 2 hg ggS_RX11_106_X11_needPlace rfl rfl rfl (by decide +kernel) ⟨Nat.le_of_ble_eq_true rfl, Nat.le_of_ble_eq_true rfl⟩) (G_xpS hZ hA hK hY) rfl rfl hl.1 rfl (lv_room (Nat.le_of_ble_eq_true rfl)) dX11_revert_8 ⟨Nat.le_of_ble_eq_true rfl, Nat.le_of_ble_eq_true rfl⟩) (fun E ce q9 H1 locs1 hE hY hce hcv hcl => ?_) (fun _ _ hf _ => hf.elim)
    subst hE
    exact gx_out htab hlocks hce hcv hcl hY.1 hY.2.1 hY.2.2 rfl (Nat.le_of_ble_eq_true rfl) (Nat.le_of_ble_eq_true rfl)
  ·
    refine G_av hY hA (va_runS (As := [.int x1, .int (σ.1 151 1)]) (rest := []) ⟨hx, hb, hml, hown, hg⟩ (kX11_needPlace l D y aS s.heap.size L hL ad N σ x1 (σ.1 151 1) _ e_2) (va_cwS 2 hg ggS_RX11_106_X11_needPlace rfl rfl rfl (by decide +kernel) ⟨Nat.le_of_ble_eq_true rfl, Nat.le_of_ble_eq_true rfl⟩) (G_pS hK hY) rfl rfl hl.1 rfl (lv_room (Nat.le_of_ble_eq_true rfl)) dX11_revert_8 ⟨Nat.le_of_ble_eq_true rfl, Nat.le_of_ble_eq_true rfl⟩) ?_
    clear hY
    rintro H locs hY
    refine lv_iload_n hx hb dX11_revert_11 rfl (lv_at hl 2 rfl) ?_
    refine lv_bipush (v := 8) hx hb dX11_revert_12 (by decide +kernel) ?_
    rcases g_tcase h with ⟨e_4, h⟩ | ⟨e_4, h⟩
    ·
      cases h
      refine G_xav hY hA (vx_runS (As := [.int x2, .int 8]) (rest := []) ⟨hx, hb, hml, hown, hg⟩ (xX11_needPlace l hfl D y aS H.size L ad N σ x2 (8 : Int32) e_4) (va_cwS 2 hg ggS_RX11_106_X11_needPlace rfl rfl rfl (by decide +kernel) ⟨Nat.le_of_ble_eq_true rfl, Nat.le_of_ble_eq_true rfl⟩) (G_xpS hZ hA hK hY) rfl rfl hl.1 rfl (lv_room (Nat.le_of_ble_eq_true rfl)) dX11_revert_14 ⟨Nat.le_of_ble_eq_true rfl, Nat.le_of_ble_eq_true rfl⟩) (fun E ce q9 H1 locs1 hE hY hce hcv hcl => ?_) (fun _ _ hf _ => hf.elim)
      subst hE
      exact gx_out htab hlocks hce hcv hcl hY.1 hY.2.1 hY.2.2 rfl (Nat.le_of_ble_eq_true rfl) (Nat.le_of_ble_eq_true rfl)
    ·
      refine G_av hY hA (va_runS (As := [.int x2, .int 8]) (rest := []) ⟨hx, hb, hml, hown, hg⟩ (kX11_needPlace l D y aS H.size L hL ad N σ x2 (8 : Int32) _ e_4) (va_cwS 2 hg ggS_RX11_106_X11_needPlace rfl rfl rfl (by decide +kernel) ⟨Nat.le_of_ble_eq_true rfl, Nat.le_of_ble_eq_true rfl⟩) (G_pS hK hY) rfl rfl hl.1 rfl (lv_room (Nat.le_of_ble_eq_true rfl)) dX11_revert_14 ⟨Nat.le_of_ble_eq_true rfl, Nat.le_of_ble_eq_true rfl⟩) ?_
      clear hY
      rintro H locs hY
      refine lv_iload_n hx hb dX11_revert_17 rfl (lv_at hl 1 rfl) ?_
      refine lv_iconst (v := 1) hx hb dX11_revert_18 (by decide) ?_
      refine lv_bipush (v := 60) hx hb dX11_revert_19 (by decide +kernel) ?_
      rcases g_tcase h with ⟨e_6, h⟩ | ⟨e_6, h⟩
      ·
        cases h
        refine G_xav hY hA (vx_runS (As := [.int x1, .int 1, .int 60]) (rest := []) ⟨hx, hb, hml, hown, hg⟩ (xX11_needRange l hfl D y aS H.size L ad N σ x1 (1 : Int32) (60 : Int32) e_6) (va_cwS 3 hg ggS_RX11_133_X11_needRange rfl rfl rfl (by decide +kernel) ⟨Nat.le_of_ble_eq_true rfl, Nat.le_of_ble_eq_true rfl⟩) (G_xpS hZ hA hK hY) rfl rfl hl.1 rfl (lv_room (Nat.le_of_ble_eq_true rfl)) dX11_revert_21 ⟨Nat.le_of_ble_eq_true rfl, Nat.le_of_ble_eq_true rfl⟩) (fun E ce q9 H1 locs1 hE hY hce hcv hcl => ?_) (fun _ _ hf _ => hf.elim)
        subst hE
        exact gx_out htab hlocks hce hcv hcl hY.1 hY.2.1 hY.2.2 rfl (Nat.le_of_ble_eq_true rfl) (Nat.le_of_ble_eq_true rfl)
      ·
        refine G_av hY hA (va_runS (As := [.int x1, .int 1, .int 60]) (rest := []) ⟨hx, hb, hml, hown, hg⟩ (kX11_needRange l D y aS H.size L hL ad N σ x1 (1 : Int32) (60 : Int32) _ e_6) (va_cwS 3 hg ggS_RX11_133_X11_needRange rfl rfl rfl (by decide +kernel) ⟨Nat.le_of_ble_eq_true rfl, Nat.le_of_ble_eq_true rfl⟩) (G_pS hK hY) rfl rfl hl.1 rfl (lv_room (Nat.le_of_ble_eq_true rfl)) dX11_revert_21 ⟨Nat.le_of_ble_eq_true rfl, Nat.le_of_ble_eq_true rfl⟩) ?_
        clear hY
        rintro H locs hY
        refine lv_aload_n hx hb dX11_revert_24 rfl (lv_at hl 0 rfl) ?_
        refine G_get (ci := 11) (j := 0) (C := RX11) (T := TX11) (N := 19) (v := .ref (ad 1)) hx hb hg inlX11 hown hK hY (hL 0 (by decide)) gk_0 (by decide) rfl (by decide) tX11_0 (hg _ gw_16) rfl dX11_revert_25 ?_
        refine G_get (ci := 2) (j := 4) (C := RX2) (T := TX2) (N := 5) (v := .int (σ.1 1 4)) hx hb hg inlX2 hown hK hY (hL 1 (by decide)) gk_1 (by decide) rfl (by decide) tX2_4 (hg _ gw_173) rfl dX11_revert_28 ?_
        refine lv_bipush (v := 60) hx hb dX11_revert_31 (by decide +kernel) ?_
        refine lv_icmp_ge (tgt := 40) hx hb dX11_revert_33 (by decide) (fun z_7 => ?_) (fun z_7 => ?_)
        ·
          rw [if_pos z_7] at h
          refine lv_iconst (v := 0) hx hb dX11_revert_40 (by decide) ?_
          exact wTX11_revert_41 hx hb hr hml hown hg hlocks hK hA hL hfl hZ htab hY (lv_sub hl [0, 1, 2] rfl) h
        ·
          rw [if_neg z_7] at h
          refine lv_iconst (v := 1) hx hb dX11_revert_36 (by decide) ?_
          refine lv_goto (tgt := 41) hx hb dX11_revert_37 (by decide) ?_
          exact wTX11_revert_41 hx hb hr hml hown hg hlocks hK hA hL hfl hZ htab hY (lv_sub hl [0, 1, 2] rfl) h
section
variable {p : Program} {l : Launch} {e : Env} {s : State} {m : MethodId} {args : Array Value} {below : List Frame} {meth : Method} {c : Code} {D : va_G} {y : Nat → ClassId} {aS : Nat → Nat} {A : Nat → Prop} {L : List Nat} {ad : Nat → Nat} {N : Nat} {res : (Sum Int32 String × gS)}
end
def fTX11_queuedAt (N : Nat) (σ : gS) (x1 : Int32) : Option (Sum Int32 String × gS) := (fX11_formBatches N σ).bind fun r_1 => g_tc (fX11_needPlace N r_1 x1 (r_1.1 110 1)) (some (.inr "java/lang/IndexOutOfBoundsException", r_1)) ((fX8_whole N r_1 110 x1).bind fun r_5 => some (.inl r_5, r_1))
set_option maxRecDepth 100000 in
set_option maxHeartbeats 4000000 in
theorem kTX11_queuedAt (l : Launch) (hfl : l.stackTraces = false) (D : va_G) (y : Nat → ClassId) (aS : Nat → Nat) (sz : Nat) (L : List Nat) (hL : ∀ k, k < 179 → k ∈ L) (ad : Nat → Nat) (N : Nat) (σ : gS) (x1 : Int32) (res : (Sum Int32 String × gS)) (h : fTX11_queuedAt N σ x1 = some res) : vx_Met l yX11_queuedAt (Cond.code yX11_queuedAt cX11_queuedAt 2 (some .int) :: wsL_law) ({ frames := 7, cells := 1, slots := 6, locals := 103 } : Room) (va_Pc [.ref (ad 0), .int x1] (gIX D y aS (GW L y ad σ) sz)) (va_Qi (fun (r : Int32) (_ : Unit) => res.1 = .inl r) (fun _ => gO D (va_A (GW L y ad σ) sz) (GW L y ad res.2)) (va_A (GW L y ad σ) sz)) (vx_X (fun E => res.1 = .inr E) (fun E u t => E = u ∧ gO D (va_A (GW L y ad σ) sz) (GW L y ad res.2) t) (va_A (GW L y ad σ) sz)) 1 6 (va_A (GW L y ad σ) sz) := by
  refine gx_of (by decide) (Nat.le_of_ble_eq_true rfl) ?_
  intro p e s m below meth c ls A hx hb hr hml hown hg hlocks hin hsz hK hP hD hS hA hAe hl htab hZ
  rw [← hAe]
  replace hown : s.vm.findClass RX11 = some m.cls := hown
  have hY : gY D y A s L ad σ s.heap [] := ⟨hP, hD, hS⟩
  clear hP hD hS
  replace hl : lv_has ls 2 [(0, .ref (ad 0)), (1, .int x1)] := hl
  unfold fTX11_queuedAt at h
  refine lv_aload_n hx hb dX11_queuedAt_0 rfl (lv_at hl 0 rfl) ?_
  obtain ⟨r_1, e_2, h⟩ := g_bind h
  refine G_av hY hA (va_runV (As := []) (rest := []) ⟨hx, hb, hml, hown, hg⟩ (kX11_formBatches l D y aS s.heap.size L hL ad N σ _ e_2) (cwV 0 hg ggV_RX11_204_X11_formBatches rfl rfl rfl (by decide +kernel) ⟨Nat.le_of_ble_eq_true rfl, Nat.le_of_ble_eq_true rfl⟩) (G_pV (q := (RX11, TX11, 19)) hK hY (hL 0 (by decide)) gk_0 (by decide) rfl) rfl rfl hl.1 rfl (lv_room (Nat.le_of_ble_eq_true rfl)) dX11_queuedAt_1 ⟨Nat.le_of_ble_eq_true rfl, Nat.le_of_ble_eq_true rfl⟩) ?_
  clear hY
  rintro H locs hY
  refine lv_iload_n hx hb dX11_queuedAt_4 rfl (lv_at hl 1 rfl) ?_
  refine lv_aload_n hx hb dX11_queuedAt_5 rfl (lv_at hl 0 rfl) ?_
  refine G_get (ci := 11) (j := 3) (C := RX11) (T := TX11) (N := 19) (v := .ref (ad 109)) hx hb hg inlX11 hown hK hY (hL 0 (by decide)) gk_0 (by decide) rfl (by decide) tX11_3 (hg _ gw_28) rfl dX11_queuedAt_6 ?_
  refine G_get (ci := 4) (j := 4) (C := RX4) (T := TX4) (N := 9) (v := .ref (ad 110)) hx hb hg inlX4 hown hK hY (hL 109 (by decide)) gk_109 (by decide) rfl (by decide) tX4_4 (hg _ gw_190) rfl dX11_queuedAt_9 ?_
  refine G_get (ci := 8) (j := 1) (C := RX8) (T := TX8) (N := 2) (v := .int (r_1.1 110 1)) hx hb hg inlX8 hown hK hY (hL 110 (by decide)) gk_110 (by decide) rfl (by decide) tX8_1 (hg _ gw_178) rfl dX11_queuedAt_12 ?_
  rcases g_tcase h with ⟨e_4, h⟩ | ⟨e_4, h⟩
  ·
    cases h
    refine G_xav hY hA (vx_runS (As := [.int x1, .int (r_1.1 110 1)]) (rest := []) ⟨hx, hb, hml, hown, hg⟩ (xX11_needPlace l hfl D y aS H.size L ad N r_1 x1 (r_1.1 110 1) e_4) (va_cwS 2 hg ggS_RX11_106_X11_needPlace rfl rfl rfl (by decide +kernel) ⟨Nat.le_of_ble_eq_true rfl, Nat.le_of_ble_eq_true rfl⟩) (G_xpS hZ hA hK hY) rfl rfl hl.1 rfl (lv_room (Nat.le_of_ble_eq_true rfl)) dX11_queuedAt_15 ⟨Nat.le_of_ble_eq_true rfl, Nat.le_of_ble_eq_true rfl⟩) (fun E ce q9 H1 locs1 hE hY hce hcv hcl => ?_) (fun _ _ hf _ => hf.elim)
    subst hE
    exact gx_out htab hlocks hce hcv hcl hY.1 hY.2.1 hY.2.2 rfl (Nat.le_of_ble_eq_true rfl) (Nat.le_of_ble_eq_true rfl)
  ·
    refine G_av hY hA (va_runS (As := [.int x1, .int (r_1.1 110 1)]) (rest := []) ⟨hx, hb, hml, hown, hg⟩ (kX11_needPlace l D y aS H.size L hL ad N r_1 x1 (r_1.1 110 1) _ e_4) (va_cwS 2 hg ggS_RX11_106_X11_needPlace rfl rfl rfl (by decide +kernel) ⟨Nat.le_of_ble_eq_true rfl, Nat.le_of_ble_eq_true rfl⟩) (G_pS hK hY) rfl rfl hl.1 rfl (lv_room (Nat.le_of_ble_eq_true rfl)) dX11_queuedAt_15 ⟨Nat.le_of_ble_eq_true rfl, Nat.le_of_ble_eq_true rfl⟩) ?_
    clear hY
    rintro H locs hY
    refine lv_aload_n hx hb dX11_queuedAt_18 rfl (lv_at hl 0 rfl) ?_
    refine G_get (ci := 11) (j := 3) (C := RX11) (T := TX11) (N := 19) (v := .ref (ad 109)) hx hb hg inlX11 hown hK hY (hL 0 (by decide)) gk_0 (by decide) rfl (by decide) tX11_3 (hg _ gw_28) rfl dX11_queuedAt_19 ?_
    refine G_get (ci := 4) (j := 4) (C := RX4) (T := TX4) (N := 9) (v := .ref (ad 110)) hx hb hg inlX4 hown hK hY (hL 109 (by decide)) gk_109 (by decide) rfl (by decide) tX4_4 (hg _ gw_190) rfl dX11_queuedAt_22 ?_
    refine lv_iload_n hx hb dX11_queuedAt_25 rfl (lv_at hl 1 rfl) ?_
    obtain ⟨r_5, e_6, h⟩ := g_bind h
    refine G_ai hY hA (va_runV (As := [.int x1]) (rest := []) ⟨hx, hb, hml, hown, hg⟩ (kX8_whole l D y aS H.size L hL ad N r_1 110 x1 _ gk_110 e_6) (cwV 1 hg ggV_RX11_187_X8_whole rfl rfl rfl (by decide +kernel) ⟨Nat.le_of_ble_eq_true rfl, Nat.le_of_ble_eq_true rfl⟩) (G_pV (q := (RX8, TX8, 2)) hK hY (hL 110 (by decide)) gk_110 (by decide) rfl) rfl rfl hl.1 rfl (lv_room (Nat.le_of_ble_eq_true rfl)) dX11_queuedAt_26 ⟨Nat.le_of_ble_eq_true rfl, Nat.le_of_ble_eq_true rfl⟩) ?_
    clear hY
    rintro _ H locs rfl hY
    cases h
    exact vx_ret (g_iret hx hb hr hlocks () hY.1 hY.2.1 hY.2.2 rfl rfl (Nat.le_of_ble_eq_true rfl) (Nat.le_of_ble_eq_true rfl) dX11_queuedAt_29)
theorem ggV_RL_97_X11_landedBy : GoodIn wsL_law (wsV RL 97 RX11 yX11_landedBy (Cond.code yX11_landedBy cX11_landedBy 2 (some .int) :: wsL_law)) := g_gi (fun _ h => h) gW_good (List.forall_mem_cons.mpr ⟨⟨gw_440, rfl⟩, List.forall_mem_cons.mpr ⟨⟨gw_441, rfl⟩, List.forall_mem_cons.mpr ⟨⟨gw_442, rfl⟩, List.forall_mem_cons.mpr ⟨⟨gw_2, rfl⟩, fun _ h => nomatch h⟩⟩⟩⟩) ⟨gw_443, rfl⟩
theorem ggV_RL_94_X11_queuedAt : GoodIn wsL_law (wsV RL 94 RX11 yX11_queuedAt (Cond.code yX11_queuedAt cX11_queuedAt 2 (some .int) :: wsL_law)) := g_gi (fun _ h => h) gW_good (List.forall_mem_cons.mpr ⟨⟨gw_186, rfl⟩, List.forall_mem_cons.mpr ⟨⟨gw_187, rfl⟩, List.forall_mem_cons.mpr ⟨⟨gw_188, rfl⟩, List.forall_mem_cons.mpr ⟨⟨gw_2, rfl⟩, fun _ h => nomatch h⟩⟩⟩⟩) ⟨gw_189, rfl⟩
theorem ggV_RL_91_X11_revert : GoodIn wsL_law (wsV RL 91 RX11 yX11_revert (Cond.code yX11_revert cX11_revert 11 (some .int) :: wsL_law)) := g_gi (fun _ h => h) gW_good (List.forall_mem_cons.mpr ⟨⟨gw_429, rfl⟩, List.forall_mem_cons.mpr ⟨⟨gw_430, rfl⟩, List.forall_mem_cons.mpr ⟨⟨gw_431, rfl⟩, List.forall_mem_cons.mpr ⟨⟨gw_2, rfl⟩, fun _ h => nomatch h⟩⟩⟩⟩) ⟨gw_432, rfl⟩
theorem ggV_RL_88_X11_drop : GoodIn wsL_law (wsV RL 88 RX11 yX11_drop (Cond.code yX11_drop cX11_drop 3 (some .int) :: wsL_law)) := g_gi (fun _ h => h) gW_good (List.forall_mem_cons.mpr ⟨⟨gw_413, rfl⟩, List.forall_mem_cons.mpr ⟨⟨gw_414, rfl⟩, List.forall_mem_cons.mpr ⟨⟨gw_415, rfl⟩, List.forall_mem_cons.mpr ⟨⟨gw_2, rfl⟩, fun _ h => nomatch h⟩⟩⟩⟩) ⟨gw_416, rfl⟩
theorem ggV_RL_85_X11_queue : GoodIn wsL_law (wsV RL 85 RX11 yX11_queue (Cond.code yX11_queue cX11_queue 5 (some .int) :: wsL_law)) := g_gi (fun _ h => h) gW_good (List.forall_mem_cons.mpr ⟨⟨gw_383, rfl⟩, List.forall_mem_cons.mpr ⟨⟨gw_384, rfl⟩, List.forall_mem_cons.mpr ⟨⟨gw_385, rfl⟩, List.forall_mem_cons.mpr ⟨⟨gw_2, rfl⟩, fun _ h => nomatch h⟩⟩⟩⟩) ⟨gw_386, rfl⟩
theorem ggV_RL_81_X11_rebase : GoodIn wsL_law (wsV RL 81 RX11 yX11_rebase (Cond.code yX11_rebase cX11_rebase 7 (some .int) :: wsL_law)) := g_gi (fun _ h => h) gW_good (List.forall_mem_cons.mpr ⟨⟨gw_375, rfl⟩, List.forall_mem_cons.mpr ⟨⟨gw_376, rfl⟩, List.forall_mem_cons.mpr ⟨⟨gw_377, rfl⟩, List.forall_mem_cons.mpr ⟨⟨gw_2, rfl⟩, fun _ h => nomatch h⟩⟩⟩⟩) ⟨gw_378, rfl⟩
theorem ggV_RL_77_X11_make : GoodIn wsL_law (wsV RL 77 RX11 yX11_make (Cond.code yX11_make cX11_make 4 (some .int) :: wsL_law)) := g_gi (fun _ h => h) gW_good (List.forall_mem_cons.mpr ⟨⟨gw_352, rfl⟩, List.forall_mem_cons.mpr ⟨⟨gw_353, rfl⟩, List.forall_mem_cons.mpr ⟨⟨gw_354, rfl⟩, List.forall_mem_cons.mpr ⟨⟨gw_2, rfl⟩, fun _ h => nomatch h⟩⟩⟩⟩) ⟨gw_355, rfl⟩
theorem ggV_RL_73_X11_edit : GoodIn wsL_law (wsV RL 73 RX11 yX11_edit (Cond.code yX11_edit cX11_edit 4 (some .int) :: wsL_law)) := g_gi (fun _ h => h) gW_good (List.forall_mem_cons.mpr ⟨⟨gw_328, rfl⟩, List.forall_mem_cons.mpr ⟨⟨gw_329, rfl⟩, List.forall_mem_cons.mpr ⟨⟨gw_330, rfl⟩, List.forall_mem_cons.mpr ⟨⟨gw_2, rfl⟩, fun _ h => nomatch h⟩⟩⟩⟩) ⟨gw_331, rfl⟩
theorem ggV_RL_67_X11_begin : GoodIn wsL_law (wsV RL 67 RX11 yX11_begin (Cond.code yX11_begin cX11_begin 4 (some .boolean) :: wsL_law)) := g_gi (fun _ h => h) gW_good (List.forall_mem_cons.mpr ⟨⟨gw_304, rfl⟩, List.forall_mem_cons.mpr ⟨⟨gw_305, rfl⟩, List.forall_mem_cons.mpr ⟨⟨gw_306, rfl⟩, List.forall_mem_cons.mpr ⟨⟨gw_2, rfl⟩, fun _ h => nomatch h⟩⟩⟩⟩) ⟨gw_307, rfl⟩
section
variable {p : Program} {l : Launch} {e : Env} {s : State} {m : MethodId} {args : Array Value} {below : List Frame} {meth : Method} {c : Code} {D : va_G} {y : Nat → ClassId} {aS : Nat → Nat} {A : Nat → Prop} {L : List Nat} {ad : Nat → Nat} {N : Nat} {res : (Int32 × gS)}
def fL_does_121 (N : Nat) (σ : gS) (xs0 : Int32) : Option (Int32 × gS) := some (xs0, σ)
set_option maxRecDepth 100000 in
set_option maxHeartbeats 4000000 in
theorem wL_does_121 {σ : gS} {xs0 : Int32} (hx : p.tables.exec = Jvm.exec) (hb : c.code = cL_does) (hr : meth.sig.returnType = (some .int)) (hml : c.maxLocals = 6) (hown : s.vm.findClass RL = some m.cls) (hg : ∀ w ∈ wsL_law, w.before args s = true) (hlocks : meth.locks = false) (hK : gK D y aS s) (hA : ∀ q, s.heap.size ≤ q → A q) (hL : ∀ k, k < 179 → k ∈ L) (hfl : l.stackTraces = false) (hZ : gZ A s s.heap) (htab : c.exceptionTable.toList = tableOf  [(0, 121, 122, 100), (0, 121, 127, 102), (0, 121, 132, 104)]) {H : Heap} {locs : List Loc} {ls : Array Slot} (hY : gY D y A s L ad σ H locs) (hl : lv_has ls 6 []) (h : fL_does_121 N σ xs0 = some res) : W p l e ({ frames := 8, cells := 1, slots := 6, locals := 134 } : Room) s m args below meth c H locs 1 6 (MQ below (va_Qi (fun (r : Int32) (_ : Unit) => r = res.1) (fun _ => gO D A (GW L y ad res.2)) A) args s 1 6 A) (F0 m 121 ls [.int xs0]) := by
  unfold fL_does_121 at h
  cases h
  exact g_iret hx hb hr hlocks () hY.1 hY.2.1 hY.2.2 rfl rfl (Nat.le_of_ble_eq_true rfl) (Nat.le_of_ble_eq_true rfl) dL_does_121
end
def fL_does (N : Nat) (σ : gS) (x1 : Int32) (x2 : Int32) (x3 : Int32) (x4 : Int32) : Option (Int32 × gS) := if x1 = 0 then ((fX11_begin N σ x2 x3).bind fun r_29 => if r_29.1 = 0 then (fL_does_121 N r_29.2 0) else (fL_does_121 N r_29.2 1)) else (if x1 = 1 then ((fX11_edit N σ x2 x3).bind fun r_27 => fL_does_121 N r_27.2 r_27.1) else (if x1 = 2 then ((fX11_make N σ).bind fun r_25 => fL_does_121 N r_25.2 r_25.1) else (if x1 = 3 then ((fX11_rebase N σ x2).bind fun r_23 => fL_does_121 N r_23.2 r_23.1) else (if x1 = 4 then ((fTX11_queue N σ x2 x3).bind fun r_20 => g_sm r_20.1 (fun v_22 => fL_does_121 N r_20.2 v_22) (fun E => if E = "java/lang/IndexOutOfBoundsException" then some ((-11), r_20.2) else if E = "java/lang/IllegalArgumentException" then some ((-12), r_20.2) else if E = "java/lang/IllegalStateException" then some ((-13), r_20.2) else none)) else (if x1 = 5 then ((fTX11_drop N σ x2).bind fun r_17 => g_sm r_17.1 (fun v_19 => fL_does_121 N r_17.2 v_19) (fun E => if E = "java/lang/IndexOutOfBoundsException" then some ((-11), r_17.2) else if E = "java/lang/IllegalArgumentException" then some ((-12), r_17.2) else if E = "java/lang/IllegalStateException" then some ((-13), r_17.2) else none)) else (if x1 = 6 then ((fTX11_revert N σ x2 x3).bind fun r_14 => g_sm r_14.1 (fun v_16 => fL_does_121 N r_14.2 v_16) (fun E => if E = "java/lang/IndexOutOfBoundsException" then some ((-11), r_14.2) else if E = "java/lang/IllegalArgumentException" then some ((-12), r_14.2) else if E = "java/lang/IllegalStateException" then some ((-13), r_14.2) else none)) else (if x1 = 7 then ((fTX11_queuedAt N σ x2).bind fun r_11 => g_sm r_11.1 (fun v_13 => fL_does_121 N r_11.2 v_13) (fun E => if E = "java/lang/IndexOutOfBoundsException" then some ((-11), r_11.2) else if E = "java/lang/IllegalArgumentException" then some ((-12), r_11.2) else if E = "java/lang/IllegalStateException" then some ((-13), r_11.2) else none)) else ((fX11_landedBy N σ x2).bind fun r_9 => fL_does_121 N σ r_9))))))))
set_option maxRecDepth 100000 in
set_option maxHeartbeats 4000000 in
theorem kL_does (l : Launch) (hfl : l.stackTraces = false) (D : va_G) (y : Nat → ClassId) (aS : Nat → Nat) (sz : Nat) (L : List Nat) (hL : ∀ k, k < 179 → k ∈ L) (ad : Nat → Nat) (N : Nat) (σ : gS) (x1 : Int32) (x2 : Int32) (x3 : Int32) (x4 : Int32) (res : (Int32 × gS)) (h : fL_does N σ x1 x2 x3 x4 = some res) : Met l yL_does (Cond.codeWith yL_does cL_does 6 (some .int) [(0, 121, 122, 100), (0, 121, 127, 102), (0, 121, 132, 104)] :: wsL_law) ({ frames := 8, cells := 1, slots := 6, locals := 134 } : Room) (va_Pc [.ref (ad 0), .int x1, .int x2, .int x3, .int x4] (gIX D y aS (GW L y ad σ) sz)) (va_Qi (fun (r : Int32) (_ : Unit) => r = res.1) (fun _ => gO D (va_A (GW L y ad σ) sz) (GW L y ad res.2)) (va_A (GW L y ad σ) sz)) 1 6 (va_A (GW L y ad σ) sz) := by
  refine g_ofH (by decide) (Nat.le_of_ble_eq_true rfl) ?_
  intro p e s m below meth c ls A hx hb hr hml hown hg hlocks hin hsz hK hP hD hS hA hAe hl htab hZ
  rw [← hAe]
  replace hown : s.vm.findClass RL = some m.cls := hown
  have hY : gY D y A s L ad σ s.heap [] := ⟨hP, hD, hS⟩
  clear hP hD hS
  replace hl : lv_has ls 6 [(0, .ref (ad 0)), (1, .int x1), (2, .int x2), (3, .int x3), (4, .int x4)] := hl
  unfold fL_does at h
  refine lv_iload_n hx hb dL_does_0 rfl (lv_at hl 1 rfl) ?_
  refine lv_if_ne (tgt := 21) hx hb dL_does_1 (by decide) (fun z_1 => ?_) (fun z_1 => ?_)
  ·
    rw [if_neg z_1] at h
    refine lv_iload_n hx hb dL_does_21 rfl (lv_at hl 1 rfl) ?_
    refine lv_iconst (v := 1) hx hb dL_does_22 (by decide) ?_
    refine lv_icmp_ne (tgt := 35) hx hb dL_does_23 (by decide) (fun z_2 => ?_) (fun z_2 => ?_)
    ·
      rw [if_neg z_2] at h
      refine lv_iload_n hx hb dL_does_35 rfl (lv_at hl 1 rfl) ?_
      refine lv_iconst (v := 2) hx hb dL_does_36 (by decide) ?_
      refine lv_icmp_ne (tgt := 47) hx hb dL_does_37 (by decide) (fun z_3 => ?_) (fun z_3 => ?_)
      ·
        rw [if_neg z_3] at h
        refine lv_iload_n hx hb dL_does_47 rfl (lv_at hl 1 rfl) ?_
        refine lv_iconst (v := 3) hx hb dL_does_48 (by decide) ?_
        refine lv_icmp_ne (tgt := 60) hx hb dL_does_49 (by decide) (fun z_4 => ?_) (fun z_4 => ?_)
        ·
          rw [if_neg z_4] at h
          refine lv_iload_n hx hb dL_does_60 rfl (lv_at hl 1 rfl) ?_
          refine lv_iconst (v := 4) hx hb dL_does_61 (by decide) ?_
          refine lv_icmp_ne (tgt := 74) hx hb dL_does_62 (by decide) (fun z_5 => ?_) (fun z_5 => ?_)
          ·
            rw [if_neg z_5] at h
            refine lv_iload_n hx hb dL_does_74 rfl (lv_at hl 1 rfl) ?_
            refine lv_iconst (v := 5) hx hb dL_does_75 (by decide) ?_
            refine lv_icmp_ne (tgt := 87) hx hb dL_does_76 (by decide) (fun z_6 => ?_) (fun z_6 => ?_)
            ·
              rw [if_neg z_6] at h
              refine lv_iload_n hx hb dL_does_87 rfl (lv_at hl 1 rfl) ?_
              refine lv_bipush (v := 6) hx hb dL_does_88 (by decide +kernel) ?_
              refine lv_icmp_ne (tgt := 102) hx hb dL_does_90 (by decide) (fun z_7 => ?_) (fun z_7 => ?_)
              ·
                rw [if_neg z_7] at h
                refine lv_iload_n hx hb dL_does_102 rfl (lv_at hl 1 rfl) ?_
                refine lv_bipush (v := 7) hx hb dL_does_103 (by decide +kernel) ?_
                refine lv_icmp_ne (tgt := 116) hx hb dL_does_105 (by decide) (fun z_8 => ?_) (fun z_8 => ?_)
                ·
                  rw [if_neg z_8] at h
                  refine lv_aload_n hx hb dL_does_116 rfl (lv_at hl 0 rfl) ?_
                  refine lv_iload_n hx hb dL_does_117 rfl (lv_at hl 2 rfl) ?_
                  obtain ⟨r_9, e_10, h⟩ := g_bind h
                  refine G_ai hY hA (va_runV (As := [.int x2]) (rest := []) ⟨hx, hb, hml, hown, hg⟩ (kX11_landedBy l D y aS s.heap.size L hL ad N σ x2 _ e_10) (cwV 1 hg ggV_RL_97_X11_landedBy rfl rfl rfl (by decide +kernel) ⟨Nat.le_of_ble_eq_true rfl, Nat.le_of_ble_eq_true rfl⟩) (G_pV (q := (RX11, TX11, 19)) hK hY (hL 0 (by decide)) gk_0 (by decide) rfl) rfl rfl hl.1 rfl (lv_room (Nat.le_of_ble_eq_true rfl)) dL_does_118 ⟨Nat.le_of_ble_eq_true rfl, Nat.le_of_ble_eq_true rfl⟩) ?_
                  clear hY
                  rintro _ H locs rfl hY
                  refine W.widen (k := 1) (n := 6) (Nat.le_of_ble_eq_true rfl) (Nat.le_of_ble_eq_true rfl) ?_
                  exact wL_does_121 hx hb hr hml hown hg hlocks hK hA hL hfl hZ htab hY (lv_sub hl [] rfl) h
                ·
                  rw [if_pos z_8] at h
                  refine lv_aload_n hx hb dL_does_108 rfl (lv_at hl 0 rfl) ?_
                  refine lv_iload_n hx hb dL_does_109 rfl (lv_at hl 2 rfl) ?_
                  obtain ⟨r_11, e_12, h⟩ := g_bind h
                  refine G_xai hY hA (vx_runV (As := [.int x2]) (rest := []) ⟨hx, hb, hml, hown, hg⟩ (kTX11_queuedAt l hfl D y aS s.heap.size L hL ad N σ x2 _ e_12) (cwV 1 hg ggV_RL_94_X11_queuedAt rfl rfl rfl (by decide +kernel) ⟨Nat.le_of_ble_eq_true rfl, Nat.le_of_ble_eq_true rfl⟩) (G_xpV (q := (RX11, TX11, 19)) hZ hA hK hY (hL 0 (by decide)) gk_0 (by decide) rfl) rfl rfl hl.1 rfl (lv_room (Nat.le_of_ble_eq_true rfl)) dL_does_110 ⟨Nat.le_of_ble_eq_true rfl, Nat.le_of_ble_eq_true rfl⟩) ?_ ?_
                  ·
                    clear hY
                    intro E ce q9 H locs hE hY hce hcv hcl
                    replace h := g_smr hE h
                    try dsimp only at h
                    by_cases qE : E = "java/lang/IndexOutOfBoundsException"
                    ·
                      rw [if_pos qE] at h
                      subst qE
                      refine vx_catch (own := RL) (name := "java/lang/IndexOutOfBoundsException") hown [] ⟨0, 121, 122, 100⟩ [⟨0, 121, 127, 102⟩, ⟨0, 121, 132, 104⟩] (htab.trans rfl) (fun _ h => nomatch h) (by decide) (by decide) (hg _ gw_301) (va_Nw.use rfl (hK.2.1 _ (List.mem_of_getElem? (i := 6) rfl))) hce hcv hcl ?_
                      refine lv_astore (lv' := [(5, .ref q9), (0, .ref (ad 0)), (1, .int x1), (2, .int x2), (3, .int x3), (4, .int x4)]) hx hb dL_does_122 hl (by decide) rfl ?_
                      clear hl
                      intro ls hl
                      refine lv_bipush (v := (-11)) hx hb dL_does_124 (by decide +kernel) ?_
                      cases h
                      exact g_iret hx hb hr hlocks () hY.1 hY.2.1 hY.2.2 rfl rfl (Nat.le_of_ble_eq_true rfl) (Nat.le_of_ble_eq_true rfl) dL_does_126
                    rw [if_neg qE] at h
                    by_cases qE : E = "java/lang/IllegalArgumentException"
                    ·
                      rw [if_pos qE] at h
                      subst qE
                      refine vx_catch (own := RL) (name := "java/lang/IllegalArgumentException") hown [⟨0, 121, 122, 100⟩] ⟨0, 121, 127, 102⟩ [⟨0, 121, 132, 104⟩] (htab.trans rfl) (List.forall_mem_cons.mpr ⟨Or.inr ⟨by decide, "java/lang/IndexOutOfBoundsException", hg _ gw_301, hK.2.2.2.2 _ (List.mem_of_getElem? (i := 1) rfl)⟩, fun _ h => nomatch h⟩) (by decide) (by decide) (hg _ gw_302) (va_Nw.use rfl (hK.2.1 _ (List.mem_of_getElem? (i := 14) rfl))) hce hcv hcl ?_
                      refine lv_astore (lv' := [(5, .ref q9), (0, .ref (ad 0)), (1, .int x1), (2, .int x2), (3, .int x3), (4, .int x4)]) hx hb dL_does_127 hl (by decide) rfl ?_
                      clear hl
                      intro ls hl
                      refine lv_bipush (v := (-12)) hx hb dL_does_129 (by decide +kernel) ?_
                      cases h
                      exact g_iret hx hb hr hlocks () hY.1 hY.2.1 hY.2.2 rfl rfl (Nat.le_of_ble_eq_true rfl) (Nat.le_of_ble_eq_true rfl) dL_does_131
                    rw [if_neg qE] at h
                    by_cases qE : E = "java/lang/IllegalStateException"
                    ·
                      rw [if_pos qE] at h
                      subst qE
                      refine vx_catch (own := RL) (name := "java/lang/IllegalStateException") hown [⟨0, 121, 122, 100⟩, ⟨0, 121, 127, 102⟩] ⟨0, 121, 132, 104⟩ [] (htab.trans rfl) (List.forall_mem_cons.mpr ⟨Or.inr ⟨by decide, "java/lang/IndexOutOfBoundsException", hg _ gw_301, hK.2.2.2.2 _ (List.mem_of_getElem? (i := 0) rfl)⟩, List.forall_mem_cons.mpr ⟨Or.inr ⟨by decide, "java/lang/IllegalArgumentException", hg _ gw_302, hK.2.2.2.2 _ (List.mem_of_getElem? (i := 2) rfl)⟩, fun _ h => nomatch h⟩⟩) (by decide) (by decide) (hg _ gw_303) (va_Nw.use rfl (hK.2.1 _ (List.mem_of_getElem? (i := 13) rfl))) hce hcv hcl ?_
                      refine lv_astore (lv' := [(5, .ref q9), (0, .ref (ad 0)), (1, .int x1), (2, .int x2), (3, .int x3), (4, .int x4)]) hx hb dL_does_132 hl (by decide) rfl ?_
                      clear hl
                      intro ls hl
                      refine lv_bipush (v := (-13)) hx hb dL_does_134 (by decide +kernel) ?_
                      cases h
                      exact g_iret hx hb hr hlocks () hY.1 hY.2.1 hY.2.2 rfl rfl (Nat.le_of_ble_eq_true rfl) (Nat.le_of_ble_eq_true rfl) dL_does_136
                    rw [if_neg qE] at h
                    cases h
                  ·
                    clear hY
                    intro v_13 H locs hE hY
                    replace h : fL_does_121 N r_11.2 v_13 = some res := g_sml hE h
                    refine lv_goto (tgt := 121) hx hb dL_does_113 (by decide) ?_
                    refine W.widen (k := 1) (n := 6) (Nat.le_of_ble_eq_true rfl) (Nat.le_of_ble_eq_true rfl) ?_
                    exact wL_does_121 hx hb hr hml hown hg hlocks hK hA hL hfl hZ htab hY (lv_sub hl [] rfl) h
              ·
                rw [if_pos z_7] at h
                refine lv_aload_n hx hb dL_does_93 rfl (lv_at hl 0 rfl) ?_
                refine lv_iload_n hx hb dL_does_94 rfl (lv_at hl 2 rfl) ?_
                refine lv_iload_n hx hb dL_does_95 rfl (lv_at hl 3 rfl) ?_
                obtain ⟨r_14, e_15, h⟩ := g_bind h
                refine G_xai hY hA (vx_runV (As := [.int x2, .int x3]) (rest := []) ⟨hx, hb, hml, hown, hg⟩ (kTX11_revert l hfl D y aS s.heap.size L hL ad N σ x2 x3 _ e_15) (cwV 2 hg ggV_RL_91_X11_revert rfl rfl rfl (by decide +kernel) ⟨Nat.le_of_ble_eq_true rfl, Nat.le_of_ble_eq_true rfl⟩) (G_xpV (q := (RX11, TX11, 19)) hZ hA hK hY (hL 0 (by decide)) gk_0 (by decide) rfl) rfl rfl hl.1 rfl (lv_room (Nat.le_of_ble_eq_true rfl)) dL_does_96 ⟨Nat.le_of_ble_eq_true rfl, Nat.le_of_ble_eq_true rfl⟩) ?_ ?_
                ·
                  clear hY
                  intro E ce q9 H locs hE hY hce hcv hcl
                  replace h := g_smr hE h
                  try dsimp only at h
                  by_cases qE : E = "java/lang/IndexOutOfBoundsException"
                  ·
                    rw [if_pos qE] at h
                    subst qE
                    refine vx_catch (own := RL) (name := "java/lang/IndexOutOfBoundsException") hown [] ⟨0, 121, 122, 100⟩ [⟨0, 121, 127, 102⟩, ⟨0, 121, 132, 104⟩] (htab.trans rfl) (fun _ h => nomatch h) (by decide) (by decide) (hg _ gw_301) (va_Nw.use rfl (hK.2.1 _ (List.mem_of_getElem? (i := 6) rfl))) hce hcv hcl ?_
                    refine lv_astore (lv' := [(5, .ref q9), (0, .ref (ad 0)), (1, .int x1), (2, .int x2), (3, .int x3), (4, .int x4)]) hx hb dL_does_122 hl (by decide) rfl ?_
                    clear hl
                    intro ls hl
                    refine lv_bipush (v := (-11)) hx hb dL_does_124 (by decide +kernel) ?_
                    cases h
                    exact g_iret hx hb hr hlocks () hY.1 hY.2.1 hY.2.2 rfl rfl (Nat.le_of_ble_eq_true rfl) (Nat.le_of_ble_eq_true rfl) dL_does_126
                  rw [if_neg qE] at h
                  by_cases qE : E = "java/lang/IllegalArgumentException"
                  ·
                    rw [if_pos qE] at h
                    subst qE
                    refine vx_catch (own := RL) (name := "java/lang/IllegalArgumentException") hown [⟨0, 121, 122, 100⟩] ⟨0, 121, 127, 102⟩ [⟨0, 121, 132, 104⟩] (htab.trans rfl) (List.forall_mem_cons.mpr ⟨Or.inr ⟨by decide, "java/lang/IndexOutOfBoundsException", hg _ gw_301, hK.2.2.2.2 _ (List.mem_of_getElem? (i := 1) rfl)⟩, fun _ h => nomatch h⟩) (by decide) (by decide) (hg _ gw_302) (va_Nw.use rfl (hK.2.1 _ (List.mem_of_getElem? (i := 14) rfl))) hce hcv hcl ?_
                    refine lv_astore (lv' := [(5, .ref q9), (0, .ref (ad 0)), (1, .int x1), (2, .int x2), (3, .int x3), (4, .int x4)]) hx hb dL_does_127 hl (by decide) rfl ?_
                    clear hl
                    intro ls hl
                    refine lv_bipush (v := (-12)) hx hb dL_does_129 (by decide +kernel) ?_
                    cases h
                    exact g_iret hx hb hr hlocks () hY.1 hY.2.1 hY.2.2 rfl rfl (Nat.le_of_ble_eq_true rfl) (Nat.le_of_ble_eq_true rfl) dL_does_131
                  rw [if_neg qE] at h
                  by_cases qE : E = "java/lang/IllegalStateException"
                  ·
                    rw [if_pos qE] at h
                    subst qE
                    refine vx_catch (own := RL) (name := "java/lang/IllegalStateException") hown [⟨0, 121, 122, 100⟩, ⟨0, 121, 127, 102⟩] ⟨0, 121, 132, 104⟩ [] (htab.trans rfl) (List.forall_mem_cons.mpr ⟨Or.inr ⟨by decide, "java/lang/IndexOutOfBoundsException", hg _ gw_301, hK.2.2.2.2 _ (List.mem_of_getElem? (i := 0) rfl)⟩, List.forall_mem_cons.mpr ⟨Or.inr ⟨by decide, "java/lang/IllegalArgumentException", hg _ gw_302, hK.2.2.2.2 _ (List.mem_of_getElem? (i := 2) rfl)⟩, fun _ h => nomatch h⟩⟩) (by decide) (by decide) (hg _ gw_303) (va_Nw.use rfl (hK.2.1 _ (List.mem_of_getElem? (i := 13) rfl))) hce hcv hcl ?_
                    refine lv_astore (lv' := [(5, .ref q9), (0, .ref (ad 0)), (1, .int x1), (2, .int x2), (3, .int x3), (4, .int x4)]) hx hb dL_does_132 hl (by decide) rfl ?_
                    clear hl
                    intro ls hl
                    refine lv_bipush (v := (-13)) hx hb dL_does_134 (by decide +kernel) ?_
                    cases h
                    exact g_iret hx hb hr hlocks () hY.1 hY.2.1 hY.2.2 rfl rfl (Nat.le_of_ble_eq_true rfl) (Nat.le_of_ble_eq_true rfl) dL_does_136
                  rw [if_neg qE] at h
                  cases h
                ·
                  clear hY
                  intro v_16 H locs hE hY
                  replace h : fL_does_121 N r_14.2 v_16 = some res := g_sml hE h
                  refine lv_goto (tgt := 121) hx hb dL_does_99 (by decide) ?_
                  refine W.widen (k := 1) (n := 6) (Nat.le_of_ble_eq_true rfl) (Nat.le_of_ble_eq_true rfl) ?_
                  exact wL_does_121 hx hb hr hml hown hg hlocks hK hA hL hfl hZ htab hY (lv_sub hl [] rfl) h
            ·
              rw [if_pos z_6] at h
              refine lv_aload_n hx hb dL_does_79 rfl (lv_at hl 0 rfl) ?_
              refine lv_iload_n hx hb dL_does_80 rfl (lv_at hl 2 rfl) ?_
              obtain ⟨r_17, e_18, h⟩ := g_bind h
              refine G_xai hY hA (vx_runV (As := [.int x2]) (rest := []) ⟨hx, hb, hml, hown, hg⟩ (kTX11_drop l hfl D y aS s.heap.size L hL ad N σ x2 _ e_18) (cwV 1 hg ggV_RL_88_X11_drop rfl rfl rfl (by decide +kernel) ⟨Nat.le_of_ble_eq_true rfl, Nat.le_of_ble_eq_true rfl⟩) (G_xpV (q := (RX11, TX11, 19)) hZ hA hK hY (hL 0 (by decide)) gk_0 (by decide) rfl) rfl rfl hl.1 rfl (lv_room (Nat.le_of_ble_eq_true rfl)) dL_does_81 ⟨Nat.le_of_ble_eq_true rfl, Nat.le_of_ble_eq_true rfl⟩) ?_ ?_
              ·
                clear hY
                intro E ce q9 H locs hE hY hce hcv hcl
                replace h := g_smr hE h
                try dsimp only at h
                by_cases qE : E = "java/lang/IndexOutOfBoundsException"
                ·
                  rw [if_pos qE] at h
                  subst qE
                  refine vx_catch (own := RL) (name := "java/lang/IndexOutOfBoundsException") hown [] ⟨0, 121, 122, 100⟩ [⟨0, 121, 127, 102⟩, ⟨0, 121, 132, 104⟩] (htab.trans rfl) (fun _ h => nomatch h) (by decide) (by decide) (hg _ gw_301) (va_Nw.use rfl (hK.2.1 _ (List.mem_of_getElem? (i := 6) rfl))) hce hcv hcl ?_
                  refine lv_astore (lv' := [(5, .ref q9), (0, .ref (ad 0)), (1, .int x1), (2, .int x2), (3, .int x3), (4, .int x4)]) hx hb dL_does_122 hl (by decide) rfl ?_
                  clear hl
                  intro ls hl
                  refine lv_bipush (v := (-11)) hx hb dL_does_124 (by decide +kernel) ?_
                  cases h
                  exact g_iret hx hb hr hlocks () hY.1 hY.2.1 hY.2.2 rfl rfl (Nat.le_of_ble_eq_true rfl) (Nat.le_of_ble_eq_true rfl) dL_does_126
                rw [if_neg qE] at h
                by_cases qE : E = "java/lang/IllegalArgumentException"
                ·
                  rw [if_pos qE] at h
                  subst qE
                  refine vx_catch (own := RL) (name := "java/lang/IllegalArgumentException") hown [⟨0, 121, 122, 100⟩] ⟨0, 121, 127, 102⟩ [⟨0, 121, 132, 104⟩] (htab.trans rfl) (List.forall_mem_cons.mpr ⟨Or.inr ⟨by decide, "java/lang/IndexOutOfBoundsException", hg _ gw_301, hK.2.2.2.2 _ (List.mem_of_getElem? (i := 1) rfl)⟩, fun _ h => nomatch h⟩) (by decide) (by decide) (hg _ gw_302) (va_Nw.use rfl (hK.2.1 _ (List.mem_of_getElem? (i := 14) rfl))) hce hcv hcl ?_
                  refine lv_astore (lv' := [(5, .ref q9), (0, .ref (ad 0)), (1, .int x1), (2, .int x2), (3, .int x3), (4, .int x4)]) hx hb dL_does_127 hl (by decide) rfl ?_
                  clear hl
                  intro ls hl
                  refine lv_bipush (v := (-12)) hx hb dL_does_129 (by decide +kernel) ?_
                  cases h
                  exact g_iret hx hb hr hlocks () hY.1 hY.2.1 hY.2.2 rfl rfl (Nat.le_of_ble_eq_true rfl) (Nat.le_of_ble_eq_true rfl) dL_does_131
                rw [if_neg qE] at h
                by_cases qE : E = "java/lang/IllegalStateException"
                ·
                  rw [if_pos qE] at h
                  subst qE
                  refine vx_catch (own := RL) (name := "java/lang/IllegalStateException") hown [⟨0, 121, 122, 100⟩, ⟨0, 121, 127, 102⟩] ⟨0, 121, 132, 104⟩ [] (htab.trans rfl) (List.forall_mem_cons.mpr ⟨Or.inr ⟨by decide, "java/lang/IndexOutOfBoundsException", hg _ gw_301, hK.2.2.2.2 _ (List.mem_of_getElem? (i := 0) rfl)⟩, List.forall_mem_cons.mpr ⟨Or.inr ⟨by decide, "java/lang/IllegalArgumentException", hg _ gw_302, hK.2.2.2.2 _ (List.mem_of_getElem? (i := 2) rfl)⟩, fun _ h => nomatch h⟩⟩) (by decide) (by decide) (hg _ gw_303) (va_Nw.use rfl (hK.2.1 _ (List.mem_of_getElem? (i := 13) rfl))) hce hcv hcl ?_
                  refine lv_astore (lv' := [(5, .ref q9), (0, .ref (ad 0)), (1, .int x1), (2, .int x2), (3, .int x3), (4, .int x4)]) hx hb dL_does_132 hl (by decide) rfl ?_
                  clear hl
                  intro ls hl
                  refine lv_bipush (v := (-13)) hx hb dL_does_134 (by decide +kernel) ?_
                  cases h
                  exact g_iret hx hb hr hlocks () hY.1 hY.2.1 hY.2.2 rfl rfl (Nat.le_of_ble_eq_true rfl) (Nat.le_of_ble_eq_true rfl) dL_does_136
                rw [if_neg qE] at h
                cases h
              ·
                clear hY
                intro v_19 H locs hE hY
                replace h : fL_does_121 N r_17.2 v_19 = some res := g_sml hE h
                refine lv_goto (tgt := 121) hx hb dL_does_84 (by decide) ?_
                refine W.widen (k := 1) (n := 6) (Nat.le_of_ble_eq_true rfl) (Nat.le_of_ble_eq_true rfl) ?_
                exact wL_does_121 hx hb hr hml hown hg hlocks hK hA hL hfl hZ htab hY (lv_sub hl [] rfl) h
          ·
            rw [if_pos z_5] at h
            refine lv_aload_n hx hb dL_does_65 rfl (lv_at hl 0 rfl) ?_
            refine lv_iload_n hx hb dL_does_66 rfl (lv_at hl 2 rfl) ?_
            refine lv_iload_n hx hb dL_does_67 rfl (lv_at hl 3 rfl) ?_
            obtain ⟨r_20, e_21, h⟩ := g_bind h
            refine G_xai hY hA (vx_runV (As := [.int x2, .int x3]) (rest := []) ⟨hx, hb, hml, hown, hg⟩ (kTX11_queue l hfl D y aS s.heap.size L hL ad N σ x2 x3 _ e_21) (cwV 2 hg ggV_RL_85_X11_queue rfl rfl rfl (by decide +kernel) ⟨Nat.le_of_ble_eq_true rfl, Nat.le_of_ble_eq_true rfl⟩) (G_xpV (q := (RX11, TX11, 19)) hZ hA hK hY (hL 0 (by decide)) gk_0 (by decide) rfl) rfl rfl hl.1 rfl (lv_room (Nat.le_of_ble_eq_true rfl)) dL_does_68 ⟨Nat.le_of_ble_eq_true rfl, Nat.le_of_ble_eq_true rfl⟩) ?_ ?_
            ·
              clear hY
              intro E ce q9 H locs hE hY hce hcv hcl
              replace h := g_smr hE h
              try dsimp only at h
              by_cases qE : E = "java/lang/IndexOutOfBoundsException"
              ·
                rw [if_pos qE] at h
                subst qE
                refine vx_catch (own := RL) (name := "java/lang/IndexOutOfBoundsException") hown [] ⟨0, 121, 122, 100⟩ [⟨0, 121, 127, 102⟩, ⟨0, 121, 132, 104⟩] (htab.trans rfl) (fun _ h => nomatch h) (by decide) (by decide) (hg _ gw_301) (va_Nw.use rfl (hK.2.1 _ (List.mem_of_getElem? (i := 6) rfl))) hce hcv hcl ?_
                refine lv_astore (lv' := [(5, .ref q9), (0, .ref (ad 0)), (1, .int x1), (2, .int x2), (3, .int x3), (4, .int x4)]) hx hb dL_does_122 hl (by decide) rfl ?_
                clear hl
                intro ls hl
                refine lv_bipush (v := (-11)) hx hb dL_does_124 (by decide +kernel) ?_
                cases h
                exact g_iret hx hb hr hlocks () hY.1 hY.2.1 hY.2.2 rfl rfl (Nat.le_of_ble_eq_true rfl) (Nat.le_of_ble_eq_true rfl) dL_does_126
              rw [if_neg qE] at h
              by_cases qE : E = "java/lang/IllegalArgumentException"
              ·
                rw [if_pos qE] at h
                subst qE
                refine vx_catch (own := RL) (name := "java/lang/IllegalArgumentException") hown [⟨0, 121, 122, 100⟩] ⟨0, 121, 127, 102⟩ [⟨0, 121, 132, 104⟩] (htab.trans rfl) (List.forall_mem_cons.mpr ⟨Or.inr ⟨by decide, "java/lang/IndexOutOfBoundsException", hg _ gw_301, hK.2.2.2.2 _ (List.mem_of_getElem? (i := 1) rfl)⟩, fun _ h => nomatch h⟩) (by decide) (by decide) (hg _ gw_302) (va_Nw.use rfl (hK.2.1 _ (List.mem_of_getElem? (i := 14) rfl))) hce hcv hcl ?_
                refine lv_astore (lv' := [(5, .ref q9), (0, .ref (ad 0)), (1, .int x1), (2, .int x2), (3, .int x3), (4, .int x4)]) hx hb dL_does_127 hl (by decide) rfl ?_
                clear hl
                intro ls hl
                refine lv_bipush (v := (-12)) hx hb dL_does_129 (by decide +kernel) ?_
                cases h
                exact g_iret hx hb hr hlocks () hY.1 hY.2.1 hY.2.2 rfl rfl (Nat.le_of_ble_eq_true rfl) (Nat.le_of_ble_eq_true rfl) dL_does_131
              rw [if_neg qE] at h
              by_cases qE : E = "java/lang/IllegalStateException"
              ·
                rw [if_pos qE] at h
                subst qE
                refine vx_catch (own := RL) (name := "java/lang/IllegalStateException") hown [⟨0, 121, 122, 100⟩, ⟨0, 121, 127, 102⟩] ⟨0, 121, 132, 104⟩ [] (htab.trans rfl) (List.forall_mem_cons.mpr ⟨Or.inr ⟨by decide, "java/lang/IndexOutOfBoundsException", hg _ gw_301, hK.2.2.2.2 _ (List.mem_of_getElem? (i := 0) rfl)⟩, List.forall_mem_cons.mpr ⟨Or.inr ⟨by decide, "java/lang/IllegalArgumentException", hg _ gw_302, hK.2.2.2.2 _ (List.mem_of_getElem? (i := 2) rfl)⟩, fun _ h => nomatch h⟩⟩) (by decide) (by decide) (hg _ gw_303) (va_Nw.use rfl (hK.2.1 _ (List.mem_of_getElem? (i := 13) rfl))) hce hcv hcl ?_
                refine lv_astore (lv' := [(5, .ref q9), (0, .ref (ad 0)), (1, .int x1), (2, .int x2), (3, .int x3), (4, .int x4)]) hx hb dL_does_132 hl (by decide) rfl ?_
                clear hl
                intro ls hl
                refine lv_bipush (v := (-13)) hx hb dL_does_134 (by decide +kernel) ?_
                cases h
                exact g_iret hx hb hr hlocks () hY.1 hY.2.1 hY.2.2 rfl rfl (Nat.le_of_ble_eq_true rfl) (Nat.le_of_ble_eq_true rfl) dL_does_136
              rw [if_neg qE] at h
              cases h
            ·
              clear hY
              intro v_22 H locs hE hY
              replace h : fL_does_121 N r_20.2 v_22 = some res := g_sml hE h
              refine lv_goto (tgt := 121) hx hb dL_does_71 (by decide) ?_
              refine W.widen (k := 1) (n := 6) (Nat.le_of_ble_eq_true rfl) (Nat.le_of_ble_eq_true rfl) ?_
              exact wL_does_121 hx hb hr hml hown hg hlocks hK hA hL hfl hZ htab hY (lv_sub hl [] rfl) h
        ·
          rw [if_pos z_4] at h
          refine lv_aload_n hx hb dL_does_52 rfl (lv_at hl 0 rfl) ?_
          refine lv_iload_n hx hb dL_does_53 rfl (lv_at hl 2 rfl) ?_
          obtain ⟨r_23, e_24, h⟩ := g_bind h
          refine G_ai hY hA (va_runV (As := [.int x2]) (rest := []) ⟨hx, hb, hml, hown, hg⟩ (kX11_rebase l D y aS s.heap.size L hL ad N σ x2 _ e_24) (cwV 1 hg ggV_RL_81_X11_rebase rfl rfl rfl (by decide +kernel) ⟨Nat.le_of_ble_eq_true rfl, Nat.le_of_ble_eq_true rfl⟩) (G_pV (q := (RX11, TX11, 19)) hK hY (hL 0 (by decide)) gk_0 (by decide) rfl) rfl rfl hl.1 rfl (lv_room (Nat.le_of_ble_eq_true rfl)) dL_does_54 ⟨Nat.le_of_ble_eq_true rfl, Nat.le_of_ble_eq_true rfl⟩) ?_
          clear hY
          rintro _ H locs rfl hY
          refine lv_goto (tgt := 121) hx hb dL_does_57 (by decide) ?_
          refine W.widen (k := 1) (n := 6) (Nat.le_of_ble_eq_true rfl) (Nat.le_of_ble_eq_true rfl) ?_
          exact wL_does_121 hx hb hr hml hown hg hlocks hK hA hL hfl hZ htab hY (lv_sub hl [] rfl) h
      ·
        rw [if_pos z_3] at h
        refine lv_aload_n hx hb dL_does_40 rfl (lv_at hl 0 rfl) ?_
        obtain ⟨r_25, e_26, h⟩ := g_bind h
        refine G_ai hY hA (va_runV (As := []) (rest := []) ⟨hx, hb, hml, hown, hg⟩ (kX11_make l D y aS s.heap.size L hL ad N σ _ e_26) (cwV 0 hg ggV_RL_77_X11_make rfl rfl rfl (by decide +kernel) ⟨Nat.le_of_ble_eq_true rfl, Nat.le_of_ble_eq_true rfl⟩) (G_pV (q := (RX11, TX11, 19)) hK hY (hL 0 (by decide)) gk_0 (by decide) rfl) rfl rfl hl.1 rfl (lv_room (Nat.le_of_ble_eq_true rfl)) dL_does_41 ⟨Nat.le_of_ble_eq_true rfl, Nat.le_of_ble_eq_true rfl⟩) ?_
        clear hY
        rintro _ H locs rfl hY
        refine lv_goto (tgt := 121) hx hb dL_does_44 (by decide) ?_
        refine W.widen (k := 1) (n := 6) (Nat.le_of_ble_eq_true rfl) (Nat.le_of_ble_eq_true rfl) ?_
        exact wL_does_121 hx hb hr hml hown hg hlocks hK hA hL hfl hZ htab hY (lv_sub hl [] rfl) h
    ·
      rw [if_pos z_2] at h
      refine lv_aload_n hx hb dL_does_26 rfl (lv_at hl 0 rfl) ?_
      refine lv_iload_n hx hb dL_does_27 rfl (lv_at hl 2 rfl) ?_
      refine lv_iload_n hx hb dL_does_28 rfl (lv_at hl 3 rfl) ?_
      obtain ⟨r_27, e_28, h⟩ := g_bind h
      refine G_ai hY hA (va_runV (As := [.int x2, .int x3]) (rest := []) ⟨hx, hb, hml, hown, hg⟩ (kX11_edit l D y aS s.heap.size L hL ad N σ x2 x3 _ e_28) (cwV 2 hg ggV_RL_73_X11_edit rfl rfl rfl (by decide +kernel) ⟨Nat.le_of_ble_eq_true rfl, Nat.le_of_ble_eq_true rfl⟩) (G_pV (q := (RX11, TX11, 19)) hK hY (hL 0 (by decide)) gk_0 (by decide) rfl) rfl rfl hl.1 rfl (lv_room (Nat.le_of_ble_eq_true rfl)) dL_does_29 ⟨Nat.le_of_ble_eq_true rfl, Nat.le_of_ble_eq_true rfl⟩) ?_
      clear hY
      rintro _ H locs rfl hY
      refine lv_goto (tgt := 121) hx hb dL_does_32 (by decide) ?_
      refine W.widen (k := 1) (n := 6) (Nat.le_of_ble_eq_true rfl) (Nat.le_of_ble_eq_true rfl) ?_
      exact wL_does_121 hx hb hr hml hown hg hlocks hK hA hL hfl hZ htab hY (lv_sub hl [] rfl) h
  ·
    rw [if_pos z_1] at h
    refine lv_aload_n hx hb dL_does_4 rfl (lv_at hl 0 rfl) ?_
    refine lv_iload_n hx hb dL_does_5 rfl (lv_at hl 2 rfl) ?_
    refine lv_iload_n hx hb dL_does_6 rfl (lv_at hl 3 rfl) ?_
    obtain ⟨r_29, e_30, h⟩ := g_bind h
    refine G_ai hY hA (va_runV (As := [.int x2, .int x3]) (rest := []) ⟨hx, hb, hml, hown, hg⟩ (kX11_begin l D y aS s.heap.size L hL ad N σ x2 x3 _ e_30) (cwV 2 hg ggV_RL_67_X11_begin rfl rfl rfl (by decide +kernel) ⟨Nat.le_of_ble_eq_true rfl, Nat.le_of_ble_eq_true rfl⟩) (G_pV (q := (RX11, TX11, 19)) hK hY (hL 0 (by decide)) gk_0 (by decide) rfl) rfl rfl hl.1 rfl (lv_room (Nat.le_of_ble_eq_true rfl)) dL_does_7 ⟨Nat.le_of_ble_eq_true rfl, Nat.le_of_ble_eq_true rfl⟩) ?_
    clear hY
    rintro _ H locs rfl hY
    refine lv_if_eq (tgt := 17) hx hb dL_does_10 (by decide) (fun z_31 => ?_) (fun z_31 => ?_)
    ·
      rw [if_pos z_31] at h
      refine lv_iconst (v := 0) hx hb dL_does_17 (by decide) ?_
      refine lv_goto (tgt := 121) hx hb dL_does_18 (by decide) ?_
      refine W.widen (k := 1) (n := 6) (Nat.le_of_ble_eq_true rfl) (Nat.le_of_ble_eq_true rfl) ?_
      exact wL_does_121 hx hb hr hml hown hg hlocks hK hA hL hfl hZ htab hY (lv_sub hl [] rfl) h
    ·
      rw [if_neg z_31] at h
      refine lv_iconst (v := 1) hx hb dL_does_13 (by decide) ?_
      refine lv_goto (tgt := 121) hx hb dL_does_14 (by decide) ?_
      refine W.widen (k := 1) (n := 6) (Nat.le_of_ble_eq_true rfl) (Nat.le_of_ble_eq_true rfl) ?_
      exact wL_does_121 hx hb hr hml hown hg hlocks hK hA hL hfl hZ htab hY (lv_sub hl [] rfl) h
