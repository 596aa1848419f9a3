def dt1_X8_get : List (Nat × Instr × Nat) := [(23, (.lreturn, 1)), (22, (.lconst 0, 1)), (0, (.iload_n 1, 1)), (1, (.ifCond .lt 21, 3)), (4, (.iload_n 1, 1)), (5, (.aload_n 0, 1)), (6, (.getfield 9, 3)), (9, (.arraylength, 1)), (10, (.if_icmp .ge 12, 3)), (13, (.aload_n 0, 1)), (14, (.getfield 9, 3)), (17, (.iload_n 1, 1)), (18, (.laload, 1)), (19, (.goto 4, 3))]
theorem dt1_X8_get_ok : ∀ q ∈ dt1_X8_get, decode cX8_get q.1 = .ok q.2 := by decide +kernel
theorem dX8_get_23 : decode cX8_get 23 = .ok (.lreturn, 1) := g_dec dt1_X8_get_ok (k := 0) rfl
theorem dX8_get_22 : decode cX8_get 22 = .ok (.lconst 0, 1) := g_dec dt1_X8_get_ok (k := 1) rfl
theorem dX8_get_0 : decode cX8_get 0 = .ok (.iload_n 1, 1) := g_dec dt1_X8_get_ok (k := 2) rfl
theorem dX8_get_1 : decode cX8_get 1 = .ok (.ifCond .lt 21, 3) := g_dec dt1_X8_get_ok (k := 3) rfl
theorem dX8_get_4 : decode cX8_get 4 = .ok (.iload_n 1, 1) := g_dec dt1_X8_get_ok (k := 4) rfl
theorem dX8_get_5 : decode cX8_get 5 = .ok (.aload_n 0, 1) := g_dec dt1_X8_get_ok (k := 5) rfl
theorem dX8_get_6 : decode cX8_get 6 = .ok (.getfield 9, 3) := g_dec dt1_X8_get_ok (k := 6) rfl
theorem dX8_get_9 : decode cX8_get 9 = .ok (.arraylength, 1) := g_dec dt1_X8_get_ok (k := 7) rfl
theorem dX8_get_10 : decode cX8_get 10 = .ok (.if_icmp .ge 12, 3) := g_dec dt1_X8_get_ok (k := 8) rfl
theorem dX8_get_13 : decode cX8_get 13 = .ok (.aload_n 0, 1) := g_dec dt1_X8_get_ok (k := 9) rfl
theorem dX8_get_14 : decode cX8_get 14 = .ok (.getfield 9, 3) := g_dec dt1_X8_get_ok (k := 10) rfl
theorem dX8_get_17 : decode cX8_get 17 = .ok (.iload_n 1, 1) := g_dec dt1_X8_get_ok (k := 11) rfl
theorem dX8_get_18 : decode cX8_get 18 = .ok (.laload, 1) := g_dec dt1_X8_get_ok (k := 12) rfl
theorem dX8_get_19 : decode cX8_get 19 = .ok (.goto 4, 3) := g_dec dt1_X8_get_ok (k := 13) rfl
def dt2_X8_whole : List (Nat × Instr × Nat) := [(24, (.ireturn, 1)), (23, (.iconst 0, 1)), (0, (.iload_n 1, 1)), (1, (.ifCond .lt 22, 3)), (4, (.iload_n 1, 1)), (5, (.aload_n 0, 1)), (6, (.getfield 9, 3)), (9, (.arraylength, 1)), (10, (.if_icmp .ge 13, 3)), (13, (.aload_n 0, 1)), (14, (.getfield 9, 3)), (17, (.iload_n 1, 1)), (18, (.laload, 1)), (19, (.l2i, 1)), (20, (.goto 4, 3))]
theorem dt2_X8_whole_ok : ∀ q ∈ dt2_X8_whole, decode cX8_whole q.1 = .ok q.2 := by decide +kernel
theorem dX8_whole_24 : decode cX8_whole 24 = .ok (.ireturn, 1) := g_dec dt2_X8_whole_ok (k := 0) rfl
theorem dX8_whole_23 : decode cX8_whole 23 = .ok (.iconst 0, 1) := g_dec dt2_X8_whole_ok (k := 1) rfl
theorem dX8_whole_0 : decode cX8_whole 0 = .ok (.iload_n 1, 1) := g_dec dt2_X8_whole_ok (k := 2) rfl
theorem dX8_whole_1 : decode cX8_whole 1 = .ok (.ifCond .lt 22, 3) := g_dec dt2_X8_whole_ok (k := 3) rfl
theorem dX8_whole_4 : decode cX8_whole 4 = .ok (.iload_n 1, 1) := g_dec dt2_X8_whole_ok (k := 4) rfl
theorem dX8_whole_5 : decode cX8_whole 5 = .ok (.aload_n 0, 1) := g_dec dt2_X8_whole_ok (k := 5) rfl
theorem dX8_whole_6 : decode cX8_whole 6 = .ok (.getfield 9, 3) := g_dec dt2_X8_whole_ok (k := 6) rfl
theorem dX8_whole_9 : decode cX8_whole 9 = .ok (.arraylength, 1) := g_dec dt2_X8_whole_ok (k := 7) rfl
theorem dX8_whole_10 : decode cX8_whole 10 = .ok (.if_icmp .ge 13, 3) := g_dec dt2_X8_whole_ok (k := 8) rfl
theorem dX8_whole_13 : decode cX8_whole 13 = .ok (.aload_n 0, 1) := g_dec dt2_X8_whole_ok (k := 9) rfl
theorem dX8_whole_14 : decode cX8_whole 14 = .ok (.getfield 9, 3) := g_dec dt2_X8_whole_ok (k := 10) rfl
theorem dX8_whole_17 : decode cX8_whole 17 = .ok (.iload_n 1, 1) := g_dec dt2_X8_whole_ok (k := 11) rfl
theorem dX8_whole_18 : decode cX8_whole 18 = .ok (.laload, 1) := g_dec dt2_X8_whole_ok (k := 12) rfl
theorem dX8_whole_19 : decode cX8_whole 19 = .ok (.l2i, 1) := g_dec dt2_X8_whole_ok (k := 13) rfl
theorem dX8_whole_20 : decode cX8_whole 20 = .ok (.goto 4, 3) := g_dec dt2_X8_whole_ok (k := 14) rfl
def dt3_X8_set : List (Nat × Instr × Nat) := [(20, (.return_, 1)), (0, (.iload_n 1, 1)), (1, (.ifCond .lt 19, 3)), (4, (.iload_n 1, 1)), (5, (.aload_n 0, 1)), (6, (.getfield 9, 3)), (9, (.arraylength, 1)), (10, (.if_icmp .ge 10, 3)), (13, (.aload_n 0, 1)), (14, (.getfield 9, 3)), (17, (.iload_n 1, 1)), (18, (.lload_n 2, 1)), (19, (.lastore, 1))]
theorem dt3_X8_set_ok : ∀ q ∈ dt3_X8_set, decode cX8_set q.1 = .ok q.2 := by decide +kernel
theorem dX8_set_20 : decode cX8_set 20 = .ok (.return_, 1) := g_dec dt3_X8_set_ok (k := 0) rfl
theorem dX8_set_0 : decode cX8_set 0 = .ok (.iload_n 1, 1) := g_dec dt3_X8_set_ok (k := 1) rfl
theorem dX8_set_1 : decode cX8_set 1 = .ok (.ifCond .lt 19, 3) := g_dec dt3_X8_set_ok (k := 2) rfl
theorem dX8_set_4 : decode cX8_set 4 = .ok (.iload_n 1, 1) := g_dec dt3_X8_set_ok (k := 3) rfl
theorem dX8_set_5 : decode cX8_set 5 = .ok (.aload_n 0, 1) := g_dec dt3_X8_set_ok (k := 4) rfl
theorem dX8_set_6 : decode cX8_set 6 = .ok (.getfield 9, 3) := g_dec dt3_X8_set_ok (k := 5) rfl
theorem dX8_set_9 : decode cX8_set 9 = .ok (.arraylength, 1) := g_dec dt3_X8_set_ok (k := 6) rfl
theorem dX8_set_10 : decode cX8_set 10 = .ok (.if_icmp .ge 10, 3) := g_dec dt3_X8_set_ok (k := 7) rfl
theorem dX8_set_13 : decode cX8_set 13 = .ok (.aload_n 0, 1) := g_dec dt3_X8_set_ok (k := 8) rfl
theorem dX8_set_14 : decode cX8_set 14 = .ok (.getfield 9, 3) := g_dec dt3_X8_set_ok (k := 9) rfl
theorem dX8_set_17 : decode cX8_set 17 = .ok (.iload_n 1, 1) := g_dec dt3_X8_set_ok (k := 10) rfl
theorem dX8_set_18 : decode cX8_set 18 = .ok (.lload_n 2, 1) := g_dec dt3_X8_set_ok (k := 11) rfl
theorem dX8_set_19 : decode cX8_set 19 = .ok (.lastore, 1) := g_dec dt3_X8_set_ok (k := 12) rfl
def dt4_X8_add : List (Nat × Instr × Nat) := [(39, (.return_, 1)), (0, (.aload_n 0, 1)), (1, (.getfield 15, 3)), (4, (.ifCond .lt 35, 3)), (7, (.aload_n 0, 1)), (8, (.getfield 15, 3)), (11, (.aload_n 0, 1)), (12, (.getfield 9, 3)), (15, (.arraylength, 1)), (16, (.if_icmp .ge 23, 3)), (19, (.aload_n 0, 1)), (20, (.getfield 9, 3)), (23, (.aload_n 0, 1)), (24, (.getfield 15, 3)), (27, (.lload_n 1, 1)), (28, (.lastore, 1)), (29, (.aload_n 0, 1)), (30, (.dup, 1)), (31, (.getfield 15, 3)), (34, (.iconst 1, 1)), (35, (.iadd, 1)), (36, (.putfield 15, 3))]
theorem dt4_X8_add_ok : ∀ q ∈ dt4_X8_add, decode cX8_add q.1 = .ok q.2 := by decide +kernel
theorem dX8_add_39 : decode cX8_add 39 = .ok (.return_, 1) := g_dec dt4_X8_add_ok (k := 0) rfl
theorem dX8_add_0 : decode cX8_add 0 = .ok (.aload_n 0, 1) := g_dec dt4_X8_add_ok (k := 1) rfl
theorem dX8_add_1 : decode cX8_add 1 = .ok (.getfield 15, 3) := g_dec dt4_X8_add_ok (k := 2) rfl
theorem dX8_add_4 : decode cX8_add 4 = .ok (.ifCond .lt 35, 3) := g_dec dt4_X8_add_ok (k := 3) rfl
theorem dX8_add_7 : decode cX8_add 7 = .ok (.aload_n 0, 1) := g_dec dt4_X8_add_ok (k := 4) rfl
theorem dX8_add_8 : decode cX8_add 8 = .ok (.getfield 15, 3) := g_dec dt4_X8_add_ok (k := 5) rfl
theorem dX8_add_11 : decode cX8_add 11 = .ok (.aload_n 0, 1) := g_dec dt4_X8_add_ok (k := 6) rfl
theorem dX8_add_12 : decode cX8_add 12 = .ok (.getfield 9, 3) := g_dec dt4_X8_add_ok (k := 7) rfl
theorem dX8_add_15 : decode cX8_add 15 = .ok (.arraylength, 1) := g_dec dt4_X8_add_ok (k := 8) rfl
theorem dX8_add_16 : decode cX8_add 16 = .ok (.if_icmp .ge 23, 3) := g_dec dt4_X8_add_ok (k := 9) rfl
theorem dX8_add_19 : decode cX8_add 19 = .ok (.aload_n 0, 1) := g_dec dt4_X8_add_ok (k := 10) rfl
theorem dX8_add_20 : decode cX8_add 20 = .ok (.getfield 9, 3) := g_dec dt4_X8_add_ok (k := 11) rfl
theorem dX8_add_23 : decode cX8_add 23 = .ok (.aload_n 0, 1) := g_dec dt4_X8_add_ok (k := 12) rfl
theorem dX8_add_24 : decode cX8_add 24 = .ok (.getfield 15, 3) := g_dec dt4_X8_add_ok (k := 13) rfl
theorem dX8_add_27 : decode cX8_add 27 = .ok (.lload_n 1, 1) := g_dec dt4_X8_add_ok (k := 14) rfl
theorem dX8_add_28 : decode cX8_add 28 = .ok (.lastore, 1) := g_dec dt4_X8_add_ok (k := 15) rfl
theorem dX8_add_29 : decode cX8_add 29 = .ok (.aload_n 0, 1) := g_dec dt4_X8_add_ok (k := 16) rfl
theorem dX8_add_30 : decode cX8_add 30 = .ok (.dup, 1) := g_dec dt4_X8_add_ok (k := 17) rfl
theorem dX8_add_31 : decode cX8_add 31 = .ok (.getfield 15, 3) := g_dec dt4_X8_add_ok (k := 18) rfl
theorem dX8_add_34 : decode cX8_add 34 = .ok (.iconst 1, 1) := g_dec dt4_X8_add_ok (k := 19) rfl
theorem dX8_add_35 : decode cX8_add 35 = .ok (.iadd, 1) := g_dec dt4_X8_add_ok (k := 20) rfl
theorem dX8_add_36 : decode cX8_add 36 = .ok (.putfield 15, 3) := g_dec dt4_X8_add_ok (k := 21) rfl
def dt5_X8_placeOf : List (Nat × Instr × Nat) := [(38, (.iconst (-1), 1)), (39, (.ireturn, 1)), (2, (.iload_n 3, 1)), (3, (.aload_n 0, 1)), (4, (.getfield 15, 3)), (7, (.if_icmp .ge 31, 3)), (10, (.iload_n 3, 1)), (11, (.aload_n 0, 1)), (12, (.getfield 9, 3)), (15, (.arraylength, 1)), (16, (.if_icmp .ge 22, 3)), (19, (.aload_n 0, 1)), (20, (.getfield 9, 3)), (23, (.iload_n 3, 1)), (24, (.laload, 1)), (25, (.lload_n 1, 1)), (26, (.lcmp, 1)), (27, (.ifCond .ne 5, 3)), (32, (.iinc 3 1, 3)), (35, (.goto (-33), 3)), (30, (.iload_n 3, 1)), (31, (.ireturn, 1)), (0, (.iconst 0, 1)), (1, (.istore_n 3, 1))]
theorem dt5_X8_placeOf_ok : ∀ q ∈ dt5_X8_placeOf, decode cX8_placeOf q.1 = .ok q.2 := by decide +kernel
theorem dX8_placeOf_38 : decode cX8_placeOf 38 = .ok (.iconst (-1), 1) := g_dec dt5_X8_placeOf_ok (k := 0) rfl
theorem dX8_placeOf_39 : decode cX8_placeOf 39 = .ok (.ireturn, 1) := g_dec dt5_X8_placeOf_ok (k := 1) rfl
theorem dX8_placeOf_2 : decode cX8_placeOf 2 = .ok (.iload_n 3, 1) := g_dec dt5_X8_placeOf_ok (k := 2) rfl
theorem dX8_placeOf_3 : decode cX8_placeOf 3 = .ok (.aload_n 0, 1) := g_dec dt5_X8_placeOf_ok (k := 3) rfl
theorem dX8_placeOf_4 : decode cX8_placeOf 4 = .ok (.getfield 15, 3) := g_dec dt5_X8_placeOf_ok (k := 4) rfl
theorem dX8_placeOf_7 : decode cX8_placeOf 7 = .ok (.if_icmp .ge 31, 3) := g_dec dt5_X8_placeOf_ok (k := 5) rfl
theorem dX8_placeOf_10 : decode cX8_placeOf 10 = .ok (.iload_n 3, 1) := g_dec dt5_X8_placeOf_ok (k := 6) rfl
theorem dX8_placeOf_11 : decode cX8_placeOf 11 = .ok (.aload_n 0, 1) := g_dec dt5_X8_placeOf_ok (k := 7) rfl
theorem dX8_placeOf_12 : decode cX8_placeOf 12 = .ok (.getfield 9, 3) := g_dec dt5_X8_placeOf_ok (k := 8) rfl
theorem dX8_placeOf_15 : decode cX8_placeOf 15 = .ok (.arraylength, 1) := g_dec dt5_X8_placeOf_ok (k := 9) rfl
theorem dX8_placeOf_16 : decode cX8_placeOf 16 = .ok (.if_icmp .ge 22, 3) := g_dec dt5_X8_placeOf_ok (k := 10) rfl
theorem dX8_placeOf_19 : decode cX8_placeOf 19 = .ok (.aload_n 0, 1) := g_dec dt5_X8_placeOf_ok (k := 11) rfl
theorem dX8_placeOf_20 : decode cX8_placeOf 20 = .ok (.getfield 9, 3) := g_dec dt5_X8_placeOf_ok (k := 12) rfl
theorem dX8_placeOf_23 : decode cX8_placeOf 23 = .ok (.iload_n 3, 1) := g_dec dt5_X8_placeOf_ok (k := 13) rfl
theorem dX8_placeOf_24 : decode cX8_placeOf 24 = .ok (.laload, 1) := g_dec dt5_X8_placeOf_ok (k := 14) rfl
theorem dX8_placeOf_25 : decode cX8_placeOf 25 = .ok (.lload_n 1, 1) := g_dec dt5_X8_placeOf_ok (k := 15) rfl
theorem dX8_placeOf_26 : decode cX8_placeOf 26 = .ok (.lcmp, 1) := g_dec dt5_X8_placeOf_ok (k := 16) rfl
theorem dX8_placeOf_27 : decode cX8_placeOf 27 = .ok (.ifCond .ne 5, 3) := g_dec dt5_X8_placeOf_ok (k := 17) rfl
theorem dX8_placeOf_32 : decode cX8_placeOf 32 = .ok (.iinc 3 1, 3) := g_dec dt5_X8_placeOf_ok (k := 18) rfl
theorem dX8_placeOf_35 : decode cX8_placeOf 35 = .ok (.goto (-33), 3) := g_dec dt5_X8_placeOf_ok (k := 19) rfl
theorem dX8_placeOf_30 : decode cX8_placeOf 30 = .ok (.iload_n 3, 1) := g_dec dt5_X8_placeOf_ok (k := 20) rfl
theorem dX8_placeOf_31 : decode cX8_placeOf 31 = .ok (.ireturn, 1) := g_dec dt5_X8_placeOf_ok (k := 21) rfl
theorem dX8_placeOf_0 : decode cX8_placeOf 0 = .ok (.iconst 0, 1) := g_dec dt5_X8_placeOf_ok (k := 22) rfl
theorem dX8_placeOf_1 : decode cX8_placeOf 1 = .ok (.istore_n 3, 1) := g_dec dt5_X8_placeOf_ok (k := 23) rfl
def dt6_X8_addMany : List (Nat × Instr × Nat) := [(30, (.return_, 1)), (3, (.iload 4, 2)), (5, (.iload_n 1, 1)), (6, (.if_icmp .ge 24, 3)), (9, (.iload 4, 2)), (11, (.aload_n 0, 1)), (12, (.getfield 9, 3)), (15, (.arraylength, 1)), (16, (.if_icmp .ge 14, 3)), (19, (.aload_n 0, 1)), (20, (.lload_n 2, 1)), (21, (.invokevirtual 19, 3)), (24, (.iinc 4 1, 3)), (27, (.goto (-24), 3)), (0, (.iconst 0, 1)), (1, (.istore 4, 2))]
theorem dt6_X8_addMany_ok : ∀ q ∈ dt6_X8_addMany, decode cX8_addMany q.1 = .ok q.2 := by decide +kernel
theorem dX8_addMany_30 : decode cX8_addMany 30 = .ok (.return_, 1) := g_dec dt6_X8_addMany_ok (k := 0) rfl
theorem dX8_addMany_3 : decode cX8_addMany 3 = .ok (.iload 4, 2) := g_dec dt6_X8_addMany_ok (k := 1) rfl
theorem dX8_addMany_5 : decode cX8_addMany 5 = .ok (.iload_n 1, 1) := g_dec dt6_X8_addMany_ok (k := 2) rfl
theorem dX8_addMany_6 : decode cX8_addMany 6 = .ok (.if_icmp .ge 24, 3) := g_dec dt6_X8_addMany_ok (k := 3) rfl
theorem dX8_addMany_9 : decode cX8_addMany 9 = .ok (.iload 4, 2) := g_dec dt6_X8_addMany_ok (k := 4) rfl
theorem dX8_addMany_11 : decode cX8_addMany 11 = .ok (.aload_n 0, 1) := g_dec dt6_X8_addMany_ok (k := 5) rfl
theorem dX8_addMany_12 : decode cX8_addMany 12 = .ok (.getfield 9, 3) := g_dec dt6_X8_addMany_ok (k := 6) rfl
theorem dX8_addMany_15 : decode cX8_addMany 15 = .ok (.arraylength, 1) := g_dec dt6_X8_addMany_ok (k := 7) rfl
theorem dX8_addMany_16 : decode cX8_addMany 16 = .ok (.if_icmp .ge 14, 3) := g_dec dt6_X8_addMany_ok (k := 8) rfl
theorem dX8_addMany_19 : decode cX8_addMany 19 = .ok (.aload_n 0, 1) := g_dec dt6_X8_addMany_ok (k := 9) rfl
theorem dX8_addMany_20 : decode cX8_addMany 20 = .ok (.lload_n 2, 1) := g_dec dt6_X8_addMany_ok (k := 10) rfl
theorem dX8_addMany_21 : decode cX8_addMany 21 = .ok (.invokevirtual 19, 3) := g_dec dt6_X8_addMany_ok (k := 11) rfl
theorem dX8_addMany_24 : decode cX8_addMany 24 = .ok (.iinc 4 1, 3) := g_dec dt6_X8_addMany_ok (k := 12) rfl
theorem dX8_addMany_27 : decode cX8_addMany 27 = .ok (.goto (-24), 3) := g_dec dt6_X8_addMany_ok (k := 13) rfl
theorem dX8_addMany_0 : decode cX8_addMany 0 = .ok (.iconst 0, 1) := g_dec dt6_X8_addMany_ok (k := 14) rfl
theorem dX8_addMany_1 : decode cX8_addMany 1 = .ok (.istore 4, 2) := g_dec dt6_X8_addMany_ok (k := 15) rfl
section
variable {p : Program} {l : Launch} {e : Env} {s : State} {m : MethodId} {args : Array Value} {below : List Frame} {meth : Method} {c : Code} {D : va_G} {y : Nat → ClassId} {aS : Nat → Nat} {A : Nat → Prop} {L : List Nat} {ad : Nat → Nat} {N : Nat} {res : Int64}
def fX8_get_23 (N : Nat) (σ : gS) (xs0 : Int64) : Option Int64 := some xs0
set_option maxRecDepth 100000 in
set_option maxHeartbeats 4000000 in
theorem wX8_get_23 {σ : gS} {xs0 : Int64} (hx : p.tables.exec = Jvm.exec) (hb : c.code = cX8_get) (hr : meth.sig.returnType = (some .long)) (hml : c.maxLocals = 2) (hown : s.vm.findClass RX8 = some m.cls) (hg : ∀ w ∈ wsL_law, w.before args s = true) (hlocks : meth.locks = false) (hK : gK D y aS s) (hA : ∀ q, s.heap.size ≤ q → A q) (hL : ∀ k, k < 179 → k ∈ L) {H : Heap} {locs : List Loc} {ls : Array Slot} (hY : gY D y A s L ad σ H locs) (hl : lv_has ls 2 []) (h : fX8_get_23 N σ xs0 = some res) : W p l e ({ frames := 0, cells := 0, slots := 0, locals := 0 } : Room) s m args below meth c H locs 0 0 (MQ below (va_Ql (fun (r : Int64) (_ : Unit) => r = res) (fun _ => gO D A (GW L y ad σ)) A) args s 0 0 A) (F0 m 23 ls [.long xs0]) := by
  unfold fX8_get_23 at h
  cases h
  exact g_lret hx hb hr hlocks () hY.1 hY.2.1 hY.2.2 rfl (Nat.le_of_ble_eq_true rfl) (Nat.le_of_ble_eq_true rfl) dX8_get_23
def fX8_get_22 (N : Nat) (σ : gS) : Option Int64 := fX8_get_23 N σ 0
set_option maxRecDepth 100000 in
set_option maxHeartbeats 4000000 in
theorem wX8_get_22 {σ : gS} (hx : p.tables.exec = Jvm.exec) (hb : c.code = cX8_get) (hr : meth.sig.returnType = (some .long)) (hml : c.maxLocals = 2) (hown : s.vm.findClass RX8 = some m.cls) (hg : ∀ w ∈ wsL_law, w.before args s = true) (hlocks : meth.locks = false) (hK : gK D y aS s) (hA : ∀ q, s.heap.size ≤ q → A q) (hL : ∀ k, k < 179 → k ∈ L) {H : Heap} {locs : List Loc} {ls : Array Slot} (hY : gY D y A s L ad σ H locs) (hl : lv_has ls 2 []) (h : fX8_get_22 N σ = some res) : W p l e ({ frames := 0, cells := 0, slots := 0, locals := 0 } : Room) s m args below meth c H locs 0 0 (MQ below (va_Ql (fun (r : Int64) (_ : Unit) => r = res) (fun _ => gO D A (GW L y ad σ)) A) args s 0 0 A) (F0 m 22 ls []) := by
  unfold fX8_get_22 at h
  refine lv_lconst (v := 0) hx hb dX8_get_22 (by decide) ?_
  exact wX8_get_23 hx hb hr hml hown hg hlocks hK hA hL hY (lv_sub hl [] rfl) h
end
def fX8_get (N : Nat) (σ : gS) (r0 : Nat) (x1 : Int32) : Option Int64 := if x1 < 0 then (fX8_get_22 N σ) else (if (Int32.ofNat (gle σ.2.2 (r0 + 1))) ≤ x1 then (fX8_get_22 N σ) else (if x1 < 0 ∨ gle σ.2.2 (r0 + 1) ≤ x1.toNatClampNeg then none else (fX8_get_23 N σ (σ.2.1 (r0 + 1) x1.toNatClampNeg))))
set_option maxRecDepth 100000 in
set_option maxHeartbeats 4000000 in
theorem kX8_get (l : Launch) (D : va_G) (y : Nat → ClassId) (aS : Nat → Nat) (sz : Nat) (L : List Nat) (hL : ∀ k, k < 179 → k ∈ L) (ad : Nat → Nat) (N : Nat) (σ : gS) (r0 : Nat) (x1 : Int32) (res : Int64) (hr0 : gcl r0 = 8) (h : fX8_get N σ r0 x1 = some res) : Met l yX8_get (Cond.code yX8_get cX8_get 2 (some .long) :: wsL_law) ({ frames := 0, cells := 0, slots := 0, locals := 0 } : Room) (va_Pc [.ref (ad r0), .int x1] (gI D y aS (GW L y ad σ) sz)) (va_Ql (fun (r : Int64) (_ : Unit) => r = res) (fun _ => gO D (va_A (GW L y ad σ) sz) (GW L y ad σ)) (va_A (GW L y ad σ) sz)) 0 0 (va_A (GW L y ad σ) sz) := by
  refine g_of (by decide) (Nat.le_of_ble_eq_true rfl) ?_
  intro p e s m below meth c ls A hx hb hr hml hown hg hlocks hin hsz hK hP hD hS hA hAe hl
  rw [← hAe]
  replace hown : s.vm.findClass RX8 = some m.cls := hown
  have hY : gY D y A s L ad σ s.heap [] := ⟨hP, hD, hS⟩
  clear hP hD hS
  replace hl : lv_has ls 2 [(0, .ref (ad r0)), (1, .int x1)] := hl
  unfold fX8_get at h
  refine lv_iload_n hx hb dX8_get_0 rfl (lv_at hl 1 rfl) ?_
  refine lv_if_lt (tgt := 22) hx hb dX8_get_1 (by decide) (fun z_1 => ?_) (fun z_1 => ?_)
  ·
    rw [if_pos z_1] at h
    exact wX8_get_22 hx hb hr hml hown hg hlocks hK hA hL hY (lv_sub hl [] rfl) h
  ·
    rw [if_neg z_1] at h
    refine lv_iload_n hx hb dX8_get_4 rfl (lv_at hl 1 rfl) ?_
    refine lv_aload_n hx hb dX8_get_5 rfl (lv_at hl 0 rfl) ?_
    refine G_get (ci := 8) (j := 0) (C := RX8) (T := TX8) (N := 2) (v := .ref (ad (r0 + 1))) hx hb hg inlX8 hown hK hY (hL _ (gcl_lt hr0 (by decide))) hr0 (by decide) rfl (by decide) tX8_0 (hg _ gw_98) rfl dX8_get_6 ?_
    refine G_alenJ hx hb hK hY (hL _ (gcl_rowL hr0)) (gcl_row hr0) dX8_get_9 ?_
    refine lv_icmp_ge (tgt := 22) hx hb dX8_get_10 (by decide) (fun z_2 => ?_) (fun z_2 => ?_)
    ·
      rw [if_pos z_2] at h
      exact wX8_get_22 hx hb hr hml hown hg hlocks hK hA hL hY (lv_sub hl [] rfl) h
    ·
      rw [if_neg z_2] at h
      refine lv_aload_n hx hb dX8_get_13 rfl (lv_at hl 0 rfl) ?_
      refine G_get (ci := 8) (j := 0) (C := RX8) (T := TX8) (N := 2) (v := .ref (ad (r0 + 1))) hx hb hg inlX8 hown hK hY (hL _ (gcl_lt hr0 (by decide))) hr0 (by decide) rfl (by decide) tX8_0 (hg _ gw_98) rfl dX8_get_14 ?_
      refine lv_iload_n hx hb dX8_get_17 rfl (lv_at hl 1 rfl) ?_
      obtain ⟨z_3, h⟩ := g_guard h
      refine G_lald (j := x1.toNatClampNeg) hx hb hK hY (hL _ (gcl_rowL hr0)) (gcl_row hr0) z_3 rfl dX8_get_18 ?_
      refine lv_goto (tgt := 23) hx hb dX8_get_19 (by decide) ?_
      exact wX8_get_23 hx hb hr hml hown hg hlocks hK hA hL hY (lv_sub hl [] rfl) h
section
variable {p : Program} {l : Launch} {e : Env} {s : State} {m : MethodId} {args : Array Value} {below : List Frame} {meth : Method} {c : Code} {D : va_G} {y : Nat → ClassId} {aS : Nat → Nat} {A : Nat → Prop} {L : List Nat} {ad : Nat → Nat} {N : Nat} {res : Int32}
def fX8_whole_24 (N : Nat) (σ : gS) (xs0 : Int32) : Option Int32 := some xs0
set_option maxRecDepth 100000 in
set_option maxHeartbeats 4000000 in
theorem wX8_whole_24 {σ : gS} {xs0 : Int32} (hx : p.tables.exec = Jvm.exec) (hb : c.code = cX8_whole) (hr : meth.sig.returnType = (some .int)) (hml : c.maxLocals = 2) (hown : s.vm.findClass RX8 = some m.cls) (hg : ∀ w ∈ wsL_law, w.before args s = true) (hlocks : meth.locks = false) (hK : gK D y aS s) (hA : ∀ q, s.heap.size ≤ q → A q) (hL : ∀ k, k < 179 → k ∈ L) {H : Heap} {locs : List Loc} {ls : Array Slot} (hY : gY D y A s L ad σ H locs) (hl : lv_has ls 2 []) (h : fX8_whole_24 N σ xs0 = some res) : W p l e ({ frames := 0, cells := 0, slots := 0, locals := 0 } : Room) s m args below meth c H locs 0 0 (MQ below (va_Qi (fun (r : Int32) (_ : Unit) => r = res) (fun _ => gO D A (GW L y ad σ)) A) args s 0 0 A) (F0 m 24 ls [.int xs0]) := by
  unfold fX8_whole_24 at h
  cases h
  exact g_iret hx hb hr hlocks () hY.1 hY.2.1 hY.2.2 rfl rfl (Nat.le_of_ble_eq_true rfl) (Nat.le_of_ble_eq_true rfl) dX8_whole_24
def fX8_whole_23 (N : Nat) (σ : gS) : Option Int32 := fX8_whole_24 N σ 0
set_option maxRecDepth 100000 in
set_option maxHeartbeats 4000000 in
theorem wX8_whole_23 {σ : gS} (hx : p.tables.exec = Jvm.exec) (hb : c.code = cX8_whole) (hr : meth.sig.returnType = (some .int)) (hml : c.maxLocals = 2) (hown : s.vm.findClass RX8 = some m.cls) (hg : ∀ w ∈ wsL_law, w.before args s = true) (hlocks : meth.locks = false) (hK : gK D y aS s) (hA : ∀ q, s.heap.size ≤ q → A q) (hL : ∀ k, k < 179 → k ∈ L) {H : Heap} {locs : List Loc} {ls : Array Slot} (hY : gY D y A s L ad σ H locs) (hl : lv_has ls 2 []) (h : fX8_whole_23 N σ = some res) : W p l e ({ frames := 0, cells := 0, slots := 0, locals := 0 } : Room) s m args below meth c H locs 0 0 (MQ below (va_Qi (fun (r : Int32) (_ : Unit) => r = res) (fun _ => gO D A (GW L y ad σ)) A) args s 0 0 A) (F0 m 23 ls []) := by
  unfold fX8_whole_23 at h
  refine lv_iconst (v := 0) hx hb dX8_whole_23 (by decide) ?_
  exact wX8_whole_24 hx hb hr hml hown hg hlocks hK hA hL hY (lv_sub hl [] rfl) h
end
def fX8_whole (N : Nat) (σ : gS) (r0 : Nat) (x1 : Int32) : Option Int32 := if x1 < 0 then (fX8_whole_23 N σ) else (if (Int32.ofNat (gle σ.2.2 (r0 + 1))) ≤ x1 then (fX8_whole_23 N σ) else (if x1 < 0 ∨ gle σ.2.2 (r0 + 1) ≤ x1.toNatClampNeg then none else (fX8_whole_24 N σ ((σ.2.1 (r0 + 1) x1.toNatClampNeg).toInt32))))
set_option maxRecDepth 100000 in
set_option maxHeartbeats 4000000 in
theorem kX8_whole (l : Launch) (D : va_G) (y : Nat → ClassId) (aS : Nat → Nat) (sz : Nat) (L : List Nat) (hL : ∀ k, k < 179 → k ∈ L) (ad : Nat → Nat) (N : Nat) (σ : gS) (r0 : Nat) (x1 : Int32) (res : Int32) (hr0 : gcl r0 = 8) (h : fX8_whole N σ r0 x1 = some res) : Met l yX8_whole (Cond.code yX8_whole cX8_whole 2 (some .int) :: wsL_law) ({ frames := 0, cells := 0, slots := 0, locals := 0 } : Room) (va_Pc [.ref (ad r0), .int x1] (gI D y aS (GW L y ad σ) sz)) (va_Qi (fun (r : Int32) (_ : Unit) => r = res) (fun _ => gO D (va_A (GW L y ad σ) sz) (GW L y ad σ)) (va_A (GW L y ad σ) sz)) 0 0 (va_A (GW L y ad σ) sz) := by
  refine g_of (by decide) (Nat.le_of_ble_eq_true rfl) ?_
  intro p e s m below meth c ls A hx hb hr hml hown hg hlocks hin hsz hK hP hD hS hA hAe hl
  rw [← hAe]
  replace hown : s.vm.findClass RX8 = some m.cls := hown
  have hY : gY D y A s L ad σ s.heap [] := ⟨hP, hD, hS⟩
  clear hP hD hS
  replace hl : lv_has ls 2 [(0, .ref (ad r0)), (1, .int x1)] := hl
  unfold fX8_whole at h
  refine lv_iload_n hx hb dX8_whole_0 rfl (lv_at hl 1 rfl) ?_
  refine lv_if_lt (tgt := 23) hx hb dX8_whole_1 (by decide) (fun z_1 => ?_) (fun z_1 => ?_)
  ·
    rw [if_pos z_1] at h
    exact wX8_whole_23 hx hb hr hml hown hg hlocks hK hA hL hY (lv_sub hl [] rfl) h
  ·
    rw [if_neg z_1] at h
    refine lv_iload_n hx hb dX8_whole_4 rfl (lv_at hl 1 rfl) ?_
    refine lv_aload_n hx hb dX8_whole_5 rfl (lv_at hl 0 rfl) ?_
    refine G_get (ci := 8) (j := 0) (C := RX8) (T := TX8) (N := 2) (v := .ref (ad (r0 + 1))) hx hb hg inlX8 hown hK hY (hL _ (gcl_lt hr0 (by decide))) hr0 (by decide) rfl (by decide) tX8_0 (hg _ gw_98) rfl dX8_whole_6 ?_
    refine G_alenJ hx hb hK hY (hL _ (gcl_rowL hr0)) (gcl_row hr0) dX8_whole_9 ?_
    refine lv_icmp_ge (tgt := 23) hx hb dX8_whole_10 (by decide) (fun z_2 => ?_) (fun z_2 => ?_)
    ·
      rw [if_pos z_2] at h
      exact wX8_whole_23 hx hb hr hml hown hg hlocks hK hA hL hY (lv_sub hl [] rfl) h
    ·
      rw [if_neg z_2] at h
      refine lv_aload_n hx hb dX8_whole_13 rfl (lv_at hl 0 rfl) ?_
      refine G_get (ci := 8) (j := 0) (C := RX8) (T := TX8) (N := 2) (v := .ref (ad (r0 + 1))) hx hb hg inlX8 hown hK hY (hL _ (gcl_lt hr0 (by decide))) hr0 (by decide) rfl (by decide) tX8_0 (hg _ gw_98) rfl dX8_whole_14 ?_
      refine lv_iload_n hx hb dX8_whole_17 rfl (lv_at hl 1 rfl) ?_
      obtain ⟨z_3, h⟩ := g_guard h
      refine G_lald (j := x1.toNatClampNeg) hx hb hK hY (hL _ (gcl_rowL hr0)) (gcl_row hr0) z_3 rfl dX8_whole_18 ?_
      refine lv_l2i (v := ((σ.2.1 (r0 + 1) x1.toNatClampNeg).toInt32)) hx hb dX8_whole_19 rfl ?_
      refine lv_goto (tgt := 24) hx hb dX8_whole_20 (by decide) ?_
      exact wX8_whole_24 hx hb hr hml hown hg hlocks hK hA hL hY (lv_sub hl [] rfl) h
section
variable {p : Program} {l : Launch} {e : Env} {s : State} {m : MethodId} {args : Array Value} {below : List Frame} {meth : Method} {c : Code} {D : va_G} {y : Nat → ClassId} {aS : Nat → Nat} {A : Nat → Prop} {L : List Nat} {ad : Nat → Nat} {N : Nat} {res : gS}
def fX8_set_20 (N : Nat) (σ : gS) : Option gS := some σ
set_option maxRecDepth 100000 in
set_option maxHeartbeats 4000000 in
theorem wX8_set_20 {σ : gS} (hx : p.tables.exec = Jvm.exec) (hb : c.code = cX8_set) (hr : meth.sig.returnType = none) (hml : c.maxLocals = 4) (hown : s.vm.findClass RX8 = some m.cls) (hg : ∀ w ∈ wsL_law, w.before args s = true) (hlocks : meth.locks = false) (hK : gK D y aS s) (hA : ∀ q, s.heap.size ≤ q → A q) (hL : ∀ k, k < 179 → k ∈ L) {H : Heap} {locs : List Loc} {ls : Array Slot} (hY : gY D y A s L ad σ H locs) (hl : lv_has ls 4 []) (h : fX8_set_20 N σ = some res) : W p l e ({ frames := 0, cells := 0, slots := 0, locals := 0 } : Room) s m args below meth c H locs 0 0 (MQ below (va_Qv (fun (_ : Unit) => True) (fun _ => gO D A (GW L y ad res)) A) args s 0 0 A) (F0 m 20 ls []) := by
  unfold fX8_set_20 at h
  cases h
  exact g_vret hx hb hr hlocks () hY.1 hY.2.1 hY.2.2 trivial (Nat.le_of_ble_eq_true rfl) (Nat.le_of_ble_eq_true rfl) dX8_set_20
end
def fX8_set (N : Nat) (σ : gS) (r0 : Nat) (x1 : Int32) (x2 : Int64) : Option gS := if x1 < 0 then (fX8_set_20 N σ) else (if (Int32.ofNat (gle σ.2.2 (r0 + 1))) ≤ x1 then (fX8_set_20 N σ) else (if x1 < 0 ∨ gle σ.2.2 (r0 + 1) ≤ x1.toNatClampNeg then none else (fX8_set_20 N (sJ σ (r0 + 1) x1.toNatClampNeg x2))))
set_option maxRecDepth 100000 in
set_option maxHeartbeats 4000000 in
theorem kX8_set (l : Launch) (D : va_G) (y : Nat → ClassId) (aS : Nat → Nat) (sz : Nat) (L : List Nat) (hL : ∀ k, k < 179 → k ∈ L) (ad : Nat → Nat) (N : Nat) (σ : gS) (r0 : Nat) (x1 : Int32) (x2 : Int64) (res : gS) (hr0 : gcl r0 = 8) (h : fX8_set N σ r0 x1 x2 = some res) : Met l yX8_set (Cond.code yX8_set cX8_set 4 none :: wsL_law) ({ frames := 0, cells := 0, slots := 0, locals := 0 } : Room) (va_Pc [.ref (ad r0), .int x1, .long x2] (gI D y aS (GW L y ad σ) sz)) (va_Qv (fun (_ : Unit) => True) (fun _ => gO D (va_A (GW L y ad σ) sz) (GW L y ad res)) (va_A (GW L y ad σ) sz)) 0 0 (va_A (GW L y ad σ) sz) := by
  refine g_of (by decide) (Nat.le_of_ble_eq_true rfl) ?_
  intro p e s m below meth c ls A hx hb hr hml hown hg hlocks hin hsz hK hP hD hS hA hAe hl
  rw [← hAe]
  replace hown : s.vm.findClass RX8 = some m.cls := hown
  have hY : gY D y A s L ad σ s.heap [] := ⟨hP, hD, hS⟩
  clear hP hD hS
  replace hl : lv_has ls 4 [(0, .ref (ad r0)), (1, .int x1), (2, .long x2)] := hl
  unfold fX8_set at h
  refine lv_iload_n hx hb dX8_set_0 rfl (lv_at hl 1 rfl) ?_
  refine lv_if_lt (tgt := 20) hx hb dX8_set_1 (by decide) (fun z_1 => ?_) (fun z_1 => ?_)
  ·
    rw [if_pos z_1] at h
    exact wX8_set_20 hx hb hr hml hown hg hlocks hK hA hL hY (lv_sub hl [] rfl) h
  ·
    rw [if_neg z_1] at h
    refine lv_iload_n hx hb dX8_set_4 rfl (lv_at hl 1 rfl) ?_
    refine lv_aload_n hx hb dX8_set_5 rfl (lv_at hl 0 rfl) ?_
    refine G_get (ci := 8) (j := 0) (C := RX8) (T := TX8) (N := 2) (v := .ref (ad (r0 + 1))) hx hb hg inlX8 hown hK hY (hL _ (gcl_lt hr0 (by decide))) hr0 (by decide) rfl (by decide) tX8_0 (hg _ gw_98) rfl dX8_set_6 ?_
    refine G_alenJ hx hb hK hY (hL _ (gcl_rowL hr0)) (gcl_row hr0) dX8_set_9 ?_
    refine lv_icmp_ge (tgt := 20) hx hb dX8_set_10 (by decide) (fun z_2 => ?_) (fun z_2 => ?_)
    ·
      rw [if_pos z_2] at h
      exact wX8_set_20 hx hb hr hml hown hg hlocks hK hA hL hY (lv_sub hl [] rfl) h
    ·
      rw [if_neg z_2] at h
      refine lv_aload_n hx hb dX8_set_13 rfl (lv_at hl 0 rfl) ?_
      refine G_get (ci := 8) (j := 0) (C := RX8) (T := TX8) (N := 2) (v := .ref (ad (r0 + 1))) hx hb hg inlX8 hown hK hY (hL _ (gcl_lt hr0 (by decide))) hr0 (by decide) rfl (by decide) tX8_0 (hg _ gw_98) rfl dX8_set_14 ?_
      refine lv_iload_n hx hb dX8_set_17 rfl (lv_at hl 1 rfl) ?_
      refine lv_lload_n hx hb dX8_set_18 rfl (lv_at hl 2 rfl) ?_
      obtain ⟨z_3, h⟩ := g_guard h
      refine G_last (j := x1.toNatClampNeg) hx hb hK hY (hL _ (gcl_rowL hr0)) (gcl_row hr0) z_3 rfl dX8_set_19 ?_
      clear hY
      intro H locs hY
      exact wX8_set_20 hx hb hr hml hown hg hlocks hK hA hL hY (lv_sub hl [] rfl) h
section
variable {p : Program} {l : Launch} {e : Env} {s : State} {m : MethodId} {args : Array Value} {below : List Frame} {meth : Method} {c : Code} {D : va_G} {y : Nat → ClassId} {aS : Nat → Nat} {A : Nat → Prop} {L : List Nat} {ad : Nat → Nat} {N : Nat} {res : gS}
def fX8_add_39 (N : Nat) (σ : gS) : Option gS := some σ
set_option maxRecDepth 100000 in
set_option maxHeartbeats 4000000 in
theorem wX8_add_39 {σ : gS} (hx : p.tables.exec = Jvm.exec) (hb : c.code = cX8_add) (hr : meth.sig.returnType = none) (hml : c.maxLocals = 3) (hown : s.vm.findClass RX8 = some m.cls) (hg : ∀ w ∈ wsL_law, w.before args s = true) (hlocks : meth.locks = false) (hK : gK D y aS s) (hA : ∀ q, s.heap.size ≤ q → A q) (hL : ∀ k, k < 179 → k ∈ L) {H : Heap} {locs : List Loc} {ls : Array Slot} (hY : gY D y A s L ad σ H locs) (hl : lv_has ls 3 []) (h : fX8_add_39 N σ = some res) : W p l e ({ frames := 0, cells := 0, slots := 0, locals := 0 } : Room) s m args below meth c H locs 0 0 (MQ below (va_Qv (fun (_ : Unit) => True) (fun _ => gO D A (GW L y ad res)) A) args s 0 0 A) (F0 m 39 ls []) := by
  unfold fX8_add_39 at h
  cases h
  exact g_vret hx hb hr hlocks () hY.1 hY.2.1 hY.2.2 trivial (Nat.le_of_ble_eq_true rfl) (Nat.le_of_ble_eq_true rfl) dX8_add_39
end
def fX8_add (N : Nat) (σ : gS) (r0 : Nat) (x1 : Int64) : Option gS := if (σ.1 r0 1) < 0 then (fX8_add_39 N σ) else (if (Int32.ofNat (gle σ.2.2 (r0 + 1))) ≤ (σ.1 r0 1) then (fX8_add_39 N σ) else (if (σ.1 r0 1) < 0 ∨ gle σ.2.2 (r0 + 1) ≤ (σ.1 r0 1).toNatClampNeg then none else (fX8_add_39 N (sI (sJ σ (r0 + 1) ((σ.1 r0 1).toNatClampNeg) x1) r0 1 (((sJ σ (r0 + 1) ((σ.1 r0 1).toNatClampNeg) x1).1 r0 1) + 1)))))
set_option maxRecDepth 100000 in
set_option maxHeartbeats 4000000 in
theorem kX8_add (l : Launch) (D : va_G) (y : Nat → ClassId) (aS : Nat → Nat) (sz : Nat) (L : List Nat) (hL : ∀ k, k < 179 → k ∈ L) (ad : Nat → Nat) (N : Nat) (σ : gS) (r0 : Nat) (x1 : Int64) (res : gS) (hr0 : gcl r0 = 8) (h : fX8_add N σ r0 x1 = some res) : Met l yX8_add (Cond.code yX8_add cX8_add 3 none :: wsL_law) ({ frames := 0, cells := 0, slots := 0, locals := 0 } : Room) (va_Pc [.ref (ad r0), .long x1] (gI D y aS (GW L y ad σ) sz)) (va_Qv (fun (_ : Unit) => True) (fun _ => gO D (va_A (GW L y ad σ) sz) (GW L y ad res)) (va_A (GW L y ad σ) sz)) 0 0 (va_A (GW L y ad σ) sz) := by
  refine g_of (by decide) (Nat.le_of_ble_eq_true rfl) ?_
  intro p e s m below meth c ls A hx hb hr hml hown hg hlocks hin hsz hK hP hD hS hA hAe hl
  rw [← hAe]
  replace hown : s.vm.findClass RX8 = some m.cls := hown
  have hY : gY D y A s L ad σ s.heap [] := ⟨hP, hD, hS⟩
  clear hP hD hS
  replace hl : lv_has ls 3 [(0, .ref (ad r0)), (1, .long x1)] := hl
  unfold fX8_add at h
  refine lv_aload_n hx hb dX8_add_0 rfl (lv_at hl 0 rfl) ?_
  refine G_get (ci := 8) (j := 1) (C := RX8) (T := TX8) (N := 2) (v := .int (σ.1 r0 1)) hx hb hg inlX8 hown hK hY (hL _ (gcl_lt hr0 (by decide))) hr0 (by decide) rfl (by decide) tX8_1 (hg _ gw_154) rfl dX8_add_1 ?_
  refine lv_if_lt (tgt := 39) hx hb dX8_add_4 (by decide) (fun z_1 => ?_) (fun z_1 => ?_)
  ·
    rw [if_pos z_1] at h
    exact wX8_add_39 hx hb hr hml hown hg hlocks hK hA hL hY (lv_sub hl [] rfl) h
  ·
    rw [if_neg z_1] at h
    refine lv_aload_n hx hb dX8_add_7 rfl (lv_at hl 0 rfl) ?_
    refine G_get (ci := 8) (j := 1) (C := RX8) (T := TX8) (N := 2) (v := .int (σ.1 r0 1)) hx hb hg inlX8 hown hK hY (hL _ (gcl_lt hr0 (by decide))) hr0 (by decide) rfl (by decide) tX8_1 (hg _ gw_154) rfl dX8_add_8 ?_
    refine lv_aload_n hx hb dX8_add_11 rfl (lv_at hl 0 rfl) ?_
    refine G_get (ci := 8) (j := 0) (C := RX8) (T := TX8) (N := 2) (v := .ref (ad (r0 + 1))) hx hb hg inlX8 hown hK hY (hL _ (gcl_lt hr0 (by decide))) hr0 (by decide) rfl (by decide) tX8_0 (hg _ gw_98) rfl dX8_add_12 ?_
    refine G_alenJ hx hb hK hY (hL _ (gcl_rowL hr0)) (gcl_row hr0) dX8_add_15 ?_
    refine lv_icmp_ge (tgt := 39) hx hb dX8_add_16 (by decide) (fun z_2 => ?_) (fun z_2 => ?_)
    ·
      rw [if_pos z_2] at h
      exact wX8_add_39 hx hb hr hml hown hg hlocks hK hA hL hY (lv_sub hl [] rfl) h
    ·
      rw [if_neg z_2] at h
      refine lv_aload_n hx hb dX8_add_19 rfl (lv_at hl 0 rfl) ?_
      refine G_get (ci := 8) (j := 0) (C := RX8) (T := TX8) (N := 2) (v := .ref (ad (r0 + 1))) hx hb hg inlX8 hown hK hY (hL _ (gcl_lt hr0 (by decide))) hr0 (by decide) rfl (by decide) tX8_0 (hg _ gw_98) rfl dX8_add_20 ?_
      refine lv_aload_n hx hb dX8_add_23 rfl (lv_at hl 0 rfl) ?_
      refine G_get (ci := 8) (j := 1) (C := RX8) (T := TX8) (N := 2) (v := .int (σ.1 r0 1)) hx hb hg inlX8 hown hK hY (hL _ (gcl_lt hr0 (by decide))) hr0 (by decide) rfl (by decide) tX8_1 (hg _ gw_154) rfl dX8_add_24 ?_
      refine lv_lload_n hx hb dX8_add_27 rfl (lv_at hl 1 rfl) ?_
      obtain ⟨z_3, h⟩ := g_guard h
      refine G_last (j := (σ.1 r0 1).toNatClampNeg) hx hb hK hY (hL _ (gcl_rowL hr0)) (gcl_row hr0) z_3 rfl dX8_add_28 ?_
      clear hY
      intro H locs hY
      refine lv_aload_n hx hb dX8_add_29 rfl (lv_at hl 0 rfl) ?_
      refine lv_dup hx hb dX8_add_30 rfl ?_
      refine G_get (ci := 8) (j := 1) (C := RX8) (T := TX8) (N := 2) (v := .int ((sJ σ (r0 + 1) ((σ.1 r0 1).toNatClampNeg) x1).1 r0 1)) hx hb hg inlX8 hown hK hY (hL _ (gcl_lt hr0 (by decide))) hr0 (by decide) rfl (by decide) tX8_1 (hg _ gw_154) rfl dX8_add_31 ?_
      refine lv_iconst (v := 1) hx hb dX8_add_34 (by decide) ?_
      refine lv_iadd hx hb dX8_add_35 ?_
      refine G_putI (ci := 8) (j := 1) (C := RX8) (T := TX8) (N := 2) (v := (((sJ σ (r0 + 1) ((σ.1 r0 1).toNatClampNeg) x1).1 r0 1) + 1)) (ty := .int) hx hb hg inlX8 tyX8 tyX8_ok nmX8 hown hK hY (hL _ (gcl_lt hr0 (by decide))) hr0 (by decide) rfl (by decide) tX8_1 (hg _ gw_154) (by decide +kernel) rfl rfl (fun _ _ => rfl) (fun _ _ => Nat.le_of_ble_eq_true rfl) dX8_add_36 ?_
      clear hY
      intro H locs hY
      exact wX8_add_39 hx hb hr hml hown hg hlocks hK hA hL hY (lv_sub hl [] rfl) h
section
variable {p : Program} {l : Launch} {e : Env} {s : State} {m : MethodId} {args : Array Value} {below : List Frame} {meth : Method} {c : Code} {D : va_G} {y : Nat → ClassId} {aS : Nat → Nat} {A : Nat → Prop} {L : List Nat} {ad : Nat → Nat} {N : Nat} {res : Int32}
def fX8_placeOf_38 (N : Nat) (σ : gS) : Option Int32 := some (-1)
set_option maxRecDepth 100000 in
set_option maxHeartbeats 4000000 in
theorem wX8_placeOf_38 {σ : gS} (hx : p.tables.exec = Jvm.exec) (hb : c.code = cX8_placeOf) (hr : meth.sig.returnType = (some .int)) (hml : c.maxLocals = 4) (hown : s.vm.findClass RX8 = some m.cls) (hg : ∀ w ∈ wsL_law, w.before args s = true) (hlocks : meth.locks = false) (hK : gK D y aS s) (hA : ∀ q, s.heap.size ≤ q → A q) (hL : ∀ k, k < 179 → k ∈ L) {H : Heap} {locs : List Loc} {ls : Array Slot} (hY : gY D y A s L ad σ H locs) (hl : lv_has ls 4 []) (h : fX8_placeOf_38 N σ = some res) : W p l e ({ frames := 0, cells := 0, slots := 0, locals := 0 } : Room) s m args below meth c H locs 0 0 (MQ below (va_Qi (fun (r : Int32) (_ : Unit) => r = res) (fun _ => gO D A (GW L y ad σ)) A) args s 0 0 A) (F0 m 38 ls []) := by
  unfold fX8_placeOf_38 at h
  refine lv_iconst (v := (-1)) hx hb dX8_placeOf_38 (by decide) ?_
  cases h
  exact g_iret hx hb hr hlocks () hY.1 hY.2.1 hY.2.2 rfl rfl (Nat.le_of_ble_eq_true rfl) (Nat.le_of_ble_eq_true rfl) dX8_placeOf_39
def fX8_placeOf_2 (N : Nat) (σ : gS) (r0 : Nat) (x1 : Int64) (rec2 : Int32 → Option Int32) (x3 : Int32) : Option Int32 := if (σ.1 r0 1) ≤ x3 then (fX8_placeOf_38 N σ) else (if (Int32.ofNat (gle σ.2.2 (r0 + 1))) ≤ x3 then (fX8_placeOf_38 N σ) else (if x3 < 0 ∨ gle σ.2.2 (r0 + 1) ≤ x3.toNatClampNeg then none else (if (lg_cmp (σ.2.1 (r0 + 1) x3.toNatClampNeg) x1) = 0 then (some x3) else (rec2 (x3 + 1)))))
set_option maxRecDepth 100000 in
set_option maxHeartbeats 4000000 in
theorem wX8_placeOf_2 {σ : gS} {r0 : Nat} {x1 : Int64} (hx : p.tables.exec = Jvm.exec) (hb : c.code = cX8_placeOf) (hr : meth.sig.returnType = (some .int)) (hml : c.maxLocals = 4) (hown : s.vm.findClass RX8 = some m.cls) (hg : ∀ w ∈ wsL_law, w.before args s = true) (hlocks : meth.locks = false) (hK : gK D y aS s) (hA : ∀ q, s.heap.size ≤ q → A q) (hL : ∀ k, k < 179 → k ∈ L) (hr0 : gcl r0 = 8) : ∀ (n : Nat) {x3 : Int32} (H : Heap) (locs : List Loc) (ls : Array Slot), gY D y A s L ad σ H locs → lv_has ls 4 [(0, .ref (ad r0)), (1, .long x1), (3, .int x3)] → lp (fX8_placeOf_2 N σ r0 x1) n x3 = some res → W p l e ({ frames := 0, cells := 0, slots := 0, locals := 0 } : Room) s m args below meth c H locs 0 0 (MQ below (va_Qi (fun (r : Int32) (_ : Unit) => r = res) (fun _ => gO D A (GW L y ad σ)) A) args s 0 0 A) (F0 m 2 ls []) := by
  intro n
  induction n with
  | zero => intro x3 H locs ls hY hl h; exact nomatch (show none = some res from h)
  | succ n hrec2 =>
    intro x3 H locs ls hY hl h
    replace h : fX8_placeOf_2 N σ r0 x1 (lp (fX8_placeOf_2 N σ r0 x1) n) x3 = some res := h
    generalize lp (fX8_placeOf_2 N σ r0 x1) n = rec2 at h hrec2
    unfold fX8_placeOf_2 at h
    try dsimp only at h
    refine lv_iload_n hx hb dX8_placeOf_2 rfl (lv_at hl 2 rfl) ?_
    refine lv_aload_n hx hb dX8_placeOf_3 rfl (lv_at hl 0 rfl) ?_
    refine G_get (ci := 8) (j := 1) (C := RX8) (T := TX8) (N := 2) (v := .int (σ.1 r0 1)) hx hb hg inlX8 hown hK hY (hL _ (gcl_lt hr0 (by decide))) hr0 (by decide) rfl (by decide) tX8_1 (hg _ gw_154) rfl dX8_placeOf_4 ?_
    refine lv_icmp_ge (tgt := 38) hx hb dX8_placeOf_7 (by decide) (fun z_1 => ?_) (fun z_1 => ?_)
    ·
      rw [if_pos z_1] at h
      exact wX8_placeOf_38 hx hb hr hml hown hg hlocks hK hA hL hY (lv_sub hl [] rfl) h
    ·
      rw [if_neg z_1] at h
      refine lv_iload_n hx hb dX8_placeOf_10 rfl (lv_at hl 2 rfl) ?_
      refine lv_aload_n hx hb dX8_placeOf_11 rfl (lv_at hl 0 rfl) ?_
      refine G_get (ci := 8) (j := 0) (C := RX8) (T := TX8) (N := 2) (v := .ref (ad (r0 + 1))) hx hb hg inlX8 hown hK hY (hL _ (gcl_lt hr0 (by decide))) hr0 (by decide) rfl (by decide) tX8_0 (hg _ gw_98) rfl dX8_placeOf_12 ?_
      refine G_alenJ hx hb hK hY (hL _ (gcl_rowL hr0)) (gcl_row hr0) dX8_placeOf_15 ?_
      refine lv_icmp_ge (tgt := 38) hx hb dX8_placeOf_16 (by decide) (fun z_2 => ?_) (fun z_2 => ?_)
      ·
        rw [if_pos z_2] at h
        exact wX8_placeOf_38 hx hb hr hml hown hg hlocks hK hA hL hY (lv_sub hl [] rfl) h
      ·
        rw [if_neg z_2] at h
        refine lv_aload_n hx hb dX8_placeOf_19 rfl (lv_at hl 0 rfl) ?_
        refine G_get (ci := 8) (j := 0) (C := RX8) (T := TX8) (N := 2) (v := .ref (ad (r0 + 1))) hx hb hg inlX8 hown hK hY (hL _ (gcl_lt hr0 (by decide))) hr0 (by decide) rfl (by decide) tX8_0 (hg _ gw_98) rfl dX8_placeOf_20 ?_
        refine lv_iload_n hx hb dX8_placeOf_23 rfl (lv_at hl 2 rfl) ?_
        obtain ⟨z_3, h⟩ := g_guard h
        refine G_lald (j := x3.toNatClampNeg) hx hb hK hY (hL _ (gcl_rowL hr0)) (gcl_row hr0) z_3 rfl dX8_placeOf_24 ?_
        refine lv_lload_n hx hb dX8_placeOf_25 rfl (lv_at hl 1 rfl) ?_
        refine W.lcmp hx hb dX8_placeOf_26 ?_
        refine lv_if_ne (tgt := 32) hx hb dX8_placeOf_27 (by decide) (fun z_4 => ?_) (fun z_4 => ?_)
        ·
          rw [if_neg z_4] at h
          refine lv_iinc (v := (x3 + 1)) (lv' := [(3, .int (x3 + 1)), (0, .ref (ad r0)), (1, .long x1)]) hx hb dX8_placeOf_32 hl (k := 2) rfl rfl (by decide) rfl ?_
          clear hl
          intro ls hl
          refine lv_goto (tgt := 2) hx hb dX8_placeOf_35 (by decide) ?_
          exact hrec2 _ _ _ hY (lv_sub hl [1, 2, 0] rfl) h
        ·
          rw [if_pos z_4] at h
          refine lv_iload_n hx hb dX8_placeOf_30 rfl (lv_at hl 2 rfl) ?_
          cases h
          exact g_iret hx hb hr hlocks () hY.1 hY.2.1 hY.2.2 rfl rfl (Nat.le_of_ble_eq_true rfl) (Nat.le_of_ble_eq_true rfl) dX8_placeOf_31
end
def fX8_placeOf (N : Nat) (σ : gS) (r0 : Nat) (x1 : Int64) : Option Int32 := lp (fX8_placeOf_2 N σ r0 x1) N 0
set_option maxRecDepth 100000 in
set_option maxHeartbeats 4000000 in
theorem kX8_placeOf (l : Launch) (D : va_G) (y : Nat → ClassId) (aS : Nat → Nat) (sz : Nat) (L : List Nat) (hL : ∀ k, k < 179 → k ∈ L) (ad : Nat → Nat) (N : Nat) (σ : gS) (r0 : Nat) (x1 : Int64) (res : Int32) (hr0 : gcl r0 = 8) (h : fX8_placeOf N σ r0 x1 = some res) : Met l yX8_placeOf (Cond.code yX8_placeOf cX8_placeOf 4 (some .int) :: wsL_law) ({ frames := 0, cells := 0, slots := 0, locals := 0 } : Room) (va_Pc [.ref (ad r0), .long x1] (gI D y aS (GW L y ad σ) sz)) (va_Qi (fun (r : Int32) (_ : Unit) => r = res) (fun _ => gO D (va_A (GW L y ad σ) sz) (GW L y ad σ)) (va_A (GW L y ad σ) sz)) 0 0 (va_A (GW L y ad σ) sz) := by
  refine g_of (by decide) (Nat.le_of_ble_eq_true rfl) ?_
  intro p e s m below meth c ls A hx hb hr hml hown hg hlocks hin hsz hK hP hD hS hA hAe hl
  rw [← hAe]
  replace hown : s.vm.findClass RX8 = some m.cls := hown
  have hY : gY D y A s L ad σ s.heap [] := ⟨hP, hD, hS⟩
  clear hP hD hS
  replace hl : lv_has ls 4 [(0, .ref (ad r0)), (1, .long x1)] := hl
  unfold fX8_placeOf at h
  refine lv_iconst (v := 0) hx hb dX8_placeOf_0 (by decide) ?_
  refine lv_istore_n (lv' := [(3, .int 0), (0, .ref (ad r0)), (1, .long x1)]) hx hb dX8_placeOf_1 rfl hl (by decide) rfl ?_
  clear hl
  intro ls hl
  exact wX8_placeOf_2 hx hb hr hml hown hg hlocks hK hA hL hr0 N _ _ _ hY (lv_sub hl [1, 2, 0] rfl) h
theorem ggV_RX8_19_X8_add : GoodIn wsL_law (wsV RX8 19 RX8 yX8_add (Cond.code yX8_add cX8_add 3 none :: wsL_law)) := g_gi (fun _ h => h) gW_good (List.forall_mem_cons.mpr ⟨⟨gw_159, rfl⟩, List.forall_mem_cons.mpr ⟨⟨gw_151, rfl⟩, List.forall_mem_cons.mpr ⟨⟨gw_152, rfl⟩, List.forall_mem_cons.mpr ⟨⟨gw_48, rfl⟩, fun _ h => nomatch h⟩⟩⟩⟩) ⟨gw_153, rfl⟩
section
variable {p : Program} {l : Launch} {e : Env} {s : State} {m : MethodId} {args : Array Value} {below : List Frame} {meth : Method} {c : Code} {D : va_G} {y : Nat → ClassId} {aS : Nat → Nat} {A : Nat → Prop} {L : List Nat} {ad : Nat → Nat} {N : Nat} {res : gS}
def fX8_addMany_30 (N : Nat) (σ : gS) : Option gS := some σ
set_option maxRecDepth 100000 in
set_option maxHeartbeats 4000000 in
theorem wX8_addMany_30 {σ : gS} (hx : p.tables.exec = Jvm.exec) (hb : c.code = cX8_addMany) (hr : meth.sig.returnType = none) (hml : c.maxLocals = 5) (hown : s.vm.findClass RX8 = some m.cls) (hg : ∀ w ∈ wsL_law, w.before args s = true) (hlocks : meth.locks = false) (hK : gK D y aS s) (hA : ∀ q, s.heap.size ≤ q → A q) (hL : ∀ k, k < 179 → k ∈ L) {H : Heap} {locs : List Loc} {ls : Array Slot} (hY : gY D y A s L ad σ H locs) (hl : lv_has ls 5 []) (h : fX8_addMany_30 N σ = some res) : W p l e ({ frames := 1, cells := 0, slots := 0, locals := 22 } : Room) s m args below meth c H locs 0 0 (MQ below (va_Qv (fun (_ : Unit) => True) (fun _ => gO D A (GW L y ad res)) A) args s 0 0 A) (F0 m 30 ls []) := by
  unfold fX8_addMany_30 at h
  cases h
  exact g_vret hx hb hr hlocks () hY.1 hY.2.1 hY.2.2 trivial (Nat.le_of_ble_eq_true rfl) (Nat.le_of_ble_eq_true rfl) dX8_addMany_30
def fX8_addMany_3 (N : Nat) (r0 : Nat) (x1 : Int32) (x2 : Int64) (rec3 : (gS × Int32) → Option gS) (xx : gS × Int32) : Option gS := match xx with
  | (σ, x4) => if x1 ≤ x4 then (fX8_addMany_30 N σ) else (if (Int32.ofNat (gle σ.2.2 (r0 + 1))) ≤ x4 then (fX8_addMany_30 N σ) else ((fX8_add N σ r0 x2).bind fun r_3 => rec3 (r_3, (x4 + 1))))
set_option maxRecDepth 100000 in
set_option maxHeartbeats 4000000 in
theorem wX8_addMany_3 {r0 : Nat} {x1 : Int32} {x2 : Int64} (hx : p.tables.exec = Jvm.exec) (hb : c.code = cX8_addMany) (hr : meth.sig.returnType = none) (hml : c.maxLocals = 5) (hown : s.vm.findClass RX8 = some m.cls) (hg : ∀ w ∈ wsL_law, w.before args s = true) (hlocks : meth.locks = false) (hK : gK D y aS s) (hA : ∀ q, s.heap.size ≤ q → A q) (hL : ∀ k, k < 179 → k ∈ L) (hr0 : gcl r0 = 8) : ∀ (n : Nat) {σ : gS} {x4 : Int32} (H : Heap) (locs : List Loc) (ls : Array Slot), gY D y A s L ad σ H locs → lv_has ls 5 [(0, .ref (ad r0)), (1, .int x1), (2, .long x2), (4, .int x4)] → lp (fX8_addMany_3 N r0 x1 x2) n (σ, x4) = some res → W p l e ({ frames := 1, cells := 0, slots := 0, locals := 22 } : Room) s m args below meth c H locs 0 0 (MQ below (va_Qv (fun (_ : Unit) => True) (fun _ => gO D A (GW L y ad res)) A) args s 0 0 A) (F0 m 3 ls []) := by
  intro n
  induction n with
  | zero => intro σ x4 H locs ls hY hl h; exact nomatch (show none = some res from h)
  | succ n hrec3 =>
    intro σ x4 H locs ls hY hl h
    replace h : fX8_addMany_3 N r0 x1 x2 (lp (fX8_addMany_3 N r0 x1 x2) n) (σ, x4) = some res := h
    generalize lp (fX8_addMany_3 N r0 x1 x2) n = rec3 at h hrec3
    unfold fX8_addMany_3 at h
    try dsimp only at h
    refine lv_iload hx hb dX8_addMany_3 (lv_at hl 3 rfl) ?_
    refine lv_iload_n hx hb dX8_addMany_5 rfl (lv_at hl 1 rfl) ?_
    refine lv_icmp_ge (tgt := 30) hx hb dX8_addMany_6 (by decide) (fun z_1 => ?_) (fun z_1 => ?_)
    ·
      rw [if_pos z_1] at h
      exact wX8_addMany_30 hx hb hr hml hown hg hlocks hK hA hL hY (lv_sub hl [] rfl) h
    ·
      rw [if_neg z_1] at h
      refine lv_iload hx hb dX8_addMany_9 (lv_at hl 3 rfl) ?_
      refine lv_aload_n hx hb dX8_addMany_11 rfl (lv_at hl 0 rfl) ?_
      refine G_get (ci := 8) (j := 0) (C := RX8) (T := TX8) (N := 2) (v := .ref (ad (r0 + 1))) hx hb hg inlX8 hown hK hY (hL _ (gcl_lt hr0 (by decide))) hr0 (by decide) rfl (by decide) tX8_0 (hg _ gw_98) rfl dX8_addMany_12 ?_
      refine G_alenJ hx hb hK hY (hL _ (gcl_rowL hr0)) (gcl_row hr0) dX8_addMany_15 ?_
      refine lv_icmp_ge (tgt := 30) hx hb dX8_addMany_16 (by decide) (fun z_2 => ?_) (fun z_2 => ?_)
      ·
        rw [if_pos z_2] at h
        exact wX8_addMany_30 hx hb hr hml hown hg hlocks hK hA hL hY (lv_sub hl [] rfl) h
      ·
        rw [if_neg z_2] at h
        refine lv_aload_n hx hb dX8_addMany_19 rfl (lv_at hl 0 rfl) ?_
        refine lv_lload_n hx hb dX8_addMany_20 rfl (lv_at hl 2 rfl) ?_
        obtain ⟨r_3, e_4, h⟩ := g_bind h
        refine G_av hY hA (va_runV (As := [.long x2]) (rest := []) ⟨hx, hb, hml, hown, hg⟩ (kX8_add l D y aS H.size L hL ad N σ r0 x2 _ hr0 e_4) (cwV 1 hg ggV_RX8_19_X8_add rfl rfl rfl (by decide +kernel) ⟨Nat.le_of_ble_eq_true rfl, Nat.le_of_ble_eq_true rfl⟩) (G_pV (q := (RX8, TX8, 2)) hK hY (hL _ (gcl_lt hr0 (by decide))) hr0 (by decide) rfl) rfl rfl hl.1 rfl (lv_room (Nat.le_of_ble_eq_true rfl)) dX8_addMany_21 ⟨Nat.le_of_ble_eq_true rfl, Nat.le_of_ble_eq_true rfl⟩) ?_
        clear hY
        rintro H locs hY
        refine lv_iinc (v := (x4 + 1)) (lv' := [(4, .int (x4 + 1)), (0, .ref (ad r0)), (1, .int x1), (2, .long x2)]) hx hb dX8_addMany_24 hl (k := 3) rfl rfl (by decide) rfl ?_
        clear hl
        intro ls hl
        refine lv_goto (tgt := 3) hx hb dX8_addMany_27 (by decide) ?_
        exact hrec3 _ _ _ hY (lv_sub hl [1, 2, 3, 0] rfl) h
end
def fX8_addMany (N : Nat) (σ : gS) (r0 : Nat) (x1 : Int32) (x2 : Int64) : Option gS := lp (fX8_addMany_3 N r0 x1 x2) N (σ, 0)
set_option maxRecDepth 100000 in
set_option maxHeartbeats 4000000 in
theorem kX8_addMany (l : Launch) (D : va_G) (y : Nat → ClassId) (aS : Nat → Nat) (sz : Nat) (L : List Nat) (hL : ∀ k, k < 179 → k ∈ L) (ad : Nat → Nat) (N : Nat) (σ : gS) (r0 : Nat) (x1 : Int32) (x2 : Int64) (res : gS) (hr0 : gcl r0 = 8) (h : fX8_addMany N σ r0 x1 x2 = some res) : Met l yX8_addMany (Cond.code yX8_addMany cX8_addMany 5 none :: wsL_law) ({ frames := 1, cells := 0, slots := 0, locals := 22 } : Room) (va_Pc [.ref (ad r0), .int x1, .long x2] (gI D y aS (GW L y ad σ) sz)) (va_Qv (fun (_ : Unit) => True) (fun _ => gO D (va_A (GW L y ad σ) sz) (GW L y ad res)) (va_A (GW L y ad σ) sz)) 0 0 (va_A (GW L y ad σ) sz) := by
  refine g_of (by decide) (Nat.le_of_ble_eq_true rfl) ?_
  intro p e s m below meth c ls A hx hb hr hml hown hg hlocks hin hsz hK hP hD hS hA hAe hl
  rw [← hAe]
  replace hown : s.vm.findClass RX8 = some m.cls := hown
  have hY : gY D y A s L ad σ s.heap [] := ⟨hP, hD, hS⟩
  clear hP hD hS
  replace hl : lv_has ls 5 [(0, .ref (ad r0)), (1, .int x1), (2, .long x2)] := hl
  unfold fX8_addMany at h
  refine lv_iconst (v := 0) hx hb dX8_addMany_0 (by decide) ?_
  refine lv_istore (lv' := [(4, .int 0), (0, .ref (ad r0)), (1, .int x1), (2, .long x2)]) hx hb dX8_addMany_1 hl (by decide) rfl ?_
  clear hl
  intro ls hl
  exact wX8_addMany_3 hx hb hr hml hown hg hlocks hK hA hL hr0 N _ _ _ hY (lv_sub hl [1, 2, 3, 0] rfl) h
