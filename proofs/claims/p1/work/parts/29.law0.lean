/-! THE CLAIM OUT OF ONE WALK OF THE LAW'S BODY. Your part is whole_start (and what it stands on); all else here is the same for every law, but numbers. -/
def R_law : String := "GreentrunkLaw"
def lw_P (b : Addr) (xs : List Int32) (args : Array Value) (s : State) : Prop := args = #[.ref b] ∧ s.IntsAt b xs ∧ xs.length ≤ 6 ∧ (Jvm.Cond.and given_1 narrow_1).before args s = true
def lw_Q (_ : Array Value) (s : State) (o : Outcome) (t : State) : Prop := o = .returned (some (.int 1)) ∧ Framed s o t [] 600002 7302232
def lw_Z (below : List Frame) (a : Array Value) (s : State) : State → Prop := fun t => ∃ o, t.status = .running ∧ Ended t below o ∧ lw_Q a s o t
/-- the law's own end, with 1 on the stack, nothing written that was there before, its room as the claim has it -/
theorem lw_ret {p : Program} {l : Launch} {e : Env} {s : State} {m : MethodId} {below : List Frame} {meth : Method} {c : Code} {b : Nat} (hx : p.tables.exec = Jvm.exec) (hb : c.code = code) (hr : meth.sig.returnType = ret) (hlocks : meth.locks = false) {pc : Nat} {H : Heap} {ls : Array Slot} (hdg : decode code pc = .ok (.ireturn, 1)) : W p l e room_1 s m #[Value.ref b] below meth c H [] 600002 7302232 (lw_Z below #[Value.ref b] s) (F0 m pc ls [.int 1]) := by
  intro T hT X
  obtain ⟨fs, hret, hrun, hended, hW, hframe⟩ := X.leave (v := some (.int 1)) (hlocks := hlocks) (fun h => by rw [hr] at h; cases h)
  have hmeth' : T.vm.method? m = some meth := X.method'
  refine ⟨T.setFrames fs, ?_, .returned (some (.int 1)), hrun, hended, rfl, ⟨_, rfl⟩, hW, hframe⟩
  jvm_step X.here [X.here.top, hx, hb, hdg, hmeth', hr, ret, narrow_b1]
  (try refine ⟨rfl, ?_⟩); (try refine ⟨rfl, ?_⟩)
  first | (intro acts; rw [hret _ acts rfl rfl rfl]) | rw [hret _ _ rfl rfl rfl]
  exact Steps.refl _
/-- what holds at the law's entry: the machine, the code, the tables' words (any of lw_tbl by 'hts w (by decide +kernel)'), the script of L ints xs at the cell b, what the Statement gives of the start (any of its parts by flat_of_before) -/
def lw_At (p : Program) (s : State) (m : MethodId) (meth : Method) (c : Code) (b L : Nat) (xs : Nat → Int32) : Prop :=
  p.tables.exec = Jvm.exec ∧ c.code = code ∧ meth.sig.returnType = ret ∧ c.maxLocals = 7 ∧ s.vm.findClass R_law = some m.cls ∧ (∀ w ∈ lw_tbl, w.before #[Value.ref b] s = true) ∧ va_X b L xs s s.heap ∧ b < s.heap.size ∧ meth.locks = false ∧ (Jvm.Cond.and given_1 narrow_1).before #[Value.ref b] s = true

/-- what every case of the law stands on -/
def law_F (l : Launch) (p : Program) (s : State) (m : MethodId) (meth : Method) (c : Code) (b : Nat) (xs : Nat → Int32) (D : va_G) (y : Nat → ClassId) (aS : Nat → Nat) : Prop :=
  l.stackTraces = false ∧ p.tables.exec = Jvm.exec ∧ c.code = cL_law ∧ meth.sig.returnType = ret ∧ c.maxLocals = 7 ∧ s.vm.findClass RL = some m.cls ∧ (∀ w ∈ wsL_law, w.before #[Value.ref b] s = true) ∧ meth.locks = false ∧ gK D y aS s ∧ gZ (fun q : Nat => s.heap.size ≤ q) s s.heap ∧ va_X b 6 xs s s.heap ∧ b < s.heap.size
theorem g_arrP {ty : FieldType} {args : Array Value} {s : State} (hno : ∀ C, ty ≠ .object C) (h : (Cond.arrayClass ty).before args s = true) : ∃ cA, ArrOfT s cA ty ∧ va_RA s cA ty := by
  obtain ⟨c, k, comp, h1, h2, h3⟩ := Cond.arrayClass_spec h
  refine ⟨c, fun n z => ⟨fun k h => (by cases h), k, h2, comp, h3⟩, ?_⟩
  cases ty <;> first | exact absurd rfl (hno _) | exact h1
theorem g_arrO {C : String} {args : Array Value} {s : State} (h : (Cond.arrayOver (.object C)).before args s = true) : ∃ cA, ArrOfT s cA (.object C) ∧ va_RA s cA (.object C) := by
  obtain ⟨comp, c, k, h1, h2, h3, h4, h5⟩ := Cond.arrayOver_spec h
  exact ⟨c, fun n z => ⟨fun k h => (by cases h), k, h3, comp, h4⟩, k, comp, h3, h4, h1, h5⟩
theorem g_ref {t : Term} {C : String} {args : Array Value} {s : State} (h : (Cond.exactly t C).before args s = true) : ∃ a : Nat, t.eval args s none [] s = some (.ref a) := by
  simp only [Cond.before, Cond.holds, Cond.value] at h
  cases he : t.eval args s none [] s with
  | none => simp [he] at h
  | some v => cases v with
    | ref a => exact ⟨a, rfl⟩
    | _ => cases hf : s.vm.findClass C <;> simp [he, hf] at h
theorem g_str {cls tx : String} {k : Nat} {args : Array Value} {s : State} (h1 : (Cond.stringRef cls k tx).before args s = true) (h2 : (Cond.exactly (.string cls k) "java/lang/String").before args s = true) : ∃ a : Nat, vk_R cls k tx a s := by
  obtain ⟨a, ha⟩ := g_ref h2
  exact ⟨a, vk_R.of h1 ha⟩
def dt1_L_law : List (Nat × Instr × Nat) := [(23, (.iload 4, 2)), (25, (.aload_n 0, 1)), (26, (.arraylength, 1)), (27, (.bipush 6, 2)), (29, (.isub, 1)), (30, (.if_icmp .gt 2652, 3)), (2676, (.iinc 4 6, 3)), (2679, (.goto (-2656), 3)), (2682, (.iconst 1, 1)), (2683, (.ireturn, 1))]
theorem dt1_L_law_ok : ∀ q ∈ dt1_L_law, decode cL_law q.1 = .ok q.2 := by decide +kernel
theorem dL_law_23 : decode cL_law 23 = .ok (.iload 4, 2) := g_dec dt1_L_law_ok (k := 0) rfl
theorem dL_law_25 : decode cL_law 25 = .ok (.aload_n 0, 1) := g_dec dt1_L_law_ok (k := 1) rfl
theorem dL_law_26 : decode cL_law 26 = .ok (.arraylength, 1) := g_dec dt1_L_law_ok (k := 2) rfl
theorem dL_law_27 : decode cL_law 27 = .ok (.bipush 6, 2) := g_dec dt1_L_law_ok (k := 3) rfl
theorem dL_law_29 : decode cL_law 29 = .ok (.isub, 1) := g_dec dt1_L_law_ok (k := 4) rfl
theorem dL_law_30 : decode cL_law 30 = .ok (.if_icmp .gt 2652, 3) := g_dec dt1_L_law_ok (k := 5) rfl
theorem dL_law_2676 : decode cL_law 2676 = .ok (.iinc 4 6, 3) := g_dec dt1_L_law_ok (k := 6) rfl
theorem dL_law_2679 : decode cL_law 2679 = .ok (.goto (-2656), 3) := g_dec dt1_L_law_ok (k := 7) rfl
theorem dL_law_2682 : decode cL_law 2682 = .ok (.iconst 1, 1) := g_dec dt1_L_law_ok (k := 8) rfl
theorem dL_law_2683 : decode cL_law 2683 = .ok (.ireturn, 1) := g_dec dt1_L_law_ok (k := 9) rfl
theorem law_end {p : Program} {l : Launch} {e : Env} {s : State} {m : MethodId} {below : List Frame} {meth : Method} {c : Code} {b : Nat} {xs : Nat → Int32} {H : Heap} {locs : List Loc} {ls : Array Slot} {k n : Nat} (hx : p.tables.exec = Jvm.exec) (hb : c.code = cL_law) (hr : meth.sig.returnType = ret) (hlocks : meth.locks = false) (hX : va_X b 6 xs s s.heap) (hbl : b < s.heap.size) (hbA : ¬ (fun q : Nat => s.heap.size ≤ q) b) (hS : va_S (fun q : Nat => s.heap.size ≤ q) s.heap H locs) (hl : lv_has ls 7 [(0, .ref b), (4, .int 0)]) (hk : k ≤ 600002) (hn : n ≤ 7302232) :
    W p l e room_1 s m #[Value.ref b] below meth c H locs k n (lw_Z below #[Value.ref b] s) (F0 m 2676 ls []) := by
  refine lv_iinc (v := 6) (lv' := [(4, .int 6), (0, .ref b)]) hx hb dL_law_2676 hl (k := 1) rfl (by decide +kernel) (by decide) rfl ?_
  clear hl
  intro ls hl
  refine lv_goto (tgt := 23) hx hb dL_law_2679 (by decide) ?_
  refine lv_iload hx hb dL_law_23 (lv_at hl 0 rfl) ?_
  refine lv_aload_n hx hb dL_law_25 rfl (lv_at hl 1 rfl) ?_
  refine va_slen hx hb hX hbl hbA hS dL_law_26 ?_
  refine g_fi (v := 6) (by first | rfl | decide +kernel) ?_
  refine lv_bipush (v := 6) hx hb dL_law_27 (by decide +kernel) ?_
  refine lv_isub hx hb dL_law_29 ?_
  refine g_fi (v := 0) (by decide +kernel) ?_
  refine lv_icmp_gt (tgt := 2682) hx hb dL_law_30 (by decide) (fun _ => ?_) (fun c9 => absurd (by decide +kernel) c9)
  refine lv_iconst (v := 1) hx hb dL_law_2682 (by decide) ?_
  refine va_forget (fun q hq => hS.2.2 q hq) ?_
  refine W.widen (k := 600002) (n := 7302232) hk hn ?_
  exact lw_ret hx hb hr hlocks dL_law_2683
/-- fewer than six ints: the loop isn't entered -/
theorem law_few {p : Program} {l : Launch} {e : Env} {s : State} {m : MethodId} {below : List Frame} {meth : Method} {c : Code} {b L : Nat} {xs : Nat → Int32} {H : Heap} {locs : List Loc} {ls : Array Slot} {k n : Nat} (hL : L < 6) (hx : p.tables.exec = Jvm.exec) (hb : c.code = cL_law) (hr : meth.sig.returnType = ret) (hlocks : meth.locks = false) (hX : va_X b L xs s s.heap) (hbl : b < s.heap.size) (hbA : ¬ (fun q : Nat => s.heap.size ≤ q) b) (hS : va_S (fun q : Nat => s.heap.size ≤ q) s.heap H locs) (hl : lv_has ls 7 [(0, .ref b), (4, .int 0)]) (hk : k ≤ 600002) (hn : n ≤ 7302232) :
    W p l e room_1 s m #[Value.ref b] below meth c H locs k n (lw_Z below #[Value.ref b] s) (F0 m 23 ls []) := by
  refine lv_iload hx hb dL_law_23 (lv_at hl 1 rfl) ?_
  refine lv_aload_n hx hb dL_law_25 rfl (lv_at hl 0 rfl) ?_
  refine va_slen hx hb hX hbl hbA hS dL_law_26 ?_
  refine lv_bipush (v := 6) hx hb dL_law_27 (by decide +kernel) ?_
  refine lv_isub hx hb dL_law_29 ?_
  refine lv_icmp_gt (tgt := 2682) hx hb dL_law_30 (by decide) (fun _ => ?_) (fun c9 => absurd ?_ c9)
  · refine lv_iconst (v := 1) hx hb dL_law_2682 (by decide) ?_
    refine va_forget (fun q hq => hS.2.2 q hq) ?_
    refine W.widen (k := 600002) (n := 7302232) hk hn ?_
    exact lw_ret hx hb hr hlocks dL_law_2683
  · rcases (show L = 0 ∨ L = 1 ∨ L = 2 ∨ L = 3 ∨ L = 4 ∨ L = 5 by omega) with rfl | rfl | rfl | rfl | rfl | rfl <;> decide +kernel
