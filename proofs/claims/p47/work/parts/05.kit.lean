/-! a layer over the kit's rows: one list of words G for all methods; worlds cut and joined in one row; the six array classes in one table -/
def gT (y : Nat → ClassId) : List (ClassId × FieldType) := [(y 0, .int), (y 1, .long), (y 2, .int), (y 3, .object RX1), (y 4, .object RX3), (y 5, .object RX6)]
/-- words that the tables alone decide, and that are not kept word by word: private methods of nest mates, the chain of exceptions' constructors, what is caught -/
def gkind : Cond → Bool
  | .methodLinkNest _ _ _ _ => true
  | .declares _ => true
  | .castable _ _ => true
  | _ => false
theorem gkind_ot {w : Cond} (h : gkind w = true) : w.onTables = true := by cases w <;> first | rfl | cases h
theorem gkind_warm {w : Cond} (h : gkind w = true) {s U : State} (hW : s.WarmedH U.vm) (hZ : va_Nw w s) : va_Nw w U := by
  cases w <;> first | exact va_Nw.warmM hW hZ | exact va_Nw.warmD hW hZ | exact va_Nw.warmC hW hZ | cases h
def gB : List Cond := [Cond.methodLinkNest "Greentrunk" 25 ⟨"Greentrunk$Verdicts", "<init>", "()V"⟩ "Greentrunk",
  Cond.methodLinkNest "Greentrunk" 32 ⟨"Greentrunk$Lane", "<init>", "()V"⟩ "Greentrunk",
  Cond.methodLinkNest "Greentrunk" 39 ⟨"Greentrunk$Beginnings", "<init>", "()V"⟩ "Greentrunk",
  Cond.methodLinkNest "Greentrunk" 46 ⟨"Greentrunk$Wanted", "<init>", "()V"⟩ "Greentrunk",
  Cond.methodLinkNest "Greentrunk" 53 ⟨"Greentrunk$LogBook", "<init>", "()V"⟩ "Greentrunk",
  Cond.methodLinkNest "Greentrunk$Pipeline" 78 ⟨"Greentrunk", "hasBit", "(II)Z"⟩ "Greentrunk",
  Cond.castable "java/lang/IndexOutOfBoundsException" "java/lang/IndexOutOfBoundsException",
  Cond.declares ⟨"java/lang/RuntimeException", "<init>", "()V"⟩,
  Cond.declares ⟨"java/lang/RuntimeException", "<init>", "(Ljava/lang/String;)V"⟩,
  Cond.declares ⟨"java/lang/Exception", "<init>", "()V"⟩,
  Cond.declares ⟨"java/lang/Exception", "<init>", "(Ljava/lang/String;)V"⟩,
  Cond.declares ⟨"java/lang/Throwable", "<init>", "()V"⟩,
  Cond.declares ⟨"java/lang/Throwable", "<init>", "(Ljava/lang/String;)V"⟩,
  Cond.castable "java/lang/IllegalStateException" "java/lang/IllegalStateException",
  Cond.castable "java/lang/IllegalArgumentException" "java/lang/IllegalArgumentException",
  Cond.methodLinkNest "Greentrunk$Change" 34 ⟨"Greentrunk", "hasBit", "(II)Z"⟩ "Greentrunk",
  Cond.methodLinkNest "Greentrunk$Change" 55 ⟨"Greentrunk", "contentIn", "(JI)I"⟩ "Greentrunk",
  Cond.methodLinkNest "Greentrunk$Changes" 69 ⟨"Greentrunk", "maskOf", "(I)J"⟩ "Greentrunk",
  Cond.methodLinkNest "Greentrunk$Pipeline" 48 ⟨"Greentrunk", "maskOf", "(I)J"⟩ "Greentrunk",
  Cond.methodLinkNest "Greentrunk$Check" 59 ⟨"Greentrunk", "contentIn", "(JI)I"⟩ "Greentrunk",
  Cond.methodLinkNest "Greentrunk$Check" 65 ⟨"Greentrunk", "hasBit", "(II)Z"⟩ "Greentrunk"]
def gStr : List (Nat × String × Nat) := [(366, "there is no such one", 0), (380, "this can't be done as things are", 1), (373, "an argument is out of its range", 2), (376, "an argument does not go with the others", 3)]
def gNc : List (String × String) := [("java/lang/IllegalStateException", "java/lang/IndexOutOfBoundsException"), ("java/lang/IllegalArgumentException", "java/lang/IndexOutOfBoundsException"), ("java/lang/IllegalStateException", "java/lang/IllegalArgumentException"), ("java/lang/IndexOutOfBoundsException", "java/lang/IllegalArgumentException")]
theorem gB_ok : ∀ w ∈ gB, gkind w = true := List.all_eq_true.mp (show gB.all gkind = true by decide +kernel)
/-- what a state's tables say: the classes, the array classes, words, the texts of the class's own exceptions -/
def gK (D : va_G) (y : Nat → ClassId) (aS : Nat → Nat) (U : State) : Prop := va_K D vwCl (gT y) U ∧ (∀ w ∈ gB, va_Nw w U) ∧ (va_AO RX1 U ∧ va_AO RX3 U ∧ va_AO RX6 U) ∧ (∀ q ∈ gStr, vk_R RX11 q.1 q.2.1 (aS q.2.2) U) ∧ ∀ q ∈ gNc, va_Nc q.1 q.2 U
theorem gK.warm {D : va_G} {y : Nat → ClassId} {aS : Nat → Nat} {s U : State} (hW : s.WarmedH U.vm) (h : gK D y aS s) : gK D y aS U :=
  ⟨va_K.moved hW.alike h.1, fun w hw => gkind_warm (gB_ok w hw) hW (h.2.1 w hw), ⟨h.2.2.1.1.moved hW.alike, h.2.2.1.2.1.moved hW.alike, h.2.2.1.2.2.moved hW.alike⟩, fun q hq => vk_R.warm hW (h.2.2.2.1 q hq), fun q hq => (h.2.2.2.2 q hq).moved hW.alike⟩
theorem gK.calling {D : va_G} {y : Nat → ClassId} {aS : Nat → Nat} {U : State} {g : JFrame} {mk : MethodId} {a : Array Value} (h : gK D y aS U) : gK D y aS (U.calling g mk a) :=
  ⟨va_K.moved (u := U) (U := U.calling g mk a) (Vm.Alike.refl U.vm) h.1, fun w hw => va_Nw.same (gkind_ot (gB_ok w hw)) (u := U) rfl (h.2.1 w hw), ⟨h.2.2.1.1.moved (Vm.Alike.refl U.vm), h.2.2.1.2.1.moved (Vm.Alike.refl U.vm), h.2.2.1.2.2.moved (Vm.Alike.refl U.vm)⟩, fun q hq => vk_R.same (u := U) rfl (h.2.2.2.1 q hq), fun q hq => va_Nc.moved (u := U) (Vm.Alike.refl U.vm) (h.2.2.2.2 q hq)⟩
def gI (D : va_G) (y : Nat → ClassId) (aS : Nat → Nat) (ws : va_W) (sz : Nat) : State → Prop := fun U => U.heap.size = sz ∧ va_P D vwCl ws U.heap ∧ gK D y aS U ∧ va_D (fun _ => True) ws
def gO (D : va_G) (A : Nat → Prop) (ws : va_W) : State → Prop := fun t => va_P D vwCl ws t.heap ∧ va_D A ws
theorem gI_blind {D : va_G} {y aS : Nat → Nat} {ws : va_W} {sz : Nat} {As : List Value} : FrameBlind (va_Pc As (gI D y aS ws sz)) := fun a U g mk q => by
  obtain ⟨q0, q1, qP, qK, qD⟩ := q
  exact ⟨q0, q1, qP, qK.calling, qD⟩
theorem g_fm {α β : Type} (f : α → Option β) : ∀ (is : List α) (w : List β), is.map f = w.map some → is.filterMap f = w
  | [], [], _ => rfl
  | [], _ :: _, h => by simp at h
  | _ :: _, [], h => by simp at h
  | a :: is, b :: w, h => by
    simp only [List.map_cons, List.cons.injEq] at h
    rw [List.filterMap_cons, h.1]
    simp only [g_fm f is w h.2]
theorem g_preS {s : State} {H : Heap} {D : va_G} {y : Nat → ClassId} {aS : Nat → Nat} {A : Nat → Prop} {ws Wc : va_W} {As : List Value} (hK : gK D y aS s) (hP : va_P D vwCl ws H) (hD : va_D A ws) (is : List Nat) (hs : is.map (fun i => ws[i]?) = Wc.map some) (hn : va_nd is = true) : PreS s H (va_Pc As (gI D y aS Wc H.size)) As :=
  ⟨gI_blind, fun U hU hW => ⟨rfl, by rw [hU], by rw [hU]; exact hP.sub is (g_fm _ is Wc hs), gK.warm hW hK, (hD.sub is hn hs).weaken (fun _ _ _ _ => trivial)⟩⟩
theorem g_preV {s : State} {H : Heap} {D : va_G} {y : Nat → ClassId} {aS : Nat → Nat} {A : Nat → Prop} {ws Wc : va_W} {As : List Value} {b q0 ci : Nat} {q : vw_C} {fs : List Value} (hK : gK D y aS s) (hP : va_P D vwCl ws H) (hD : va_D A ws) (is : List Nat) (hs : is.map (fun i => ws[i]?) = Wc.map some) (hn : va_nd is = true) (hc : vwCl[ci]? = some q) (he : ws[q0]? = some (b, .inr (ci, fs))) : PreV s H q.1 b (va_Pc (.ref b :: As) (gI D y aS Wc H.size)) As :=
  ⟨gI_blind, va_recv hK.1 hP hc he, fun U hU hW => ⟨rfl, by rw [hU], by rw [hU]; exact hP.sub is (g_fm _ is Wc hs), gK.warm hW hK, (hD.sub is hn hs).weaken (fun _ _ _ _ => trivial)⟩⟩
section GC
variable {p : Program} {l : Launch} {e : Env} {R : Room} {s : State} {m : MethodId} {args : Array Value} {below : List Frame} {meth : Method} {c : Code} {H : Heap} {locs : List Loc} {cells slots mc ms : Nat} {Q : State → Prop} {D : va_G} {y : Nat → ClassId} {aS : Nat → Nat} {A : Nat → Prop} {ws Wc wr : va_W} {a : Array Value} {pc : Nat} {ls : Array Slot} {st0 rest : List Value} {S : Type} {W1 : S → va_W}
theorem g_ai {post : Int32 → S → Prop} (hr : va_Run p l e R s m args below meth c H locs cells slots mc ms (F0 m pc ls st0) rest (va_Qi post (fun u => gO D (va_A Wc H.size) (W1 u)) (va_A Wc H.size) a) (va_A Wc H.size)) (hP : va_P D vwCl ws H) (hD : va_D A ws) (hS : va_S A s.heap H locs) (hA : ∀ q, s.heap.size ≤ q → A q) (isC isR : List Nat) (hC : isC.map (fun i => ws[i]?) = Wc.map some) (hR : isR.map (fun i => ws[i]?) = wr.map some) (hn : va_nd isR = true) (hdis : ∀ i ∈ isR, i ∉ isC)
    (kk : ∀ (r : Int32) (u : S) (H1 : Heap) (locs1 : List Loc), post r u → va_P D vwCl (wr ++ W1 u) H1 → va_D A (wr ++ W1 u) → va_S A s.heap H1 locs1 → W p l e R s m args below meth c H1 locs1 (cells + mc) (slots + ms) Q (F0 m (pc + 3) ls (.int r :: rest))) : W p l e R s m args below meth c H locs cells slots Q (F0 m pc ls st0) := by
  have hF := va_free hD hS hA isC hC
  refine va_calli hr hS (fun q _ h => hF q h) hF (fun r u t H1 locs1 ht hvm hq hB hz hk hS1 => ?_)
  obtain ⟨hP1, hD1⟩ := hB
  rw [ht] at hP1
  obtain ⟨hP2, hD2⟩ := va_join hP hD isC isR hC hR hn hdis hk hF hP1 hD1
  exact kk r u H1 locs1 hq hP2 hD2 hS1
theorem g_al {post : Int64 → S → Prop} (hr : va_Run p l e R s m args below meth c H locs cells slots mc ms (F0 m pc ls st0) rest (va_Ql post (fun u => gO D (va_A Wc H.size) (W1 u)) (va_A Wc H.size) a) (va_A Wc H.size)) (hP : va_P D vwCl ws H) (hD : va_D A ws) (hS : va_S A s.heap H locs) (hA : ∀ q, s.heap.size ≤ q → A q) (isC isR : List Nat) (hC : isC.map (fun i => ws[i]?) = Wc.map some) (hR : isR.map (fun i => ws[i]?) = wr.map some) (hn : va_nd isR = true) (hdis : ∀ i ∈ isR, i ∉ isC)
    (kk : ∀ (r : Int64) (u : S) (H1 : Heap) (locs1 : List Loc), post r u → va_P D vwCl (wr ++ W1 u) H1 → va_D A (wr ++ W1 u) → va_S A s.heap H1 locs1 → W p l e R s m args below meth c H1 locs1 (cells + mc) (slots + ms) Q (F0 m (pc + 3) ls (.long r :: rest))) : W p l e R s m args below meth c H locs cells slots Q (F0 m pc ls st0) := by
  have hF := va_free hD hS hA isC hC
  refine va_calll hr hS (fun q _ h => hF q h) hF (fun r u t H1 locs1 ht hvm hq hB hz hk hS1 => ?_)
  obtain ⟨hP1, hD1⟩ := hB
  rw [ht] at hP1
  obtain ⟨hP2, hD2⟩ := va_join hP hD isC isR hC hR hn hdis hk hF hP1 hD1
  exact kk r u H1 locs1 hq hP2 hD2 hS1
theorem g_av {post : S → Prop} (hr : va_Run p l e R s m args below meth c H locs cells slots mc ms (F0 m pc ls st0) rest (va_Qv post (fun u => gO D (va_A Wc H.size) (W1 u)) (va_A Wc H.size) a) (va_A Wc H.size)) (hP : va_P D vwCl ws H) (hD : va_D A ws) (hS : va_S A s.heap H locs) (hA : ∀ q, s.heap.size ≤ q → A q) (isC isR : List Nat) (hC : isC.map (fun i => ws[i]?) = Wc.map some) (hR : isR.map (fun i => ws[i]?) = wr.map some) (hn : va_nd isR = true) (hdis : ∀ i ∈ isR, i ∉ isC)
    (kk : ∀ (u : S) (H1 : Heap) (locs1 : List Loc), post u → va_P D vwCl (wr ++ W1 u) H1 → va_D A (wr ++ W1 u) → va_S A s.heap H1 locs1 → W p l e R s m args below meth c H1 locs1 (cells + mc) (slots + ms) Q (F0 m (pc + 3) ls (rest))) : W p l e R s m args below meth c H locs cells slots Q (F0 m pc ls st0) := by
  have hF := va_free hD hS hA isC hC
  refine va_callv hr hS (fun q _ h => hF q h) hF (fun u t H1 locs1 ht hvm hq hB hz hk hS1 => ?_)
  obtain ⟨hP1, hD1⟩ := hB
  rw [ht] at hP1
  obtain ⟨hP2, hD2⟩ := va_join hP hD isC isR hC hR hn hdis hk hF hP1 hD1
  exact kk u H1 locs1 hq hP2 hD2 hS1
theorem g_ar {post : S → Prop} {ra : S → Nat} (hr : va_Run p l e R s m args below meth c H locs cells slots mc ms (F0 m pc ls st0) rest (va_Qr post (fun u b t => b = ra u ∧ gO D (va_A Wc H.size) (W1 u) t) (va_A Wc H.size) a) (va_A Wc H.size)) (hP : va_P D vwCl ws H) (hD : va_D A ws) (hS : va_S A s.heap H locs) (hA : ∀ q, s.heap.size ≤ q → A q) (isC isR : List Nat) (hC : isC.map (fun i => ws[i]?) = Wc.map some) (hR : isR.map (fun i => ws[i]?) = wr.map some) (hn : va_nd isR = true) (hdis : ∀ i ∈ isR, i ∉ isC)
    (kk : ∀ (u : S) (H1 : Heap) (locs1 : List Loc), post u → va_P D vwCl (wr ++ W1 u) H1 → va_D A (wr ++ W1 u) → va_S A s.heap H1 locs1 → W p l e R s m args below meth c H1 locs1 (cells + mc) (slots + ms) Q (F0 m (pc + 3) ls (.ref (ra u) :: rest))) : W p l e R s m args below meth c H locs cells slots Q (F0 m pc ls st0) := by
  have hF := va_free hD hS hA isC hC
  refine va_callr hr hS (fun q _ h => hF q h) hF (fun u r t H1 locs1 ht hvm hq hB hz hk hS1 => ?_)
  obtain ⟨rfl, hP1, hD1⟩ := hB
  rw [ht] at hP1
  obtain ⟨hP2, hD2⟩ := va_join hP hD isC isR hC hR hn hdis hk hF hP1 hD1
  exact kk u H1 locs1 hq hP2 hD2 hS1
end GC
section GE
variable {p : Program} {l : Launch} {e : Env} {R : Room} {s : State} {m : MethodId} {args : Array Value} {below : List Frame} {meth : Method} {c : Code} {H : Heap} {locs : List Loc} {cells slots mc ms : Nat} {D : va_G} {y : Nat → ClassId} {aS : Nat → Nat} {A : Nat → Prop} {pc : Nat} {ls : Array Slot} {S : Type} {W1 : S → va_W} {cc : ByteArray}
theorem g_iret {post : Int32 → S → Prop} {v : Int32} {ty : FieldType} (hx : p.tables.exec = Jvm.exec) (hb : c.code = cc) (hr : meth.sig.returnType = some ty) (hlocks : meth.locks = false) (u : S) (hP : va_P D vwCl (W1 u) H) (hD : va_D A (W1 u)) (hS : va_S A s.heap H locs) (hn : narrow ty (.int v) = .int v) (hq : post v u) (hc : cells ≤ mc) (hs : slots ≤ ms) (hdg : decode cc pc = .ok (.ireturn, 1)) : W p l e R s m args below meth c H locs cells slots (MQ below (va_Qi post (fun u => gO D A (W1 u)) A) args s mc ms A) (F0 m pc ls [.int v]) :=
  W.widen hc hs (W.zret hx hb hr hn (fun t ht hW => ⟨⟨v, u, rfl, hq, by rw [ht]; exact hP, hD⟩, hS.F ht⟩) hS.2.2 hdg hlocks)
theorem g_lret {post : Int64 → S → Prop} {v : Int64} (hx : p.tables.exec = Jvm.exec) (hb : c.code = cc) (hr : meth.sig.returnType = some .long) (hlocks : meth.locks = false) (u : S) (hP : va_P D vwCl (W1 u) H) (hD : va_D A (W1 u)) (hS : va_S A s.heap H locs) (hq : post v u) (hc : cells ≤ mc) (hs : slots ≤ ms) (hdg : decode cc pc = .ok (.lreturn, 1)) : W p l e R s m args below meth c H locs cells slots (MQ below (va_Ql post (fun u => gO D A (W1 u)) A) args s mc ms A) (F0 m pc ls [.long v]) :=
  W.widen hc hs (W.lret hx hb hr (fun t ht hW => ⟨⟨v, u, rfl, hq, by rw [ht]; exact hP, hD⟩, hS.F ht⟩) hS.2.2 hdg hlocks)
theorem g_vret {post : S → Prop} (hx : p.tables.exec = Jvm.exec) (hb : c.code = cc) (hr : meth.sig.returnType = none) (hlocks : meth.locks = false) (u : S) (hP : va_P D vwCl (W1 u) H) (hD : va_D A (W1 u)) (hS : va_S A s.heap H locs) (hq : post u) (hc : cells ≤ mc) (hs : slots ≤ ms) (hdg : decode cc pc = .ok (.return_, 1)) : W p l e R s m args below meth c H locs cells slots (MQ below (va_Qv post (fun u => gO D A (W1 u)) A) args s mc ms A) (F0 m pc ls []) :=
  W.widen hc hs (W.vret hx hb hr (fun t ht hW => ⟨⟨u, rfl, hq, by rw [ht]; exact hP, hD⟩, hS.F ht⟩) hS.2.2 hdg hlocks)
theorem g_aret {post : S → Prop} {ra : S → Nat} {v : Nat} {n : String} (hx : p.tables.exec = Jvm.exec) (hb : c.code = cc) (hr : meth.sig.returnType = some (.object n)) (hlocks : meth.locks = false) (u : S) (hP : va_P D vwCl (W1 u) H) (hD : va_D A (W1 u)) (hS : va_S A s.heap H locs) (hv : v = ra u) (hq : post u) (hc : cells ≤ mc) (hs : slots ≤ ms) (hdg : decode cc pc = .ok (.areturn, 1)) : W p l e R s m args below meth c H locs cells slots (MQ below (va_Qr post (fun u b t => b = ra u ∧ gO D A (W1 u) t) A) args s mc ms A) (F0 m pc ls [.ref v]) :=
  W.widen hc hs (W.aret hx hb hr (Or.inl ⟨_, rfl⟩) (Or.inr ⟨_, rfl⟩) (fun t ht hW => ⟨⟨u, v, rfl, hq, hv, by rw [ht]; exact hP, hD⟩, hS.F ht⟩) hS.2.2 hdg hlocks)
theorem g_newa {atype : ArrayType} {ws : va_W} {ty : FieldType} (hx : p.tables.exec = Jvm.exec) (hb : c.code = cc) {rest : List Value} {Q : State → Prop} (t0 : Nat) {cT : ClassId} (ht0 : (gT y)[t0]? = some (cT, ty)) (hno : ∀ C, ty ≠ .object C) (harr : (Cond.arrayClass (newarray.typeOf atype)).before args s = true) (hty : newarray.typeOf atype = ty) (hK : gK D y aS s) (hP : va_P D vwCl ws H) (hD : va_D A ws) (hS : va_S A s.heap H locs) (hA : ∀ q, s.heap.size ≤ q → A q)
    {n : Int32} {N' : Nat} {a0 : vp_A} (ha : ∀ cA : ClassId, vp_cell cA a0 = arrV cA N' (fun _ => defaultValue ty)) (hn : ¬ n < 0) (hN : n.toNatClampNeg = N') (hbytes : N' * componentBytes ty ≤ 536870912) (hcells : cells + 1 ≤ R.cells) (hslots : slots + N' ≤ R.slots) (hdg : decode cc pc = .ok (.newarray atype, 2))
    (kk : ∀ (q : Nat) (H1 : Heap), va_P D vwCl (ws ++ [(q, .inl (cT, a0))]) H1 → va_D A (ws ++ [(q, .inl (cT, a0))]) → va_S A s.heap H1 locs →
      W p l e R s m args below meth c H1 locs (cells + 1) (slots + N') Q (F0 m (pc + 2) ls (.ref q :: rest))) : W p l e R s m args below meth c H locs cells slots Q (F0 m pc ls (.int n :: rest)) := by
  refine va_newa hx hb harr hty hK.1 hP hD hS hA ha hn hN hbytes hcells hslots hdg (fun q cA H1 hK1 hP1 hD1 hS1 => ?_)
  have h1 := (hK1.2 (gT y).length (cA, ty) (by simp)).2
  have h2 := (hK.1.2 t0 _ ht0).2
  have h3 : cA = cT := by
    cases ty <;> first | exact absurd rfl (hno _) | exact Option.some.inj (h1.symm.trans h2)
  subst h3
  exact kk q H1 hP1 hD1 hS1
theorem g_newq {ws : va_W} {own C : String} {index : Nat} (hx : p.tables.exec = Jvm.exec) (hb : c.code = cc) {rest : List Value} {Q : State → Prop} (t0 : Nat) {cT : ClassId} (ht0 : (gT y)[t0]? = some (cT, .object C)) (hown : s.vm.findClass own = some m.cls) (hclink : (Cond.classLink own index C).before args s = true) (hover : va_AO C s) (hK : gK D y aS s) (hP : va_P D vwCl ws H) (hD : va_D A ws) (hS : va_S A s.heap H locs) (hA : ∀ q, s.heap.size ≤ q → A q)
    {n : Int32} {N' : Nat} (hn : ¬ n < 0) (hN : n.toNatClampNeg = N') (hbytes : N' * 4 ≤ 536870912) (hcells : cells + 1 ≤ R.cells) (hslots : slots + N' ≤ R.slots) (hdg : decode cc pc = .ok (.anewarray index, 3))
    (kk : ∀ (q : Nat) (H1 : Heap), va_P D vwCl (ws ++ [(q, .inl (cT, N', .inr (.inr (.inr (.inr (fun _ => none))))))]) H1 → va_D A (ws ++ [(q, .inl (cT, N', .inr (.inr (.inr (.inr (fun _ => none))))))]) → va_S A s.heap H1 locs →
      W p l e R s m args below meth c H1 locs (cells + 1) (slots + N') Q (F0 m (pc + 3) ls (.ref q :: rest))) : W p l e R s m args below meth c H locs cells slots Q (F0 m pc ls (.int n :: rest)) := by
  refine va_newq hx hb hown hclink hover hK.1 hP hD hS hA hn hN hbytes hcells hslots hdg (fun q cA H1 hK1 hP1 hD1 hS1 => ?_)
  obtain ⟨-, -, -, -, -, h1⟩ := (hK1.2 (gT y).length (cA, .object C) (by simp)).2
  obtain ⟨-, -, -, -, -, h2⟩ := (hK.1.2 t0 _ ht0).2
  have h3 : cA = cT := Option.some.inj (h1.symm.trans h2)
  subst h3
  exact kk q H1 hP1 hD1 hS1
end GE
/-- a contract's start, all words of one list -/
theorem g_of {l : Launch} {yM : MethodName} {G : List Cond} {rm : Room} {W0 : va_W} {As : List Value} {sz mc ms maxL : Nat} {cc : ByteArray} {ret : Option FieldType} {D : va_G} {y : Nat → ClassId} {aS : Nat → Nat} {Qc : Array Value → State → Outcome → State → Prop} (hy : plainName yM.cls = true) (hlen : (lg_sl As).length ≤ maxL)
    (body : ∀ (p : Program) (e : Env) (s : State) (m : MethodId) (below : List Frame) (meth : Method) (c : Code) (ls : Array Slot) (A : Nat → Prop), p.tables.exec = Jvm.exec → c.code = cc → meth.sig.returnType = ret → c.maxLocals = maxL → s.vm.findClass yM.cls = some m.cls → (∀ w ∈ G, w.before As.toArray s = true) → meth.locks = false → meth.name = yM.name → s.heap.size = sz → gK D y aS s → va_P D vwCl W0 s.heap → va_D A W0 → va_S A s.heap s.heap [] → (∀ q, s.heap.size ≤ q → A q) → A = va_A W0 sz → lv_has ls maxL (lv_args 0 As) →
      W p l e rm s m As.toArray below meth c s.heap [] 0 0 (MQ below Qc As.toArray s mc ms A) (F0 m 0 ls [])) :
    Met l yM (.code yM cc maxL ret :: G) rm (va_Pc As (gI D y aS W0 sz)) Qc mc ms (va_A W0 sz) := by
  refine Met.ofW (cc := cc) (maxL := maxL) (ret := ret) hy rfl ?_
  intro p e s m args below meth c s₁ B hml hv
  obtain ⟨rfl, hsz, hP, hK, hD0⟩ := hv
  have hts := atoms_spec (ws := .code yM cc maxL ret :: G) B.pre
  have hD := hD0.self (sz := sz)
  have hl := lv_entry As (n := maxL) hlen
  rw [lg_entry_eq]
  exact body p e s m below meth c _ _ B.exec B.bytes B.returns hml (findClass_of_methodNamed B.named) (fun w h => hts w (List.mem_cons_of_mem _ h)) B.notSynchronized (name_of_methodNamed B.named B.method).1 hsz hK hP hD va_S.rf (fun q h => Or.inr (by rw [← hsz]; exact h)) rfl hl
/-- words of a call -/
theorem g_gi {G B : List Cond} {cd : Cond} {X : List Cond} (hB : ∀ w ∈ G, w ∈ B) (hG : G.all goodWord = true) (hX : ∀ w ∈ X, w ∈ B ∧ goodWord w = true) (hcd : cd ∈ B ∧ goodWord cd = true) : GoodIn B (X ++ (cd :: G)) :=
  goodIn_app (fun w h => ⟨(hX w h).1, good_of_word (hX w h).2⟩) (fun w h => (List.mem_cons.mp h).elim (fun e => by rw [e]; exact ⟨hcd.1, good_of_word hcd.2⟩) (fun h => ⟨hB w h, good_of_word (List.all_eq_true.mp hG w h)⟩))
/-! folds, facts of branches, default values -/
section GF
variable {p : Program} {l : Launch} {e : Env} {R : Room} {s : State} {m : MethodId} {args : Array Value} {below : List Frame} {meth : Method} {c : Code} {H : Heap} {locs : List Loc} {cells slots : Nat} {Q : State → Prop} {pc : Nat} {ls : Array Slot} {rest : List Value}
theorem g_fi {x v : Int32} (h : x = v) (k : W p l e R s m args below meth c H locs cells slots Q (F0 m pc ls (.int v :: rest))) : W p l e R s m args below meth c H locs cells slots Q (F0 m pc ls (.int x :: rest)) := by rw [h]; exact k
theorem g_fj {x v : Int64} (h : x = v) (k : W p l e R s m args below meth c H locs cells slots Q (F0 m pc ls (.long v :: rest))) : W p l e R s m args below meth c H locs cells slots Q (F0 m pc ls (.long x :: rest)) := by rw [h]; exact k
theorem g_fr {x v : Value} (h : x = v) (k : W p l e R s m args below meth c H locs cells slots Q (F0 m pc ls (v :: rest))) : W p l e R s m args below meth c H locs cells slots Q (F0 m pc ls (x :: rest)) := by rw [h]; exact k
theorem g_ind {α : Type} {st : List Value} (μ : α → Nat) (P : α → Heap → List Loc → Array Slot → Prop) (h : ∀ (x : α) (H : Heap) (locs : List Loc) (ls : Array Slot), P x H locs ls → (∀ (x' : α) (H' : Heap) (locs' : List Loc) (ls' : Array Slot), P x' H' locs' ls' → μ x' < μ x → W p l e R s m args below meth c H' locs' cells slots Q (F0 m pc ls' st)) → W p l e R s m args below meth c H locs cells slots Q (F0 m pc ls st)) (x : α) (H : Heap) (locs : List Loc) (ls : Array Slot) (hp : P x H locs ls) : W p l e R s m args below meth c H locs cells slots Q (F0 m pc ls st) := by
  have key : ∀ (n : Nat) (x : α) (H : Heap) (locs : List Loc) (ls : Array Slot), μ x < n → P x H locs ls → W p l e R s m args below meth c H locs cells slots Q (F0 m pc ls st) := by
    intro n
    induction n with
    | zero => intro x H locs ls h0; exact absurd h0 (Nat.not_lt_zero _)
    | succ n ih => intro x H locs ls hn hp; exact h x H locs ls hp (fun x' H' locs' ls' hp' hlt => ih x' H' locs' ls' (by omega) hp')
  exact key (μ x + 1) x H locs ls (Nat.lt_succ_self _) hp
theorem g_jn {α : Type} {pcj : Nat} {ls0 : Array Slot} {st : List Value} (P : α → Array Slot → Prop) (h1 : ∀ (x : α) (ls : Array Slot), P x ls → W p l e R s m args below meth c H locs cells slots Q (F0 m pcj ls [])) (h2 : (∀ (x : α) (ls : Array Slot), P x ls → W p l e R s m args below meth c H locs cells slots Q (F0 m pcj ls [])) → W p l e R s m args below meth c H locs cells slots Q (F0 m pc ls0 st)) : W p l e R s m args below meth c H locs cells slots Q (F0 m pc ls0 st) := h2 h1
end GF
theorem g_cmpr (x : Int64) : lg_cmp x x = 0 := by simp [lg_cmp]
theorem g_one : (1 : Int32).toInt = 1 := by decide +kernel
theorem g_inc {x : Int32} (h : x.toInt < 2147483647) : (x + 1).toInt = x.toInt + 1 := by
  have h1 := Int32.le_toInt x
  rw [Int32.toInt_add]
  simp only [g_one]
  rw [Int.bmod_eq_of_le] <;> omega
theorem g_ltt {a b : Int32} (h : a < b) : a.toInt < b.toInt := Int32.lt_iff_toInt_lt.mp h
theorem g_ltf {a b : Int32} (h : ¬ a < b) : b.toInt ≤ a.toInt := Int.not_lt.mp fun q => h (Int32.lt_iff_toInt_lt.mpr q)
theorem g_get {a b : Int32} (h : b ≤ a) : b.toInt ≤ a.toInt := Int32.le_iff_toInt_le.mp h
theorem g_gef {a b : Int32} (h : ¬ b ≤ a) : a.toInt < b.toInt := Int.not_le.mp fun q => h (Int32.le_iff_toInt_le.mpr q)
theorem g_gtt {a b : Int32} (h : b < a) : b.toInt < a.toInt := Int32.lt_iff_toInt_lt.mp h
theorem g_gtf {a b : Int32} (h : ¬ b < a) : a.toInt ≤ b.toInt := Int.not_lt.mp fun q => h (Int32.lt_iff_toInt_lt.mpr q)
theorem g_let {a b : Int32} (h : a ≤ b) : a.toInt ≤ b.toInt := Int32.le_iff_toInt_le.mp h
theorem g_lef {a b : Int32} (h : ¬ a ≤ b) : b.toInt < a.toInt := Int.not_le.mp fun q => h (Int32.le_iff_toInt_le.mpr q)
theorem g_eqt {a b : Int32} (h : a = b) : a.toInt = b.toInt := by rw [h]
theorem g_eqf {a b : Int32} (h : ¬ a = b) : ¬ a.toInt = b.toInt := fun q => h (Int32.toInt_inj.mp q)
theorem g_net {a b : Int32} (h : ¬ a = b) : ¬ a.toInt = b.toInt := fun q => h (Int32.toInt_inj.mp q)
theorem g_nef {a b : Int32} (h : a = b) : a.toInt = b.toInt := by rw [h]
theorem g_l0 : (0 : Int32).toInt = 0 := by decide +kernel
theorem g_l1 : (1 : Int32).toInt = 1 := by decide +kernel
theorem g_l2 : (2 : Int32).toInt = 2 := by decide +kernel
theorem g_l3 : (3 : Int32).toInt = 3 := by decide +kernel
theorem g_l4 : (4 : Int32).toInt = 4 := by decide +kernel
theorem g_l5 : (5 : Int32).toInt = 5 := by decide +kernel
theorem g_l6 : (6 : Int32).toInt = 6 := by decide +kernel
theorem g_l7 : (7 : Int32).toInt = 7 := by decide +kernel
theorem g_l8 : (8 : Int32).toInt = 8 := by decide +kernel
theorem g_l9 : (9 : Int32).toInt = 9 := by decide +kernel
theorem g_l10 : (10 : Int32).toInt = 10 := by decide +kernel
theorem g_l11 : (11 : Int32).toInt = 11 := by decide +kernel
theorem g_l12 : (12 : Int32).toInt = 12 := by decide +kernel
theorem g_l13 : (13 : Int32).toInt = 13 := by decide +kernel
theorem g_l14 : (14 : Int32).toInt = 14 := by decide +kernel
theorem g_l15 : (15 : Int32).toInt = 15 := by decide +kernel
theorem g_l16 : (16 : Int32).toInt = 16 := by decide +kernel
theorem g_l17 : (17 : Int32).toInt = 17 := by decide +kernel
theorem g_l18 : (18 : Int32).toInt = 18 := by decide +kernel
theorem g_l19 : (19 : Int32).toInt = 19 := by decide +kernel
theorem g_l20 : (20 : Int32).toInt = 20 := by decide +kernel
theorem g_l21 : (21 : Int32).toInt = 21 := by decide +kernel
theorem g_l22 : (22 : Int32).toInt = 22 := by decide +kernel
theorem g_l23 : (23 : Int32).toInt = 23 := by decide +kernel
theorem g_l24 : (24 : Int32).toInt = 24 := by decide +kernel
theorem g_l25 : (25 : Int32).toInt = 25 := by decide +kernel
theorem g_l26 : (26 : Int32).toInt = 26 := by decide +kernel
theorem g_l27 : (27 : Int32).toInt = 27 := by decide +kernel
theorem g_l28 : (28 : Int32).toInt = 28 := by decide +kernel
theorem g_l29 : (29 : Int32).toInt = 29 := by decide +kernel
theorem g_l30 : (30 : Int32).toInt = 30 := by decide +kernel
theorem g_l31 : (31 : Int32).toInt = 31 := by decide +kernel
theorem g_l32 : (32 : Int32).toInt = 32 := by decide +kernel
theorem g_l33 : (33 : Int32).toInt = 33 := by decide +kernel
theorem g_l34 : (34 : Int32).toInt = 34 := by decide +kernel
theorem g_l35 : (35 : Int32).toInt = 35 := by decide +kernel
theorem g_l36 : (36 : Int32).toInt = 36 := by decide +kernel
theorem g_l37 : (37 : Int32).toInt = 37 := by decide +kernel
theorem g_l38 : (38 : Int32).toInt = 38 := by decide +kernel
theorem g_l39 : (39 : Int32).toInt = 39 := by decide +kernel
theorem g_l40 : (40 : Int32).toInt = 40 := by decide +kernel
theorem g_l41 : (41 : Int32).toInt = 41 := by decide +kernel
theorem g_l42 : (42 : Int32).toInt = 42 := by decide +kernel
theorem g_l43 : (43 : Int32).toInt = 43 := by decide +kernel
theorem g_l44 : (44 : Int32).toInt = 44 := by decide +kernel
theorem g_l45 : (45 : Int32).toInt = 45 := by decide +kernel
theorem g_l46 : (46 : Int32).toInt = 46 := by decide +kernel
theorem g_l47 : (47 : Int32).toInt = 47 := by decide +kernel
theorem g_l48 : (48 : Int32).toInt = 48 := by decide +kernel
theorem g_l49 : (49 : Int32).toInt = 49 := by decide +kernel
theorem g_l50 : (50 : Int32).toInt = 50 := by decide +kernel
theorem g_l51 : (51 : Int32).toInt = 51 := by decide +kernel
theorem g_l52 : (52 : Int32).toInt = 52 := by decide +kernel
theorem g_l53 : (53 : Int32).toInt = 53 := by decide +kernel
theorem g_l54 : (54 : Int32).toInt = 54 := by decide +kernel
theorem g_l55 : (55 : Int32).toInt = 55 := by decide +kernel
theorem g_l56 : (56 : Int32).toInt = 56 := by decide +kernel
theorem g_l57 : (57 : Int32).toInt = 57 := by decide +kernel
theorem g_l58 : (58 : Int32).toInt = 58 := by decide +kernel
theorem g_l59 : (59 : Int32).toInt = 59 := by decide +kernel
theorem g_l60 : (60 : Int32).toInt = 60 := by decide +kernel
theorem g_l61 : (61 : Int32).toInt = 61 := by decide +kernel
theorem g_l62 : (62 : Int32).toInt = 62 := by decide +kernel
theorem g_l63 : (63 : Int32).toInt = 63 := by decide +kernel
theorem g_l64 : (64 : Int32).toInt = 64 := by decide +kernel
theorem g_l100 : (100 : Int32).toInt = 100 := by decide +kernel
theorem g_l200 : (200 : Int32).toInt = 200 := by decide +kernel
theorem g_l4095 : (4095 : Int32).toInt = 4095 := by decide +kernel
theorem g_l732 : (732 : Int32).toInt = 732 := by decide +kernel
theorem g_l720 : (720 : Int32).toInt = 720 := by decide +kernel
theorem g_l6000 : (6000 : Int32).toInt = 6000 := by decide +kernel
theorem g_lm1 : (-1 : Int32).toInt = -1 := by decide +kernel
theorem g_lm2 : (-2 : Int32).toInt = -2 := by decide +kernel
theorem dfX0 : ∀ j, j < 7 → defaultValue (tyX0 j) = vp_V [.null, .null, .null, .int 0, .int 0, .int 0, .int 0] j := by decide +kernel
theorem dfX1 : ∀ j, j < 14 → defaultValue (tyX1 j) = vp_V [.int 0, .int 0, .int 0, .int 0, .int 0, .int 0, .long 0, .long 0, .long 0, .int 0, .int 0, .int 0, .int 0, .int 0] j := by decide +kernel
theorem dfX2 : ∀ j, j < 5 → defaultValue (tyX2 j) = vp_V [.null, .null, .null, .int 0, .int 0] j := by decide +kernel
theorem dfX3 : ∀ j, j < 10 → defaultValue (tyX3 j) = vp_V [.int 0, .null, .int 0, .long 0, .int 0, .int 0, .int 0, .int 0, .int 0, .int 0] j := by decide +kernel
theorem dfX4 : ∀ j, j < 9 → defaultValue (tyX4 j) = vp_V [.int 0, .int 0, .int 0, .int 0, .null, .null, .null, .null, .long 0] j := by decide +kernel
theorem dfX5 : ∀ j, j < 5 → defaultValue (tyX5 j) = vp_V [.null, .null, .null, .null, .int 0] j := by decide +kernel
theorem dfX6 : ∀ j, j < 6 → defaultValue (tyX6 j) = vp_V [.int 0, .int 0, .int 0, .long 0, .int 0, .int 0] j := by decide +kernel
theorem dfX7 : ∀ j, j < 6 → defaultValue (tyX7 j) = vp_V [.null, .null, .null, .null, .null, .int 0] j := by decide +kernel
theorem dfX8 : ∀ j, j < 2 → defaultValue (tyX8 j) = vp_V [.null, .int 0] j := by decide +kernel
theorem dfX9 : ∀ j, j < 3 → defaultValue (tyX9 j) = vp_V [.null, .null, .int 0] j := by decide +kernel
theorem dfX10 : ∀ j, j < 4 → defaultValue (tyX10 j) = vp_V [.null, .null, .null, .null] j := by decide +kernel
theorem dfX11 : ∀ j, j < 19 → defaultValue (tyX11 j) = vp_V [.null, .null, .null, .null, .null, .null, .null, .null, .null, .null, .null, .null, .null, .null, .int 0, .int 0, .int 0, .int 0, .int 0] j := by decide +kernel
/-! fields by their rows, so that the tables aren't run again and again -/
section GM
variable {p : Program} {l : Launch} {e : Env} {R : Room} {s : State} {m : MethodId} {args : Array Value} {below : List Frame} {meth : Method} {c : Code} {H H0 : Heap} {locs : List Loc} {cells slots : Nat} {Q : State → Prop} {pc : Nat} {ls : Array Slot} {rest : List Value} {cc : ByteArray} {D : va_G} {cl : List vw_C} {tys : List (ClassId × FieldType)} {ws : va_W} {A : Nat → Prop} {a : Nat}
theorem gm_get (hexec : p.tables.exec = Jvm.exec) (hb : c.code = cc) {own C ref n d : String} {fin : Bool} {T : u_T} {N ci index : Nat} {Ts : List Cond} (hts : ∀ w ∈ Ts, w.before args s = true) (hin : ∀ w ∈ u_ws C T N, w ∈ Ts) (hown : s.vm.findClass own = some m.cls) (hK : va_K D cl tys s) (hP : va_P D cl ws H) (q0 : Nat) {fs : List Value} (he : ws[q0]? = some (a, .inr (ci, fs))) (hc : cl[ci]? = some (C, T, N)) (k : Nat) (hk : k < N) (hT : T k = (ref, n, d, fin)) (hlink : (Cond.fieldLink own index ref n d).before args s = true) {v : Value} (hv : fs[k]? = some v) (hdg : decode cc pc = .ok (.getfield index, 3))
    (kk : W p l e R s m args below meth c H locs cells slots Q (F0 m (pc + 3) ls (v :: rest))) : W p l e R s m args below meth c H locs cells slots Q (F0 m pc ls (.ref a :: rest)) :=
  va_get (ref := ref) (index := index) hexec hb hts hin hown hK hP q0 he hc k hk (by rw [hT]; exact hlink) (by rw [hT]; exact fun _ h => h) hv hdg kk
theorem gm_put (hexec : p.tables.exec = Jvm.exec) (hb : c.code = cc) {own C ref n d : String} {T : u_T} {N ci index : Nat} {Ts : List Cond} (hts : ∀ w ∈ Ts, w.before args s = true) (hin : ∀ w ∈ u_ws C T N, w ∈ Ts) (ty0 : Nat → FieldType) (hty : ∀ k, k < N → parseFieldDescriptor (T k).2.2.1 = some (ty0 k)) (hnm : ∀ a, a < N → ∀ b, b < N → a ≠ b → (T a).2.1 ≠ (T b).2.1) (hown : s.vm.findClass own = some m.cls) (hK : va_K D cl tys s) (hP : va_P D cl ws H) (hD : va_D A ws) (hS0 : va_S A H0 H locs) (q0 : Nat) {fs : List Value} (he : ws[q0]? = some (a, .inr (ci, fs))) (hc : cl[ci]? = some (C, T, N)) (k : Nat) (hk : k < N) (hT : T k = (ref, n, d, false)) (hlink : (Cond.fieldLink own index ref n d).before args s = true) {ty : FieldType} {v : Value} (hd : parseFieldDescriptor d = some ty) (hn : narrow ty v = v) (hfit : fits ty v = true) (hl : k < fs.length)
    (hdg : decode cc pc = .ok (.putfield index, 3)) (kk : ∀ (H1 : Heap) (locs1 : List Loc), va_P D cl (ws.set q0 (a, .inr (ci, fs.set k v))) H1 → va_D A (ws.set q0 (a, .inr (ci, fs.set k v))) → va_S A H0 H1 locs1 → W p l e R s m args below meth c H1 locs1 cells slots Q (F0 m (pc + 3) ls rest)) : W p l e R s m args below meth c H locs cells slots Q (F0 m pc ls (v :: .ref a :: rest)) :=
  va_put (ref := ref) (index := index) hexec hb hts hin ty0 hty hnm hown hK hP hD hS0 q0 he hc k hk (by rw [hT]; exact hlink) (by rw [hT]; exact fun _ h => h) (by rw [hT]) (by rw [hT]; exact hd) hn hfit hl hdg kk
theorem gm_putF (hexec : p.tables.exec = Jvm.exec) (hb : c.code = cc) {own C ref n d : String} {T : u_T} {N ci index : Nat} {Ts : List Cond} (hts : ∀ w ∈ Ts, w.before args s = true) (hin : ∀ w ∈ u_ws C T N, w ∈ Ts) (ty0 : Nat → FieldType) (hty : ∀ k, k < N → parseFieldDescriptor (T k).2.2.1 = some (ty0 k)) (hnm : ∀ a, a < N → ∀ b, b < N → a ≠ b → (T a).2.1 ≠ (T b).2.1) (hown : s.vm.findClass own = some m.cls) (hK : va_K D cl tys s) (hP : va_P D cl ws H) (hD : va_D A ws) (hS0 : va_S A H0 H locs) (q0 : Nat) {fs : List Value} (he : ws[q0]? = some (a, .inr (ci, fs))) (hc : cl[ci]? = some (C, T, N)) (k : Nat) (hk : k < N) (hT : T k = (ref, n, d, true)) (hlink : (Cond.fieldLink own index ref n d).before args s = true) (hin2 : meth.name = "<init>") (hro : ref = own) {ty : FieldType} {v : Value} (hd : parseFieldDescriptor d = some ty) (hn : narrow ty v = v) (hfit : fits ty v = true) (hl : k < fs.length)
    (hdg : decode cc pc = .ok (.putfield index, 3)) (kk : ∀ (H1 : Heap) (locs1 : List Loc), va_P D cl (ws.set q0 (a, .inr (ci, fs.set k v))) H1 → va_D A (ws.set q0 (a, .inr (ci, fs.set k v))) → va_S A H0 H1 locs1 → W p l e R s m args below meth c H1 locs1 cells slots Q (F0 m (pc + 3) ls rest)) : W p l e R s m args below meth c H locs cells slots Q (F0 m pc ls (v :: .ref a :: rest)) :=
  va_putF (ref := ref) (index := index) hexec hb hts hin ty0 hty hnm hown hK hP hD hS0 q0 he hc k hk (by rw [hT]; exact hlink) (by rw [hT]; exact fun _ h => h) (by rw [hT]) hin2 (by rw [hT]; exact hro) (by rw [hT]; exact hd) hn hfit hl hdg kk
end GM
theorem tX0_0 : TX0 0 = ("Greentrunk$Beginnings", "trees", "LGreentrunk$Row;", true) := by decide +kernel
theorem tX0_1 : TX0 1 = ("Greentrunk$Beginnings", "required", "LGreentrunk$Row;", true) := by decide +kernel
theorem tX0_2 : TX0 2 = ("Greentrunk$Beginnings", "weightsTo", "LGreentrunk$Row;", true) := by decide +kernel
theorem tX0_3 : TX0 3 = ("Greentrunk$Beginnings", "verdict", "I", false) := by decide +kernel
theorem tX0_4 : TX0 4 = ("Greentrunk$Beginnings", "good", "I", false) := by decide +kernel
theorem tX0_5 : TX0 5 = ("Greentrunk$Beginnings", "bad", "I", false) := by decide +kernel
theorem tX0_6 : TX0 6 = ("Greentrunk$Beginnings", "next", "I", false) := by decide +kernel
theorem tX1_0 : TX1 0 = ("Greentrunk$Change", "number", "I", true) := by decide +kernel
theorem tX1_1 : TX1 1 = ("Greentrunk$Change", "author", "I", false) := by decide +kernel
theorem tX1_2 : TX1 2 = ("Greentrunk$Change", "parent", "I", false) := by decide +kernel
theorem tX1_3 : TX1 3 = ("Greentrunk$Change", "state", "I", false) := by decide +kernel
theorem tX1_4 : TX1 4 = ("Greentrunk$Change", "commit", "I", false) := by decide +kernel
theorem tX1_5 : TX1 5 = ("Greentrunk$Change", "files", "I", false) := by decide +kernel
theorem tX1_6 : TX1 6 = ("Greentrunk$Change", "mask", "J", false) := by decide +kernel
theorem tX1_7 : TX1 7 = ("Greentrunk$Change", "base", "J", false) := by decide +kernel
theorem tX1_8 : TX1 8 = ("Greentrunk$Change", "contents", "J", false) := by decide +kernel
theorem tX1_9 : TX1 9 = ("Greentrunk$Change", "approvals", "I", false) := by decide +kernel
theorem tX1_10 : TX1 10 = ("Greentrunk$Change", "priority", "I", false) := by decide +kernel
theorem tX1_11 : TX1 11 = ("Greentrunk$Change", "turn", "I", false) := by decide +kernel
theorem tX1_12 : TX1 12 = ("Greentrunk$Change", "isRevert", "Z", false) := by decide +kernel
theorem tX1_13 : TX1 13 = ("Greentrunk$Change", "required", "I", false) := by decide +kernel
theorem tX2_0 : TX2 0 = ("Greentrunk$Changes", "all", "[LGreentrunk$Change;", true) := by decide +kernel
theorem tX2_1 : TX2 1 = ("Greentrunk$Changes", "nobody", "LGreentrunk$Change;", true) := by decide +kernel
theorem tX2_2 : TX2 2 = ("Greentrunk$Changes", "begun", "LGreentrunk$Change;", true) := by decide +kernel
theorem tX2_3 : TX2 3 = ("Greentrunk$Changes", "isBegun", "Z", false) := by decide +kernel
theorem tX2_4 : TX2 4 = ("Greentrunk$Changes", "count", "I", false) := by decide +kernel
theorem tX3_0 : TX3 0 = ("Greentrunk$Check", "number", "I", true) := by decide +kernel
theorem tX3_1 : TX3 1 = ("Greentrunk$Check", "rules", "LGreentrunk$Row;", true) := by decide +kernel
theorem tX3_2 : TX3 2 = ("Greentrunk$Check", "files", "I", false) := by decide +kernel
theorem tX3_3 : TX3 3 = ("Greentrunk$Check", "mask", "J", false) := by decide +kernel
theorem tX3_4 : TX3 4 = ("Greentrunk$Check", "time", "I", false) := by decide +kernel
theorem tX3_5 : TX3 5 = ("Greentrunk$Check", "flaky", "I", false) := by decide +kernel
theorem tX3_6 : TX3 6 = ("Greentrunk$Check", "isOutside", "Z", false) := by decide +kernel
theorem tX3_7 : TX3 7 = ("Greentrunk$Check", "age", "I", false) := by decide +kernel
theorem tX3_8 : TX3 8 = ("Greentrunk$Check", "told", "I", false) := by decide +kernel
theorem tX3_9 : TX3 9 = ("Greentrunk$Check", "flakes", "I", false) := by decide +kernel
theorem tX4_0 : TX4 0 = ("Greentrunk$Lane", "size", "I", false) := by decide +kernel
theorem tX4_1 : TX4 1 = ("Greentrunk$Lane", "depth", "I", false) := by decide +kernel
theorem tX4_2 : TX4 2 = ("Greentrunk$Lane", "turns", "I", false) := by decide +kernel
theorem tX4_3 : TX4 3 = ("Greentrunk$Lane", "isFormed", "Z", false) := by decide +kernel
theorem tX4_4 : TX4 4 = ("Greentrunk$Lane", "order", "LGreentrunk$Row;", true) := by decide +kernel
theorem tX4_5 : TX4 5 = ("Greentrunk$Lane", "members", "LGreentrunk$Row;", true) := by decide +kernel
theorem tX4_6 : TX4 6 = ("Greentrunk$Lane", "ends", "LGreentrunk$Row;", true) := by decide +kernel
theorem tX4_7 : TX4 7 = ("Greentrunk$Lane", "behind", "LGreentrunk$Row;", true) := by decide +kernel
theorem tX4_8 : TX4 8 = ("Greentrunk$Lane", "down", "J", false) := by decide +kernel
theorem tX5_0 : TX5 0 = ("Greentrunk$LogBook", "digits", "LGreentrunk$Row;", true) := by decide +kernel
theorem tX5_1 : TX5 1 = ("Greentrunk$LogBook", "cuts", "LGreentrunk$Row;", true) := by decide +kernel
theorem tX5_2 : TX5 2 = ("Greentrunk$LogBook", "secretDigits", "LGreentrunk$Row;", true) := by decide +kernel
theorem tX5_3 : TX5 3 = ("Greentrunk$LogBook", "secretLengths", "LGreentrunk$Row;", true) := by decide +kernel
theorem tX5_4 : TX5 4 = ("Greentrunk$LogBook", "open", "I", false) := by decide +kernel
theorem tX6_0 : TX6 0 = ("Greentrunk$Machine", "isThere", "Z", false) := by decide +kernel
theorem tX6_1 : TX6 1 = ("Greentrunk$Machine", "last", "I", false) := by decide +kernel
theorem tX6_2 : TX6 2 = ("Greentrunk$Machine", "test", "I", false) := by decide +kernel
theorem tX6_3 : TX6 3 = ("Greentrunk$Machine", "contents", "J", false) := by decide +kernel
theorem tX6_4 : TX6 4 = ("Greentrunk$Machine", "age", "I", false) := by decide +kernel
theorem tX6_5 : TX6 5 = ("Greentrunk$Machine", "left", "I", false) := by decide +kernel
theorem tX7_0 : TX7 0 = ("Greentrunk$Pipeline", "checks", "[LGreentrunk$Check;", true) := by decide +kernel
theorem tX7_1 : TX7 1 = ("Greentrunk$Pipeline", "nothing", "LGreentrunk$Check;", true) := by decide +kernel
theorem tX7_2 : TX7 2 = ("Greentrunk$Pipeline", "lineTests", "LGreentrunk$Row;", true) := by decide +kernel
theorem tX7_3 : TX7 3 = ("Greentrunk$Pipeline", "conditions", "LGreentrunk$Row;", true) := by decide +kernel
theorem tX7_4 : TX7 4 = ("Greentrunk$Pipeline", "objects", "LGreentrunk$Row;", true) := by decide +kernel
theorem tX7_5 : TX7 5 = ("Greentrunk$Pipeline", "count", "I", false) := by decide +kernel
theorem tX8_0 : TX8 0 = ("Greentrunk$Row", "cells", "[J", true) := by decide +kernel
theorem tX8_1 : TX8 1 = ("Greentrunk$Row", "count", "I", false) := by decide +kernel
theorem tX9_0 : TX9 0 = ("Greentrunk$Verdicts", "keys", "[J", false) := by decide +kernel
theorem tX9_1 : TX9 1 = ("Greentrunk$Verdicts", "values", "[I", false) := by decide +kernel
theorem tX9_2 : TX9 2 = ("Greentrunk$Verdicts", "used", "I", false) := by decide +kernel
theorem tX10_0 : TX10 0 = ("Greentrunk$Wanted", "tests", "LGreentrunk$Row;", true) := by decide +kernel
theorem tX10_1 : TX10 1 = ("Greentrunk$Wanted", "contents", "LGreentrunk$Row;", true) := by decide +kernel
theorem tX10_2 : TX10 2 = ("Greentrunk$Wanted", "teams", "LGreentrunk$Row;", true) := by decide +kernel
theorem tX10_3 : TX10 3 = ("Greentrunk$Wanted", "whats", "LGreentrunk$Row;", true) := by decide +kernel
theorem tX11_0 : TX11 0 = ("Greentrunk", "changes", "LGreentrunk$Changes;", true) := by decide +kernel
theorem tX11_1 : TX11 1 = ("Greentrunk", "pipeline", "LGreentrunk$Pipeline;", true) := by decide +kernel
theorem tX11_2 : TX11 2 = ("Greentrunk", "verdicts", "LGreentrunk$Verdicts;", true) := by decide +kernel
theorem tX11_3 : TX11 3 = ("Greentrunk", "lane", "LGreentrunk$Lane;", true) := by decide +kernel
theorem tX11_4 : TX11 4 = ("Greentrunk", "beginnings", "LGreentrunk$Beginnings;", true) := by decide +kernel
theorem tX11_5 : TX11 5 = ("Greentrunk", "wanted", "LGreentrunk$Wanted;", true) := by decide +kernel
theorem tX11_6 : TX11 6 = ("Greentrunk", "logBook", "LGreentrunk$LogBook;", true) := by decide +kernel
theorem tX11_7 : TX11 7 = ("Greentrunk", "machines", "[LGreentrunk$Machine;", true) := by decide +kernel
theorem tX11_8 : TX11 8 = ("Greentrunk", "noMachine", "LGreentrunk$Machine;", true) := by decide +kernel
theorem tX11_9 : TX11 9 = ("Greentrunk", "trunk", "LGreentrunk$Row;", true) := by decide +kernel
theorem tX11_10 : TX11 10 = ("Greentrunk", "owners", "LGreentrunk$Row;", true) := by decide +kernel
theorem tX11_11 : TX11 11 = ("Greentrunk", "weights", "LGreentrunk$Row;", true) := by decide +kernel
theorem tX11_12 : TX11 12 = ("Greentrunk", "uses", "LGreentrunk$Row;", true) := by decide +kernel
theorem tX11_13 : TX11 13 = ("Greentrunk", "blames", "LGreentrunk$Row;", true) := by decide +kernel
theorem tX11_14 : TX11 14 = ("Greentrunk", "now", "I", false) := by decide +kernel
theorem tX11_15 : TX11 15 = ("Greentrunk", "landedInAll", "I", false) := by decide +kernel
theorem tX11_16 : TX11 16 = ("Greentrunk", "failedInFull", "I", false) := by decide +kernel
theorem tX11_17 : TX11 17 = ("Greentrunk", "isFullAsked", "Z", false) := by decide +kernel
theorem tX11_18 : TX11 18 = ("Greentrunk", "isSettled", "Z", false) := by decide +kernel
theorem g_dec {t : List (Nat × Instr × Nat)} {c : ByteArray} (h : ∀ q ∈ t, decode c q.1 = .ok q.2) {k pc : Nat} {r : Instr × Nat} (hk : t[k]? = some (pc, r)) : decode c pc = .ok r := h (pc, r) (List.mem_of_getElem? hk)
