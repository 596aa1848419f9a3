/-! methods that return or throw: the class's own four exceptions -/
def gZ (A : Nat → Prop) (U : State) (H : Heap) : Prop := vx_Zq Bundle.tN "UNASSIGNED_STACK" Bundle.steD A U H ∧ vx_Zq Bundle.tN "SUPPRESSED_SENTINEL" Bundle.listD A U H
def gIX (D : va_G) (y : Nat → ClassId) (aS : Nat → Nat) (ws : va_W) (sz : Nat) : State → Prop := fun U => gI D y aS ws sz U ∧ gZ (va_A ws sz) U U.heap
theorem gIX_blind {D : va_G} {y : Nat → ClassId} {aS : Nat → Nat} {ws : va_W} {sz : Nat} {As : List Value} : FrameBlind (va_Pc As (gIX D y aS ws sz)) := fun a U g mk q => by
  obtain ⟨q0, ⟨q1, qP, qK, qD⟩, z1, z2⟩ := q
  exact ⟨q0, ⟨q1, qP, qK.calling, qD⟩, vx_Zq.moved (u := U) (U := U.calling g mk a) (Vm.Alike.refl U.vm) z1, vx_Zq.moved (u := U) (U := U.calling g mk a) (Vm.Alike.refl U.vm) z2⟩
theorem gZ.at {A B : Nat → Prop} {s U : State} {H : Heap} {locs : List Loc} (hZ : gZ A s s.heap) (hS : va_S A s.heap H locs) (hF : ∀ q, B q → A q) (hU : U.heap = H) (hvm : s.vm.Alike U.vm) : gZ B U U.heap := by
  rw [hU]
  exact ⟨((hZ.1.kept hS.2.1).narrow hF).moved hvm, ((hZ.2.kept hS.2.1).narrow hF).moved hvm⟩
theorem gx_preS {s : State} {H : Heap} {locs : List Loc} {D : va_G} {y : Nat → ClassId} {aS : Nat → Nat} {A : Nat → Prop} {ws Wc : va_W} {As : List Value} (hZ : gZ A s s.heap) (hS : va_S A s.heap H locs) (hA : ∀ q, s.heap.size ≤ q → A q) (hK : gK D y aS s) (hP : va_P D vwCl ws H) (hD : va_D A ws) (is : List Nat) (hs : is.map (fun i => ws[i]?) = Wc.map some) (hn : va_nd is = true) : PreS s H (va_Pc As (gIX D y aS Wc H.size)) As :=
  ⟨gIX_blind, fun U hU hW => ⟨rfl, ⟨by rw [hU], by rw [hU]; exact hP.sub is (g_fm _ is Wc hs), gK.warm hW hK, (hD.sub is hn hs).weaken (fun _ _ _ _ => trivial)⟩, hZ.at hS (va_free hD hS hA is hs) hU hW.alike⟩⟩
theorem gx_preV {s : State} {H : Heap} {locs : List Loc} {D : va_G} {y : Nat → ClassId} {aS : Nat → Nat} {A : Nat → Prop} {ws Wc : va_W} {As : List Value} {b q0 ci : Nat} {q : vw_C} {fs : List Value} (hZ : gZ A s s.heap) (hS : va_S A s.heap H locs) (hA : ∀ q, s.heap.size ≤ q → A q) (hK : gK D y aS s) (hP : va_P D vwCl ws H) (hD : va_D A ws) (is : List Nat) (hs : is.map (fun i => ws[i]?) = Wc.map some) (hn : va_nd is = true) (hc : vwCl[ci]? = some q) (he : ws[q0]? = some (b, .inr (ci, fs))) : PreV s H q.1 b (va_Pc (.ref b :: As) (gIX D y aS Wc H.size)) As :=
  ⟨gIX_blind, va_recv hK.1 hP hc he, fun U hU hW => ⟨rfl, ⟨by rw [hU], by rw [hU]; exact hP.sub is (g_fm _ is Wc hs), gK.warm hW hK, (hD.sub is hn hs).weaken (fun _ _ _ _ => trivial)⟩, hZ.at hS (va_free hD hS hA is hs) hU hW.alike⟩⟩
section GXC
variable {p : Program} {l : Launch} {e : Env} {R : Room} {s : State} {m : MethodId} {args : Array Value} {below : List Frame} {meth : Method} {c : Code} {H : Heap} {locs : List Loc} {cells slots mc ms : Nat} {Q : State → Prop} {D : va_G} {A : Nat → Prop} {ws Wc wr WX : va_W} {a : Array Value} {pc : Nat} {ls : Array Slot} {st0 rest : List Value} {S : Type} {W1 : S → va_W} {px : String → Prop}
theorem gx_ai {post : Int32 → S → Prop} (hr : vx_Run p l e R s m args below meth c H locs cells slots mc ms (F0 m pc ls st0) rest (va_Qi post (fun u => gO D (va_A Wc H.size) (W1 u)) (va_A Wc H.size) a) (vx_X px (fun E u t => E = u ∧ gO D (va_A Wc H.size) WX t) (va_A Wc H.size)) (va_A Wc H.size)) (hP : va_P D vwCl ws H) (hD : va_D A ws) (hS : va_S A s.heap H locs) (hA : ∀ q, s.heap.size ≤ q → A q) (isC isR : List Nat) (hC : isC.map (fun i => ws[i]?) = Wc.map some) (hR : isR.map (fun i => ws[i]?) = wr.map some) (hn : va_nd isR = true) (hdis : ∀ i ∈ isR, i ∉ isC)
    (kx : ∀ (E : String) (ce : Cell) (q9 : Addr) (H1 : Heap) (locs1 : List Loc), px E → va_P D vwCl (wr ++ WX) H1 → va_D A (wr ++ WX) → va_S A s.heap H1 locs1 → H1[q9]? = some ce → ce.vm = .none → s.vm.findClass E = some ce.cls → vx_W p l e R s m args below meth c H1 locs1 (cells + mc) (slots + ms) Q (F0 m pc ls rest) q9)
    (kk : ∀ (r : Int32) (u : S) (H1 : Heap) (locs1 : List Loc), post r u → va_P D vwCl (wr ++ W1 u) H1 → va_D A (wr ++ W1 u) → va_S A s.heap H1 locs1 → W p l e R s m args below meth c H1 locs1 (cells + mc) (slots + ms) Q (F0 m (pc + 3) ls (.int r :: rest))) : W p l e R s m args below meth c H locs cells slots Q (F0 m pc ls st0) := by
  have hF := va_free hD hS hA isC hC
  refine vx_calli hr hS (fun q _ h => hF q h) hF (fun q _ h => hF q h) (fun E ce q9 u t H1 locs1 ht hvm hq hB hz hk hS1 hce hcv hcl => ?_) (fun r u t H1 locs1 ht hvm hq hB hz hk hS1 => ?_)
  · obtain ⟨rfl, hP1, hD1⟩ := hB
    rw [ht] at hP1
    obtain ⟨hP2, hD2⟩ := va_join hP hD isC isR hC hR hn hdis hk hF hP1 hD1
    exact kx E ce q9 H1 locs1 hq hP2 hD2 hS1 hce hcv hcl
  · obtain ⟨hP1, hD1⟩ := hB
    rw [ht] at hP1
    obtain ⟨hP2, hD2⟩ := va_join hP hD isC isR hC hR hn hdis hk hF hP1 hD1
    exact kk r u H1 locs1 hq hP2 hD2 hS1
theorem gx_av {post : S → Prop} (hr : vx_Run p l e R s m args below meth c H locs cells slots mc ms (F0 m pc ls st0) rest (va_Qv post (fun u => gO D (va_A Wc H.size) (W1 u)) (va_A Wc H.size) a) (vx_X px (fun E u t => E = u ∧ gO D (va_A Wc H.size) WX t) (va_A Wc H.size)) (va_A Wc H.size)) (hP : va_P D vwCl ws H) (hD : va_D A ws) (hS : va_S A s.heap H locs) (hA : ∀ q, s.heap.size ≤ q → A q) (isC isR : List Nat) (hC : isC.map (fun i => ws[i]?) = Wc.map some) (hR : isR.map (fun i => ws[i]?) = wr.map some) (hn : va_nd isR = true) (hdis : ∀ i ∈ isR, i ∉ isC)
    (kx : ∀ (E : String) (ce : Cell) (q9 : Addr) (H1 : Heap) (locs1 : List Loc), px E → va_P D vwCl (wr ++ WX) H1 → va_D A (wr ++ WX) → va_S A s.heap H1 locs1 → H1[q9]? = some ce → ce.vm = .none → s.vm.findClass E = some ce.cls → vx_W p l e R s m args below meth c H1 locs1 (cells + mc) (slots + ms) Q (F0 m pc ls rest) q9)
    (kk : ∀ (u : S) (H1 : Heap) (locs1 : List Loc), post u → va_P D vwCl (wr ++ W1 u) H1 → va_D A (wr ++ W1 u) → va_S A s.heap H1 locs1 → W p l e R s m args below meth c H1 locs1 (cells + mc) (slots + ms) Q (F0 m (pc + 3) ls (rest))) : W p l e R s m args below meth c H locs cells slots Q (F0 m pc ls st0) := by
  have hF := va_free hD hS hA isC hC
  refine vx_callv hr hS (fun q _ h => hF q h) hF (fun q _ h => hF q h) (fun E ce q9 u t H1 locs1 ht hvm hq hB hz hk hS1 hce hcv hcl => ?_) (fun u t H1 locs1 ht hvm hq hB hz hk hS1 => ?_)
  · obtain ⟨rfl, hP1, hD1⟩ := hB
    rw [ht] at hP1
    obtain ⟨hP2, hD2⟩ := va_join hP hD isC isR hC hR hn hdis hk hF hP1 hD1
    exact kx E ce q9 H1 locs1 hq hP2 hD2 hS1 hce hcv hcl
  · obtain ⟨hP1, hD1⟩ := hB
    rw [ht] at hP1
    obtain ⟨hP2, hD2⟩ := va_join hP hD isC isR hC hR hn hdis hk hF hP1 hD1
    exact kk u H1 locs1 hq hP2 hD2 hS1
/-- not caught here -/
theorem gx_out {Qc : Array Value → State → Outcome → State → Prop} {E : String} {ce : Cell} {q : Addr} (htab : ∀ x ∈ c.exceptionTable.toList, False) (hlocks : meth.locks = false) (hcell : H[q]? = some ce) (hv : ce.vm = .none) (hcl : s.vm.findClass E = some ce.cls) (hP : va_P D vwCl WX H) (hD : va_D A WX) (hS : va_S A s.heap H locs) (hp : px E) (hc : cells ≤ mc) (hs : slots ≤ ms) :
    vx_W p l e R s m args below meth c H locs cells slots (vx_MQ below Qc (vx_X px (fun E u t => E = u ∧ gO D A WX t) A) args s mc ms A) (F0 m pc ls rest) q :=
  vx_out (fun x hx => (htab x hx).elim) hlocks hcell hv hcl (fun t ht hvm => ⟨E, hp, ⟨rfl, by rw [ht]; exact hP, hD⟩, hS.F ht⟩) hS.2.2 hc hs
theorem gx_throw {y : Nat → ClassId} {aS : Nat → Nat} {cc : ByteArray} {Qc : Array Value → State → Outcome → State → Prop} (hx : p.tables.exec = Jvm.exec) (hb : c.code = cc) (hl : l.stackTraces = false) {cls text : String} {ik is ic k : Nat} (hK : gK D y aS s) (hZ : gZ A s s.heap) (hown : s.vm.findClass RX11 = some m.cls) (hcls : Bundle.fit cls = true) (hk : (Cond.classLink RX11 ik cls).before args s = true) (hini : (Cond.initialized cls).before args s = true) (hstr : (is, text, k) ∈ gStr) (hat : ∀ w ∈ (vx_atS RX11 ic cls ["java/lang/RuntimeException", "java/lang/Exception"]).filter goodWord, w.before args s = true)
    (hat2 : ∀ w ∈ (vx_atS RX11 ic cls ["java/lang/RuntimeException", "java/lang/Exception"]).filter (fun w => !goodWord w), w ∈ gB)
    (hgood : ∀ w ∈ Cond.classLink RX11 ik cls :: Cond.initialized cls :: vx_atS RX11 ic cls ["java/lang/RuntimeException", "java/lang/Exception"], vx_ot w = true)
    (hP : va_P D vwCl WX H) (hD : va_D A WX) (hS : va_S A s.heap H locs) (hsize : ls.size = c.maxLocals)
    (d0 : decode cc pc = .ok (.new ik, 3)) (d3 : decode cc (pc + 3) = .ok (.dup, 1)) (d4 : decode cc (pc + 4) = .ok (.ldc_w is, 3)) (d7 : decode cc (pc + 7) = .ok (.invokespecial ic, 3)) (d10 : decode cc (pc + 10) = .ok (.athrow, 1)) (htab : ∀ x ∈ c.exceptionTable.toList, False)
    (hRframes : 2 + 3 < R.frames) (hRlocals : (rest.map fun v => v.category).sum + 82 ≤ R.locals) (hRcells : cells + 1 ≤ R.cells) (hRslots : slots + 6 ≤ R.slots) (hlocks : meth.locks = false) (hp : px cls) (hc : cells + 1 ≤ mc) (hs : slots + 6 ≤ ms) :
    W p l e R s m args below meth c H locs cells slots (vx_MQ below Qc (vx_X px (fun E u t => E = u ∧ gO D A WX t) A) args s mc ms A) (F0 m pc ls rest) :=
  vx_throwSW hx hb hl (sa := aS k) hown hcls (names := ["java/lang/RuntimeException", "java/lang/Exception"]) (by decide +kernel) hk hini (hK.2.2.2.1 _ hstr) (vx_hat (B := gB) hat hat2 (fun w hw => va_Nw.use (gkind_ot (gB_ok w hw)) (hK.2.1 w hw))) hgood hZ.1 hZ.2 hS hsize d0 d3 d4 d7 d10 (fun x hx => (htab x hx).elim) hRframes hRlocals hRcells hRslots hlocks
    (fun t hvm hz hq => ⟨cls, hp, ⟨rfl, hP.kept (fun k q hk => hq q.1 (hP k q hk).lt), hD⟩, Nat.le_trans hS.1 hz, fun q h1 h2 => (hq q (Nat.lt_of_lt_of_le h1 hS.1)).trans (hS.2.1 q h1 h2)⟩) hS.2.2 hc hs
end GXC
theorem gx_of {l : Launch} {yM : MethodName} {G : List Cond} {rm : Room} {W0 : va_W} {As : List Value} {sz mc ms maxL : Nat} {cc : ByteArray} {ret : Option FieldType} {D : va_G} {y : Nat → ClassId} {aS : Nat → Nat} {Qc : Array Value → State → Outcome → State → Prop} {XC : String → State → State → Prop} (hy : plainName yM.cls = true) (hlen : (lg_sl As).length ≤ maxL)
    (body : ∀ (p : Program) (e : Env) (s : State) (m : MethodId) (below : List Frame) (meth : Method) (c : Code) (ls : Array Slot) (A : Nat → Prop), p.tables.exec = Jvm.exec → c.code = cc → meth.sig.returnType = ret → c.maxLocals = maxL → s.vm.findClass yM.cls = some m.cls → (∀ w ∈ G, w.before As.toArray s = true) → meth.locks = false → meth.name = yM.name → s.heap.size = sz → gK D y aS s → va_P D vwCl W0 s.heap → va_D A W0 → va_S A s.heap s.heap [] → (∀ q, s.heap.size ≤ q → A q) → A = va_A W0 sz → lv_has ls maxL (lv_args 0 As) → (∀ x ∈ c.exceptionTable.toList, False) → gZ A s s.heap →
      W p l e rm s m As.toArray below meth c s.heap [] 0 0 (vx_MQ below Qc XC As.toArray s mc ms A) (F0 m 0 ls [])) :
    vx_Met l yM (.code yM cc maxL ret :: G) rm (va_Pc As (gIX D y aS W0 sz)) Qc XC mc ms (va_A W0 sz) := by
  refine vx_ofW (cc := cc) (maxL := maxL) (ret := ret) hy rfl ?_
  intro p e s m args below meth c s₁ B hml htab hv
  obtain ⟨rfl, ⟨hsz, hP, hK, hD0⟩, hZ⟩ := hv
  have hts := atoms_spec (ws := .code yM cc maxL ret :: G) B.pre
  have hD := hD0.self (sz := sz)
  have hl := lv_entry As (n := maxL) hlen
  rw [lg_entry_eq]
  exact body p e s m below meth c _ _ B.exec B.bytes B.returns hml (findClass_of_methodNamed B.named) (fun w h => hts w (List.mem_cons_of_mem _ h)) B.notSynchronized (name_of_methodNamed B.named B.method).1 hsz hK hP hD va_S.rf (fun q h => Or.inr (by rw [← hsz]; exact h)) rfl hl htab hZ
abbrev exN : List String := ["java/lang/RuntimeException", "java/lang/Exception"]
theorem exg_IOO {args : Array Value} {s : State} (hg : ∀ w ∈ wsL_law, w.before args s = true) : ∀ w ∈ (vx_atS RX11 368 "java/lang/IndexOutOfBoundsException" exN).filter goodWord, w.before args s = true := fun w h => hg w (List.mem_append_left _ (List.mem_append_left _ (List.mem_append_right _ h)))
theorem exg_ISE {args : Array Value} {s : State} (hg : ∀ w ∈ wsL_law, w.before args s = true) : ∀ w ∈ (vx_atS RX11 382 "java/lang/IllegalStateException" exN).filter goodWord, w.before args s = true := fun w h => hg w (List.mem_append_left _ (List.mem_append_right _ h))
theorem exg_IAE {args : Array Value} {s : State} (hg : ∀ w ∈ wsL_law, w.before args s = true) : ∀ w ∈ (vx_atS RX11 375 "java/lang/IllegalArgumentException" exN).filter goodWord, w.before args s = true := fun w h => hg w (List.mem_append_right _ h)
theorem exb_IOO : ∀ w ∈ (vx_atS RX11 368 "java/lang/IndexOutOfBoundsException" exN).filter (fun w => !goodWord w), w ∈ gB := by decide +kernel
theorem exb_ISE : ∀ w ∈ (vx_atS RX11 382 "java/lang/IllegalStateException" exN).filter (fun w => !goodWord w), w ∈ gB := by decide +kernel
theorem exb_IAE : ∀ w ∈ (vx_atS RX11 375 "java/lang/IllegalArgumentException" exN).filter (fun w => !goodWord w), w ∈ gB := by decide +kernel
theorem exo_IOO : ∀ w ∈ Cond.classLink RX11 364 "java/lang/IndexOutOfBoundsException" :: Cond.initialized "java/lang/IndexOutOfBoundsException" :: vx_atS RX11 368 "java/lang/IndexOutOfBoundsException" exN, vx_ot w = true := List.all_eq_true.mp (show List.all _ vx_ot = true by decide +kernel)
theorem exo_ISE : ∀ w ∈ Cond.classLink RX11 378 "java/lang/IllegalStateException" :: Cond.initialized "java/lang/IllegalStateException" :: vx_atS RX11 382 "java/lang/IllegalStateException" exN, vx_ot w = true := List.all_eq_true.mp (show List.all _ vx_ot = true by decide +kernel)
theorem exo_IAE : ∀ w ∈ Cond.classLink RX11 371 "java/lang/IllegalArgumentException" :: Cond.initialized "java/lang/IllegalArgumentException" :: vx_atS RX11 375 "java/lang/IllegalArgumentException" exN, vx_ot w = true := List.all_eq_true.mp (show List.all _ vx_ot = true by decide +kernel)
theorem g_ofH {l : Launch} {yM : MethodName} {G : List Cond} {rm : Room} {W0 : va_W} {As : List Value} {sz mc ms maxL : Nat} {cc : ByteArray} {ret : Option FieldType} {hh : List (Nat × Nat × Nat × Nat)} {D : va_G} {y : Nat → ClassId} {aS : Nat → Nat} {Qc : Array Value → State → Outcome → State → Prop} (hy : plainName yM.cls = true) (hlen : (lg_sl As).length ≤ maxL)
    (body : ∀ (p : Program) (e : Env) (s : State) (m : MethodId) (below : List Frame) (meth : Method) (c : Code) (ls : Array Slot) (A : Nat → Prop), p.tables.exec = Jvm.exec → c.code = cc → meth.sig.returnType = ret → c.maxLocals = maxL → s.vm.findClass yM.cls = some m.cls → (∀ w ∈ G, w.before As.toArray s = true) → meth.locks = false → meth.name = yM.name → s.heap.size = sz → gK D y aS s → va_P D vwCl W0 s.heap → va_D A W0 → va_S A s.heap s.heap [] → (∀ q, s.heap.size ≤ q → A q) → A = va_A W0 sz → lv_has ls maxL (lv_args 0 As) → c.exceptionTable.toList = tableOf hh → gZ A s s.heap →
      W p l e rm s m As.toArray below meth c s.heap [] 0 0 (MQ below Qc As.toArray s mc ms A) (F0 m 0 ls [])) :
    Met l yM (.codeWith yM cc maxL ret hh :: G) rm (va_Pc As (gIX D y aS W0 sz)) Qc mc ms (va_A W0 sz) := by
  refine va_MetW (cc := cc) (maxL := maxL) (ret := ret) (hh := hh) hy rfl ?_
  intro p e s m args below meth c s₁ B hml hv
  obtain ⟨rfl, ⟨hsz, hP, hK, hD0⟩, hZ⟩ := hv
  have hts := atoms_spec (ws := .codeWith yM cc maxL ret hh :: G) B.pre
  have hD := hD0.self (sz := sz)
  have hl := lv_entry As (n := maxL) hlen
  rw [lg_entry_eq]
  exact body p e s m below meth c _ _ B.exec B.bytes B.returns hml (findClass_of_methodNamed B.named) (fun w h => hts w (List.mem_cons_of_mem _ h)) B.notSynchronized (name_of_methodNamed B.named B.method).1 hsz hK hP hD va_S.rf (fun q h => Or.inr (by rw [← hsz]; exact h)) rfl hl (vx_table (x := yM) B (hts _ List.mem_cons_self)) hZ
