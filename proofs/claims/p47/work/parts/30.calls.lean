/-- a call that may throw: what it throws is a result -/
def g_tc {ρ : Type} (o : Option Unit) (t k : Option ρ) : Option ρ := match o with
  | none => t
  | some _ => k
theorem g_tcase {ρ : Type} {o : Option Unit} {t k : Option ρ} {r : ρ} (h : g_tc o t k = some r) : (o = none ∧ t = some r) ∨ (o = some () ∧ k = some r) := by
  cases o with
  | none => exact Or.inl ⟨rfl, h⟩
  | some u => exact Or.inr ⟨rfl, h⟩
def g_sm {ρ : Type} (q : Sum Int32 String) (f : Int32 → Option ρ) (g : String → Option ρ) : Option ρ := match q with
  | .inl v => f v
  | .inr E => g E
theorem g_sml {ρ : Type} {q : Sum Int32 String} {f : Int32 → Option ρ} {g : String → Option ρ} {v : Int32} {r : ρ} (hq : q = .inl v) (h : g_sm q f g = some r) : f v = some r := by
  subst hq; exact h
theorem g_smr {ρ : Type} {q : Sum Int32 String} {f : Int32 → Option ρ} {g : String → Option ρ} {E : String} {r : ρ} (hq : q = .inr E) (h : g_sm q f g = some r) : g E = some r := by
  subst hq; exact h
theorem g_ofZ {l : Launch} {yM : MethodName} {G : List Cond} {rm : Room} {W0 : va_W} {As : List Value} {sz mc ms maxL : Nat} {cc : ByteArray} {ret : Option FieldType} {D : va_G} {y : Nat → ClassId} {aS : Nat → Nat} {Qc : Array Value → State → Outcome → State → Prop} (hy : plainName yM.cls = true) (hlen : (lg_sl As).length ≤ maxL)
    (body : ∀ (p : Program) (e : Env) (s : State) (m : MethodId) (below : List Frame) (meth : Method) (c : Code) (ls : Array Slot) (A : Nat → Prop), p.tables.exec = Jvm.exec → c.code = cc → meth.sig.returnType = ret → c.maxLocals = maxL → s.vm.findClass yM.cls = some m.cls → (∀ w ∈ G, w.before As.toArray s = true) → meth.locks = false → meth.name = yM.name → s.heap.size = sz → gK D y aS s → va_P D vwCl W0 s.heap → va_D A W0 → va_S A s.heap s.heap [] → (∀ q, s.heap.size ≤ q → A q) → A = va_A W0 sz → lv_has ls maxL (lv_args 0 As) → gZ A s s.heap →
      W p l e rm s m As.toArray below meth c s.heap [] 0 0 (MQ below Qc As.toArray s mc ms A) (F0 m 0 ls [])) :
    Met l yM (.code yM cc maxL ret :: G) rm (va_Pc As (gIX D y aS W0 sz)) Qc mc ms (va_A W0 sz) := by
  refine Met.ofW (cc := cc) (maxL := maxL) (ret := ret) hy rfl ?_
  intro p e s m args below meth c s₁ B hml hv
  obtain ⟨rfl, ⟨hsz, hP, hK, hD0⟩, hZ⟩ := hv
  have hts := atoms_spec (ws := .code yM cc maxL ret :: G) B.pre
  have hD := hD0.self (sz := sz)
  have hl := lv_entry As (n := maxL) hlen
  rw [lg_entry_eq]
  exact body p e s m below meth c _ _ B.exec B.bytes B.returns hml (findClass_of_methodNamed B.named) (fun w h => hts w (List.mem_cons_of_mem _ h)) B.notSynchronized (name_of_methodNamed B.named B.method).1 hsz hK hP hD va_S.rf (fun q h => Or.inr (by rw [← hsz]; exact h)) rfl hl hZ
section GC
variable {p : Program} {l : Launch} {e : Env} {R : Room} {s : State} {m : MethodId} {args : Array Value} {below : List Frame} {meth : Method} {c : Code} {H : Heap} {locs : List Loc} {cells slots mc ms : Nat} {Q : State → Prop} {pc : Nat} {ls : Array Slot} {rest st0 : List Value} {D : va_G} {y : Nat → ClassId} {aS : Nat → Nat} {A : Nat → Prop} {L : List Nat} {ad : Nat → Nat} {σ σ' : gS} {a : Array Value}
theorem G_aiC {v : Int32} (hY : gY D y A s L ad σ H locs) (hA : ∀ q, s.heap.size ≤ q → A q) (hr : va_Run p l e R s m args below meth c H locs cells slots mc ms (F0 m pc ls st0) rest (va_Qi (fun (r : Int32) (_ : Unit) => r = v) (fun _ => gO D (va_A (GW L y ad σ) H.size) (GW L y ad σ')) (va_A (GW L y ad σ) H.size) a) (va_A (GW L y ad σ) H.size))
    (kk : ∀ (r : Int32) (H1 : Heap) (locs1 : List Loc), v = r → gY D y A s L ad σ' H1 locs1 → W p l e R s m args below meth c H1 locs1 (cells + mc) (slots + ms) Q (F0 m (pc + 3) ls (.int r :: rest))) : W p l e R s m args below meth c H locs cells slots Q (F0 m pc ls st0) := by
  have hF := G_free hY hA
  refine va_calli hr hY.2.2 (fun q _ h => hF q h) hF (fun r u t H1 locs1 ht hvm hq hB hz hk hS1 => ?_)
  obtain ⟨hP1, hD1⟩ := hB
  rw [ht] at hP1
  exact kk r H1 locs1 hq.symm ⟨hP1, hD1.weaken (fun _ q _ h => hF q.1 h), hS1⟩
theorem G_alC {v : Int64} (hY : gY D y A s L ad σ H locs) (hA : ∀ q, s.heap.size ≤ q → A q) (hr : va_Run p l e R s m args below meth c H locs cells slots mc ms (F0 m pc ls st0) rest (va_Ql (fun (r : Int64) (_ : Unit) => r = v) (fun _ => gO D (va_A (GW L y ad σ) H.size) (GW L y ad σ')) (va_A (GW L y ad σ) H.size) a) (va_A (GW L y ad σ) H.size))
    (kk : ∀ (r : Int64) (H1 : Heap) (locs1 : List Loc), v = r → gY D y A s L ad σ' H1 locs1 → W p l e R s m args below meth c H1 locs1 (cells + mc) (slots + ms) Q (F0 m (pc + 3) ls (.long r :: rest))) : W p l e R s m args below meth c H locs cells slots Q (F0 m pc ls st0) := by
  have hF := G_free hY hA
  refine va_calll hr hY.2.2 (fun q _ h => hF q h) hF (fun r u t H1 locs1 ht hvm hq hB hz hk hS1 => ?_)
  obtain ⟨hP1, hD1⟩ := hB
  rw [ht] at hP1
  exact kk r H1 locs1 hq.symm ⟨hP1, hD1.weaken (fun _ q _ h => hF q.1 h), hS1⟩
theorem G_avC (hY : gY D y A s L ad σ H locs) (hA : ∀ q, s.heap.size ≤ q → A q) (hr : va_Run p l e R s m args below meth c H locs cells slots mc ms (F0 m pc ls st0) rest (va_Qv (fun (_ : Unit) => True) (fun _ => gO D (va_A (GW L y ad σ) H.size) (GW L y ad σ')) (va_A (GW L y ad σ) H.size) a) (va_A (GW L y ad σ) H.size))
    (kk : ∀ (H1 : Heap) (locs1 : List Loc), gY D y A s L ad σ' H1 locs1 → W p l e R s m args below meth c H1 locs1 (cells + mc) (slots + ms) Q (F0 m (pc + 3) ls rest)) : W p l e R s m args below meth c H locs cells slots Q (F0 m pc ls st0) := by
  have hF := G_free hY hA
  refine va_callv hr hY.2.2 (fun q _ h => hF q h) hF (fun u t H1 locs1 ht hvm hq hB hz hk hS1 => ?_)
  obtain ⟨hP1, hD1⟩ := hB
  rw [ht] at hP1
  exact kk H1 locs1 ⟨hP1, hD1.weaken (fun _ q _ h => hF q.1 h), hS1⟩
theorem G_aiA {v : Int32} (hY : gY D y A s L ad σ H locs) (hA : ∀ q, s.heap.size ≤ q → A q) (hr : va_Run p l e R s m args below meth c H locs cells slots mc ms (F0 m pc ls st0) rest (va_Qi (fun (r : Int32) (u : Nat → Nat) => r = v ∧ ∀ k, k ≠ 107 → k ≠ 108 → u k = ad k) (fun u => gO D (va_A (GW L y ad σ) H.size) (GW L y u σ')) (va_A (GW L y ad σ) H.size) a) (va_A (GW L y ad σ) H.size))
    (kk : ∀ (r : Int32) (u : Nat → Nat), (∀ k, k ≠ 107 → k ≠ 108 → u k = ad k) → ∀ (H1 : Heap) (locs1 : List Loc), v = r → gY D y A s L u σ' H1 locs1 → W p l e R s m args below meth c H1 locs1 (cells + mc) (slots + ms) Q (F0 m (pc + 3) ls (.int r :: rest))) : W p l e R s m args below meth c H locs cells slots Q (F0 m pc ls st0) := by
  have hF := G_free hY hA
  refine va_calli hr hY.2.2 (fun q _ h => hF q h) hF (fun r u t H1 locs1 ht hvm hq hB hz hk hS1 => ?_)
  obtain ⟨hP1, hD1⟩ := hB
  rw [ht] at hP1
  exact kk r u hq.2 H1 locs1 hq.1.symm ⟨hP1, hD1.weaken (fun _ q _ h => hF q.1 h), hS1⟩
end GC
