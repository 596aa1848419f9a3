section GX
variable {p : Program} {l : Launch} {e : Env} {R : Room} {s : State} {m : MethodId} {args : Array Value} {below : List Frame} {meth : Method} {c : Code} {H : Heap} {locs : List Loc} {cells slots mc ms : Nat} {Q : State → Prop} {pc : Nat} {ls : Array Slot} {rest st0 : List Value} {D : va_G} {y : Nat → ClassId} {aS : Nat → Nat} {A : Nat → Prop} {L : List Nat} {ad : Nat → Nat} {σ σ' : gS} {a : Array Value}
theorem G_xpS {As : List Value} (hZ : gZ A s s.heap) (hA : ∀ q, s.heap.size ≤ q → A q) (hK : gK D y aS s) (hY : gY D y A s L ad σ H locs) : PreS s H (va_Pc As (gIX D y aS (GW L y ad σ) H.size)) As :=
  ⟨gIX_blind, fun U hU hW => ⟨rfl, ⟨by rw [hU], by rw [hU]; exact hY.1, gK.warm hW hK, hY.2.1.weaken (fun _ _ _ _ => trivial)⟩, gZ.at hZ hY.2.2 (G_free hY hA) hU hW.alike⟩⟩
theorem G_xpV {As : List Value} {k ci : Nat} {q : vw_C} (hZ : gZ A s s.heap) (hA : ∀ q, s.heap.size ≤ q → A q) (hK : gK D y aS s) (hY : gY D y A s L ad σ H locs) (hL : k ∈ L) (hk : gcl k = ci) (hci : ci < 13) (hc : vwCl[ci]? = some q) : PreV s H q.1 (ad k) (va_Pc (.ref (ad k) :: As) (gIX D y aS (GW L y ad σ) H.size)) As := by
  obtain ⟨q0, hq⟩ := GW_at (y := y) (ad := ad) (σ := σ) hL
  rw [gce_obj hk hci] at hq
  exact ⟨gIX_blind, va_recv hK.1 hY.1 hc hq, fun U hU hW => ⟨rfl, ⟨by rw [hU], by rw [hU]; exact hY.1, gK.warm hW hK, hY.2.1.weaken (fun _ _ _ _ => trivial)⟩, gZ.at hZ hY.2.2 (G_free hY hA) hU hW.alike⟩⟩
theorem G_xai {post : Int32 → Prop} {px : String → Prop} (hY : gY D y A s L ad σ H locs) (hA : ∀ q, s.heap.size ≤ q → A q) (hr : vx_Run p l e R s m args below meth c H locs cells slots mc ms (F0 m pc ls st0) rest (va_Qi (fun (r : Int32) (_ : Unit) => post r) (fun _ => gO D (va_A (GW L y ad σ) H.size) (GW L y ad σ')) (va_A (GW L y ad σ) H.size) a) (vx_X px (fun E u t => E = u ∧ gO D (va_A (GW L y ad σ) H.size) (GW L y ad σ') t) (va_A (GW L y ad σ) H.size)) (va_A (GW L y ad σ) H.size))
    (kx : ∀ (E : String) (ce : Cell) (q9 : Addr) (H1 : Heap) (locs1 : List Loc), px E → gY D y A s L ad σ' H1 locs1 → H1[q9]? = some ce → ce.vm = .none → s.vm.findClass E = some ce.cls → vx_W p l e R s m args below meth c H1 locs1 (cells + mc) (slots + ms) Q (F0 m pc ls rest) q9)
    (kk : ∀ (r : Int32) (H1 : Heap) (locs1 : List Loc), post r → gY D y A s L ad σ' H1 locs1 → W p l e R s m args below meth c H1 locs1 (cells + mc) (slots + ms) Q (F0 m (pc + 3) ls (.int r :: rest))) : W p l e R s m args below meth c H locs cells slots Q (F0 m pc ls st0) := by
  have hF := G_free hY hA
  refine vx_calli hr hY.2.2 (fun q _ h => hF q h) hF (fun q _ h => hF q h) (fun E ce q9 u t H1 locs1 ht hvm hq hB hz hk hS1 hce hcv hcl => ?_) (fun r u t H1 locs1 ht hvm hq hB hz hk hS1 => ?_)
  · obtain ⟨rfl, hP1, hD1⟩ := hB
    rw [ht] at hP1
    exact kx E ce q9 H1 locs1 hq ⟨hP1, hD1.weaken (fun _ q _ h => hF q.1 h), hS1⟩ hce hcv hcl
  · obtain ⟨hP1, hD1⟩ := hB
    rw [ht] at hP1
    exact kk r H1 locs1 hq ⟨hP1, hD1.weaken (fun _ q _ h => hF q.1 h), hS1⟩
theorem G_xav {post : Prop} {px : String → Prop} (hY : gY D y A s L ad σ H locs) (hA : ∀ q, s.heap.size ≤ q → A q) (hr : vx_Run p l e R s m args below meth c H locs cells slots mc ms (F0 m pc ls st0) rest (va_Qv (fun (_ : Unit) => post) (fun _ => gO D (va_A (GW L y ad σ) H.size) (GW L y ad σ')) (va_A (GW L y ad σ) H.size) a) (vx_X px (fun E u t => E = u ∧ gO D (va_A (GW L y ad σ) H.size) (GW L y ad σ') t) (va_A (GW L y ad σ) H.size)) (va_A (GW L y ad σ) H.size))
    (kx : ∀ (E : String) (ce : Cell) (q9 : Addr) (H1 : Heap) (locs1 : List Loc), px E → gY D y A s L ad σ' H1 locs1 → H1[q9]? = some ce → ce.vm = .none → s.vm.findClass E = some ce.cls → vx_W p l e R s m args below meth c H1 locs1 (cells + mc) (slots + ms) Q (F0 m pc ls rest) q9)
    (kk : ∀ (H1 : Heap) (locs1 : List Loc), post → gY D y A s L ad σ' H1 locs1 → W p l e R s m args below meth c H1 locs1 (cells + mc) (slots + ms) Q (F0 m (pc + 3) ls rest)) : W p l e R s m args below meth c H locs cells slots Q (F0 m pc ls st0) := by
  have hF := G_free hY hA
  refine vx_callv hr hY.2.2 (fun q _ h => hF q h) hF (fun q _ h => hF q h) (fun E ce q9 u t H1 locs1 ht hvm hq hB hz hk hS1 hce hcv hcl => ?_) (fun u t H1 locs1 ht hvm hq hB hz hk hS1 => ?_)
  · obtain ⟨rfl, hP1, hD1⟩ := hB
    rw [ht] at hP1
    exact kx E ce q9 H1 locs1 hq ⟨hP1, hD1.weaken (fun _ q _ h => hF q.1 h), hS1⟩ hce hcv hcl
  · obtain ⟨hP1, hD1⟩ := hB
    rw [ht] at hP1
    exact kk H1 locs1 hq ⟨hP1, hD1.weaken (fun _ q _ h => hF q.1 h), hS1⟩
end GX
