/-! where nothing but clocks and times left change -/
def Qs (M M' : gS) : Prop := (∀ k x, ¬ (k = 176 ∧ x - x / 6 * 6 = 1) → ¬ (k = 161 ∧ (x = 8 ∨ x = 9 ∨ x = 10)) → M'.1 k x = M.1 k x) ∧ M'.2.1 = M.2.1
section QS
variable {M M' : gS}
theorem qs_row (h : Qs M M') (k : Nat) (hk : k ≠ 161 ∧ k ≠ 176) : M'.1 k = M.1 k := funext (fun x => h.1 k x (by omega) (by omega))
theorem qs_key (h : Qs M M') : gKey M' = gKey M := funext (fun q => funext (fun t => gKey_same (by rw [qs_row h 172 (by omega)])))
theorem qs_ver (h : Qs M M') (V q : Nat) (t : Int64) : sVer M' V q t = sVer M V q t := by
  rw [sVer_ev, sVer_ev, qs_key h]
  unfold ev vN
  rw [sEnt_congr (M := M) (M' := M') (by rw [h.2]) V, qs_row h 175 (by omega)]
theorem qs_fr (h : Qs M M') (V q : Nat) (t : Int64) : frM M' V q t = frM M V q t := by
  have e : onB M' q t = onB M q t := funext (fun j => by
    unfold onB
    rw [qs_key h, h.1 176 (6 * j) (by omega) (by omega), h.1 176 (6 * j + 2) (by omega) (by omega), h.2])
  unfold frM
  rw [qs_ver h, e]
theorem qs_dup (h : Qs M M') (cd : Nat → Option wEn) (k : Nat) : dupK M' cd k = dupK M cd k := by
  have e : sameK M' = sameK M := funext (fun x => funext (fun o => by
    cases o with
    | none => rfl
    | some y => unfold sameK; rw [qs_key h]))
  unfold dupK
  rw [e]
theorem qs_pkK (h : Qs M M') (V : Nat) (cd : Nat → Option wEn) (wh : Nat) (f : Nat → Bool) : pkK M' V cd wh f = pkK M V cd wh f := funext (fun k => by
  cases c : cd k with
  | none => rw [pkK_none c, pkK_none c]
  | some x => rw [pkK_some c, pkK_some c, qs_fr h, qs_dup h])
theorem qs_tiS (h : Qs M M') (has : Nat → Bool) : ∀ o, tiS M' has o = tiS M has o
  | 0 => rfl
  | o + 1 => by
    have e : vN M' 178 = vN M 178 := funext (fun x => by unfold vN; rw [qs_row h 178 (by omega)])
    rw [tiS_s, tiS_s, qs_tiS h has o, e]
theorem qs_pkC (h : Qs M M') (V : Nat) (cd : Nat → Option wEn) (K : Nat) : pkC M' V cd K = pkC M V cd K := by
  have e : hasO M' V cd K = hasO M V cd K := funext (fun o => by unfold hasO; rw [qs_pkK h])
  unfold pkC
  rw [qs_pkK h, qs_pkK h, qs_tiS h, e]
  cases lo (pkK M V cd 0 (fun _ => true)) K with
  | some k => rfl
  | none =>
    cases tiS M (hasO M V cd K) 3 with
    | none => rfl
    | some l => show lo (pkK M' V cd 1 (fun tm => decide (tm = l))) K = _; rw [qs_pkK h]
theorem Qs.cg {n T G V : Nat} (h : Qs M M') : Cg M M' n T G V := by
  refine ⟨fun c _ => ⟨⟨?_, ?_, ?_, ?_, ?_, ?_⟩, by rw [h.2], by rw [h.2]⟩, fun q _ => ?_, fun k _ => ?_, fun j _ => ⟨by rw [h.2], ?_⟩, fun a _ => ?_⟩ <;> rw [qs_row h _ (by omega)]
theorem qs_tr (h : Qs M M') (hh : Nat) : trT M' hh = trT M hh := by unfold trT; rw [h.2]
theorem qs_ch {n T G V hh sz dp : Nat} (h : Qs M M') (hT : T ≤ 4) (hL : LD M n T G V hh sz dp) (h8 : M'.1 161 8 = M.1 161 8) : chM M' n T G V hh sz dp = chM M n T G V hh sz dp := by
  obtain ⟨e1, e2⟩ := cg_cdO (h.cg (n := n) (T := T) (G := G) (V := V)) hL (qs_tr h hh) h8
  rw [chM_pick hT, chM_pick hT, e1, e2, qs_pkC h]
theorem qs_QT {n T G V hh sz dp j : Nat} (h : Qs M M') (hT : T ≤ 4) (hL : LD M n T G V hh sz dp) (h8 : M'.1 161 8 = M.1 161 8) (hq : QT M n T G V hh sz dp j) : QT M' n T G V hh sz dp j := fun ⟨j', hj', hi⟩ => by
  rw [qs_ch h hT hL h8]
  refine hq ⟨j', hj', ?_⟩
  obtain ⟨i1, i2⟩ := hi
  rw [h.1 176 _ (by omega) (by omega)] at i1 i2
  exact ⟨i1, i2⟩
theorem qs_op {V : Nat} (h : Qs M M') (T : Nat) (t : Int64) : opC M' T V t = opC M T V t := by
  have e : (fun q => sVer M' V q t == 0) = (fun q => sVer M V q t == 0) := funext (fun q => by rw [qs_ver h])
  unfold opC
  rw [e]
end QS
def Settled (M : gS) (n T G V h sz dp : Nat) : Prop := stopD M n T G V h sz dp ∧ (M.1 161 8 = iN 0 ∨ opC M T V (trT M h) ≠ 0) ∧ QT M n T G V h sz dp 3
theorem Settled.qs {M M' : gS} {n T G V h sz dp : Nat} (hs : Settled M n T G V h sz dp) (hq : Qs M M') (hT : T ≤ 4) (hL : LD M n T G V h sz dp) (h8 : M'.1 161 8 = M.1 161 8) : Settled M' n T G V h sz dp := by
  obtain ⟨s1, s2, s3⟩ := hs
  refine ⟨cg_stop hq.cg hL (qs_tr hq h) s1, ?_, qs_QT hq hT hL h8 s3⟩
  rw [h8, qs_op hq, qs_tr hq]
  exact s2
