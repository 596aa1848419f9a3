/-! where only changes' rows change, runs and choices stay -/
def Qr (M M' : gS) : Prop := (∀ k x, k = 172 ∨ k = 175 ∨ k = 178 ∨ (k = 176 ∧ x - x / 6 * 6 ≠ 1) → M'.1 k x = M.1 k x) ∧ ∀ k, k = 174 ∨ k = 177 → M'.2.1 k = M.2.1 k
section QR
variable {M M' : gS}
theorem qr_row (h : Qr M M') (k : Nat) (hk : k = 172 ∨ k = 175 ∨ k = 178) : M'.1 k = M.1 k := funext (fun x => h.1 k x (by omega))
theorem qr_key (h : Qr M M') : gKey M' = gKey M := funext (fun q => funext (fun t => gKey_same (by rw [qr_row h 172 (by omega)])))
theorem qr_ver (h : Qr M M') (V q : Nat) (t : Int64) : sVer M' V q t = sVer M V q t := by
  rw [sVer_ev, sVer_ev, qr_key h]
  unfold ev vN
  rw [sEnt_congr (M := M) (M' := M') (h.2 174 (by omega)) V, qr_row h 175 (by omega)]
theorem qr_fr (h : Qr M M') (V q : Nat) (t : Int64) : frM M' V q t = frM M V q t := by
  have e : onB M' q t = onB M q t := funext (fun j => by
    unfold onB
    rw [qr_key h, h.1 176 (6 * j) (by omega), h.1 176 (6 * j + 2) (by omega), h.2 177 (by omega)])
  unfold frM
  rw [qr_ver h, e]
theorem qr_dup (h : Qr M M') (cd : Nat → Option wEn) (k : Nat) : dupK M' cd k = dupK M cd k := by
  have e : sameK M' = sameK M := funext (fun x => funext (fun o => by
    cases o with
    | none => rfl
    | some y => unfold sameK; rw [qr_key h]))
  unfold dupK
  rw [e]
theorem qr_pkK (h : Qr M M') (V : Nat) (cd : Nat → Option wEn) (wh : Nat) (f : Nat → Bool) : pkK M' V cd wh f = pkK M V cd wh f := funext (fun k => by
  cases c : cd k with
  | none => rw [pkK_none c, pkK_none c]
  | some x => rw [pkK_some c, pkK_some c, qr_fr h, qr_dup h])
theorem qr_tiS (h : Qr M M') (has : Nat → Bool) : ∀ o, tiS M' has o = tiS M has o
  | 0 => rfl
  | o + 1 => by
    have e : vN M' 178 = vN M 178 := funext (fun x => by unfold vN; rw [qr_row h 178 (by omega)])
    rw [tiS_s, tiS_s, qr_tiS h has o, e]
theorem qr_pkC (h : Qr M M') (V : Nat) (cd : Nat → Option wEn) (K : Nat) : pkC M' V cd K = pkC M V cd K := by
  have e : hasO M' V cd K = hasO M V cd K := funext (fun o => by unfold hasO; rw [qr_pkK h])
  unfold pkC
  rw [qr_pkK h, qr_pkK h, qr_tiS h, e]
  cases lo (pkK M V cd 0 (fun _ => true)) K with
  | some k => rfl
  | none =>
    cases tiS M (hasO M V cd K) 3 with
    | none => rfl
    | some l => show lo (pkK M' V cd 1 (fun tm => decide (tm = l))) K = _; rw [qr_pkK h]
theorem Settled.qr {n T G V hh sz dp : Nat} (hs : Settled M n T G V hh sz dp) (h : Qr M M') (hc : Cg M M' n T G V) (hT : T ≤ 4) (hL : LD M n T G V hh sz dp) (ht : trT M' hh = trT M hh) (h8 : M'.1 161 8 = M.1 161 8) : Settled M' n T G V hh sz dp := by
  obtain ⟨s1, s2, s3⟩ := hs
  obtain ⟨e1, e2⟩ := cg_cdO hc hL ht h8
  have ech : chM M' n T G V hh sz dp = chM M n T G V hh sz dp := by rw [chM_pick hT, chM_pick hT, e1, e2, qr_pkC h]
  refine ⟨cg_stop hc hL ht s1, by rw [h8, cg_op hc, ht]; exact s2, fun ⟨j', hj', i1, i2⟩ => ?_⟩
  rw [ech]
  rw [h.1 176 _ (by omega)] at i1 i2
  exact s3 ⟨j', hj', i1, i2⟩
end QR
