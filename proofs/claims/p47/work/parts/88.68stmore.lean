/-! what is settled stays settled when a draft is made -/
theorem Cg.refl (M : gS) (n T G V : Nat) : Cg M M n T G V := ⟨fun _ _ => ⟨⟨rfl, rfl, rfl, rfl, rfl, rfl⟩, rfl, rfl⟩, fun _ _ => rfl, fun _ _ => rfl, fun _ _ => ⟨rfl, rfl⟩, fun _ _ => rfl⟩
theorem Settled.n1 {M : gS} {n T G V h sz dp : Nat} (hs : Settled M n T G V h sz dp) (hp : parOK M n) (h0 : M.1 164 n = iN 0) : Settled M (n + 1) T G V h sz dp := by
  have eb : ∀ t, batM M (n + 1) sz dp t = batM M n sz dp t := fun t => bat_more (Cg.refl M n T G V) hp h0
  have eF : ∀ t, FF M (n + 1) sz dp t = FF M n sz dp t := fun t => by unfold FF; rw [eb]
  have en : nx M (Wl M (iN 0)) (n + 1) = nx M (Wl M (iN 0)) n := nx_n1 (by
    rw [Wl_0]; exact decide_eq_false (show ¬ M.1 164 n = iN 1 by rw [h0]; decide))
  have ev : fvd M (n + 1) T G V h sz dp = fvd M n T G V h sz dp := by unfold fvd; rw [eF]
  have es : fbs M (n + 1) T G V h sz dp = fbs M n T G V h sz dp := by unfold fbs; rw [eF]
  have el : ∀ v, ffl M (n + 1) T G V h sz dp v = ffl M n T G V h sz dp v := fun v => by unfold ffl; rw [eF, es]
  have ec : chM M (n + 1) T G V h sz dp = chM M n T G V h sz dp := by
    unfold chM c0M setM onM
    rw [ev, es, eb]
    simp only [el, eF]
  obtain ⟨s1, s2, s3⟩ := hs
  refine ⟨?_, s2, fun hi => by rw [ec]; exact s3 hi⟩
  unfold stopD at s1 ⊢
  rw [en, ev, es]
  simp only [el, eF]
  exact s1
