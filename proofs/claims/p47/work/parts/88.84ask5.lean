/-! what is asked: the changes -/
def QF (σ M : gS) (n T G V U h sz dp B : Nat) (ag : Nat → Nat) : Prop := QA σ M n T G V U h sz dp B ag ∧ σ.1 109 3 = iN 1 ∧ Fm σ M n T G sz dp (trT M h)
section ASK
variable {N : Nat} {M : gS} {n T G V U h sz dp B : Nat} {ag : Nat → Nat}
theorem L_236 {σ : gS} {x25 : Int64} {x c : Nat} (hN : 5000 ≤ N) (hx : x < 100000000) (qf : QF σ M n T G V U h sz dp B ag) (sb : SB N σ M n sz dp h) (hc : c < n) (rec217 : (gS × Int32 × Int32) → Option (Int32 × gS)) : lp (fL_isAll_236 N rec217 (iN x) x25 (iN (codB 0 (batM M n sz dp (trT M h))).length) (iN c)) N (σ, -1, 0) = rec217 (σ, 1, iN (c + 1)) := by
  obtain ⟨qa, h93, fm⟩ := qf
  have hN1 : 100 ≤ N := by omega
  have hM := qa.2.2
  obtain ⟨hF, hh, h5, h6⟩ := id qa.1.1.1
  obtain ⟨z1, z2, ⟨ch1, ch2⟩, z4, z5, z6, z7, z8, z9, z10, z11⟩ := id qa.1.1
  have hn := hF.1.2.1
  obtain ⟨b1, b2, b3, b4⟩ := bat_ok (M := M) (n := n) (sz := sz) (dp := dp) (t := trT M h) hn h5.2.2 h6.2.2
  obtain ⟨_, _, hcod, _⟩ := sb
  have l164 : σ.1 164 = M.1 164 := lw1 hM (by omega)
  have l167 : σ.1 167 = M.1 167 := lw1 hM (by omega)
  have hb100 : ∀ l ∈ batM M n sz dp (trT M h), ∀ d ∈ l, d < 100 := fun l hl d hd => by have := ((b2 l hl).2.2 d hd).1; omega
  have hdis := (batL_dis (M := M) (ord := ordM M n) (sz := sz) dp (fun _ => false) (trT M h)).2
  have hbw := X_batchWith (N := N) (σ := σ) (M := M) (bs := batM M n sz dp (trT M h)) (t := trT M h) (c := c) hN1 fm.2.1 (by rw [← codB_len _ 0]; exact b3) b1 hb100 (by omega) hdis
  generalize codB 0 (batM M n sz dp (trT M h)) = cs at *
  refine lp_run (F := fL_isAll_236 N rec217 (iN x) x25 (iN cs.length) (iN c)) (fun j => (σ, iO (boL c none (cs.take j)), iN j)) cs.length (fun j hj rec => ?_) (fun rec => ?_) N (by omega)
  · have hv := b4 _ (gD_mem hj)
    have ej : iN j + (1 : Int32) = iN (j + 1) := iN_add _ 1
    rw [take_snoc hj, boL_app]
    generalize boL c none (cs.take j) = b
    unfold fL_isAll_236
    dsimp only
    rw [if_neg (show ¬ iN cs.length ≤ iN j by rw [iN_le (by omega) (by omega)]; omega), if_neg (gi (show j < 32 by omega) (by decide)), iN_cl (show j < 2147483648 by omega), hcod j hj]
    generalize cs.getD j 0 = v at hv
    rw [show iN v - iN v / (100 : Int32) * 100 = iN (v - v / 100 * 100) from iN_rem (k := 100) (by omega) (by omega), show iN v / (100 : Int32) = iN (v / 100) from iN_div (b := 100) (by omega) (by omega)]
    show _ = rec (σ, iO (boF c b v), iN (j + 1))
    unfold boF
    by_cases e : v - v / 100 * 100 = c
    · rw [if_pos (show iN (v - v / 100 * 100) = iN c by rw [e]), if_neg (gj (show j < 32 by omega) (by decide)), if_pos e]
      unfold fL_isAll_269
      rw [ej]
      rfl
    · rw [if_neg (show ¬ iN (v - v / 100 * 100) = iN c by rw [iN_eq (by omega) (by omega)]; exact e), if_neg e]
      unfold fL_isAll_269
      rw [ej]
  · obtain ⟨r1, r2, r3⟩ := ch2 c hc
    have e3 : fX11_state N σ (iN c) = some (M.1 164 c) := by
      unfold fX11_state
      rw [ch1, X_place hc (by omega), Option.bind_some, X2_at (by omega), Option.bind_some, r1.2.1]
    have e4 : fX11_landedBy N σ (iN c) = some (M.1 167 c) := by
      unfold fX11_landedBy
      rw [ch1, X_place hc (by omega), Option.bind_some, X2_at (by omega), Option.bind_some, r3]
    have e5 : fX11_requires N σ (iN c) = some (rqG M c T G) := by
      unfold fX11_requires
      rw [ch1, X_place hc (by omega), Option.bind_some, X2_at (by omega), Option.bind_some, X_requiredBy hN1 z4.1.1 z4.1.2 z4.2.1.1 z4.2.1.2 z4.2.2.1 r1.2.2.1 r1.1.1 r1.1.2.1 z4.2.2.2, Option.bind_some]
    have e6 : fL_required N σ (iN c) = some (rqG M c T G) := L_required hN1 hM hF.2.1.1 hF.2.1.2 hF.2.2.1.1 hF.2.2.1.2.1 (by omega) hF.2.2.1.2.2 r1.1.2.2 r1.1.2.1
    have e7 : fX11_batchOf N σ (iN c) = some (iO (boL c none cs), σ) := by
      unfold fX11_batchOf
      rw [ch1, X_place hc (by omega), Option.bind_some, X_formed h93, Option.bind_some, hbw, Option.bind_some]
    have e349 : fL_isAll_349 N rec217 σ (iN x) x25 (iN cs.length) (iN c) = rec217 (σ, 1, iN (c + 1)) := by
      unfold fL_isAll_349 fL_isAll_354
      rw [show iN c + (1 : Int32) = iN (c + 1) from iN_add _ 1]
    rw [List.take_length]
    unfold fL_isAll_236
    dsimp only
    rw [if_pos (Int32.le_refl _), e3, Option.bind_some, if_neg (gi (show c < 24 by omega) (by decide)), iN_cl (show c < 2147483648 by omega), l164, if_pos rfl, e4, Option.bind_some, if_neg (gj (show c < 24 by omega) (by decide)), l167, if_pos rfl, e5, Option.bind_some, e6, Option.bind_some, if_pos rfl, e7, Option.bind_some]
    dsimp only
    rw [if_pos rfl, e349]
    split <;> rfl
theorem L_217 {σ : gS} {x25 : Int64} {x : Nat} (hN : 5000 ≤ N) (hx : x < 100000000) (qf : QF σ M n T G V U h sz dp B ag) (sb : SB N σ M n sz dp h) : lp (fL_isAll_217 N (iN x) x25 (iN (codB 0 (batM M n sz dp (trT M h))).length)) N (σ, 1, 0) = fL_isAll_362 N σ (iN x) 1 x25 (iN (codB 0 (batM M n sz dp (trT M h))).length) := by
  have hF := qf.1.1.1.1.1
  have h0 : σ.1 161 0 = iN n := by rw [lw1 qf.1.2.2 (by omega)]; exact hF.1.1
  have hn := hF.1.2.1
  refine lp_run (F := fL_isAll_217 N (iN x) x25 (iN (codB 0 (batM M n sz dp (trT M h))).length)) (fun c => (σ, 1, iN c)) n (fun c hc rec => ?_) (fun rec => ?_) N (by omega)
  · unfold fL_isAll_217
    dsimp only
    rw [h0, if_neg (show ¬ iN n ≤ iN c by rw [iN_le (by omega) (by omega)]; omega), if_neg (show ¬ (1 : Int32) = 0 by decide), L_236 hN hx qf sb hc]
  · unfold fL_isAll_217
    dsimp only
    rw [h0, if_pos (Int32.le_refl _)]
end ASK
