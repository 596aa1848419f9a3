/-! a change is made: the class's four calls; it is queued at once -/
theorem X_make {N : Nat} {s : gS} {n : Nat} {t tr : Int64} (h13 : s.1 1 3 = iN 1) (h45 : s.1 4 5 ≠ 0) (h14 : s.1 1 4 = iN n) (hn : n < 60) (htr : fX11_trunkTree N s = some tr) (hb : (s.1 4 2 = iM ∧ t = tr) ∨ ∃ q, q < 60 ∧ s.1 4 2 = iN q ∧ (s.1 (5 + q) 3 = iN 0 ∨ s.1 (5 + q) 3 = iN 1) ∧ fX1_onto N s (5 + q) (s.2.1 (5 + q) 7) = some t) (hid : fX1_hasIdleEditOn N s 4 t = some 0) : fX11_make N s = some (iN n, adS s n t) := by
  have e104 : fX11_make_104 N s t 1 = some (iN n, adS s n t) := by
    unfold fX11_make_104
    rw [show fX11_needState N s 1 = some () from rfl, Option.bind_some, X_addBegun hn h14, Option.bind_some]
  have hc : ∀ q, (s.1 (5 + q) 3 = iN 0 ∨ s.1 (5 + q) 3 = iN 1) → fX1_isToCome N s (5 + q) = some 1 := fun q h3 => by
    unfold fX1_isToCome
    rcases h3 with h3 | h3
    · rw [h3, if_pos (show iN 0 = (0 : Int32) from rfl)]; rfl
    · rw [h3, if_neg (show ¬ iN 1 = (0 : Int32) by decide), if_pos (show iN 1 = (1 : Int32) from rfl)]; rfl
  have ebf : fX2_baseFor N s 4 tr = some t := by
    unfold fX2_baseFor
    rcases hb with ⟨e, et⟩ | ⟨q, hq, e, h3, ho⟩
    · rw [e, if_pos (show iM = (-1 : Int32) from rfl), et]; rfl
    · rw [e, if_neg (show ¬ iN q = (-1 : Int32) from iM_ne (by omega)), X2_at hq, Option.bind_some, hc q h3, Option.bind_some, if_neg (show ¬ (1 : Int32) = 0 by decide), Option.bind_some, ho]
      rfl
  have e75 : fX11_make_75 N s 1 = some (iN n, adS s n t) := by
    unfold fX11_make_75
    rw [show fX11_needState N s 1 = some () from rfl, Option.bind_some, htr, Option.bind_some, ebf, Option.bind_some, hid, Option.bind_some, if_pos rfl]
    exact e104
  unfold fX11_make fX11_make_42 fX11_make_70
  rw [h13, if_neg (show ¬ iN 1 = (0 : Int32) by decide), if_neg h45, h14, if_neg (show ¬ (60 : Int32) ≤ iN n by rw [show (60 : Int32) = iN 60 from rfl, iN_le (by omega) (by omega)]; omega), show fX11_needState N s 1 = some () from rfl, Option.bind_some]
  rcases hb with ⟨e, et⟩ | ⟨q, hq, e, h3, ho⟩
  · rw [e, if_pos (show iM = (-1 : Int32) from rfl)]; exact e75
  · rw [e, if_neg (show ¬ iN q = (-1 : Int32) from iM_ne (by omega)), X2_at hq, Option.bind_some, hc q h3, Option.bind_some, if_neg (show ¬ (1 : Int32) = 0 by decide)]
    exact e75
theorem does_0 {N : Nat} {s : gS} {x2 x3 x4 : Int32} : fL_does N s 0 x2 x3 x4 = ((fX11_begin N s x2 x3).bind fun r => if r.1 = 0 then (fL_does_121 N r.2 0) else (fL_does_121 N r.2 1)) := by
  unfold fL_does
  rw [if_pos rfl]
theorem does_1 {N : Nat} {s : gS} {x2 x3 x4 : Int32} : fL_does N s 1 x2 x3 x4 = ((fX11_edit N s x2 x3).bind fun r => fL_does_121 N r.2 r.1) := by
  unfold fL_does
  rw [if_neg (by decide), if_pos rfl]
theorem does_2 {N : Nat} {s : gS} {x2 x3 x4 : Int32} : fL_does N s 2 x2 x3 x4 = ((fX11_make N s).bind fun r => fL_does_121 N r.2 r.1) := by
  unfold fL_does
  rw [if_neg (by decide), if_neg (by decide), if_pos rfl]
/-- the class's calls of a making, one after the other -/
def mkS (s : gS) (n a f g v w : Nat) (p : Int32) (t : Int64) : gS := adS (edS (edS (bgS s (iN a) p) f v) g w) n t
theorem mk_calls {N : Nat} {s : gS} {n a f g v w : Nat} {p : Int32} {t tr : Int64} (hN : 100 ≤ N) (hn : n < 20) (ha : a < 8) (hf : f < 4) (hg : g < 4) (hv : v < 10) (hw : w < 10) (hfg : f = g → v = w) (h13 : s.1 1 3 = iN 0) (h14 : s.1 1 4 = iN n) (htr : ∀ s', (∀ k, k ≠ 4 → k ≠ 1 → s'.1 k = s.1 k ∧ s'.2.1 k = s.2.1 k) → s'.2.2 = s.2.2 → fX11_trunkTree N s' = some tr)
    (hb : (p = iM ∧ t = tr) ∨ ∃ q, q < n ∧ p = iN q ∧ (s.1 (5 + q) 3 = iN 0 ∨ s.1 (5 + q) 3 = iN 1) ∧ fX1_onto N s (5 + q) (s.2.1 (5 + q) 7) = some t) (h1 : gAt t f ≠ iN v) (h2 : gAt t g ≠ iN w) :
    fL_does N s 0 (iN a) p 0 = some (0, bgS s (iN a) p) ∧ fL_does N (bgS s (iN a) p) 1 (iN f) (iN v) 0 = some (1, edS (bgS s (iN a) p) f v) ∧ fL_does N (edS (bgS s (iN a) p) f v) 1 (iN g) (iN w) 0 = some (if f = g then 1 else 2, edS (edS (bgS s (iN a) p) f v) g w) ∧ fL_does N (edS (edS (bgS s (iN a) p) f v) g w) 2 0 0 0 = some (iN n, mkS s n a f g v w p t) := by
  have b13 : (bgS s (iN a) p).1 1 3 = iN 1 := rfl
  have b14 : (bgS s (iN a) p).1 1 4 = iN n := h14
  have b45 : (bgS s (iN a) p).1 4 5 = 0 := rfl
  have bI : ∀ k, k ≠ 4 → k ≠ 1 → (bgS s (iN a) p).1 k = s.1 k := fun k h1 h2 => funext (fun i => by
    show (if k = 1 ∧ i = 3 then _ else if k = 4 ∧ i = 5 then _ else if k = 4 ∧ i = 2 then _ else if k = 4 ∧ i = 1 then _ else s.1 k i) = _
    rw [if_neg (by omega), if_neg (by omega), if_neg (by omega), if_neg (by omega)])
  have bJ : ∀ k, k ≠ 4 → (bgS s (iN a) p).2.1 k = s.2.1 k := fun k h1 => funext (fun i => by
    show (if k = 4 ∧ i = 8 then _ else if k = 4 ∧ i = 6 then _ else s.2.1 k i) = _
    rw [if_neg (by omega), if_neg (by omega)])
  obtain ⟨k1, k2, k3⟩ := mk_b f hf g hg
  obtain ⟨q1, q2⟩ := mk_set f hf g hg
  obtain ⟨v1, v2, v3, v4⟩ := ek_vw f hf g hg v hv w hw hfg
  have s13 : (edS (edS (bgS s (iN a) p) f v) g w).1 1 3 = iN 1 := rfl
  have s14 : (edS (edS (bgS s (iN a) p) f v) g w).1 1 4 = iN n := h14
  have s42 : (edS (edS (bgS s (iN a) p) f v) g w).1 4 2 = p := rfl
  have s45 : (edS (edS (bgS s (iN a) p) f v) g w).1 4 5 = mk1 f g := q1
  have s48 : (edS (edS (bgS s (iN a) p) f v) g w).2.1 4 8 = ek1 f g v w := v1
  have sI' : ∀ k, k ≠ 4 → k ≠ 1 → (edS (edS (bgS s (iN a) p) f v) g w).1 k = s.1 k := fun k h1 h2 => funext (fun i => by
    rw [edS_I (by omega), edS_I (by omega), bI k h1 h2])
  have sJ' : ∀ k, k ≠ 4 → (edS (edS (bgS s (iN a) p) f v) g w).2.1 k = s.2.1 k := fun k h1 => by rw [edS_J h1, edS_J h1, bJ k h1]
  refine ⟨?_, ?_, ?_, ?_⟩
  · rw [does_0, X_begin (n := n) ha h13 h14 (by omega) (by
      rcases hb with ⟨e, _⟩ | ⟨q, hq, e, h3, _⟩
      · exact Or.inl e
      · exact Or.inr ⟨q, hq, e, h3⟩), Option.bind_some]
    rfl
  · rw [does_1, X_edit (b := 1) (by omega) (by omega) b13 (by rw [b45]; exact k1) (by omega), Option.bind_some]
    rfl
  · rw [does_1, X_edit (b := if f = g then 1 else 2) (by omega) (by omega) rfl (by rw [edS_5, b45, k2]; by_cases c : f = g <;> simp [c]) (by by_cases c : f = g <;> simp [c]), Option.bind_some]
    unfold fL_does_121
    by_cases c : f = g
    · rw [if_pos c, if_pos c]; rfl
    · rw [if_neg c, if_neg c]; rfl
  · rw [does_2, X_make (t := t) (tr := tr) s13 (by rw [s45]; exact k3) s14 (by omega) (htr _ (fun k c1 c2 => ⟨sI' k c1 c2, sJ' k c1⟩) rfl) (by
      rw [s42]
      rcases hb with e | ⟨q, hq, e, h3, ho⟩
      · exact Or.inl e
      · refine Or.inr ⟨q, by omega, e, ?_, ?_⟩
        · rw [sI' (5 + q) (by omega) (by omega)]; exact h3
        · unfold fX1_onto at ho ⊢
          rw [sJ' (5 + q) (by omega)]; exact ho) (X_idle hN (fun x hx hx1 => by
      rw [s45, mk_tb f hf g hg x hx] at hx1
      rw [s48]
      by_cases c : x = f
      · rw [c, v3]; exact h1
      · have c2 : x = g := by simp [c] at hx1; exact hx1
        rw [c2, v4]; exact h2)), Option.bind_some]
    rfl
/-- queued at once, the law has it already -/
theorem Q_ok2 {N : Nat} {s M : gS} {d p n T G V U h sz dp B : Nat} {ag : Nat → Nat} (hN : 100 ≤ N) (hd : d < n) (hp : p ≤ 3) (hl : lawOf s = eqM M d (iN p)) (g : GI s M n T G V U h sz dp B ag) (x : XI s M n T G) (h0 : M.1 164 d = iN 0) (hpar : ∀ q, par M d = some q → M.1 164 q = iN 1 ∨ M.1 164 q = iN 2) :
    ∃ (j : Nat) (σ' : gS), j < 20 ∧ fL_does N s 4 (iN d) (iN p) 0 = some (iN j, σ') ∧ GI σ' (lawOf σ') n T G V U h sz dp B ag ∧ XI σ' (lawOf σ') n T G := by
  have hn := g.1.1.1.1.2.1
  have hT := g.2.1.1
  obtain ⟨⟨hF, hh, h5, h6⟩, ⟨q1, q2, q3, q4⟩, ⟨ch1, ch2⟩, -⟩ := id g.1
  have h12 : s.1 (5 + d) 12 = iN 0 := x.2.1.2 d hd h0
  have g1 := g.enq (pc := iN p) (pl := iN p) hd h0 hpar x.1.2.1 (Or.inr ⟨h12, rfl, by rw [iN_lt (by omega) (by omega)]; omega⟩)
  have x1 := x.enq (pc := iN p) (pl := iN p) hn hT hd
  obtain ⟨σ', w1, w2, w3, ⟨⟨o1, o2⟩, _⟩, g2, x2, wl⟩ := g1.form hN x1
  have hpo := g2.1.1.1.1.2.2
  have hmem : d ∈ ordM (eqM M d (iN p)) n := ordM_all hpo hd eqM_v.1
  have hlen := ordM_len (M := eqM M d (iN p)) (n := n)
  obtain ⟨j, j1, j2, _⟩ := X_placeOf (N := N) (σ := σ') hN (by omega) o1 o2 (fun y hy => by have := (ordM_mem y hy).1; omega) hmem (by omega)
  have hsl : lawOf σ' = eqM M d (iN p) := (wl.trans (eqC_law (by omega))).trans hl
  have e3 : s.1 (5 + d) 3 = M.1 164 d := (ch2 d hd).1.2.1
  have e2 : s.1 (5 + d) 2 = M.1 163 d := (ch2 d hd).1.2.2.2.1.2.2.2
  refine ⟨j, σ', by omega, ?_, by rw [hsl]; exact g2, by rw [hsl]; exact x2⟩
  have e93 : fTX11_queue_93 N s (iN d) (iN p) (5 + d) = some (.inl (iN j), σ') := by
    unfold fTX11_queue_93
    rw [X_putIn (by omega), Option.bind_some, w1, Option.bind_some, iN_64 (by omega), j2, Option.bind_some]
  have e46 : fTX11_queue_46 N s (iN d) (iN p) (5 + d) 1 = some (.inl (iN j), σ') := by
    unfold fTX11_queue_46 fTX11_queue_85 fTX11_queue_90
    rw [show fX11_needState N s 1 = some () from rfl]
    dsimp only [g_tc]
    rw [e2]
    rcases par_cases hF.1.2.2 hd with ⟨_, hm⟩ | ⟨q, hq, hm, hqd⟩
    · rw [hm, if_pos (show iM = (-1 : Int32) from rfl)]; exact e93
    · have eq3 : s.1 (5 + q) 3 = M.1 164 q := (ch2 q (by omega)).1.2.1
      rw [hm, if_neg (show ¬ iN q = (-1 : Int32) from iM_ne (by omega)), X2_at (by omega), Option.bind_some, eq3]
      rcases hpar q hq with e | e
      · rw [e, if_pos (show iN 1 = (1 : Int32) from rfl)]; exact e93
      · rw [e, if_neg (show ¬ iN 2 = (1 : Int32) by decide), if_pos (show iN 2 = (2 : Int32) from rfl)]; exact e93
  rw [does_4]
  unfold fTX11_queue
  rw [ch1, X_place hd (by omega)]
  dsimp only [g_tc]
  rw [show fX11_needRange N s (iN p) (0 : Int32) (3 : Int32) = some () from X_range (lo := 0) (hi := 3) (by omega) hp (by omega)]
  dsimp only [g_tc]
  rw [X2_at (by omega), Option.bind_some, e3, h0, if_pos (show iN 0 = (0 : Int32) from rfl), X_approved hN x.2.1.1, Option.bind_some, if_neg (show ¬ (1 : Int32) = 0 by decide), e46]
  rfl
