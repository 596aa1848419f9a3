/-! the class lists what is wanted -/
def wE (M : gS) (V : Nat) (E : List wEn) (x : wEn) : List wEn := if frM M V x.1 x.2.1 = true then addE E (x.1, x.2.1 &&& gMask (M.1 172 (12 * x.1)), x.2.2.1, x.2.2.2) else E
theorem addE_len (E : List wEn) (x : wEn) : (addE E x).length ≤ E.length + 1 := by
  unfold addE
  split
  · omega
  · rw [List.length_append]; exact Nat.le_refl _
theorem wE_len (M : gS) (V : Nat) (E : List wEn) (x : wEn) : (wE M V E x).length ≤ E.length + 1 := by
  unfold wE
  split
  · exact addE_len _ _
  · omega
theorem addE_mem {E : List wEn} {x : wEn} (h : ∀ e ∈ E, e.1 < 10) (hx : x.1 < 10) : ∀ e ∈ addE E x, e.1 < 10 := fun e he => by
  unfold addE at he
  split at he
  · exact h e he
  · rcases List.mem_append.mp he with h1 | h1
    · exact h e h1
    · have : e = x := by simpa using h1
      rw [this]; exact hx
theorem wE_mem {M : gS} {V : Nat} {E : List wEn} {x : wEn} (h : ∀ e ∈ E, e.1 < 10) (hx : x.1 < 10) : ∀ e ∈ wE M V E x, e.1 < 10 := fun e he => by
  unfold wE at he
  split at he
  · exact addE_mem (x := (x.1, x.2.1 &&& gMask (M.1 172 (12 * x.1)), x.2.2.1, x.2.2.2)) h hx e he
  · exact h e he
def WC (σ M : gS) (T V U : Nat) (ag : Nat → Nat) : Prop := (T ≤ 4 ∧ σ.1 65 5 = iN T) ∧ (RCv σ M T V U ag ∧ ∀ j, j < V → vN M 175 j < 100000) ∧ (∀ q, q < T → RCk σ M ag q ∧ ag q < 1000) ∧ (∀ j, j < 3 → MC σ M T V ag j) ∧ ∀ j, 3 ≤ j → j < 6 → σ.1 (144 + j) 2 = iM
theorem WC.sm {σ σ' M : gS} {T V U : Nat} {ag : Nat → Nat} (h : WC σ M T V U ag) (hs : Sm σ σ' 126 134) : WC σ' M T V U ag := by
  obtain ⟨⟨a1, a2⟩, ⟨b1, b2⟩, c, d, e⟩ := h
  refine ⟨⟨a1, by rw [(hs.1 65 (by omega)).1]; exact a2⟩, ⟨b1.sm hs (by omega), b2⟩, fun q hq => ⟨(c q hq).1.sm hs (by omega) (by omega), (c q hq).2⟩, fun j hj => (d j hj).fr (hs.1 _ (by omega)).1 (by rw [(hs.1 _ (by omega)).2]) (fun _ _ _ => rfl) rfl (fun _ _ => rfl) (fun _ _ _ _ h => h), fun j h1 h2 => by rw [(hs.1 _ (by omega)).1]; exact e j h1 h2⟩
theorem X_want {N : Nat} {σ M : gS} {T V U q tm wh : Nat} {ag : Nat → Nat} {t : Int64} {E : List wEn} (hN : 5000 ≤ N) (hC : WC σ M T V U ag) (hW : WL σ E) (hE : E.length < 40) (hE9 : ∀ e ∈ E, e.1 < 10) (hq : q < T) (htm : tm ≤ 3) (hwh : wh < 10) : ∃ σ', fX11_want N σ (iN q) t (iT tm) (iN wh) = some σ' ∧ WL σ' (wE M V E (q, t, tm, wh)) ∧ Sm σ σ' 126 134 := by
  obtain ⟨⟨a1, a2⟩, ⟨b1, b2⟩, c, d, e⟩ := hC
  have hver := verS_of hN a2 a1 b1 (fun q hq => (c q hq).1) b2
  have hv := hver.2.2 q hq (t &&& gMask (M.1 172 (12 * q)))
  rw [show sVer M V q (t &&& gMask (M.1 172 (12 * q))) = sVer M V q t by rw [sVer_ev, sVer_ev, gKey_mask]] at hv
  have hon := X_isOn (N := N) (t := t) (by omega) a1 hq (c q hq).1 (fun q hq => (c q hq).2) d e
  have h3 := sVer3 M V q t
  have hw0 : wE M V E (q, t, tm, wh) = if frM M V q t = true then addE E (q, t &&& gMask (M.1 172 (12 * q)), tm, wh) else E := rfl
  rw [hw0]
  unfold fX11_want
  rw [X7_at (show q < 10 by omega), Option.bind_some, (c q hq).1.2.2.2, hv, Option.bind_some]
  unfold frM
  by_cases c1 : sVer M V q t = 0
  · rw [c1, if_pos (show iN 0 = (0 : Int32) from rfl), hon, Option.bind_some]
    cases c2 : sAny (onB M q t) 3 with
    | true =>
      rw [if_neg (show ¬ iB true = (0 : Int32) by decide), if_neg (by decide)]
      exact ⟨σ, rfl, hW, Sm.refl _ _ _⟩
    | false =>
      obtain ⟨σ', w1, w2, w3⟩ := X_addW (N := N) (w := t &&& gMask (M.1 172 (12 * q))) (by omega) hW hE (show q < 10 by omega) hE9 htm hwh
      rw [if_pos (show iB false = (0 : Int32) from rfl), w1, Option.bind_some, if_pos (by decide)]
      exact ⟨σ', rfl, w2, w3⟩
  · have e0 : (sVer M V q t == 0) = false := by simpa using c1
    rw [if_neg (show ¬ iN (sVer M V q t) = (0 : Int32) by rw [i_0, iN_eq (by omega) (by omega)]; exact c1), e0, if_neg (by simp)]
    exact ⟨σ, rfl, hW, Sm.refl _ _ _⟩
def ltE (M : gS) (V : Nat) (set : Int32) (t : Int64) (wh : Nat) (E : List wEn) : Nat → List wEn
  | 0 => E
  | q + 1 => if tb set q = true then wE M V (ltE M V set t wh E q) (q, t, 3, wh) else ltE M V set t wh E q
theorem ltE_s (M : gS) (V : Nat) (set : Int32) (t : Int64) (wh : Nat) (E : List wEn) (q : Nat) : ltE M V set t wh E (q + 1) = if tb set q = true then wE M V (ltE M V set t wh E q) (q, t, 3, wh) else ltE M V set t wh E q := rfl
theorem X_listTests {N : Nat} {σ M : gS} {T V U wh : Nat} {ag : Nat → Nat} {t : Int64} {set : Int32} {E : List wEn} (hN : 5000 ≤ N) (hC : WC σ M T V U ag) (hW : WL σ E) (hE : E.length ≤ 30) (hE9 : ∀ e ∈ E, e.1 < 10) (hwh : wh < 10) : ∃ σ', fX11_listTests N σ set t (iN wh) = some σ' ∧ WL σ' (ltE M V set t wh E T) ∧ Sm σ σ' 126 134 ∧ (ltE M V set t wh E T).length ≤ E.length + T ∧ ∀ e ∈ ltE M V set t wh E T, e.1 < 10 := by
  have hT4 := hC.1.1
  have key : ∀ (m q N' : Nat) (s : gS), q + m = T → m < N' → WC s M T V U ag → WL s (ltE M V set t wh E q) → (ltE M V set t wh E q).length ≤ E.length + q → (∀ e ∈ ltE M V set t wh E q, e.1 < 10) → ∃ σ', lp (fX11_listTests_3 N set t (iN wh)) N' (s, iN q) = some σ' ∧ WL σ' (ltE M V set t wh E T) ∧ Sm s σ' 126 134 ∧ (ltE M V set t wh E T).length ≤ E.length + T ∧ ∀ e ∈ ltE M V set t wh E T, e.1 < 10 := by
    intro m
    induction m with
    | zero =>
      intro q N' s hq hN' hCs hWs hl hm
      obtain ⟨N', rfl⟩ : ∃ k, N' = k + 1 := ⟨N' - 1, by omega⟩
      have e : q = T := by omega
      subst e
      refine ⟨s, ?_, hWs, Sm.refl _ _ _, hl, hm⟩
      rw [lp_1]
      unfold fX11_listTests_3
      dsimp only
      rw [hCs.1.2, if_pos (show iN q ≤ iN q by rw [iN_le (by omega) (by omega)]; omega)]
    | succ m ih =>
      intro q N' s hq hN' hCs hWs hl hm
      obtain ⟨N', rfl⟩ : ∃ k, N' = k + 1 := ⟨N' - 1, by omega⟩
      rw [lp_1]
      have e34 : ∀ s', fX11_listTests_34 N (lp (fX11_listTests_3 N set t (iN wh)) N') s' set t (iN wh) (iN q) = lp (fX11_listTests_3 N set t (iN wh)) N' (s', iN (q + 1)) := fun s' => by
        unfold fX11_listTests_34
        rw [i_1, iN_add]
      have ih2 := fun s' => ih (q + 1) N' s' (by omega) (by omega)
      generalize lp (fX11_listTests_3 N set t (iN wh)) N' = R at e34 ih2 ⊢
      by_cases c : tb set q = true
      · have hs : ltE M V set t wh E (q + 1) = wE M V (ltE M V set t wh E q) (q, t, 3, wh) := by rw [ltE_s, if_pos c]
        obtain ⟨s1, w1, w2, w3⟩ := X_want (t := t) (tm := 3) hN hCs hWs (by omega) hm (show q < T by omega) (by omega) hwh
        have hlen := wE_len M V (ltE M V set t wh E q) (q, t, 3, wh)
        rw [← hs] at w2 hlen
        obtain ⟨σ', v1, v2, v3, v4⟩ := ih2 s1 (hCs.sm w3) w2 (by omega) (by rw [hs]; exact wE_mem hm (show q < 10 by omega))
        refine ⟨σ', ?_, v2, w3.trans v3, v4⟩
        unfold fX11_listTests_3
        dsimp only
        rw [hCs.1.2, if_neg (show ¬ iN T ≤ iN q by rw [iN_le (by omega) (by omega)]; omega), X_hasBit (show q < 32 by omega), Option.bind_some, c, if_neg (show ¬ iB true = (0 : Int32) by decide), show (-1 : Int32) = iT 3 from rfl, w1, Option.bind_some, e34, v1]
      · have c0 : tb set q = false := by simpa using c
        have hs : ltE M V set t wh E (q + 1) = ltE M V set t wh E q := by rw [ltE_s, if_neg c]
        obtain ⟨σ', v1, v2, v3, v4⟩ := ih2 s hCs (by rw [hs]; exact hWs) (by rw [hs]; omega) (by rw [hs]; exact hm)
        refine ⟨σ', ?_, v2, v3, v4⟩
        unfold fX11_listTests_3
        dsimp only
        rw [hCs.1.2, if_neg (show ¬ iN T ≤ iN q by rw [iN_le (by omega) (by omega)]; omega), X_hasBit (show q < 32 by omega), Option.bind_some, c0, if_pos (show iB false = (0 : Int32) from rfl), e34, v1]
  unfold fX11_listTests
  exact key T 0 N σ (by omega) (by omega) hC hW (Nat.le_refl _) hE9
/-! a batch's tests -/
def lbE (M : gS) (T G V : Nat) (l : List Nat) (t : Int64) (wh : Nat) (E : List wEn) : Nat → List wEn
  | 0 => E
  | q + 1 => if tmL M T G q l < 3 then wE M V (lbE M T G V l t wh E q) (q, t, tmL M T G q l, wh) else lbE M T G V l t wh E q
theorem lbE_s (M : gS) (T G V : Nat) (l : List Nat) (t : Int64) (wh : Nat) (E : List wEn) (q : Nat) : lbE M T G V l t wh E (q + 1) = if tmL M T G q l < 3 then wE M V (lbE M T G V l t wh E q) (q, t, tmL M T G q l, wh) else lbE M T G V l t wh E q := rfl
theorem flat_pos : ∀ (bs : List (List Nat)) (b i : Nat), b < bs.length → i < (bs.getD b []).length → bs.flatten.getD ((bs.take b).flatten.length + i) 0 = (bs.getD b []).getD i 0 ∧ (bs.take b).flatten.length + i < bs.flatten.length ∧ (bs.take (b + 1)).flatten.length = (bs.take b).flatten.length + (bs.getD b []).length
  | [], b, i, h, _ => absurd h (Nat.not_lt_zero b)
  | l :: r, b, i, h, hi => by
    rw [List.flatten_cons]
    cases b with
    | zero =>
      have hi2 : i < l.length := hi
      have e0 : (List.take 0 (l :: r)).flatten.length = 0 := rfl
      rw [e0, Nat.zero_add, gD_app1 hi2, List.length_append]
      refine ⟨rfl, by omega, ?_⟩
      show (l :: List.take 0 r).flatten.length = 0 + l.length
      simp
    | succ b =>
      have ih := flat_pos r b i (by simpa using h) hi
      have e1 : ((l :: r).take (b + 1)).flatten.length = l.length + (r.take b).flatten.length := by
        rw [List.take_succ_cons, List.flatten_cons, List.length_append]
      have e2 : ((l :: r).take (b + 1 + 1)).flatten.length = l.length + (r.take (b + 1)).flatten.length := by
        rw [List.take_succ_cons, List.flatten_cons, List.length_append]
      rw [e1, e2, Nat.add_assoc, gD_app2, ih.1, List.length_append, ih.2.2]
      refine ⟨rfl, by omega, ?_⟩
      show _ = l.length + (r.take b).flatten.length + (r.getD b []).length
      omega
/-- what the class's batches are, as far as listing goes -/
def LB (σ M : gS) (n T G : Nat) (t : Int64) (bs : List (List Nat)) : Prop := n ≤ 20 ∧ bs.length ≤ 4 ∧ bs.flatten.length ≤ 16 ∧ (∀ l ∈ bs, l ≠ [] ∧ ∀ c ∈ l, c < n) ∧ FmB σ M bs t ∧ ∀ c, c < n → (c ∈ bs.flatten → σ.1 (5 + c) 13 = rqG M c T G) ∧ σ.1 (5 + c) 1 = iN (vN M 162 c) ∧ vN M 162 c < 8
theorem LB.sm {σ σ' M : gS} {n T G : Nat} {t : Int64} {bs : List (List Nat)} (h : LB σ M n T G t bs) (hs : Sm σ σ' 126 134) : LB σ' M n T G t bs := by
  obtain ⟨a1, a2, a3, a4, ⟨f1, f2, f3, f4, f5, f6⟩, a6⟩ := h
  refine ⟨a1, a2, a3, a4, ⟨by rw [(hs.1 112 (by omega)).1]; exact f1, fun j hj => by rw [(hs.1 113 (by omega)).2]; exact f2 j hj, by rw [(hs.1 114 (by omega)).1]; exact f3, fun j hj => by rw [(hs.1 115 (by omega)).2]; exact f4 j hj, by rw [(hs.1 116 (by omega)).1]; exact f5, fun j hj => by rw [(hs.1 117 (by omega)).2]; exact f6 j hj⟩, fun c hc => by rw [(hs.1 _ (by omega)).1]; exact a6 c hc⟩
theorem X_end {N : Nat} {σ M : gS} {n T G b : Nat} {t : Int64} {bs : List (List Nat)} (h : LB σ M n T G t bs) (hb : b < bs.length) : fX4_endOf N σ (iN b) = some (iN (bs.take (b + 1)).flatten.length) := by
  obtain ⟨a1, a2, a3, a4, ⟨f1, f2, f3, f4, f5, f6⟩, a6⟩ := h
  have hle : (bs.take (b + 1)).flatten.length ≤ bs.flatten.length := by
    have e := congrArg (fun x => (List.flatten x).length) (List.take_append_drop (b + 1) bs)
    simp only [List.flatten_append, List.length_append] at e
    omega
  have g := X_whole (N := N) (σ := σ) (r := 114) (j := b) (len := 4) rfl (show b < 4 by omega) (show (4 : Nat) < 1000 by decide)
  rw [f4 b hb, jN_32 (by omega)] at g
  unfold fX4_endOf
  rw [if_neg (show ¬ iN b < (0 : Int32) by rw [i_0, iN_lt (by omega) (by omega)]; omega), f3, if_neg (show ¬ iN bs.length ≤ iN b by rw [iN_le (by omega) (by omega)]; omega), g, Option.bind_some]
  rfl
theorem X_end1 {N : Nat} {σ M : gS} {n T G b : Nat} {t : Int64} {bs : List (List Nat)} (h : LB σ M n T G t bs) (hb : b < bs.length) : fX4_endOf N σ (iN b - 1) = some (iN (bs.take b).flatten.length) := by
  cases b with
  | zero =>
    unfold fX4_endOf
    rw [if_pos (show iN 0 - 1 < (0 : Int32) by decide)]
    rfl
  | succ b =>
    rw [i_1, iN_sub (by omega) (by have := h.2.1; omega), Nat.add_sub_cancel]
    exact X_end h (by omega)
theorem X_listBatch {N : Nat} {σ M : gS} {n T G V U b : Nat} {ag : Nat → Nat} {t : Int64} {bs : List (List Nat)} {E : List wEn} (hN : 5000 ≤ N) (hC : WC σ M T V U ag) (hB : LB σ M n T G t bs) (hb : b < bs.length) (hW : WL σ E) (hE : E.length ≤ 30) (hE9 : ∀ e ∈ E, e.1 < 10) : ∃ σ', fX11_listBatch N σ (iN b) = some σ' ∧ WL σ' (lbE M T G V (bs.getD b []) (oB M t bs b) (if b = 0 then 0 else 1) E T) ∧ Sm σ σ' 126 134 ∧ (lbE M T G V (bs.getD b []) (oB M t bs b) (if b = 0 then 0 else 1) E T).length ≤ E.length + T ∧ ∀ e ∈ lbE M T G V (bs.getD b []) (oB M t bs b) (if b = 0 then 0 else 1) E T, e.1 < 10 := by
  have hT4 := hC.1.1
  have hb4 : b < 4 := by have := hB.2.1; omega
  have hwh : (if b = 0 then 0 else 1) < 10 := by split <;> omega
  have hmem : bs.getD b [] ∈ bs := gD_memL hb
  have hln : 0 < (bs.getD b []).length := by
    rcases Nat.eq_zero_or_pos (bs.getD b []).length with z | z
    · exact absurd (List.length_eq_zero_iff.mp z) (hB.2.2.2.1 _ hmem).1
    · exact z
  have hfp := flat_pos bs b 0 hb hln
  have hfr16 : (bs.take b).flatten.length + (bs.getD b []).length ≤ 16 := by
    have hp2 := flat_pos bs b ((bs.getD b []).length - 1) hb (by omega)
    have h16 := hB.2.2.1
    omega
  -- a test
  have inner : ∀ (q : Nat) (s : gS) (rec15 : (gS × Int32) → Option gS) (Eq : List wEn), q < T → WC s M T V U ag → LB s M n T G t bs → WL s Eq → Eq.length < 40 → (∀ e ∈ Eq, e.1 < 10) → ∃ s', lp (fX11_listBatch_39 N rec15 (iN b) (oB M t bs b) (iN q)) N (s, iN (bs.take b).flatten.length) = rec15 (s', iN (q + 1)) ∧ WL s' (if tmL M T G q (bs.getD b []) < 3 then wE M V Eq (q, oB M t bs b, tmL M T G q (bs.getD b []), if b = 0 then 0 else 1) else Eq) ∧ Sm s s' 126 134 := fun q s rec15 Eq hq hCs hBs hWs hl hm => by
    have h116 : ∀ s', fX11_listBatch_116 N rec15 s' (iN b) (oB M t bs b) (iN q) = rec15 (s', iN (q + 1)) := fun s' => by
      unfold fX11_listBatch_116
      rw [i_1, iN_add]
    have hend := X_end (N := N) hBs hb
    have key : ∀ (m i N' : Nat), i + m = (bs.getD b []).length → m < N' → tmL M T G q ((bs.getD b []).drop i) = tmL M T G q (bs.getD b []) → ∃ s', lp (fX11_listBatch_39 N rec15 (iN b) (oB M t bs b) (iN q)) N' (s, iN ((bs.take b).flatten.length + i)) = rec15 (s', iN (q + 1)) ∧ WL s' (if tmL M T G q (bs.getD b []) < 3 then wE M V Eq (q, oB M t bs b, tmL M T G q (bs.getD b []), if b = 0 then 0 else 1) else Eq) ∧ Sm s s' 126 134 := by
      intro m
      induction m with
      | zero =>
        intro i N' hi hN' hd
        obtain ⟨N', rfl⟩ : ∃ k, N' = k + 1 := ⟨N' - 1, by omega⟩
        have e0 : tmL M T G q (bs.getD b []) = 3 := by
          rw [← hd, List.drop_of_length_le (by omega)]; rfl
        have h16 := hB.2.2.1
        refine ⟨s, ?_, ?_, Sm.refl _ _ _⟩
        · rw [lp_1]
          unfold fX11_listBatch_39
          dsimp only
          rw [hend, Option.bind_some, hfp.2.2, if_pos (show iN _ ≤ iN _ by rw [iN_le (by omega) (by omega)]; omega), h116]
        · rw [e0, if_neg (by omega)]; exact hWs
      | succ m ih =>
        intro i N' hi hN' hd
        obtain ⟨N', rfl⟩ : ∃ k, N' = k + 1 := ⟨N' - 1, by omega⟩
        have hil : i < (bs.getD b []).length := by omega
        have hp := flat_pos bs b i hb hil
        have h16 := hB.2.2.1
        have hc : (bs.getD b []).getD i 0 < n := (hB.2.2.2.1 _ hmem).2 _ (gD_mem hil)
        have hn := hB.1
        obtain ⟨h13i, ha1, ha8⟩ := hBs.2.2.2.2.2 _ hc
        have h13 := h13i (List.mem_flatten.mpr ⟨_, hmem, gD_mem hil⟩)
        have g := X_whole (N := N) (σ := s) (r := 112) (j := (bs.take b).flatten.length + i) (len := 32) rfl (show (bs.take b).flatten.length + i < 32 by omega) (show (32 : Nat) < 1000 by decide)
        rw [hBs.2.2.2.2.1.2.1 _ hp.2.1, hp.1, jN_32 (by omega)] at g
        rw [drop_c hil, tmL_c] at hd
        have ih2 := ih (i + 1) N' (by omega) (by omega)
        rw [lp_1]
        generalize lp (fX11_listBatch_39 N rec15 (iN b) (oB M t bs b) (iN q)) N' = R at ih2 ⊢
        by_cases c : tb (rqG M ((bs.getD b []).getD i 0) T G) q = true
        · rw [if_pos c] at hd
          have htl : tmC M ((bs.getD b []).getD i 0) < 3 := by unfold tmC; omega
          rw [← hd, if_pos htl]
          obtain ⟨s', w1, w2, w3⟩ := X_want (t := oB M t bs b) (tm := tmC M ((bs.getD b []).getD i 0)) (wh := if b = 0 then 0 else 1) hN hCs hWs hl hm hq (by omega) hwh
          have hiT : iT (tmC M ((bs.getD b []).getD i 0)) = iN (vN M 162 ((bs.getD b []).getD i 0) - vN M 162 ((bs.getD b []).getD i 0) / 3 * 3) := by
            unfold iT
            rw [if_neg (by omega)]; rfl
          rw [hiT] at w1
          refine ⟨s', ?_, w2, w3⟩
          unfold fX11_listBatch_39
          dsimp only
          rw [hend, Option.bind_some, hfp.2.2, if_neg (show ¬ iN _ ≤ iN _ by rw [iN_le (by omega) (by omega)]; omega), g, Option.bind_some, X2_at (show (bs.getD b []).getD i 0 < 60 by omega), Option.bind_some, h13, X_hasBit (show q < 32 by omega), Option.bind_some, c, if_neg (show ¬ iB true = (0 : Int32) by decide), X_team ha1 ha8, Option.bind_some]
          by_cases hb0 : b = 0
          · rw [if_pos (show iN b = (0 : Int32) by rw [hb0]; rfl)]
            rw [if_pos hb0] at w1
            unfold fX11_listBatch_104
            rw [i_0, w1, Option.bind_some, h116]
          · rw [if_neg (show ¬ iN b = (0 : Int32) by rw [i_0, iN_eq (by omega) (by omega)]; exact hb0)]
            rw [if_neg hb0] at w1
            unfold fX11_listBatch_104
            rw [i_1, w1, Option.bind_some, h116]
        · have c0 : tb (rqG M ((bs.getD b []).getD i 0) T G) q = false := by simpa using c
          rw [if_neg c] at hd
          obtain ⟨s', v1, v2, v3⟩ := ih2 hd
          refine ⟨s', ?_, v2, v3⟩
          unfold fX11_listBatch_39
          dsimp only
          rw [hend, Option.bind_some, hfp.2.2, if_neg (show ¬ iN _ ≤ iN _ by rw [iN_le (by omega) (by omega)]; omega), g, Option.bind_some, X2_at (show (bs.getD b []).getD i 0 < 60 by omega), Option.bind_some, h13, X_hasBit (show q < 32 by omega), Option.bind_some, c0, if_pos (show iB false = (0 : Int32) from rfl), i_1, iN_add]
          exact v1
    have h16 := hB.2.2.1
    have := key (bs.getD b []).length 0 N (by omega) (by have := hfp.2.1; have := hfp.2.2; have hp2 := flat_pos bs b ((bs.getD b []).length - 1) hb (by omega); omega) (by rw [List.drop_zero])
    exact this
  have key : ∀ (m q N' : Nat) (s : gS), q + m = T → m < N' → WC s M T V U ag → LB s M n T G t bs → WL s (lbE M T G V (bs.getD b []) (oB M t bs b) (if b = 0 then 0 else 1) E q) → (lbE M T G V (bs.getD b []) (oB M t bs b) (if b = 0 then 0 else 1) E q).length ≤ E.length + q → (∀ e ∈ lbE M T G V (bs.getD b []) (oB M t bs b) (if b = 0 then 0 else 1) E q, e.1 < 10) → ∃ σ', lp (fX11_listBatch_15 N (iN b) (oB M t bs b)) N' (s, iN q) = some σ' ∧ WL σ' (lbE M T G V (bs.getD b []) (oB M t bs b) (if b = 0 then 0 else 1) E T) ∧ Sm s σ' 126 134 ∧ (lbE M T G V (bs.getD b []) (oB M t bs b) (if b = 0 then 0 else 1) E T).length ≤ E.length + T ∧ ∀ e ∈ lbE M T G V (bs.getD b []) (oB M t bs b) (if b = 0 then 0 else 1) E T, e.1 < 10 := by
    intro m
    induction m with
    | zero =>
      intro q N' s hq hN' hCs hBs hWs hl hm
      obtain ⟨N', rfl⟩ : ∃ k, N' = k + 1 := ⟨N' - 1, by omega⟩
      have e : q = T := by omega
      subst e
      refine ⟨s, ?_, hWs, Sm.refl _ _ _, hl, hm⟩
      rw [lp_1]
      unfold fX11_listBatch_15
      dsimp only
      rw [hCs.1.2, if_pos (show iN q ≤ iN q by rw [iN_le (by omega) (by omega)]; omega)]
    | succ m ih =>
      intro q N' s hq hN' hCs hBs hWs hl hm
      obtain ⟨N', rfl⟩ : ∃ k, N' = k + 1 := ⟨N' - 1, by omega⟩
      obtain ⟨s1, w1, w2, w3⟩ := inner q s (lp (fX11_listBatch_15 N (iN b) (oB M t bs b)) N') _ (by omega) hCs hBs hWs (by omega) hm
      have hlen := wE_len M V (lbE M T G V (bs.getD b []) (oB M t bs b) (if b = 0 then 0 else 1) E q) (q, oB M t bs b, tmL M T G q (bs.getD b []), if b = 0 then 0 else 1)
      rw [← lbE_s] at w2
      obtain ⟨σ', v1, v2, v3, v4⟩ := ih (q + 1) N' s1 (by omega) (by omega) (hCs.sm w3) (hBs.sm w3) w2 (by rw [lbE_s]; split <;> omega) (by
        rw [lbE_s]
        split
        · exact wE_mem hm (show q < 10 by omega)
        · exact hm)
      refine ⟨σ', ?_, v2, w3.trans v3, v4⟩
      rw [lp_1]
      generalize lp (fX11_listBatch_15 N (iN b) (oB M t bs b)) N' = R at w1 v1 ⊢
      unfold fX11_listBatch_15
      dsimp only
      rw [hCs.1.2, if_neg (show ¬ iN T ≤ iN q by rw [iN_le (by omega) (by omega)]; omega), X_end1 hBs hb, Option.bind_some, w1, v1]
  have g := X_get (N := N) (σ := σ) (r := 116) (j := b) (len := 4) rfl hb4 (show (4 : Nat) < 1000 by decide)
  rw [hB.2.2.2.2.1.2.2.2.2.2 b hb] at g
  unfold fX11_listBatch
  rw [g, Option.bind_some]
  exact key T 0 N σ (by omega) (by omega) hC hB hW (Nat.le_refl _) hE9
