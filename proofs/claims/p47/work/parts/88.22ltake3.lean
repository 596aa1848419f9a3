/-! a machine takes a run: the law's turn -/
theorem L_k287q {N : Nat} {rec3 : (gS × Int32) → Option gS} {s M : gS} {n T G V dp j q : Nat} {t on : Int64} {F : List Nat} {al bd : Int32} (hN : 100 ≤ N) (hM : lawOf s = M) (hF : TF M n T G V dp) (hj : j < 3) (hq : q < T) (hd : dHas s F) (hFn : ∀ c ∈ F, c < n) (hb : bd = 0 ∨ bd = 1) : fL_takes_287 N rec3 s t (iN j) al (iN F.length) bd on 3 (iN q) = rec3 (tkR s j (some (q, on, if bd = 0 then tmL M T G q F else 3)), iN (j + 1)) := by
  obtain ⟨h, h6, hdp, hy, hu, ht⟩ := id hF
  have hn := h.1.2.1
  have hT4 := h.2.1.2
  have hd1 := hd.1
  have t162 : s.1 162 = M.1 162 := lw1 hM (by omega)
  have h497 : ∀ tm, tm ≤ 3 → fL_takes_357 N rec3 s t (iN j) al (iN F.length) bd on (iN tm) (iN q) = rec3 (tkR s j (some (q, on, tm)), iN (j + 1)) := fun tm htm => by
    obtain ⟨k, rfl⟩ : ∃ k, N = k + 1 := ⟨N - 1, by omega⟩
    have e : fL_takes_497 (k + 1) rec3 s t (iN j) on (iN tm) (iN q) = rec3 (tkR s j (some (q, on, tm)), iN (j + 1)) := by
      unfold fL_takes_497
      rw [if_pos (show iN q ≤ (99 : Int32) by show iN q ≤ iN 99; rw [iN_le (by omega) (by omega)]; omega)]
      exact L_kq hM hF hj hq htm
    unfold fL_takes_357
    rw [lp_1]
    unfold fL_takes_360
    dsimp only
    rw [if_neg (show ¬ (3 : Int32) ≤ 0 by decide), if_neg (show ¬ iN q < (0 : Int32) by rw [i_0, iN_lt (by omega) (by omega)]; omega), if_pos (show iN q ≤ (99 : Int32) by show iN q ≤ iN 99; rw [iN_le (by omega) (by omega)]; omega), e]
    split
    · rfl
    · split <;> rfl
  unfold fL_takes_287
  rw [i_1, show (iN F.length - iN 1 : Int32) = iP F.length from iP_eq _ (by omega), i_3]
  rcases hb with rfl | rfl
  · rw [if_pos rfl]
    have key : ∀ (i N' : Nat), i ≤ F.length → i < N' → lp (fL_takes_295 N rec3 t (iN j) al (iN F.length) (0 : Int32) on (iN q)) N' (s, iN (tmL M T G q (F.drop i)), iP i) = rec3 (tkR s j (some (q, on, tmL M T G q F)), iN (j + 1)) := by
      intro i
      induction i with
      | zero =>
        intro N' _ hN'
        obtain ⟨N', rfl⟩ : ∃ k, N' = k + 1 := ⟨N' - 1, by omega⟩
        rw [lp_1, List.drop_zero]
        unfold fL_takes_295
        dsimp only
        rw [if_pos (show iP 0 < (0 : Int32) by decide)]
        exact h497 _ (tmL_le M T G q F)
      | succ i ih =>
        intro N' hi hN'
        obtain ⟨N', rfl⟩ : ∃ k, N' = k + 1 := ⟨N' - 1, by omega⟩
        have ih2 := ih N' (by omega) (by omega)
        have hi2 : i < F.length := by omega
        have hc := hFn _ (gD_mem hi2)
        have ha := h.2.2.2.1 _ hc
        rw [drop_c hi2, tmL_c] at ih2
        rw [lp_1]
        generalize lp (fL_takes_295 N rec3 t (iN j) al (iN F.length) (0 : Int32) on (iN q)) N' = R at ih2
        rw [← ih2]
        have e349 : ∀ w, fL_takes_349 N rec3 R s t (iN j) al (iN F.length) (0 : Int32) on (iN q) (iN i) w = R (s, w, iP i) := fun w => by
          unfold fL_takes_349
          rw [iP_m]
        have ebit : ((((rqG M (F.getD i 0) T G) >>> (iN q &&& 31)) &&& 1) = (1 : Int32)) = (tb (rqG M (F.getD i 0) T G) q = true) := tb_sh1 _ (show q < 32 by omega)
        show fL_takes_295 N rec3 t (iN j) al (iN F.length) (0 : Int32) on (iN q) R (s, iN (tmL M T G q (F.drop (i + 1))), iN i) = _
        unfold fL_takes_295
        dsimp only
        rw [if_neg (show ¬ iN i < (0 : Int32) by rw [i_0, iN_lt (by omega) (by omega)]; omega), if_neg (show ¬ iN q < (0 : Int32) by rw [i_0, iN_lt (by omega) (by omega)]; omega), if_pos rfl, if_neg (gi (show i < 32 by omega) (by decide)), iN_cl (show i < 2147483648 by omega), hd.2 i hi2, L_req hN hM h hc, Option.bind_some]
        by_cases c : tb (rqG M (F.getD i 0) T G) q = true
        · rw [if_pos (ebit.mpr c), if_neg (gj (show i < 32 by omega) (by decide)), if_neg (gi (show F.getD i 0 < 24 by omega) (by decide)), iN_cl (show F.getD i 0 < 2147483648 by omega), t162, ha.1, i_3, iN_div (by omega) (by omega), iN_mul, iN_sub (by omega) (by omega), e349, if_pos c]
          rfl
        · rw [if_neg (fun x => c (ebit.mp x)), e349, if_neg c]
    have := key F.length N (Nat.le_refl _) (by omega)
    rw [List.drop_length] at this
    exact this
  · rw [if_neg (show ¬ (1 : Int32) = 0 by decide)]
    obtain ⟨k, rfl⟩ : ∃ k, N = k + 1 := ⟨N - 1, by omega⟩
    have h3 := h497 3 (by omega)
    rw [lp_1]
    unfold fL_takes_295
    dsimp only
    rw [if_neg (show ¬ iN q < (0 : Int32) by rw [i_0, iN_lt (by omega) (by omega)]; omega), if_neg (show ¬ (1 : Int32) = 0 by decide)]
    split
    · exact h3
    · exact h3
theorem L_k287n {N : Nat} {rec3 : (gS × Int32) → Option gS} {s M : gS} {n T G V dp j : Nat} {t on : Int64} {F : List Nat} {bs : List (List Nat)} {bd : Int32} (hN : 100 ≤ N) (hM : lawOf s = M) (hF : TF M n T G V dp) (hj : j < 3) (hb : bd = 0 ∨ bd = 1) (hbs : bsOK n dp bs) (hdr : dRow s M t bs dp) (hFb : F.length ≤ 16) (hbe : F = [] → bs = []) : fL_takes_287 N rec3 s t (iN j) (iN (codB 0 bs).length) (iN F.length) bd on 3 iM = rec3 (tkR s j (orE (if bd = 0 then c1M M T G V t bs else none) (c2M M T V t)), iN (j + 1)) := by
  obtain ⟨h, h6, hdp, hy, hu, ht⟩ := id hF
  have h497 : fL_takes_497 N rec3 s t (iN j) on (iN 3) iM = rec3 (tkR s j (c2M M T V t), iN (j + 1)) := by
    unfold fL_takes_497
    rw [if_pos (show iM ≤ (99 : Int32) by decide)]
    exact L_k521n hN hM h hy hj (fun a ha => (hu a ha).1.1) ht
  have e287 : fL_takes_287 N rec3 s t (iN j) (iN (codB 0 bs).length) (iN F.length) bd on 3 iM = fL_takes_357 N rec3 s t (iN j) (iN (codB 0 bs).length) (iN F.length) bd on (iN 3) iM := by
    obtain ⟨k, rfl⟩ : ∃ k, N = k + 1 := ⟨N - 1, by omega⟩
    unfold fL_takes_287
    rw [lp_1]
    generalize lp (fL_takes_295 (k + 1) rec3 t (iN j) (iN (codB 0 bs).length) (iN F.length) bd on iM) k = R
    unfold fL_takes_295
    dsimp only
    rw [if_pos (show iM < (0 : Int32) by decide), i_3]
    split <;> rfl
  rw [e287]
  unfold fL_takes_357
  rcases hb with rfl | rfl
  · rw [if_pos rfl]
    by_cases hz : F = []
    · have hc1 : c1M M T G V t bs = none := by
        rw [hbe hz]
        have hw : ∀ o, wtO M T G V t [] o = none := fun o => rfl
        have hf : ∀ o, foS M (wtO M T G V t []) o = (3, none) := fun o => by
          induction o with
          | zero => rfl
          | succ o ih => rw [foS_n (hw o), ih]
        unfold c1M
        rw [hf 3]
      rw [hc1]
      obtain ⟨k, rfl⟩ : ∃ k, N = k + 1 := ⟨N - 1, by omega⟩
      rw [lp_1]
      generalize lp (fL_takes_360 (k + 1) rec3 t (iN j) (iN (codB 0 bs).length) (iN F.length) (0 : Int32) on) k = R
      unfold fL_takes_360
      dsimp only
      rw [if_neg (show ¬ (3 : Int32) ≤ 0 by decide), hz, if_pos (show iN ([] : List Nat).length ≤ (0 : Int32) by decide)]
      exact h497
    · have hpos : 0 < F.length := by
        rcases Nat.eq_zero_or_pos F.length with z | z
        · exact absurd (List.length_eq_zero_iff.mp z) hz
        · exact z
      exact L_k360 hN hM hF hj hbs hdr ⟨hpos, by omega⟩
  · rw [if_neg (show ¬ (1 : Int32) = 0 by decide)]
    obtain ⟨k, rfl⟩ : ∃ k, N = k + 1 := ⟨N - 1, by omega⟩
    rw [lp_1]
    generalize lp (fL_takes_360 (k + 1) rec3 t (iN j) (iN (codB 0 bs).length) (iN F.length) (1 : Int32) on) k = R
    unfold fL_takes_360
    dsimp only
    rw [if_neg (show ¬ (3 : Int32) ≤ 0 by decide), if_neg (show ¬ (1 : Int32) = 0 by decide), h497]
    split <;> rfl
/-- what a machine takes -/
def setM (M : gS) (n T G V h sz dp : Nat) : Int32 := if fvd M n T G V h sz dp = 2 then (match (fbs M n T G V h sz dp).2.2 with
  | none => ffl M n T G V h sz dp 3
  | some k => rqL M T G ((FF M n sz dp (trT M h)).take k)) else rqL M T G (FF M n sz dp (trT M h))
def onM (M : gS) (n T G V h sz dp : Nat) : Int64 := if fvd M n T G V h sz dp = 2 then (match (fbs M n T G V h sz dp).2.2 with
  | none => treeL M (trT M h) ((FF M n sz dp (trT M h)).take (fbs M n T G V h sz dp).1)
  | some k => treeL M (trT M h) ((FF M n sz dp (trT M h)).take k)) else treeL M (trT M h) (FF M n sz dp (trT M h))
def c0M (M : gS) (n T G V h sz dp : Nat) : Option (Nat × Int64 × Nat) := match lo (fun q => tb (setM M n T G V h sz dp) q && frM M V q (onM M n T G V h sz dp)) T with
  | some q => some (q, onM M n T G V h sz dp, if fvd M n T G V h sz dp = 2 then 3 else tmL M T G q (FF M n sz dp (trT M h)))
  | none => none
def chM (M : gS) (n T G V h sz dp : Nat) : Option (Nat × Int64 × Nat) := orE (c0M M n T G V h sz dp) (orE (if fvd M n T G V h sz dp = 2 then none else c1M M T G V (trT M h) (batM M n sz dp (trT M h))) (c2M M T V (trT M h)))
theorem lawOf_tkR {s : gS} {j : Nat} {x : Option (Nat × Int64 × Nat)} : lawOf (tkR s j x) = tkR (lawOf s) j x := by
  cases x with
  | none => rfl
  | some x =>
    have e1 : (lawOf s).1 176 = s.1 176 := (lw1 rfl (by omega)).symm
    have e2 : (lawOf s).1 172 = s.1 172 := (lw1 rfl (by omega)).symm
    have e3 : (lawOf s).1 178 = s.1 178 := (lw1 rfl (by omega)).symm
    show lawOf (tkM s j x.1 (tmT s j x.1) x.2.1 x.2.2) = tkM (lawOf s) j x.1 (tmT (lawOf s) j x.1) x.2.1 x.2.2
    have et : tmT (lawOf s) j x.1 = tmT s j x.1 := by unfold tmT vN; rw [e1, e2]
    rw [et]
    unfold tkM
    by_cases c : x.2.2 < 3
    · rw [if_pos c, if_pos c, lawOf_in (by omega), lawOf_tkA]
      unfold vN
      rw [e3]
    · rw [if_neg c, if_neg c, lawOf_tkA]
theorem SmL.tkR {s : gS} {j : Nat} {x : Option (Nat × Int64 × Nat)} : SmL s (tkR s j x) := by
  cases x with
  | none => exact SmL.refl s
  | some x =>
    show SmL s (tkM s j x.1 (tmT s j x.1) x.2.1 x.2.2)
    unfold tkM
    split
    · exact SmL.tkA.trans (SmL.sI (by omega))
    · exact SmL.tkA
theorem bat_bsOK {M : gS} {n sz dp : Nat} {t : Int64} (hn : n ≤ 20) (hsz : sz ≤ 4) (hdp : dp ≤ 4) : bsOK n dp (batM M n sz dp t) := by
  have h1 := bat_ok (M := M) (t := t) hn hsz hdp
  exact ⟨(batL_ok dp _ t).1, hdp, fun l hl => ⟨(h1.2.1 l hl).1, fun c hc => ((h1.2.1 l hl).2.2 c hc).1⟩, h1.2.2.1⟩
theorem L_take3 {N : Nat} {rec3 : (gS × Int32) → Option gS} {s M : gS} {n T G V h sz dp j : Nat} (hN : 100 ≤ N) (hM : lawOf s = M) (hD : LD M n T G V h sz dp) (hF : TF M n T G V dp) (hj : j < 3) (h4 : M.1 176 (6 * j + 4) = iN 1) (h0 : M.1 176 (6 * j) = iM) : ∃ s', fL_takes_3 N (trT M h) rec3 (s, iN j) = rec3 (s', iN (j + 1)) ∧ lawOf s' = tkR M j (chM M n T G V h sz dp) ∧ SmL s s' := by
  obtain ⟨hL, ⟨hh, hh1, h25⟩, ⟨h5, h51, h54⟩, h6, h61, h64⟩ := hD
  have t176 : s.1 176 = M.1 176 := lw1 hM (by omega)
  have hM0 : lawOf (scr s) = M := (scr_law s).trans hM
  obtain ⟨s1, w1, w2, w3, w4, w5, w6, w7, w8, w9, w10⟩ := L_first (N := N) (t := trT M h) hN hM0 hL h5 h54 h6 ⟨h61, h64⟩
  have hFF := FF_ok (M := M) (n := n) (sz := sz) (dp := dp) (t := trT M h) hL.1.2.1 h54 h64
  have hFn : ∀ c ∈ FF M n sz dp (trT M h), c < n := fun c hc => (hFF.2 c hc).1
  have hbs := bat_bsOK (M := M) (n := n) (sz := sz) (dp := dp) (t := trT M h) hL.1.2.1 h54 h64
  have hdr : dRow s1 M (trT M h) (batM M n sz dp (trT M h)) dp := ⟨w6, w7⟩
  have hsm : SmL s s1 := (scr_sm s).trans ⟨fun k hk => ⟨w4 k (by omega), w5 k (by omega)⟩, w3⟩
  have hrq := L_requiredOf (k := (FF M n sz dp (trT M h)).length) hN w2 hL w8 hFn (Nat.le_refl _)
  rw [List.take_length] at hrq
  have hvs : fL_verdicts N s1 (rqL M T G (FF M n sz dp (trT M h))) (treeL M (trT M h) (FF M n sz dp (trT M h))) = some (iN (fvd M n T G V h sz dp)) := by
    have := L_vers (N := N) (σ := s1) (set := rqL M T G (FF M n sz dp (trT M h))) (t := treeL M (trT M h) (FF M n sz dp (trT M h))) hN w2 hL
    rw [← vdF_all] at this; exact this
  have hbe : FF M n sz dp (trT M h) = [] → batM M n sz dp (trT M h) = [] := fun e => by
    unfold FF at e
    cases eb : batM M n sz dp (trT M h) with
    | nil => rfl
    | cons l r =>
      rw [eb] at e
      have := (hbs.2.2.1 l (by rw [eb]; exact List.mem_cons_self)).1
      exact absurd e this
  -- from the tests and the tree on
  have h260 : ∀ (s2 : gS) (bd : Int32) (set : Int32) (on : Int64), lawOf s2 = M → (bd = 0 ∨ bd = 1) → dHas s2 (FF M n sz dp (trT M h)) → dRow s2 M (trT M h) (batM M n sz dp (trT M h)) dp → (FF M n sz dp (trT M h) = [] → set = iN 0) → fL_takes_260 N rec3 s2 (trT M h) (iN j) (iN (codB 0 (batM M n sz dp (trT M h))).length) (iN (FF M n sz dp (trT M h)).length) set bd on 3 = rec3 (tkR s2 j (orE (match lo (fun q => tb set q && frM M V q on) T with
      | some q => some (q, on, if bd = 0 then tmL M T G q (FF M n sz dp (trT M h)) else 3)
      | none => none) (orE (if bd = 0 then c1M M T G V (trT M h) (batM M n sz dp (trT M h)) else none) (c2M M T V (trT M h)))), iN (j + 1)) := fun s2 bd set on hs2 hbd hd2 hdr2 hz => by
    have hno := L_k287n (N := N) (rec3 := rec3) (on := on) (F := FF M n sz dp (trT M h)) hN hs2 hF hj hbd hbs hdr2 (by omega) hbe
    unfold fL_takes_260
    by_cases c : (FF M n sz dp (trT M h)) = []
    · have hl0 : lo (fun q => tb set q && frM M V q on) T = none := lo_none.mpr (fun q _ => by rw [hz c, tb_z]; rfl)
      rw [hl0]
      have hl : (FF M n sz dp (trT M h)).length = 0 := by rw [c]; rfl
      rw [hl] at hno ⊢
      rw [if_pos (show iN 0 ≤ (0 : Int32) by decide)]
      exact hno
    · have hpos : 0 < (FF M n sz dp (trT M h)).length := by
        rcases Nat.eq_zero_or_pos (FF M n sz dp (trT M h)).length with z | z
        · exact absurd (List.length_eq_zero_iff.mp z) c
        · exact z
      rw [if_neg (show ¬ iN (FF M n sz dp (trT M h)).length ≤ (0 : Int32) by rw [i_0, iN_le (by omega) (by omega)]; omega), L_free hN hs2 hL hF.2.2.2.1, Option.bind_some]
      cases el : lo (fun q => tb set q && frM M V q on) T with
      | none => exact hno
      | some q => exact L_k287q hN hs2 hF hj ((lo_some T).mp el).1 hd2 hFn hbd
  have hstart : fL_takes_3 N (trT M h) rec3 (s, iN j) = if fvd M n T G V h sz dp = 2 then fL_takes_132 N rec3 s1 (trT M h) (iN j) (iN (codB 0 (batM M n sz dp (trT M h))).length) (iN (FF M n sz dp (trT M h)).length) (rqL M T G (FF M n sz dp (trT M h))) 1 else fL_takes_132 N rec3 s1 (trT M h) (iN j) (iN (codB 0 (batM M n sz dp (trT M h))).length) (iN (FF M n sz dp (trT M h)).length) (rqL M T G (FF M n sz dp (trT M h))) 0 := by
    unfold fL_takes_3
    dsimp only
    rw [if_neg (show ¬ (3 : Int32) ≤ iN j by rw [i_3, iN_le (by omega) (by omega)]; omega), i_6, iN_mul, i_4, iN_add, if_neg (gi (show 6 * j + 4 < 18 by omega) (by decide)), iN_cl (show 6 * j + 4 < 2147483648 by omega), t176, h4, if_pos (show iN 1 = (1 : Int32) from rfl), if_neg (gi (show 6 * j < 18 by omega) (by decide)), iN_cl (show 6 * j < 2147483648 by omega), h0, if_neg (show ¬ (0 : Int32) ≤ iM by decide), show zI (zJ (zI s 179) 180) 181 = scr s from rfl, w1, Option.bind_some]
    dsimp only
    rw [w10 s1 rfl, Option.bind_some, show (0 : Int32) = 0 from rfl, hrq, Option.bind_some]
    have h131 : fL_takes_131 N rec3 s1 (trT M h) (iN j) (iN (codB 0 (batM M n sz dp (trT M h))).length) (iN (FF M n sz dp (trT M h)).length) (rqL M T G (FF M n sz dp (trT M h))) = fL_takes_132 N rec3 s1 (trT M h) (iN j) (iN (codB 0 (batM M n sz dp (trT M h))).length) (iN (FF M n sz dp (trT M h)).length) (rqL M T G (FF M n sz dp (trT M h))) 0 := rfl
    by_cases c : (FF M n sz dp (trT M h)) = []
    · have hn2 : ¬ fvd M n T G V h sz dp = 2 := fun e => by
        have := vd_pos (show vdF M T G V (trT M h) (FF M n sz dp (trT M h)) (FF M n sz dp (trT M h)).length = 2 from e)
        rw [c] at this; exact absurd this (by decide)
      rw [if_neg hn2, ← h131]
      have hl : (FF M n sz dp (trT M h)).length = 0 := by rw [c]; rfl
      rw [hl, if_pos (show iN 0 ≤ (0 : Int32) by decide)]
    · have hpos : 0 < (FF M n sz dp (trT M h)).length := by
        rcases Nat.eq_zero_or_pos (FF M n sz dp (trT M h)).length with z | z
        · exact absurd (List.length_eq_zero_iff.mp z) c
        · exact z
      rw [if_neg (show ¬ iN (FF M n sz dp (trT M h)).length ≤ (0 : Int32) by rw [i_0, iN_le (by omega) (by omega)]; omega), w9, hvs, Option.bind_some]
      by_cases c2 : fvd M n T G V h sz dp = 2
      · rw [if_pos c2, if_pos (show iN (fvd M n T G V h sz dp) = (2 : Int32) by rw [c2]; rfl)]
      · rw [if_neg c2, if_neg (show ¬ iN (fvd M n T G V h sz dp) = (2 : Int32) by
          have := fvd3 M n T G V h sz dp
          rw [i_2, iN_eq (by omega) (by omega)]; exact c2), h131]
  rw [hstart]
  unfold chM c0M setM onM
  by_cases c : fvd M n T G V h sz dp = 2
  · -- the first batch has failed
    simp only [if_pos c]
    obtain ⟨s2, q1, q2, q3, q4, q5, q6, q7⟩ := L_bisects (t := trT M h) hN w2 hL w8 hFn
    have hs2 : SmL s1 s2 := ⟨fun k hk => ⟨q4 k (by omega), by rw [q3]⟩, by rw [q3]⟩
    have hd2 : dHas s2 (FF M n sz dp (trT M h)) := ⟨w8.1, fun i hi => by rw [q4 179 (by omega)]; exact w8.2 i hi⟩
    have hdr2 : dRow s2 M (trT M h) (batM M n sz dp (trT M h)) dp := ⟨fun i hi => by rw [q4 179 (by omega)]; exact w6 i hi, fun i hi hi2 => by rw [q3]; exact w7 i hi hi2⟩
    have hpos : 0 < (FF M n sz dp (trT M h)).length := vd_pos (show vdF M T G V (trT M h) (FF M n sz dp (trT M h)) (FF M n sz dp (trT M h)).length = 2 from c)
    have hbd := bisB_bd (vd := vdF M T G V (trT M h) (FF M n sz dp (trT M h))) (w := wtF M (FF M n sz dp (trT M h))) (FF M n sz dp (trT M h)).length 0 (FF M n sz dp (trT M h)).length hpos
    have hne : FF M n sz dp (trT M h) ≠ [] := fun e => by rw [e] at hpos; exact absurd hpos (by decide)
    unfold fL_takes_132
    rw [if_neg (show ¬ (1 : Int32) = 0 by decide), q1, Option.bind_some, q7]
    cases e5 : (fbs M n T G V h sz dp).2.2 with
    | none =>
      have e5' : (bisM M T G V (trT M h) (FF M n sz dp (trT M h))).2.2 = none := e5
      have hfl : fL_failed N s2 (trT M h) (iN 3) = some (ffl M n T G V h sz dp 3) := L_failed (v := 3) (t := trT M h) (g := (bisM M T G V (trT M h) (FF M n sz dp (trT M h))).1) (b := (bisM M T G V (trT M h) (FF M n sz dp (trT M h))).2.1) hN q2 hL hd2 hFn hbd.2.2.1 (Nat.le_of_lt (Nat.lt_of_lt_of_le hbd.1 hbd.2.2.1)) q5 q6 (by omega)
      have hbg := L_beginning (N := N) (σ := s2) (t := trT M h) (k := (fbs M n T G V h sz dp).1) hN q2 hL.1.2.1 hd2 hFn (Nat.le_of_lt (Nat.lt_of_lt_of_le hbd.1 hbd.2.2.1))
      refine ⟨tkR s2 j _, ?_, lawOf_tkR.trans (by rw [q2]), (hsm.trans hs2).trans SmL.tkR⟩
      rw [e5', if_pos (show iO none < (0 : Int32) by decide), show (3 : Int32) = iN 3 from rfl, hfl, Option.bind_some]
      unfold fL_takes_227
      rw [q7, e5', if_pos (show iO none < (0 : Int32) by decide), q5]
      unfold fL_takes_253
      rw [show (bisM M T G V (trT M h) (FF M n sz dp (trT M h))).1 = (fbs M n T G V h sz dp).1 from rfl, hbg, Option.bind_some]
      have := h260 s2 1 (ffl M n T G V h sz dp 3) (treeL M (trT M h) ((FF M n sz dp (trT M h)).take (fbs M n T G V h sz dp).1)) q2 (Or.inr rfl) hd2 hdr2 (fun e => absurd e hne)
      simp only [if_neg (show ¬ (1 : Int32) = 0 by decide)] at this
      exact this
    | some k =>
      have e5' : (bisM M T G V (trT M h) (FF M n sz dp (trT M h))).2.2 = some k := e5
      have hk := hbd.2.2.2 k e5'
      have hrk := L_requiredOf (σ := s2) (k := k) hN q2 hL hd2 hFn (by omega)
      have hbg := L_beginning (N := N) (σ := s2) (t := trT M h) (k := k) hN q2 hL.1.2.1 hd2 hFn (by omega)
      have hkn : ¬ iO (some k) < (0 : Int32) := by show ¬ iN k < (0 : Int32); rw [i_0, iN_lt (by omega) (by omega)]; omega
      refine ⟨tkR s2 j _, ?_, lawOf_tkR.trans (by rw [q2]), (hsm.trans hs2).trans SmL.tkR⟩
      rw [e5', if_neg hkn, show iO (some k) = iN k from rfl, hrk, Option.bind_some]
      unfold fL_takes_227
      rw [q7, e5', if_neg hkn, show iO (some k) = iN k from rfl]
      unfold fL_takes_253
      rw [hbg, Option.bind_some]
      have := h260 s2 1 (rqL M T G ((FF M n sz dp (trT M h)).take k)) (treeL M (trT M h) ((FF M n sz dp (trT M h)).take k)) q2 (Or.inr rfl) hd2 hdr2 (fun e => absurd e hne)
      simp only [if_neg (show ¬ (1 : Int32) = 0 by decide)] at this
      exact this
  · simp only [if_neg c]
    refine ⟨tkR s1 j _, ?_, lawOf_tkR.trans (by rw [w2]), hsm.trans SmL.tkR⟩
    unfold fL_takes_132
    rw [if_pos rfl, w9]
    have := h260 s1 0 (rqL M T G (FF M n sz dp (trT M h))) (treeL M (trT M h) (FF M n sz dp (trT M h))) w2 (Or.inl rfl) w8 hdr (fun e => by rw [e]; rfl)
    simp only [if_true] at this
    exact this
/-- a machine that isn't there, or runs -/
theorem L_take3n {N : Nat} {rec3 : (gS × Int32) → Option gS} {s M : gS} {j : Nat} {t : Int64} (hM : lawOf s = M) (hj : j < 3) (h : M.1 176 (6 * j + 4) = iN 0 ∨ (M.1 176 (6 * j + 4) = iN 1 ∧ ∃ q, q < 4 ∧ M.1 176 (6 * j) = iN q)) : fL_takes_3 N t rec3 (s, iN j) = rec3 (s, iN (j + 1)) := by
  have t176 : s.1 176 = M.1 176 := lw1 hM (by omega)
  unfold fL_takes_3
  dsimp only
  rw [if_neg (show ¬ (3 : Int32) ≤ iN j by rw [i_3, iN_le (by omega) (by omega)]; omega), i_6, iN_mul, i_4, iN_add, if_neg (gi (show 6 * j + 4 < 18 by omega) (by decide)), iN_cl (show 6 * j + 4 < 2147483648 by omega), t176]
  rcases h with h | ⟨h, q, hq, h0⟩
  · rw [h, if_neg (show ¬ iN 0 = (1 : Int32) by decide)]
    unfold fL_takes_691
    rw [i_1, iN_add]
  · rw [h, if_pos (show iN 1 = (1 : Int32) from rfl), if_neg (gi (show 6 * j < 18 by omega) (by decide)), iN_cl (show 6 * j < 2147483648 by omega), h0, if_pos (show (0 : Int32) ≤ iN q by rw [i_0, iN_le (by omega) (by omega)]; omega)]
    unfold fL_takes_691
    rw [i_1, iN_add]
