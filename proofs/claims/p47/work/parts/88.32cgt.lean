/-! candidates rest on few rows -/
theorem cg_tmL {M M' : gS} {n T G V q : Nat} (h : Cg M M' n T G V) : ∀ (l : List Nat), (∀ c ∈ l, c < n) → tmL M' T G q l = tmL M T G q l
  | [], _ => rfl
  | c :: r, hl => by
    have hc := hl c List.mem_cons_self
    have e2 : tmC M' c = tmC M c := by unfold tmC vN; rw [(h.1 c hc).1.1]
    rw [tmL_c, tmL_c, cg_rqG h hc G (Nat.le_refl _), e2, cg_tmL h r (fun d hd => hl d (List.mem_cons_of_mem _ hd))]
theorem cg_set {M M' : gS} {n T G V h sz dp : Nat} (hc : Cg M M' n T G V) (hL : LD M n T G V h sz dp) (ht : trT M' h = trT M h) : setM M' n T G V h sz dp = setM M n T G V h sz dp := by
  have hF := (FF_ok (M := M) (n := n) (sz := sz) (dp := dp) (t := trT M h) hL.1.1.2.1 hL.2.2.1.2.2 hL.2.2.2.2.2).2
  have hFn : ∀ c ∈ FF M n sz dp (trT M h), c < n := fun c h => (hF c h).1
  unfold setM
  rw [cg_fvd hc hL ht, cg_fbs hc hL ht, cg_ffl hc hL ht, ht, cg_FF hc hL.1.1.2.2, cg_rqL hc hFn]
  have e : ∀ k, rqL M' T G ((FF M n sz dp (trT M h)).take k) = rqL M T G ((FF M n sz dp (trT M h)).take k) := fun k => cg_rqL hc (fun c h => hFn c (List.mem_of_mem_take h))
  simp only [e]
theorem cg_on {M M' : gS} {n T G V h sz dp : Nat} (hc : Cg M M' n T G V) (hL : LD M n T G V h sz dp) (ht : trT M' h = trT M h) : onM M' n T G V h sz dp = onM M n T G V h sz dp := by
  have hF := (FF_ok (M := M) (n := n) (sz := sz) (dp := dp) (t := trT M h) hL.1.1.2.1 hL.2.2.1.2.2 hL.2.2.2.2.2).2
  have hFn : ∀ c ∈ FF M n sz dp (trT M h), c < n := fun c h => (hF c h).1
  unfold onM
  rw [cg_fvd hc hL ht, cg_fbs hc hL ht, ht, cg_FF hc hL.1.1.2.2, cg_tree hc _ _ hFn]
  have e : ∀ k, treeL M' (trT M h) ((FF M n sz dp (trT M h)).take k) = treeL M (trT M h) ((FF M n sz dp (trT M h)).take k) := fun k => cg_tree hc _ _ (fun c h => hFn c (List.mem_of_mem_take h))
  simp only [e]
theorem cg_cdO {M M' : gS} {n T G V h sz dp : Nat} (hc : Cg M M' n T G V) (hL : LD M n T G V h sz dp) (ht : trT M' h = trT M h) (h8 : M'.1 161 8 = M.1 161 8) : cdO M' n T G V h sz dp = cdO M n T G V h sz dp ∧ nBM M' n T G V h sz dp = nBM M n T G V h sz dp := by
  have hbs := bat_bsOK (M := M) (n := n) (sz := sz) (dp := dp) (t := trT M h) hL.1.1.2.1 hL.2.2.1.2.2 hL.2.2.2.2.2
  have hnB : nBM M' n T G V h sz dp = nBM M n T G V h sz dp := by
    unfold nBM
    rw [cg_fvd hc hL ht, ht, cg_bat hc hL.1.1.2.2]
  refine ⟨?_, hnB⟩
  funext k
  unfold cdO cdM
  have hmem : ∀ b, ∀ c ∈ (batM M n sz dp (trT M h)).getD b [], c < n := fun b c hcm => by
    by_cases e : b < (batM M n sz dp (trT M h)).length
    · exact (hbs.2.2.1 _ (gD_memL e)).2 c hcm
    · rw [gD_ge (by omega)] at hcm; cases hcm
  have hflat : ∀ b, ∀ c ∈ ((batM M n sz dp (trT M h)).take b).flatten, c < n := fun b c hcm => by
    obtain ⟨l, l1, l2⟩ := List.mem_flatten.mp hcm
    exact (hbs.2.2.1 l (List.mem_of_mem_take l1)).2 c l2
  have e1 : ∀ q b, tmL M' T G q ((batM M n sz dp (trT M h)).getD b []) = tmL M T G q ((batM M n sz dp (trT M h)).getD b []) := fun q b => cg_tmL hc _ (hmem b)
  have e2 : ∀ b, oB M' (trT M h) (batM M n sz dp (trT M h)) b = oB M (trT M h) (batM M n sz dp (trT M h)) b := fun b => by
    unfold oB
    exact cg_tree hc _ _ (hflat (b + 1))
  rw [hnB, cg_fvd hc hL ht, cg_set hc hL ht, cg_on hc hL ht, ht, cg_bat hc hL.1.1.2.2, h8]
  simp only [e1, e2]
/-! what taking changes -/
theorem tkM_I {M : gS} {j q v tm : Nat} {t : Int64} (k x : Nat) (h1 : k ≠ 176) (h2 : ¬ (k = 178 ∧ x < 3)) : (tkM M j q v t tm).1 k x = M.1 k x := by
  unfold tkM
  by_cases c : tm < 3
  · rw [if_pos c, sI_1, if_neg (by omega), tkA_178 _ _ _ _ _ _ h1]
  · rw [if_neg c, tkA_178 _ _ _ _ _ _ h1]
theorem tkM_J {M : gS} {j q v tm : Nat} {t : Int64} (k x : Nat) (h1 : ¬ (k = 177 ∧ x = j)) : (tkM M j q v t tm).2.1 k x = M.2.1 k x := by
  unfold tkM tkA
  by_cases c : tm < 3
  · rw [if_pos c, sI_2, sJ_2, if_neg h1]; rfl
  · rw [if_neg c, sJ_2, if_neg h1]; rfl
theorem tkM_z {M : gS} {j q v tm : Nat} {t : Int64} : (tkM M j q v t tm).2.1 177 j = t := by
  unfold tkM tkA
  by_cases c : tm < 3
  · rw [if_pos c, sI_2, sJ_2, if_pos ⟨rfl, rfl⟩]
  · rw [if_neg c, sJ_2, if_pos ⟨rfl, rfl⟩]
theorem tkM_176 {M : gS} {j q v tm : Nat} {t : Int64} (x : Nat) : (tkM M j q v t tm).1 176 x = if x = 6 * j + 3 then iN q else if x = 6 * j + 2 then iN 0 else if x = 6 * j + 1 then iN v else if x = 6 * j then iN q else M.1 176 x := by
  have key : (tkA M j q v t).1 176 x = if x = 6 * j + 3 then iN q else if x = 6 * j + 2 then iN 0 else if x = 6 * j + 1 then iN v else if x = 6 * j then iN q else M.1 176 x := by
    unfold tkA
    rw [sJ_1, sI_1, sI_1, sI_1, sI_1]
    simp only [true_and]
  unfold tkM
  by_cases c : tm < 3
  · rw [if_pos c, sI_1, if_neg (by omega), key]
  · rw [if_neg c, key]
theorem tkM_178 {M : gS} {j q v tm a : Nat} {t : Int64} : (tkM M j q v t tm).1 178 a = if a = tm ∧ tm < 3 then iN (vN M 178 tm + v) else M.1 178 a := by
  unfold tkM
  by_cases c : tm < 3
  · rw [if_pos c, sI_1, tkA_178 _ _ _ _ _ _ (by omega)]
    by_cases e : a = tm
    · rw [if_pos ⟨rfl, e⟩, if_pos ⟨e, c⟩]
    · rw [if_neg (fun x => e x.2), if_neg (fun x => e x.1)]
  · rw [if_neg c, tkA_178 _ _ _ _ _ _ (by omega), if_neg (fun x => c x.2)]
theorem Cg.tk {M : gS} {n T G V j q v tm : Nat} {t : Int64} : Cg M (tkM M j q v t tm) n T G V := by
  refine ⟨fun c _ => ⟨⟨?_, ?_, ?_, ?_, ?_, ?_⟩, ?_, ?_⟩, fun q _ => ?_, fun k _ => ?_, fun i _ => ⟨?_, ?_⟩, fun a _ => ?_⟩
  · exact tkM_I _ _ (by omega) (by omega)
  · exact tkM_I _ _ (by omega) (by omega)
  · exact tkM_I _ _ (by omega) (by omega)
  · exact tkM_I _ _ (by omega) (by omega)
  · exact tkM_I _ _ (by omega) (by omega)
  · exact tkM_I _ _ (by omega) (by omega)
  · exact tkM_J _ _ (by omega)
  · exact tkM_J _ _ (by omega)
  · exact tkM_I _ _ (by omega) (by omega)
  · exact tkM_I _ _ (by omega) (by omega)
  · exact tkM_J _ _ (by omega)
  · exact tkM_I _ _ (by omega) (by omega)
  · exact tkM_I _ _ (by omega) (by omega)
/-- what is free then -/
theorem fr_tk {M : gS} {n T G V j q v tm q' : Nat} {t t' : Int64} (hj : j < 3) (h0 : M.1 176 (6 * j) = iM) (hq : q < 4) (hq' : q' < 4) : frM (tkM M j q v t tm) V q' t' = (frM M V q' t' && !(decide (q = q') && decide (gKey M q' t = gKey M q' t'))) := by
  have hC : Cg M (tkM M j q v t tm) 0 4 0 V := Cg.tk
  have ev : sVer (tkM M j q v t tm) V q' t' = sVer M V q' t' := cg_ver hC hq' t'
  have ek : ∀ x, gKey (tkM M j q v t tm) q' x = gKey M q' x := fun x => cg_key hC hq' x
  have eo : ∀ i, i < 3 → onB (tkM M j q v t tm) q' t' i = (if i = j then (decide (q = q') && decide (gKey M q' t = gKey M q' t')) else onB M q' t' i) := fun i hi => by
    unfold onB
    rw [ek, ek, tkM_176, tkM_176]
    by_cases e : i = j
    · subst e
      rw [if_pos rfl, if_neg (by omega), if_neg (by omega), if_neg (by omega), if_pos rfl, if_neg (by omega), if_pos rfl, tkM_z]
      have eq1 : decide (iN q = iN q') = decide (q = q') := by
        by_cases c : q = q'
        · rw [decide_eq_true c, c]; exact decide_eq_true rfl
        · rw [decide_eq_false c]; exact decide_eq_false (by rw [iN_eq (by omega) (by omega)]; exact c)
      rw [eq1, decide_eq_true (rfl : iN 0 = iN 0), Bool.true_and]
    · rw [if_neg e, if_neg (by omega), if_neg (by omega), if_neg (by omega), if_neg (by omega), if_neg (by omega), if_neg (by omega), if_neg (by omega), if_neg (by omega), tkM_J _ _ (by omega)]
  have hoj : onB M q' t' j = false := by
    unfold onB
    rw [h0, decide_eq_false (show ¬ iM = iN q' from fun e => iM_ne (by omega) e.symm)]; rfl
  unfold frM
  rw [ev]
  have es : sAny (onB (tkM M j q v t tm) q' t') 3 = (sAny (onB M q' t') 3 || (decide (q = q') && decide (gKey M q' t = gKey M q' t'))) := by
    show (((false || onB (tkM M j q v t tm) q' t' 0) || onB (tkM M j q v t tm) q' t' 1) || onB (tkM M j q v t tm) q' t' 2) = ((((false || onB M q' t' 0) || onB M q' t' 1) || onB M q' t' 2) || _)
    rw [eo 0 (by omega), eo 1 (by omega), eo 2 (by omega)]
    rcases (show j = 0 ∨ j = 1 ∨ j = 2 by omega) with e | e | e
    · subst e
      rw [if_pos rfl, if_neg (by omega), if_neg (by omega), hoj]
      cases (decide (q = q') && decide (gKey M q' t = gKey M q' t')) <;> cases onB M q' t' 1 <;> cases onB M q' t' 2 <;> rfl
    · subst e
      rw [if_neg (by omega), if_pos rfl, if_neg (by omega), hoj]
      cases (decide (q = q') && decide (gKey M q' t = gKey M q' t')) <;> cases onB M q' t' 0 <;> cases onB M q' t' 2 <;> rfl
    · subst e
      rw [if_neg (by omega), if_neg (by omega), if_pos rfl, hoj]
      cases (decide (q = q') && decide (gKey M q' t = gKey M q' t')) <;> cases onB M q' t' 0 <;> cases onB M q' t' 1 <;> rfl
  rw [es]
  cases (sVer M V q' t' == 0) <;> cases sAny (onB M q' t') 3 <;> cases (decide (q = q') && decide (gKey M q' t = gKey M q' t')) <;> rfl
