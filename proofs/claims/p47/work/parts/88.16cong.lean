/-! what the law makes of its rows rests on few of them -/
def Cg (M M' : gS) (n T G V : Nat) : Prop := (∀ c, c < n → (M'.1 162 c = M.1 162 c ∧ M'.1 163 c = M.1 163 c ∧ M'.1 164 c = M.1 164 c ∧ M'.1 165 c = M.1 165 c ∧ M'.1 166 c = M.1 166 c ∧ M'.1 168 c = M.1 168 c) ∧ M'.2.1 169 c = M.2.1 169 c ∧ M'.2.1 170 c = M.2.1 170 c) ∧ (∀ q, q < T → M'.1 172 (12 * q) = M.1 172 (12 * q)) ∧ (∀ k, k < G → M'.1 173 k = M.1 173 k) ∧ (∀ j, j < V → M'.2.1 174 j = M.2.1 174 j ∧ M'.1 175 j = M.1 175 j) ∧ ∀ a, a < 8 → M'.1 178 (6 + a) = M.1 178 (6 + a)
section CC
variable {M M' : gS} {n T G V : Nat}
theorem cg_par (h : Cg M M' n T G V) {c : Nat} (hc : c < n) : par M' c = par M c := par_fr (h.1 c hc).1.2.1
theorem cg_isB (h : Cg M M' n T G V) {c : Nat} (hc : c < n) (f : Option Nat) (hf : ∀ x, f = some x → x < n) : isB M' c f = isB M c f := by
  cases f with
  | none => rfl
  | some x =>
    have hx := hf x rfl
    show aheadB M' c x = aheadB M c x
    unfold aheadB
    rw [(h.1 c hc).1.2.2.2.1, (h.1 c hc).1.2.2.2.2.1, (h.1 x hx).1.2.2.2.1, (h.1 x hx).1.2.2.2.2.1]
theorem cg_nx (h : Cg M M' n T G V) {W : Nat → Bool} : ∀ m, m ≤ n → nx M' W m = nx M W m
  | 0, _ => rfl
  | m + 1, hm => by
    have ih := cg_nx h (W := W) m (by omega)
    show (if (W m && !hangB W (par M' m) && isB M' m (nx M' W m)) = true then some m else nx M' W m) = (if (W m && !hangB W (par M m) && isB M m (nx M W m)) = true then some m else nx M W m)
    rw [ih, cg_par h (show m < n by omega), cg_isB h (show m < n by omega) _ (fun x hx => by have := (nx_lt hx).1; omega)]
theorem cg_ordL (h : Cg M M' n T G V) : ∀ (k : Nat) (W : Nat → Bool), ordL M' n k W = ordL M n k W
  | 0, _ => rfl
  | k + 1, W => by
    have e := cg_nx h (W := W) n (Nat.le_refl _)
    cases q : nx M W n with
    | none => rw [ordL_none q, ordL_none (e.trans q)]
    | some c => rw [ordL_some q, ordL_some (e.trans q), cg_ordL h k]
theorem nx_W {W W' : Nat → Bool} (hp : parOK M n) (hW : ∀ c, c < n → W c = W' c) : ∀ k, ordL M n k W = ordL M n k W'
  | 0 => rfl
  | k + 1 => by
    have e := nx_congr hp hW n (Nat.le_refl _)
    cases q : nx M W' n with
    | none => rw [ordL_none q, ordL_none (e.trans q)]
    | some c =>
      rw [ordL_some q, ordL_some (e.trans q)]
      have : ∀ (k : Nat) (W W' : Nat → Bool), (∀ c, c < n → W c = W' c) → ordL M n k W = ordL M n k W' := by
        intro k
        induction k with
        | zero => intro W W' _; rfl
        | succ k ih =>
          intro W W' hW
          have e := nx_congr hp hW n (Nat.le_refl _)
          cases q : nx M W' n with
          | none => rw [ordL_none q, ordL_none (e.trans q)]
          | some c =>
            rw [ordL_some q, ordL_some (e.trans q)]
            rw [ih (Wm W c) (Wm W' c) (fun d hd => by unfold Wm; rw [hW d hd])]
      rw [this k (Wm W c) (Wm W' c) (fun d hd => by unfold Wm; rw [hW d hd])]
theorem cg_ordM (h : Cg M M' n T G V) (hp : parOK M n) : ordM M' n = ordM M n := by
  unfold ordM
  rw [cg_ordL h]
  exact nx_W hp (fun c hc => by rw [(h.1 c hc).1.2.2.1]) n
theorem cg_free (h : Cg M M' n T G V) (hp : parOK M n) {inn : Nat → Bool} {c : Nat} {t : Int64} (hc : c < n) : freeB M' inn c t = freeB M inn c t := by
  have e : standB M' inn (par M c) = standB M inn (par M c) := by
    cases q : par M c with
    | none => rfl
    | some x =>
      have := (hp c hc).2 x q
      show (decide (M'.1 164 x = iN 2) || inn x) = (decide (M.1 164 x = iN 2) || inn x)
      rw [(h.1 x (by omega)).1.2.2.1]
  unfold freeB
  rw [cg_par h hc, e, (h.1 c hc).1.2.2.2.2.2, (h.1 c hc).2.1]
theorem cg_onto (h : Cg M M' n T G V) {c : Nat} {t : Int64} (hc : c < n) : ontoM M' t c = ontoM M t c := by
  unfold ontoM
  rw [(h.1 c hc).1.2.2.2.2.2, (h.1 c hc).2.2]
theorem cg_tree (h : Cg M M' n T G V) : ∀ (l : List Nat) (t : Int64), (∀ c ∈ l, c < n) → treeL M' t l = treeL M t l
  | [], _, _ => rfl
  | c :: r, t, hl => by
    show treeL M' (ontoM M' t c) r = treeL M (ontoM M t c) r
    rw [cg_onto h (hl c List.mem_cons_self), cg_tree h r _ (fun d hd => hl d (List.mem_cons_of_mem _ hd))]
theorem cg_take (h : Cg M M' n T G V) (hp : parOK M n) : ∀ (l : List Nat) (sz : Nat) (inn : Nat → Bool) (t : Int64), (∀ c ∈ l, c < n) → takeB M' l sz inn t = takeB M l sz inn t
  | [], _, _, _, _ => by unfold takeB; rfl
  | _ :: _, 0, _, _, _ => by unfold takeB; rfl
  | c :: r, sz + 1, inn, t, hl => by
    have hc := hl c List.mem_cons_self
    have hr : ∀ d ∈ r, d < n := fun d hd => hl d (List.mem_cons_of_mem _ hd)
    rw [show takeB M' (c :: r) (sz + 1) inn t = if freeB M' inn c t = true then c :: takeB M' r sz (inU inn c) (ontoM M' t c) else takeB M' r (sz + 1) inn t from rfl, show takeB M (c :: r) (sz + 1) inn t = if freeB M inn c t = true then c :: takeB M r sz (inU inn c) (ontoM M t c) else takeB M r (sz + 1) inn t from rfl, cg_free h hp hc, cg_onto h hc, cg_take h hp r sz _ _ hr, cg_take h hp r (sz + 1) _ _ hr]
theorem cg_batL (h : Cg M M' n T G V) (hp : parOK M n) {ord : List Nat} {sz : Nat} (ho : ∀ c ∈ ord, c < n) : ∀ (k : Nat) (inn : Nat → Bool) (t : Int64), batL M' ord sz k inn t = batL M ord sz k inn t
  | 0, _, _ => rfl
  | k + 1, inn, t => by
    have e := cg_take h hp ord sz inn t ho
    cases q : takeB M ord sz inn t with
    | nil => rw [batL_nil q, batL_nil (e.trans q)]
    | cons c r =>
      have hm : ∀ d ∈ c :: r, d < n := fun d hd => ho d (takeB_mem (M := M) ord sz inn t d (by rw [q]; exact hd))
      rw [batL_cons q, batL_cons (e.trans q), cg_tree h _ _ hm, cg_batL h hp ho k]
theorem cg_bat (h : Cg M M' n T G V) (hp : parOK M n) {sz dp : Nat} {t : Int64} : batM M' n sz dp t = batM M n sz dp t := by
  unfold batM
  rw [cg_ordM h hp]
  exact cg_batL h hp (fun c hc => (ordM_mem c hc).1) dp _ _
theorem cg_FF (h : Cg M M' n T G V) (hp : parOK M n) {sz dp : Nat} {t : Int64} : FF M' n sz dp t = FF M n sz dp t := by
  unfold FF; rw [cg_bat h hp]
theorem cg_rqT (h : Cg M M' n T G V) {c : Nat} (hc : c < n) : ∀ j, j ≤ T → rqT M' c j = rqT M c j
  | 0, _ => rfl
  | j + 1, hj => by
    have ih := cg_rqT h hc j (by omega)
    unfold rqT
    rw [ih, h.2.1 j (by omega), (h.1 c hc).1.2.2.2.2.2]
theorem cg_rqG (h : Cg M M' n T G V) {c : Nat} (hc : c < n) : ∀ k, k ≤ G → rqG M' c T k = rqG M c T k
  | 0, _ => cg_rqT h hc T (Nat.le_refl _)
  | k + 1, hk => by
    have ih := cg_rqG h hc k (by omega)
    have e1 : vN M' 173 k = vN M 173 k := by unfold vN; rw [h.2.2.1 k (by omega)]
    have e2 : vN M' 162 c = vN M 162 c := by unfold vN; rw [(h.1 c hc).1.1]
    unfold rqG
    rw [ih, e1, e2, (h.1 c hc).1.2.2.2.2.2]
theorem cg_rqF (h : Cg M M' n T G V) : ∀ (l : List Nat) (s : Int32), (∀ c ∈ l, c < n) → l.foldl (fun s c => s ||| rqG M' c T G) s = l.foldl (fun s c => s ||| rqG M c T G) s
  | [], _, _ => rfl
  | c :: r, s, hl => by
    rw [List.foldl_cons, List.foldl_cons, cg_rqG h (hl c List.mem_cons_self) G (Nat.le_refl _)]
    exact cg_rqF h r _ (fun d hd => hl d (List.mem_cons_of_mem _ hd))
theorem cg_rqL (h : Cg M M' n T G V) {l : List Nat} (hl : ∀ c ∈ l, c < n) : rqL M' T G l = rqL M T G l := cg_rqF h l (iN 0) hl
theorem cg_key (h : Cg M M' n T G V) {q : Nat} (hq : q < T) (t : Int64) : gKey M' q t = gKey M q t := gKey_same (h.2.1 q hq)
theorem cg_ev (h : Cg M M' n T G V) (key : Int64) : ev M' V key = ev M V key := by
  have e := sEnt_pre (M := M) (M' := M') (key := key) V (fun j hj => (h.2.2.2.1 j hj).1)
  cases q : sEnt M key V with
  | none => rw [ev_none q, ev_none (e.trans q)]
  | some i => rw [ev_some q, ev_some (e.trans q)]; unfold vN; rw [(h.2.2.2.1 i (sEnt_lt q).1).2]
theorem cg_ver (h : Cg M M' n T G V) {q : Nat} (hq : q < T) (t : Int64) : sVer M' V q t = sVer M V q t := by
  rw [sVer_ev, sVer_ev, cg_key h hq, cg_ev h]
theorem cg_tog (h : Cg M M' n T G V) (set : Int32) (t : Int64) : sTog set (fun q => sVer M' V q t) T = sTog set (fun q => sVer M V q t) T := by
  unfold sTog
  rw [sAny_congr T (p := fun q => tb set q && sVer M' V q t == 2) (p' := fun q => tb set q && sVer M V q t == 2) (fun q hq => by rw [cg_ver h hq]), sAny_congr T (p := fun q => tb set q && sVer M' V q t == 0) (p' := fun q => tb set q && sVer M V q t == 0) (fun q hq => by rw [cg_ver h hq])]
theorem cg_vd (h : Cg M M' n T G V) {F : List Nat} (hF : ∀ c ∈ F, c < n) (t : Int64) (k : Nat) : vdF M' T G V t F k = vdF M T G V t F k := by
  have hk : ∀ c ∈ F.take k, c < n := fun c hc => hF c (List.mem_of_mem_take hc)
  unfold vdF
  rw [cg_rqL h hk, cg_tree h _ _ hk, cg_tog h]
theorem cg_wtA (h : Cg M M' n T G V) (ha : ∀ c, c < n → vN M 162 c < 8) {c : Nat} (hc : c < n) : wtA M' c = wtA M c := by
  have e2 : vN M' 162 c = vN M 162 c := by unfold vN; rw [(h.1 c hc).1.1]
  unfold wtA
  rw [e2]
  unfold vN at *
  rw [h.2.2.2.2 _ (ha c hc)]
theorem foldl_plus {f g : Nat → Nat} (l : List Nat) : ∀ (s : Nat), (∀ c ∈ l, f c = g c) → l.foldl (fun s c => s + f c) s = l.foldl (fun s c => s + g c) s := by
  induction l with
  | nil => intro s _; rfl
  | cons c r ih =>
    intro s hl
    rw [List.foldl_cons, List.foldl_cons, hl c List.mem_cons_self]
    exact ih _ (fun d hd => hl d (List.mem_cons_of_mem _ hd))
theorem cg_wt (h : Cg M M' n T G V) (ha : ∀ c, c < n → vN M 162 c < 8) {F : List Nat} (hF : ∀ c ∈ F, c < n) (k : Nat) : wtF M' F k = wtF M F k := by
  unfold wtF wtL
  exact foldl_plus (F.take k) 0 (fun c hc => cg_wtA h ha (hF c (List.mem_of_mem_take hc)))
theorem cg_bis (h : Cg M M' n T G V) (ha : ∀ c, c < n → vN M 162 c < 8) {F : List Nat} (hF : ∀ c ∈ F, c < n) (t : Int64) : bisM M' T G V t F = bisM M T G V t F := by
  unfold bisM
  rw [show vdF M' T G V t F = vdF M T G V t F from funext (fun k => cg_vd h hF t k), show wtF M' F = wtF M F from funext (fun k => cg_wt h ha hF k)]
theorem cg_flB (h : Cg M M' n T G V) {F : List Nat} (hF : ∀ c ∈ F, c < n) (t : Int64) (g b v : Nat) {q : Nat} (hq : q < T) : flB M' T G V t F g b v q = flB M T G V t F g b v q := by
  have hk : ∀ k, ∀ c ∈ F.take k, c < n := fun k c hc => hF c (List.mem_of_mem_take hc)
  unfold flB
  rw [cg_rqL h (hk b), cg_tree h _ _ (hk b), cg_tree h _ _ (hk g), cg_ver h hq, cg_ver h hq]
theorem orT_congr {p p' : Nat → Bool} : ∀ T, (∀ q, q < T → p q = p' q) → orT p T = orT p' T
  | 0, _ => rfl
  | T + 1, h => by
    have ih := orT_congr T (fun q hq => h q (by omega))
    cases c : p T with
    | true => rw [orT_t c, orT_t ((h T (by omega)).symm.trans c), ih]
    | false => rw [orT_f c, orT_f ((h T (by omega)).symm.trans c), ih]
end CC
theorem cg_fvd {M M' : gS} {n T G V h sz dp : Nat} (hc : Cg M M' n T G V) (hL : LD M n T G V h sz dp) (ht : trT M' h = trT M h) : fvd M' n T G V h sz dp = fvd M n T G V h sz dp := by
  have hF := (FF_ok (M := M) (n := n) (sz := sz) (dp := dp) (t := trT M h) hL.1.1.2.1 hL.2.2.1.2.2 hL.2.2.2.2.2).2
  unfold fvd
  rw [ht, cg_FF hc hL.1.1.2.2, cg_vd hc (fun c h => (hF c h).1)]
theorem cg_fbs {M M' : gS} {n T G V h sz dp : Nat} (hc : Cg M M' n T G V) (hL : LD M n T G V h sz dp) (ht : trT M' h = trT M h) : fbs M' n T G V h sz dp = fbs M n T G V h sz dp := by
  have hF := (FF_ok (M := M) (n := n) (sz := sz) (dp := dp) (t := trT M h) hL.1.1.2.1 hL.2.2.1.2.2 hL.2.2.2.2.2).2
  unfold fbs
  rw [ht, cg_FF hc hL.1.1.2.2, cg_bis hc (fun c h => (hL.1.2.2.2.1 c h).2) (fun c h => (hF c h).1)]
theorem cg_ffl {M M' : gS} {n T G V h sz dp v : Nat} (hc : Cg M M' n T G V) (hL : LD M n T G V h sz dp) (ht : trT M' h = trT M h) : ffl M' n T G V h sz dp v = ffl M n T G V h sz dp v := by
  have hF := (FF_ok (M := M) (n := n) (sz := sz) (dp := dp) (t := trT M h) hL.1.1.2.1 hL.2.2.1.2.2 hL.2.2.2.2.2).2
  unfold ffl
  rw [cg_fbs hc hL ht, ht, cg_FF hc hL.1.1.2.2]
  exact orT_congr T (fun q hq => cg_flB hc (fun c h => (hF c h).1) _ _ _ _ hq)
theorem cg_stop {M M' : gS} {n T G V h sz dp : Nat} (hc : Cg M M' n T G V) (hL : LD M n T G V h sz dp) (ht : trT M' h = trT M h) (hs : stopD M n T G V h sz dp) : stopD M' n T G V h sz dp := by
  have e : nx M' (Wl M' (iN 0)) n = nx M (Wl M (iN 0)) n := by
    rw [cg_nx hc n (Nat.le_refl _)]
    exact nx_congr hL.1.1.2.2 (fun c hcn => by unfold Wl; rw [(hc.1 c hcn).1.2.2.1]) n (Nat.le_refl _)
  unfold stopD
  rw [e, cg_fvd hc hL ht, cg_fbs hc hL ht, cg_ffl hc hL ht, ht]
  rcases hs with hs | ⟨c, h1, h2, h3⟩
  · exact Or.inl hs
  · refine Or.inr ⟨c, h1, ?_, h3⟩
    have hcn := (nx_lt h1).1
    rw [(hc.1 c hcn).1.2.2.2.2.2, (hc.1 c hcn).2.1]; exact h2
