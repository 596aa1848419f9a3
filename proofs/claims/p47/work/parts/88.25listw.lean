/-! all that is wanted, by places: four for a batch, and four for a full run -/
def bkE (M : gS) (V : Nat) (c : Nat → Option wEn) (E : List wEn) : Nat → List wEn
  | 0 => E
  | q + 1 => match c q with
    | none => bkE M V c E q
    | some x => wE M V (bkE M V c E q) x
theorem bkE_s (M : gS) (V : Nat) (c : Nat → Option wEn) (E : List wEn) (q : Nat) : bkE M V c E (q + 1) = (match c q with
    | none => bkE M V c E q
    | some x => wE M V (bkE M V c E q) x) := rfl
theorem bkE_congr {M : gS} {V : Nat} {c c' : Nat → Option wEn} {E : List wEn} : ∀ k, (∀ q, q < k → c q = c' q) → bkE M V c E k = bkE M V c' E k
  | 0, _ => rfl
  | k + 1, h => by rw [bkE_s, bkE_s, bkE_congr k (fun q hq => h q (by omega)), h k (by omega)]
theorem bkE_rest {M : gS} {V : Nat} {c : Nat → Option wEn} {E : List wEn} {T : Nat} (h : ∀ q, T ≤ q → c q = none) : ∀ d, bkE M V c E (T + d) = bkE M V c E T
  | 0 => rfl
  | d + 1 => by
    show bkE M V c E (T + d + 1) = _
    rw [bkE_s, h (T + d) (by omega)]
    exact bkE_rest h d
theorem ltE_bk {M : gS} {V wh : Nat} {set : Int32} {t : Int64} {E : List wEn} : ∀ k, ltE M V set t wh E k = bkE M V (fun q => if tb set q = true then some (q, t, 3, wh) else none) E k
  | 0 => rfl
  | k + 1 => by
    rw [ltE_s, bkE_s, ltE_bk k]
    by_cases c : tb set k = true
    · rw [if_pos c, if_pos c]
    · rw [if_neg c, if_neg c]
theorem lbE_bk {M : gS} {T G V wh : Nat} {l : List Nat} {t : Int64} {E : List wEn} : ∀ k, lbE M T G V l t wh E k = bkE M V (fun q => if tmL M T G q l < 3 then some (q, t, tmL M T G q l, wh) else none) E k
  | 0 => rfl
  | k + 1 => by
    rw [lbE_s, bkE_s, lbE_bk k]
    by_cases c : tmL M T G k l < 3
    · rw [if_pos c, if_pos c]
    · rw [if_neg c, if_neg c]
def nBM (M : gS) (n T G V h sz dp : Nat) : Nat := if fvd M n T G V h sz dp = 2 then 1 else (batM M n sz dp (trT M h)).length
def cdM (M : gS) (n T G V h sz dp b q : Nat) : Option wEn := if q < T then (if b < nBM M n T G V h sz dp then (if fvd M n T G V h sz dp = 2 then (if tb (setM M n T G V h sz dp) q = true then some (q, onM M n T G V h sz dp, 3, 0) else none) else (if tmL M T G q ((batM M n sz dp (trT M h)).getD b []) < 3 then some (q, oB M (trT M h) (batM M n sz dp (trT M h)) b, tmL M T G q ((batM M n sz dp (trT M h)).getD b []), if b = 0 then 0 else 1) else none)) else (if b = nBM M n T G V h sz dp ∧ M.1 161 8 = iN 1 then some (q, trT M h, 3, 2) else none)) else none
def eO (M : gS) (n T G V h sz dp : Nat) : Nat → List wEn
  | 0 => []
  | k + 1 => match cdM M n T G V h sz dp (k / 4) (k - k / 4 * 4) with
    | none => eO M n T G V h sz dp k
    | some x => wE M V (eO M n T G V h sz dp k) x
theorem eO_s (M : gS) (n T G V h sz dp k : Nat) : eO M n T G V h sz dp (k + 1) = (match cdM M n T G V h sz dp (k / 4) (k - k / 4 * 4) with
    | none => eO M n T G V h sz dp k
    | some x => wE M V (eO M n T G V h sz dp k) x) := rfl
theorem eO_bk {M : gS} {n T G V h sz dp b : Nat} : ∀ q, q ≤ 4 → eO M n T G V h sz dp (4 * b + q) = bkE M V (cdM M n T G V h sz dp b) (eO M n T G V h sz dp (4 * b)) q
  | 0, _ => rfl
  | q + 1, hq => by
    show eO M n T G V h sz dp (4 * b + q + 1) = _
    rw [eO_s, bkE_s, show (4 * b + q) / 4 = b by omega, show 4 * b + q - b * 4 = q by omega, eO_bk q (by omega)]
theorem cdM_T {M : gS} {n T G V h sz dp b q : Nat} (hq : T ≤ q) : cdM M n T G V h sz dp b q = none := if_neg (by omega)
theorem eO_blk {M : gS} {n T G V h sz dp b : Nat} (hT : T ≤ 4) : eO M n T G V h sz dp (4 * (b + 1)) = bkE M V (cdM M n T G V h sz dp b) (eO M n T G V h sz dp (4 * b)) T := by
  rw [show 4 * (b + 1) = 4 * b + 4 by omega, eO_bk 4 (Nat.le_refl 4)]
  have := bkE_rest (M := M) (V := V) (c := cdM M n T G V h sz dp b) (E := eO M n T G V h sz dp (4 * b)) (T := T) (fun q hq => cdM_T hq) (4 - T)
  rw [show T + (4 - T) = 4 by omega] at this
  exact this
theorem eO_len (M : gS) (n T G V h sz dp : Nat) : ∀ k, (eO M n T G V h sz dp k).length ≤ k
  | 0 => Nat.le_refl _
  | k + 1 => by
    have ih := eO_len M n T G V h sz dp k
    rw [eO_s]
    cases cdM M n T G V h sz dp (k / 4) (k - k / 4 * 4) with
    | none => dsimp only; omega
    | some x =>
      have := wE_len M V (eO M n T G V h sz dp k) x
      dsimp only; omega
theorem cdM_q {M : gS} {n T G V h sz dp b q : Nat} {x : wEn} (hx : cdM M n T G V h sz dp b q = some x) : q < T ∧ x.1 = q := by
  unfold cdM at hx
  by_cases c : q < T
  · rw [if_pos c] at hx
    refine ⟨c, ?_⟩
    split at hx
    · split at hx
      · split at hx
        · exact (congrArg Prod.fst (Option.some.inj hx)).symm
        · cases hx
      · split at hx
        · exact (congrArg Prod.fst (Option.some.inj hx)).symm
        · cases hx
    · split at hx
      · exact (congrArg Prod.fst (Option.some.inj hx)).symm
      · cases hx
  · rw [if_neg c] at hx; cases hx
theorem eO_mem {M : gS} {n T G V h sz dp : Nat} (hT : T ≤ 4) : ∀ k, ∀ e ∈ eO M n T G V h sz dp k, e.1 < 10
  | 0, e, he => by cases he
  | k + 1, e, he => by
    rw [eO_s] at he
    cases c : cdM M n T G V h sz dp (k / 4) (k - k / 4 * 4) with
    | none => rw [c] at he; exact eO_mem hT k e he
    | some x =>
      rw [c] at he
      have := cdM_q c
      exact wE_mem (eO_mem hT k) (show x.1 < 10 by omega) e he
theorem X_listFull {N : Nat} {σ M : gS} {n T G V U h sz dp : Nat} {ag : Nat → Nat} (hN : 5000 ≤ N) (hC : WC σ M T V U ag) (ht : RCt σ M h) (hnB : nBM M n T G V h sz dp ≤ 4) (h17 : σ.1 0 17 = M.1 161 8) (h8 : M.1 161 8 = iN 0 ∨ M.1 161 8 = iN 1) (hW : WL σ (eO M n T G V h sz dp (4 * nBM M n T G V h sz dp))) : ∃ σ', fX11_listWanted_130 N σ = some σ' ∧ WL σ' (eO M n T G V h sz dp (4 * (nBM M n T G V h sz dp + 1))) ∧ Sm σ σ' 126 134 := by
  have hT4 := hC.1.1
  have hlen := eO_len M n T G V h sz dp (4 * nBM M n T G V h sz dp)
  rw [eO_blk hT4]
  unfold fX11_listWanted_130 fX11_listWanted_157
  rw [h17]
  rcases h8 with h8 | h8
  · rw [h8, if_pos (show iN 0 = (0 : Int32) from rfl)]
    refine ⟨σ, rfl, ?_, Sm.refl _ _ _⟩
    have e : bkE M V (cdM M n T G V h sz dp (nBM M n T G V h sz dp)) (eO M n T G V h sz dp (4 * nBM M n T G V h sz dp)) T = eO M n T G V h sz dp (4 * nBM M n T G V h sz dp) := by
      have := bkE_congr (M := M) (V := V) (c := cdM M n T G V h sz dp (nBM M n T G V h sz dp)) (c' := fun _ => none) (E := eO M n T G V h sz dp (4 * nBM M n T G V h sz dp)) T (fun q hq => by
        unfold cdM
        rw [if_pos hq, if_neg (Nat.lt_irrefl _), if_neg (fun x => by rw [h8] at x; exact absurd x.2 (by decide))])
      rw [this]
      have h0 := bkE_rest (M := M) (V := V) (c := fun _ => none) (E := eO M n T G V h sz dp (4 * nBM M n T G V h sz dp)) (T := 0) (fun _ _ => rfl) T
      rw [Nat.zero_add] at h0
      rw [h0]; rfl
    rw [e]; exact hW
  · rw [h8, if_neg (show ¬ iN 1 = (0 : Int32) by decide), X_trunk ht, Option.bind_some, hC.1.2]
    obtain ⟨σ', w1, w2, w3, w4, w5⟩ := X_listTests (t := trT M h) (set := ((1 : Int32) <<< (iN T &&& 31)) - 1) (wh := 2) hN hC hW (by omega) (eO_mem hT4 _) (by omega)
    refine ⟨σ', ?_, ?_, w3⟩
    · rw [i_2, w1, Option.bind_some]
    · rw [ltE_bk] at w2
      have := bkE_congr (M := M) (V := V) (c := cdM M n T G V h sz dp (nBM M n T G V h sz dp)) (c' := fun q => if tb (((1 : Int32) <<< (iN T &&& 31)) - 1) q = true then some (q, trT M h, 3, 2) else none) (E := eO M n T G V h sz dp (4 * nBM M n T G V h sz dp)) T (fun q hq => by
        unfold cdM
        rw [if_pos hq, if_neg (Nat.lt_irrefl _), if_pos ⟨rfl, h8⟩, if_pos (show tb (((1 : Int32) <<< (iN T &&& 31)) - 1) q = true from (show ∀ T : Nat, T ≤ 4 → ∀ q : Nat, q < T → tb (((1 : Int32) <<< (Int32.ofNat T &&& 31)) - 1) q = true by decide +kernel) T hT4 q hq)])
      rw [this]; exact w2
