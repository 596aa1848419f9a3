theorem gk_0 : gcl 0 = 11 := by decide +kernel
theorem gk_1 : gcl 1 = 2 := by decide +kernel
theorem gk_2 : gcl 2 = 23 := by decide +kernel
theorem gk_3 : gcl 3 = 1 := by decide +kernel
theorem gk_4 : gcl 4 = 1 := by decide +kernel
theorem gk_5 : gcl 5 = 1 := by decide +kernel
theorem gk_6 : gcl 6 = 1 := by decide +kernel
theorem gk_7 : gcl 7 = 1 := by decide +kernel
theorem gk_8 : gcl 8 = 1 := by decide +kernel
theorem gk_9 : gcl 9 = 1 := by decide +kernel
theorem gk_10 : gcl 10 = 1 := by decide +kernel
theorem gk_11 : gcl 11 = 1 := by decide +kernel
theorem gk_12 : gcl 12 = 1 := by decide +kernel
theorem gk_13 : gcl 13 = 1 := by decide +kernel
theorem gk_14 : gcl 14 = 1 := by decide +kernel
theorem gk_15 : gcl 15 = 1 := by decide +kernel
theorem gk_16 : gcl 16 = 1 := by decide +kernel
theorem gk_17 : gcl 17 = 1 := by decide +kernel
theorem gk_18 : gcl 18 = 1 := by decide +kernel
theorem gk_19 : gcl 19 = 1 := by decide +kernel
theorem gk_20 : gcl 20 = 1 := by decide +kernel
theorem gk_21 : gcl 21 = 1 := by decide +kernel
theorem gk_22 : gcl 22 = 1 := by decide +kernel
theorem gk_23 : gcl 23 = 1 := by decide +kernel
theorem gk_24 : gcl 24 = 1 := by decide +kernel
theorem gk_25 : gcl 25 = 1 := by decide +kernel
theorem gk_26 : gcl 26 = 1 := by decide +kernel
theorem gk_27 : gcl 27 = 1 := by decide +kernel
theorem gk_28 : gcl 28 = 1 := by decide +kernel
theorem gk_29 : gcl 29 = 1 := by decide +kernel
theorem gk_30 : gcl 30 = 1 := by decide +kernel
theorem gk_31 : gcl 31 = 1 := by decide +kernel
theorem gk_32 : gcl 32 = 1 := by decide +kernel
theorem gk_33 : gcl 33 = 1 := by decide +kernel
theorem gk_34 : gcl 34 = 1 := by decide +kernel
theorem gk_35 : gcl 35 = 1 := by decide +kernel
theorem gk_36 : gcl 36 = 1 := by decide +kernel
theorem gk_37 : gcl 37 = 1 := by decide +kernel
theorem gk_38 : gcl 38 = 1 := by decide +kernel
theorem gk_39 : gcl 39 = 1 := by decide +kernel
theorem gk_40 : gcl 40 = 1 := by decide +kernel
theorem gk_41 : gcl 41 = 1 := by decide +kernel
theorem gk_42 : gcl 42 = 1 := by decide +kernel
theorem gk_43 : gcl 43 = 1 := by decide +kernel
theorem gk_44 : gcl 44 = 1 := by decide +kernel
theorem gk_45 : gcl 45 = 1 := by decide +kernel
theorem gk_46 : gcl 46 = 1 := by decide +kernel
theorem gk_47 : gcl 47 = 1 := by decide +kernel
theorem gk_48 : gcl 48 = 1 := by decide +kernel
theorem gk_49 : gcl 49 = 1 := by decide +kernel
theorem gk_50 : gcl 50 = 1 := by decide +kernel
theorem gk_51 : gcl 51 = 1 := by decide +kernel
theorem gk_52 : gcl 52 = 1 := by decide +kernel
theorem gk_53 : gcl 53 = 1 := by decide +kernel
theorem gk_54 : gcl 54 = 1 := by decide +kernel
theorem gk_55 : gcl 55 = 1 := by decide +kernel
theorem gk_56 : gcl 56 = 1 := by decide +kernel
theorem gk_57 : gcl 57 = 1 := by decide +kernel
theorem gk_58 : gcl 58 = 1 := by decide +kernel
theorem gk_59 : gcl 59 = 1 := by decide +kernel
theorem gk_60 : gcl 60 = 1 := by decide +kernel
theorem gk_61 : gcl 61 = 1 := by decide +kernel
theorem gk_62 : gcl 62 = 1 := by decide +kernel
theorem gk_63 : gcl 63 = 1 := by decide +kernel
theorem gk_64 : gcl 64 = 1 := by decide +kernel
theorem gk_65 : gcl 65 = 7 := by decide +kernel
theorem gk_66 : gcl 66 = 24 := by decide +kernel
theorem gk_67 : gcl 67 = 3 := by decide +kernel
theorem gk_68 : gcl 68 = 8 := by decide +kernel
theorem gk_69 : gcl 69 = 21 := by decide +kernel
theorem gk_70 : gcl 70 = 8 := by decide +kernel
theorem gk_71 : gcl 71 = 21 := by decide +kernel
theorem gk_72 : gcl 72 = 8 := by decide +kernel
theorem gk_73 : gcl 73 = 21 := by decide +kernel
theorem gk_74 : gcl 74 = 8 := by decide +kernel
theorem gk_75 : gcl 75 = 21 := by decide +kernel
theorem gk_76 : gcl 76 = 3 := by decide +kernel
theorem gk_77 : gcl 77 = 8 := by decide +kernel
theorem gk_78 : gcl 78 = 21 := by decide +kernel
theorem gk_79 : gcl 79 = 3 := by decide +kernel
theorem gk_80 : gcl 80 = 8 := by decide +kernel
theorem gk_81 : gcl 81 = 21 := by decide +kernel
theorem gk_82 : gcl 82 = 3 := by decide +kernel
theorem gk_83 : gcl 83 = 8 := by decide +kernel
theorem gk_84 : gcl 84 = 21 := by decide +kernel
theorem gk_85 : gcl 85 = 3 := by decide +kernel
theorem gk_86 : gcl 86 = 8 := by decide +kernel
theorem gk_87 : gcl 87 = 21 := by decide +kernel
theorem gk_88 : gcl 88 = 3 := by decide +kernel
theorem gk_89 : gcl 89 = 8 := by decide +kernel
theorem gk_90 : gcl 90 = 21 := by decide +kernel
theorem gk_91 : gcl 91 = 3 := by decide +kernel
theorem gk_92 : gcl 92 = 8 := by decide +kernel
theorem gk_93 : gcl 93 = 21 := by decide +kernel
theorem gk_94 : gcl 94 = 3 := by decide +kernel
theorem gk_95 : gcl 95 = 8 := by decide +kernel
theorem gk_96 : gcl 96 = 21 := by decide +kernel
theorem gk_97 : gcl 97 = 3 := by decide +kernel
theorem gk_98 : gcl 98 = 8 := by decide +kernel
theorem gk_99 : gcl 99 = 21 := by decide +kernel
theorem gk_100 : gcl 100 = 3 := by decide +kernel
theorem gk_101 : gcl 101 = 8 := by decide +kernel
theorem gk_102 : gcl 102 = 21 := by decide +kernel
theorem gk_103 : gcl 103 = 3 := by decide +kernel
theorem gk_104 : gcl 104 = 8 := by decide +kernel
theorem gk_105 : gcl 105 = 21 := by decide +kernel
theorem gk_106 : gcl 106 = 9 := by decide +kernel
theorem gk_107 : gcl 107 = 21 := by decide +kernel
theorem gk_108 : gcl 108 = 20 := by decide +kernel
theorem gk_109 : gcl 109 = 4 := by decide +kernel
theorem gk_110 : gcl 110 = 8 := by decide +kernel
theorem gk_111 : gcl 111 = 21 := by decide +kernel
theorem gk_112 : gcl 112 = 8 := by decide +kernel
theorem gk_113 : gcl 113 = 21 := by decide +kernel
theorem gk_114 : gcl 114 = 8 := by decide +kernel
theorem gk_115 : gcl 115 = 21 := by decide +kernel
theorem gk_116 : gcl 116 = 8 := by decide +kernel
theorem gk_117 : gcl 117 = 21 := by decide +kernel
theorem gk_118 : gcl 118 = 0 := by decide +kernel
theorem gk_119 : gcl 119 = 8 := by decide +kernel
theorem gk_120 : gcl 120 = 21 := by decide +kernel
theorem gk_121 : gcl 121 = 8 := by decide +kernel
theorem gk_122 : gcl 122 = 21 := by decide +kernel
theorem gk_123 : gcl 123 = 8 := by decide +kernel
theorem gk_124 : gcl 124 = 21 := by decide +kernel
theorem gk_125 : gcl 125 = 10 := by decide +kernel
theorem gk_126 : gcl 126 = 8 := by decide +kernel
theorem gk_127 : gcl 127 = 21 := by decide +kernel
theorem gk_128 : gcl 128 = 8 := by decide +kernel
theorem gk_129 : gcl 129 = 21 := by decide +kernel
theorem gk_130 : gcl 130 = 8 := by decide +kernel
theorem gk_131 : gcl 131 = 21 := by decide +kernel
theorem gk_132 : gcl 132 = 8 := by decide +kernel
theorem gk_133 : gcl 133 = 21 := by decide +kernel
theorem gk_134 : gcl 134 = 5 := by decide +kernel
theorem gk_135 : gcl 135 = 8 := by decide +kernel
theorem gk_136 : gcl 136 = 21 := by decide +kernel
theorem gk_137 : gcl 137 = 8 := by decide +kernel
theorem gk_138 : gcl 138 = 21 := by decide +kernel
theorem gk_139 : gcl 139 = 8 := by decide +kernel
theorem gk_140 : gcl 140 = 21 := by decide +kernel
theorem gk_141 : gcl 141 = 8 := by decide +kernel
theorem gk_142 : gcl 142 = 21 := by decide +kernel
theorem gk_143 : gcl 143 = 25 := by decide +kernel
theorem gk_144 : gcl 144 = 6 := by decide +kernel
theorem gk_145 : gcl 145 = 6 := by decide +kernel
theorem gk_146 : gcl 146 = 6 := by decide +kernel
theorem gk_147 : gcl 147 = 6 := by decide +kernel
theorem gk_148 : gcl 148 = 6 := by decide +kernel
theorem gk_149 : gcl 149 = 6 := by decide +kernel
theorem gk_150 : gcl 150 = 6 := by decide +kernel
theorem gk_151 : gcl 151 = 8 := by decide +kernel
theorem gk_152 : gcl 152 = 21 := by decide +kernel
theorem gk_153 : gcl 153 = 8 := by decide +kernel
theorem gk_154 : gcl 154 = 21 := by decide +kernel
theorem gk_155 : gcl 155 = 8 := by decide +kernel
theorem gk_156 : gcl 156 = 21 := by decide +kernel
theorem gk_157 : gcl 157 = 8 := by decide +kernel
theorem gk_158 : gcl 158 = 21 := by decide +kernel
theorem gk_159 : gcl 159 = 8 := by decide +kernel
theorem gk_160 : gcl 160 = 21 := by decide +kernel
theorem gk_161 : gcl 161 = 20 := by decide +kernel
theorem gk_162 : gcl 162 = 20 := by decide +kernel
theorem gk_163 : gcl 163 = 20 := by decide +kernel
theorem gk_164 : gcl 164 = 20 := by decide +kernel
theorem gk_165 : gcl 165 = 20 := by decide +kernel
theorem gk_166 : gcl 166 = 20 := by decide +kernel
theorem gk_167 : gcl 167 = 20 := by decide +kernel
theorem gk_168 : gcl 168 = 20 := by decide +kernel
theorem gk_169 : gcl 169 = 21 := by decide +kernel
theorem gk_170 : gcl 170 = 21 := by decide +kernel
theorem gk_171 : gcl 171 = 21 := by decide +kernel
theorem gk_172 : gcl 172 = 20 := by decide +kernel
theorem gk_173 : gcl 173 = 20 := by decide +kernel
theorem gk_174 : gcl 174 = 21 := by decide +kernel
theorem gk_175 : gcl 175 = 20 := by decide +kernel
theorem gk_176 : gcl 176 = 20 := by decide +kernel
theorem gk_177 : gcl 177 = 21 := by decide +kernel
theorem gk_178 : gcl 178 = 20 := by decide +kernel
theorem gk_179 : gcl 179 = 20 := by decide +kernel
theorem gk_180 : gcl 180 = 21 := by decide +kernel
theorem gk_181 : gcl 181 = 20 := by decide +kernel
theorem gk_182 : gcl 182 = 21 := by decide +kernel
theorem gk_183 : gcl 183 = 20 := by decide +kernel
theorem gl_69 {n : Nat} : gle n 69 = 24 := rfl
theorem gl_71 {n : Nat} : gle n 71 = 12 := rfl
theorem gl_73 {n : Nat} : gle n 73 = 12 := rfl
theorem gl_75 {n : Nat} : gle n 75 = 12 := rfl
theorem gl_78 {n : Nat} : gle n 78 = 24 := rfl
theorem gl_81 {n : Nat} : gle n 81 = 24 := rfl
theorem gl_84 {n : Nat} : gle n 84 = 24 := rfl
theorem gl_87 {n : Nat} : gle n 87 = 24 := rfl
theorem gl_90 {n : Nat} : gle n 90 = 24 := rfl
theorem gl_93 {n : Nat} : gle n 93 = 24 := rfl
theorem gl_96 {n : Nat} : gle n 96 = 24 := rfl
theorem gl_99 {n : Nat} : gle n 99 = 24 := rfl
theorem gl_102 {n : Nat} : gle n 102 = 24 := rfl
theorem gl_105 {n : Nat} : gle n 105 = 24 := rfl
theorem gl_111 {n : Nat} : gle n 111 = 60 := rfl
theorem gl_113 {n : Nat} : gle n 113 = 32 := rfl
theorem gl_115 {n : Nat} : gle n 115 = 4 := rfl
theorem gl_117 {n : Nat} : gle n 117 = 4 := rfl
theorem gl_120 {n : Nat} : gle n 120 = 9 := rfl
theorem gl_122 {n : Nat} : gle n 122 = 9 := rfl
theorem gl_124 {n : Nat} : gle n 124 = 9 := rfl
theorem gl_127 {n : Nat} : gle n 127 = 50 := rfl
theorem gl_129 {n : Nat} : gle n 129 = 50 := rfl
theorem gl_131 {n : Nat} : gle n 131 = 50 := rfl
theorem gl_133 {n : Nat} : gle n 133 = 50 := rfl
theorem gl_136 {n : Nat} : gle n 136 = 200 := rfl
theorem gl_138 {n : Nat} : gle n 138 = 200 := rfl
theorem gl_140 {n : Nat} : gle n 140 = 18 := rfl
theorem gl_142 {n : Nat} : gle n 142 = 3 := rfl
theorem gl_152 {n : Nat} : gle n 152 = 61 := rfl
theorem gl_154 {n : Nat} : gle n 154 = 12 := rfl
theorem gl_156 {n : Nat} : gle n 156 = 3 := rfl
theorem gl_158 {n : Nat} : gle n 158 = 3 := rfl
theorem gl_160 {n : Nat} : gle n 160 = 8 := rfl
theorem gl_161 {n : Nat} : gle n 161 = 11 := rfl
theorem gl_162 {n : Nat} : gle n 162 = 24 := rfl
theorem gl_163 {n : Nat} : gle n 163 = 24 := rfl
theorem gl_164 {n : Nat} : gle n 164 = 24 := rfl
theorem gl_165 {n : Nat} : gle n 165 = 24 := rfl
theorem gl_166 {n : Nat} : gle n 166 = 24 := rfl
theorem gl_167 {n : Nat} : gle n 167 = 24 := rfl
theorem gl_168 {n : Nat} : gle n 168 = 24 := rfl
theorem gl_169 {n : Nat} : gle n 169 = 24 := rfl
theorem gl_170 {n : Nat} : gle n 170 = 24 := rfl
theorem gl_171 {n : Nat} : gle n 171 = 26 := rfl
theorem gl_172 {n : Nat} : gle n 172 = 48 := rfl
theorem gl_173 {n : Nat} : gle n 173 = 12 := rfl
theorem gl_174 {n : Nat} : gle n 174 = 64 := rfl
theorem gl_175 {n : Nat} : gle n 175 = 64 := rfl
theorem gl_176 {n : Nat} : gle n 176 = 18 := rfl
theorem gl_177 {n : Nat} : gle n 177 = 3 := rfl
theorem gl_178 {n : Nat} : gle n 178 = 14 := rfl
theorem gl_179 {n : Nat} : gle n 179 = 32 := rfl
theorem gl_180 {n : Nat} : gle n 180 = 5 := rfl
theorem gl_181 {n : Nat} : gle n 181 = 3 := rfl
theorem gcl_big {k : Nat} (h : 184 ≤ k) : gcl k = 99 := by
  unfold gcl
  rw [List.getD_eq_getElem?_getD, List.getElem?_eq_none (by exact h)]
  rfl
theorem gcl_lt {k ci : Nat} (h : gcl k = ci) (hc : ci < 13) : k < 179 := by
  rcases Nat.lt_or_ge k 184 with q | q
  · have := (show ∀ k : Nat, k < 184 → gcl k < 13 → k < 179 by decide +kernel) k q (by rw [h]; exact hc)
    exact this
  · rw [gcl_big q] at h; omega
theorem gcl_row {k : Nat} (h : gcl k = 8) : gcl (k + 1) = 21 := by
  rcases Nat.lt_or_ge k 184 with q | q
  · exact (show ∀ k : Nat, k < 184 → gcl k = 8 → gcl (k + 1) = 21 by decide +kernel) k q h
  · rw [gcl_big q] at h; omega
theorem gcl_rowL {k : Nat} (h : gcl k = 8) : k + 1 < 179 := by
  rcases Nat.lt_or_ge k 184 with q | q
  · exact (show ∀ k : Nat, k < 184 → gcl k = 8 → k + 1 < 179 by decide +kernel) k q h
  · rw [gcl_big q] at h; omega
theorem gcl_chk {k : Nat} (h : gcl k = 3) : gcl (k + 1) = 8 := by
  rcases Nat.lt_or_ge k 184 with q | q
  · exact (show ∀ k : Nat, k < 184 → gcl k = 3 → gcl (k + 1) = 8 by decide +kernel) k q h
  · rw [gcl_big q] at h; omega
theorem gc_23k {j : Nat} (h : j < 60) : gcl (5 + j) = 1 := (show ∀ j : Nat, j < 60 → gcl (5 + j) = 1 by decide +kernel) j h
theorem gc_23 {i : Int32} {j : Nat} (h : ¬ (i < 0 ∨ 60 ≤ i.toNatClampNeg)) (hj : i.toNatClampNeg = j) : gcl (5 + j) = 1 := gc_23k (by rw [← hj]; exact Nat.not_le.mp fun q => h (Or.inr q))
theorem gc_24k {j : Nat} (h : j < 10) : gcl (76 + 3 * j) = 3 := (show ∀ j : Nat, j < 10 → gcl (76 + 3 * j) = 3 by decide +kernel) j h
theorem gc_24 {i : Int32} {j : Nat} (h : ¬ (i < 0 ∨ 10 ≤ i.toNatClampNeg)) (hj : i.toNatClampNeg = j) : gcl (76 + 3 * j) = 3 := gc_24k (by rw [← hj]; exact Nat.not_le.mp fun q => h (Or.inr q))
theorem gc_25k {j : Nat} (h : j < 6) : gcl (144 + j) = 6 := (show ∀ j : Nat, j < 6 → gcl (144 + j) = 6 by decide +kernel) j h
theorem gc_25 {i : Int32} {j : Nat} (h : ¬ (i < 0 ∨ 6 ≤ i.toNatClampNeg)) (hj : i.toNatClampNeg = j) : gcl (144 + j) = 6 := gc_25k (by rw [← hj]; exact Nat.not_le.mp fun q => h (Or.inr q))
theorem g_guard {c : Prop} [Decidable c] {α : Type} {x : Option α} {r : α} (h : (if c then none else x) = some r) : ¬ c ∧ x = some r := by
  by_cases q : c
  · rw [if_pos q] at h; cases h
  · rw [if_neg q] at h; exact ⟨q, h⟩
theorem g_bind {α β : Type} {o : Option α} {k : α → Option β} {r : β} (h : o.bind k = some r) : ∃ a, o = some a ∧ k a = some r := by
  cases o with
  | none => cases h
  | some a => exact ⟨a, rfl, h⟩
theorem g_nz {v : Int32} (h : v = 0 ∨ v = 1) : narrow .boolean (.int v) = .int v := by
  rcases h with rfl | rfl <;> rfl
theorem g_nf {v : Int32} (h : v = 0 ∨ v = 1) : fits .boolean (.int v) = true := by
  rcases h with rfl | rfl <;> rfl
/-- a loop: what its turns come to, if they come to an end within n of them -/
def lp {S ρ : Type} (F : (S → Option ρ) → S → Option ρ) : Nat → S → Option ρ
  | 0 => fun _ => none
  | n + 1 => F (lp F n)
section GH
variable {p : Program} {l : Launch} {e : Env} {R : Room} {s : State} {m : MethodId} {args : Array Value} {below : List Frame} {meth : Method} {c : Code} {H : Heap} {locs : List Loc} {cells slots : Nat} {Q : State → Prop} {pc : Nat} {ls : Array Slot} {rest st0 : List Value} {cc : ByteArray} {D : va_G} {y : Nat → ClassId} {aS : Nat → Nat} {A : Nat → Prop} {L : List Nat} {ad : Nat → Nat} {σ σ' : gS} {a : Array Value}
theorem gce_23 {k : Nat} {f : Nat → Int32} {g : Nat → Int64} {len : Nat} (h : gcl k = 23) : gce y ad k f g len = .inl (y 3, 60, .inr (.inr (.inr (.inr (fun j => if j < 60 then some (ad (5 + j)) else none))))) := by
  unfold gce; rw [h]; rfl
theorem G_aald23 {k j : Nat} {i : Int32} (hx : p.tables.exec = Jvm.exec) (hb : c.code = cc) (hK : gK D y aS s) (hY : gY D y A s L ad σ H locs) (hL : k ∈ L) (hk : gcl k = 23) (hin : ¬ (i < 0 ∨ 60 ≤ i.toNatClampNeg)) (hj : i.toNatClampNeg = j) (hdg : decode cc pc = .ok (.aaload, 1))
    (kk : W p l e R s m args below meth c H locs cells slots Q (F0 m (pc + 1) ls (.ref (ad (5 + j)) :: rest))) : W p l e R s m args below meth c H locs cells slots Q (F0 m pc ls (.int i :: .ref (ad k) :: rest)) := by
  obtain ⟨q, hq⟩ := GW_at (y := y) (ad := ad) (σ := σ) hL
  rw [gce_23 hk] at hq
  subst hj
  refine va_aldq (C := RX1) hx hb hK.1 hY.1 q 3 hq rfl hin hdg ?_
  have h1 : i.toNatClampNeg < 60 := Nat.not_le.mp fun q => hin (Or.inr q)
  simp only [if_pos h1]
  exact kk
theorem G_alen23 {k : Nat} (hx : p.tables.exec = Jvm.exec) (hb : c.code = cc) (hK : gK D y aS s) (hY : gY D y A s L ad σ H locs) (hL : k ∈ L) (hk : gcl k = 23) (hdg : decode cc pc = .ok (.arraylength, 1))
    (kk : W p l e R s m args below meth c H locs cells slots Q (F0 m (pc + 1) ls (.int 60 :: rest))) : W p l e R s m args below meth c H locs cells slots Q (F0 m pc ls (.ref (ad k) :: rest)) := by
  obtain ⟨q, hq⟩ := GW_at (y := y) (ad := ad) (σ := σ) hL
  rw [gce_23 hk] at hq
  exact va_alen hx hb hK.1 hY.1 q 3 hq rfl (by show Int32.ofNat 60 = 60; decide +kernel) hdg kk
theorem gce_24 {k : Nat} {f : Nat → Int32} {g : Nat → Int64} {len : Nat} (h : gcl k = 24) : gce y ad k f g len = .inl (y 4, 10, .inr (.inr (.inr (.inr (fun j => if j < 10 then some (ad (76 + 3 * j)) else none))))) := by
  unfold gce; rw [h]; rfl
theorem G_aald24 {k j : Nat} {i : Int32} (hx : p.tables.exec = Jvm.exec) (hb : c.code = cc) (hK : gK D y aS s) (hY : gY D y A s L ad σ H locs) (hL : k ∈ L) (hk : gcl k = 24) (hin : ¬ (i < 0 ∨ 10 ≤ i.toNatClampNeg)) (hj : i.toNatClampNeg = j) (hdg : decode cc pc = .ok (.aaload, 1))
    (kk : W p l e R s m args below meth c H locs cells slots Q (F0 m (pc + 1) ls (.ref (ad (76 + 3 * j)) :: rest))) : W p l e R s m args below meth c H locs cells slots Q (F0 m pc ls (.int i :: .ref (ad k) :: rest)) := by
  obtain ⟨q, hq⟩ := GW_at (y := y) (ad := ad) (σ := σ) hL
  rw [gce_24 hk] at hq
  subst hj
  refine va_aldq (C := RX3) hx hb hK.1 hY.1 q 4 hq rfl hin hdg ?_
  have h1 : i.toNatClampNeg < 10 := Nat.not_le.mp fun q => hin (Or.inr q)
  simp only [if_pos h1]
  exact kk
theorem G_alen24 {k : Nat} (hx : p.tables.exec = Jvm.exec) (hb : c.code = cc) (hK : gK D y aS s) (hY : gY D y A s L ad σ H locs) (hL : k ∈ L) (hk : gcl k = 24) (hdg : decode cc pc = .ok (.arraylength, 1))
    (kk : W p l e R s m args below meth c H locs cells slots Q (F0 m (pc + 1) ls (.int 10 :: rest))) : W p l e R s m args below meth c H locs cells slots Q (F0 m pc ls (.ref (ad k) :: rest)) := by
  obtain ⟨q, hq⟩ := GW_at (y := y) (ad := ad) (σ := σ) hL
  rw [gce_24 hk] at hq
  exact va_alen hx hb hK.1 hY.1 q 4 hq rfl (by show Int32.ofNat 10 = 10; decide +kernel) hdg kk
theorem gce_25 {k : Nat} {f : Nat → Int32} {g : Nat → Int64} {len : Nat} (h : gcl k = 25) : gce y ad k f g len = .inl (y 5, 6, .inr (.inr (.inr (.inr (fun j => if j < 6 then some (ad (144 + j)) else none))))) := by
  unfold gce; rw [h]; rfl
theorem G_aald25 {k j : Nat} {i : Int32} (hx : p.tables.exec = Jvm.exec) (hb : c.code = cc) (hK : gK D y aS s) (hY : gY D y A s L ad σ H locs) (hL : k ∈ L) (hk : gcl k = 25) (hin : ¬ (i < 0 ∨ 6 ≤ i.toNatClampNeg)) (hj : i.toNatClampNeg = j) (hdg : decode cc pc = .ok (.aaload, 1))
    (kk : W p l e R s m args below meth c H locs cells slots Q (F0 m (pc + 1) ls (.ref (ad (144 + j)) :: rest))) : W p l e R s m args below meth c H locs cells slots Q (F0 m pc ls (.int i :: .ref (ad k) :: rest)) := by
  obtain ⟨q, hq⟩ := GW_at (y := y) (ad := ad) (σ := σ) hL
  rw [gce_25 hk] at hq
  subst hj
  refine va_aldq (C := RX6) hx hb hK.1 hY.1 q 5 hq rfl hin hdg ?_
  have h1 : i.toNatClampNeg < 6 := Nat.not_le.mp fun q => hin (Or.inr q)
  simp only [if_pos h1]
  exact kk
theorem G_alen25 {k : Nat} (hx : p.tables.exec = Jvm.exec) (hb : c.code = cc) (hK : gK D y aS s) (hY : gY D y A s L ad σ H locs) (hL : k ∈ L) (hk : gcl k = 25) (hdg : decode cc pc = .ok (.arraylength, 1))
    (kk : W p l e R s m args below meth c H locs cells slots Q (F0 m (pc + 1) ls (.int 6 :: rest))) : W p l e R s m args below meth c H locs cells slots Q (F0 m pc ls (.ref (ad k) :: rest)) := by
  obtain ⟨q, hq⟩ := GW_at (y := y) (ad := ad) (σ := σ) hL
  rw [gce_25 hk] at hq
  exact va_alen hx hb hK.1 hY.1 q 5 hq rfl (by show Int32.ofNat 6 = 6; decide +kernel) hdg kk
theorem G_pS {As : List Value} (hK : gK D y aS s) (hY : gY D y A s L ad σ H locs) : PreS s H (va_Pc As (gI D y aS (GW L y ad σ) H.size)) As :=
  ⟨gI_blind, fun U hU hW => ⟨rfl, by rw [hU], by rw [hU]; exact hY.1, gK.warm hW hK, hY.2.1.weaken (fun _ _ _ _ => trivial)⟩⟩
theorem G_pV {As : List Value} {k ci : Nat} {q : vw_C} (hK : gK D y aS s) (hY : gY D y A s L ad σ H locs) (hL : k ∈ L) (hk : gcl k = ci) (hci : ci < 13) (hc : vwCl[ci]? = some q) : PreV s H q.1 (ad k) (va_Pc (.ref (ad k) :: As) (gI D y aS (GW L y ad σ) H.size)) As := by
  obtain ⟨q0, hq⟩ := GW_at (y := y) (ad := ad) (σ := σ) hL
  rw [gce_obj hk hci] at hq
  exact ⟨gI_blind, va_recv hK.1 hY.1 hc hq, fun U hU hW => ⟨rfl, by rw [hU], by rw [hU]; exact hY.1, gK.warm hW hK, hY.2.1.weaken (fun _ _ _ _ => trivial)⟩⟩
theorem G_free (hY : gY D y A s L ad σ H locs) (hA : ∀ q, s.heap.size ≤ q → A q) : ∀ q, va_A (GW L y ad σ) H.size q → A q := fun q h => by
  rcases h with ⟨k, e, h⟩ | h
  · exact hY.2.1.2 k _ h
  · exact hA q (Nat.le_trans hY.2.2.1 h)
theorem G_ai {v : Int32} (hY : gY D y A s L ad σ H locs) (hA : ∀ q, s.heap.size ≤ q → A q) (hr : va_Run p l e R s m args below meth c H locs cells slots 0 0 (F0 m pc ls st0) rest (va_Qi (fun (r : Int32) (_ : Unit) => r = v) (fun _ => gO D (va_A (GW L y ad σ) H.size) (GW L y ad σ')) (va_A (GW L y ad σ) H.size) a) (va_A (GW L y ad σ) H.size))
    (kk : ∀ (r : Int32) (H1 : Heap) (locs1 : List Loc), v = r → gY D y A s L ad σ' H1 locs1 → W p l e R s m args below meth c H1 locs1 cells slots Q (F0 m (pc + 3) ls (.int r :: rest))) : W p l e R s m args below meth c H locs cells slots Q (F0 m pc ls st0) := by
  have hF := G_free hY hA
  refine va_calli hr hY.2.2 (fun q _ h => hF q h) hF (fun r u t H1 locs1 ht hvm hq hB hz hk hS1 => ?_)
  obtain ⟨hP1, hD1⟩ := hB
  rw [ht] at hP1
  exact kk r H1 locs1 hq.symm ⟨hP1, hD1.weaken (fun _ q _ h => hF q.1 h), hS1⟩
theorem G_al {v : Int64} (hY : gY D y A s L ad σ H locs) (hA : ∀ q, s.heap.size ≤ q → A q) (hr : va_Run p l e R s m args below meth c H locs cells slots 0 0 (F0 m pc ls st0) rest (va_Ql (fun (r : Int64) (_ : Unit) => r = v) (fun _ => gO D (va_A (GW L y ad σ) H.size) (GW L y ad σ')) (va_A (GW L y ad σ) H.size) a) (va_A (GW L y ad σ) H.size))
    (kk : ∀ (r : Int64) (H1 : Heap) (locs1 : List Loc), v = r → gY D y A s L ad σ' H1 locs1 → W p l e R s m args below meth c H1 locs1 cells slots Q (F0 m (pc + 3) ls (.long r :: rest))) : W p l e R s m args below meth c H locs cells slots Q (F0 m pc ls st0) := by
  have hF := G_free hY hA
  refine va_calll hr hY.2.2 (fun q _ h => hF q h) hF (fun r u t H1 locs1 ht hvm hq hB hz hk hS1 => ?_)
  obtain ⟨hP1, hD1⟩ := hB
  rw [ht] at hP1
  exact kk r H1 locs1 hq.symm ⟨hP1, hD1.weaken (fun _ q _ h => hF q.1 h), hS1⟩
theorem G_av (hY : gY D y A s L ad σ H locs) (hA : ∀ q, s.heap.size ≤ q → A q) (hr : va_Run p l e R s m args below meth c H locs cells slots 0 0 (F0 m pc ls st0) rest (va_Qv (fun (_ : Unit) => True) (fun _ => gO D (va_A (GW L y ad σ) H.size) (GW L y ad σ')) (va_A (GW L y ad σ) H.size) a) (va_A (GW L y ad σ) H.size))
    (kk : ∀ (H1 : Heap) (locs1 : List Loc), gY D y A s L ad σ' H1 locs1 → W p l e R s m args below meth c H1 locs1 cells slots Q (F0 m (pc + 3) ls rest)) : W p l e R s m args below meth c H locs cells slots Q (F0 m pc ls st0) := by
  have hF := G_free hY hA
  refine va_callv hr hY.2.2 (fun q _ h => hF q h) hF (fun u t H1 locs1 ht hvm hq hB hz hk hS1 => ?_)
  obtain ⟨hP1, hD1⟩ := hB
  rw [ht] at hP1
  exact kk H1 locs1 ⟨hP1, hD1.weaken (fun _ q _ h => hF q.1 h), hS1⟩
theorem G_ar {k : Nat} {pr : Prop} (hY : gY D y A s L ad σ H locs) (hA : ∀ q, s.heap.size ≤ q → A q) (hr : va_Run p l e R s m args below meth c H locs cells slots 0 0 (F0 m pc ls st0) rest (va_Qr (fun (_ : Unit) => pr) (fun u b t => b = (fun _ : Unit => ad k) u ∧ gO D (va_A (GW L y ad σ) H.size) (GW L y ad σ') t) (va_A (GW L y ad σ) H.size) a) (va_A (GW L y ad σ) H.size))
    (kk : ∀ (H1 : Heap) (locs1 : List Loc), pr → gY D y A s L ad σ' H1 locs1 → W p l e R s m args below meth c H1 locs1 cells slots Q (F0 m (pc + 3) ls (.ref (ad k) :: rest))) : W p l e R s m args below meth c H locs cells slots Q (F0 m pc ls st0) := by
  have hF := G_free hY hA
  refine va_callr hr hY.2.2 (fun q _ h => hF q h) hF (fun u r t H1 locs1 ht hvm hq hB hz hk hS1 => ?_)
  obtain ⟨rfl, hP1, hD1⟩ := hB
  rw [ht] at hP1
  exact kk H1 locs1 hq ⟨hP1, hD1.weaken (fun _ q _ h => hF q.1 h), hS1⟩
theorem g_nk {k ci : Nat} (h : gcl k = ci) (hc : ci < 13) : k ≠ 107 ∧ k ≠ 108 := ⟨fun e => by rw [e, gk_107] at h; omega, fun e => by rw [e, gk_108] at h; omega⟩
theorem G_avA {mc ms : Nat} (hY : gY D y A s L ad σ H locs) (hA : ∀ q, s.heap.size ≤ q → A q) (hr : va_Run p l e R s m args below meth c H locs cells slots mc ms (F0 m pc ls st0) rest (va_Qv (fun (u : Nat → Nat) => ∀ k, k ≠ 107 → k ≠ 108 → u k = ad k) (fun u => gO D (va_A (GW L y ad σ) H.size) (GW L y u σ')) (va_A (GW L y ad σ) H.size) a) (va_A (GW L y ad σ) H.size))
    (kk : ∀ (u : Nat → Nat), (∀ k, k ≠ 107 → k ≠ 108 → u k = ad k) → ∀ (H1 : Heap) (locs1 : List Loc), gY D y A s L u σ' H1 locs1 → W p l e R s m args below meth c H1 locs1 (cells + mc) (slots + ms) Q (F0 m (pc + 3) ls rest)) : W p l e R s m args below meth c H locs cells slots Q (F0 m pc ls st0) := by
  have hF := G_free hY hA
  refine va_callv hr hY.2.2 (fun q _ h => hF q h) hF (fun u t H1 locs1 ht hvm hq hB hz hk hS1 => ?_)
  obtain ⟨hP1, hD1⟩ := hB
  rw [ht] at hP1
  exact kk u hq H1 locs1 ⟨hP1, hD1.weaken (fun _ q _ h => hF q.1 h), hS1⟩
end GH
