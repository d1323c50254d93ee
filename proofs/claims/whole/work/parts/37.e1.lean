
/-! class and reference: a lifting step -/
theorem up_id {α : Type} (g : Int → α) (k : Int) : up g k (g k) = g := by
  funext j; unfold up; split
  · rename_i h; rw [h]
  · rfl
/-- places done one after the other, each from its own old value -/
theorem it_map {α : Type} {F : Int → α → α} {a b : Int} (hab : a ≤ b) (t : Int → α) (j : Int) : it (fun k t => up t k (F k (t k))) a b t j = if a ≤ j ∧ j < b then F j (t j) else t j := by
  refine it_inv (f := fun k (t : Int → α) => up t k (F k (t k))) (I := fun i (u : Int → α) => ∀ j, u j = if a ≤ j ∧ j < i then F j (t j) else t j) (fun j => by rw [if_neg (by omega)]) ?_ hab j
  intro i u h1 h2 hu j
  show up u i (F i (u i)) j = _
  by_cases e : j = i
  · subst e
    rw [up_self, if_pos (by omega), hu j, if_neg (by omega)]
  · rw [up_ne _ _ e, hu j]
    by_cases q : a ≤ j ∧ j < i
    · rw [if_pos q, if_pos (by omega)]
    · rw [if_neg q, if_neg (by omega)]
def eqE (n : Int) (x y : eo) : Prop := ∀ k, 0 ≤ k → k < n → x.1 k = y.1 k ∧ x.2 k = y.2 k
theorem cl_e {n z : Int} (hn : 1 ≤ n) : max 0 (min (n - 1) z) = clI n z := by
  unfold clI; split
  · omega
  · split <;> omega
theorem cl_r {n z : Int} (hn : 1 ≤ n) : 0 ≤ clI n z ∧ clI n z < n := by
  unfold clI; split
  · omega
  · split <;> omega
/-- what a step adds, by the reference -/
def amS (kd st un : Int) (x : eo) (k n : Int) : Int64 := if bI (tAw kd st) = un then amL kd st x.1 x.2 k n else -amL kd st x.1 x.2 k n
theorem prI_e {ge go ge' go' : Int → Int64} {to k j n : Int} (h : if to = 1 then ge = ge' else go = go') : prI ge go to k j n = prI ge' go' to k j n := by
  unfold prI
  by_cases q : to = 1
  · rw [if_pos q] at h; rw [if_pos q, if_pos q, h]
  · rw [if_neg q] at h; rw [if_neg q, if_neg q, h]
abbrev kdst (kd st : Int) : Prop := (0 ≤ kd ∧ kd ≤ 6) ∧ 0 ≤ st ∧ st < stc kd
theorem ks_c {kd st : Int} (h : kdst kd st) : (kd = 0 ∧ st = 0) ∨ (kd = 0 ∧ st = 1) ∨ (kd = 1 ∧ st = 0) ∨ (kd = 1 ∧ st = 1) ∨ (kd = 2 ∧ st = 0) ∨ (kd = 2 ∧ st = 1) ∨ (kd = 3 ∧ st = 0) ∨ (kd = 3 ∧ st = 1) ∨ (kd = 4 ∧ st = 0) ∨ (kd = 4 ∧ st = 1) ∨ (kd = 5 ∧ st = 0) ∨ (kd = 5 ∧ st = 1) ∨ (kd = 6 ∧ st = 0) ∨ (kd = 6 ∧ st = 1) ∨ (kd = 6 ∧ st = 2) ∨ (kd = 6 ∧ st = 3) := by
  obtain ⟨h1, h2, h3⟩ := h
  unfold stc at h3
  split at h3 <;> omega
theorem it_8 {σ : Type} (f : Int → σ → σ) (x : σ) : it f 0 8 x = f 7 (f 6 (f 5 (f 4 (f 3 (f 2 (f 1 (f 0 x))))))) := rfl
theorem sh_0 (x : Int64) : shR x 0 = x := Int64.toInt.inj (by rw [shR_v ⟨by omega, by omega⟩]; show x.toInt / 2 ^ 0 = _; omega)
theorem cl_k {n k : Int} (h : 0 ≤ k ∧ k < n) : clI n k = k := by unfold clI; rw [if_neg (by omega), if_neg (by omega)]
theorem sT_0 : stepsT 0 = 1 := by decide +kernel
theorem sT_1 : stepsT 1 = (-1) := by decide +kernel
theorem sT_2 : stepsT 2 = 1 := by decide +kernel
theorem sT_3 : stepsT 3 = 1 := by decide +kernel
theorem sT_4 : stepsT 4 = 0 := by decide +kernel
theorem sT_5 : stepsT 5 = 0 := by decide +kernel
theorem sT_6 : stepsT 6 = 0 := by decide +kernel
theorem sT_7 : stepsT 7 = 1 := by decide +kernel
theorem sT_8 : stepsT 8 = 1 := by decide +kernel
theorem sT_9 : stepsT 9 = 0 := by decide +kernel
theorem sT_10 : stepsT 10 = 0 := by decide +kernel
theorem sT_11 : stepsT 11 = 0 := by decide +kernel
theorem sT_12 : stepsT 12 = 0 := by decide +kernel
theorem sT_13 : stepsT 13 = 1 := by decide +kernel
theorem sT_14 : stepsT 14 = 2 := by decide +kernel
theorem sT_15 : stepsT 15 = 2 := by decide +kernel
theorem sT_16 : stepsT 16 = 0 := by decide +kernel
theorem sT_17 : stepsT 17 = 0 := by decide +kernel
theorem sT_18 : stepsT 18 = 0 := by decide +kernel
theorem sT_19 : stepsT 19 = 1 := by decide +kernel
theorem sT_20 : stepsT 20 = 1 := by decide +kernel
theorem sT_21 : stepsT 21 = 0 := by decide +kernel
theorem sT_22 : stepsT 22 = 0 := by decide +kernel
theorem sT_23 : stepsT 23 = 0 := by decide +kernel
theorem sT_24 : stepsT 24 = 1 := by decide +kernel
theorem sT_25 : stepsT 25 = (-1) := by decide +kernel
theorem sT_26 : stepsT 26 = 8 := by decide +kernel
theorem sT_27 : stepsT 27 = 4 := by decide +kernel
theorem sT_28 : stepsT 28 = 0 := by decide +kernel
theorem sT_29 : stepsT 29 = 0 := by decide +kernel
theorem sT_30 : stepsT 30 = (-1) := by decide +kernel
theorem sT_31 : stepsT 31 = 9 := by decide +kernel
theorem sT_32 : stepsT 32 = 9 := by decide +kernel
theorem sT_33 : stepsT 33 = (-1) := by decide +kernel
theorem sT_34 : stepsT 34 = 0 := by decide +kernel
theorem sT_35 : stepsT 35 = 0 := by decide +kernel
theorem sT_36 : stepsT 36 = 0 := by decide +kernel
theorem sT_37 : stepsT 37 = 1 := by decide +kernel
theorem sT_38 : stepsT 38 = 2 := by decide +kernel
theorem sT_39 : stepsT 39 = 2 := by decide +kernel
theorem sT_40 : stepsT 40 = 0 := by decide +kernel
theorem sT_41 : stepsT 41 = 0 := by decide +kernel
theorem sT_42 : stepsT 42 = 0 := by decide +kernel
theorem sT_43 : stepsT 43 = 1 := by decide +kernel
theorem sT_44 : stepsT 44 = 1 := by decide +kernel
theorem sT_45 : stepsT 45 = 0 := by decide +kernel
theorem sT_46 : stepsT 46 = 0 := by decide +kernel
theorem sT_47 : stepsT 47 = 0 := by decide +kernel
theorem sT_48 : stepsT 48 = 1 := by decide +kernel
theorem sT_49 : stepsT 49 = (-1) := by decide +kernel
theorem sT_50 : stepsT 50 = 8 := by decide +kernel
theorem sT_51 : stepsT 51 = 4 := by decide +kernel
theorem sT_52 : stepsT 52 = 0 := by decide +kernel
theorem sT_53 : stepsT 53 = 0 := by decide +kernel
theorem sT_54 : stepsT 54 = (-1) := by decide +kernel
theorem sT_55 : stepsT 55 = 9 := by decide +kernel
theorem sT_56 : stepsT 56 = 9 := by decide +kernel
theorem sT_57 : stepsT 57 = (-1) := by decide +kernel
theorem sT_58 : stepsT 58 = 0 := by decide +kernel
theorem sT_59 : stepsT 59 = 0 := by decide +kernel
theorem sT_60 : stepsT 60 = 0 := by decide +kernel
theorem sT_61 : stepsT 61 = 1 := by decide +kernel
theorem sT_62 : stepsT 62 = 16 := by decide +kernel
theorem sT_63 : stepsT 63 = 5 := by decide +kernel
theorem sT_64 : stepsT 64 = 0 := by decide +kernel
theorem sT_65 : stepsT 65 = 0 := by decide +kernel
theorem sT_66 : stepsT 66 = (-1) := by decide +kernel
theorem sT_67 : stepsT 67 = 9 := by decide +kernel
theorem sT_68 : stepsT 68 = 9 := by decide +kernel
theorem sT_69 : stepsT 69 = (-1) := by decide +kernel
theorem sT_70 : stepsT 70 = 0 := by decide +kernel
theorem sT_71 : stepsT 71 = 0 := by decide +kernel
theorem sT_72 : stepsT 72 = 1 := by decide +kernel
theorem sT_73 : stepsT 73 = (-1) := by decide +kernel
theorem sT_74 : stepsT 74 = 0 := by decide +kernel
theorem sT_75 : stepsT 75 = 0 := by decide +kernel
theorem sT_76 : stepsT 76 = 0 := by decide +kernel
theorem sT_77 : stepsT 77 = 0 := by decide +kernel
theorem sT_78 : stepsT 78 = 0 := by decide +kernel
theorem sT_79 : stepsT 79 = 1 := by decide +kernel
theorem sT_80 : stepsT 80 = 0 := by decide +kernel
theorem sT_81 : stepsT 81 = 0 := by decide +kernel
theorem sT_82 : stepsT 82 = 0 := by decide +kernel
theorem sT_83 : stepsT 83 = 0 := by decide +kernel
theorem sT_84 : stepsT 84 = 0 := by decide +kernel
theorem sT_85 : stepsT 85 = 1 := by decide +kernel
theorem sT_86 : stepsT 86 = 1 := by decide +kernel
theorem sT_87 : stepsT 87 = 1 := by decide +kernel
theorem sT_88 : stepsT 88 = 0 := by decide +kernel
theorem sT_89 : stepsT 89 = 0 := by decide +kernel
theorem sT_90 : stepsT 90 = 0 := by decide +kernel
theorem sT_91 : stepsT 91 = 0 := by decide +kernel
theorem sT_92 : stepsT 92 = 1 := by decide +kernel
theorem sT_93 : stepsT 93 = 0 := by decide +kernel
theorem sT_94 : stepsT 94 = 0 := by decide +kernel
theorem sT_95 : stepsT 95 = 0 := by decide +kernel
theorem sT_96 : stepsT 96 = 0 := by decide +kernel
theorem sT_97 : stepsT 97 = 1 := by decide +kernel
theorem sT_98 : stepsT 98 = 128 := by decide +kernel
theorem sT_99 : stepsT 99 = 8 := by decide +kernel
theorem sT_100 : stepsT 100 = (-8) := by decide +kernel
theorem sT_101 : stepsT 101 = 21 := by decide +kernel
theorem sT_102 : stepsT 102 = (-46) := by decide +kernel
theorem sT_103 : stepsT 103 = 161 := by decide +kernel
theorem sT_104 : stepsT 104 = 161 := by decide +kernel
theorem sT_105 : stepsT 105 = (-46) := by decide +kernel
theorem sT_106 : stepsT 106 = 21 := by decide +kernel
theorem sT_107 : stepsT 107 = (-8) := by decide +kernel
theorem sT_108 : stepsT 108 = 1 := by decide +kernel
theorem sT_109 : stepsT 109 = (-1) := by decide +kernel
theorem sT_110 : stepsT 110 = 128 := by decide +kernel
theorem sT_111 : stepsT 111 = 8 := by decide +kernel
theorem sT_112 : stepsT 112 = (-2) := by decide +kernel
theorem sT_113 : stepsT 113 = 10 := by decide +kernel
theorem sT_114 : stepsT 114 = (-25) := by decide +kernel
theorem sT_115 : stepsT 115 = 81 := by decide +kernel
theorem sT_116 : stepsT 116 = 81 := by decide +kernel
theorem sT_117 : stepsT 117 = (-25) := by decide +kernel
theorem sT_118 : stepsT 118 = 10 := by decide +kernel
theorem sT_119 : stepsT 119 = (-2) := by decide +kernel
theorem sT_120 : stepsT 120 = 1 := by decide +kernel
theorem sT_121 : stepsT 121 = (-1) := by decide +kernel
theorem sT_122 : stepsT 122 = 2048 := by decide +kernel
theorem sT_123 : stepsT 123 = 12 := by decide +kernel
theorem sT_124 : stepsT 124 = 0 := by decide +kernel
theorem sT_125 : stepsT 125 = 0 := by decide +kernel
theorem sT_126 : stepsT 126 = 0 := by decide +kernel
theorem sT_127 : stepsT 127 = 6497 := by decide +kernel
theorem sT_128 : stepsT 128 = 6497 := by decide +kernel
theorem sT_129 : stepsT 129 = 0 := by decide +kernel
theorem sT_130 : stepsT 130 = 0 := by decide +kernel
theorem sT_131 : stepsT 131 = 0 := by decide +kernel
theorem sT_132 : stepsT 132 = 0 := by decide +kernel
theorem sT_133 : stepsT 133 = (-1) := by decide +kernel
theorem sT_134 : stepsT 134 = 2048 := by decide +kernel
theorem sT_135 : stepsT 135 = 12 := by decide +kernel
theorem sT_136 : stepsT 136 = 0 := by decide +kernel
theorem sT_137 : stepsT 137 = 0 := by decide +kernel
theorem sT_138 : stepsT 138 = 0 := by decide +kernel
theorem sT_139 : stepsT 139 = 217 := by decide +kernel
theorem sT_140 : stepsT 140 = 217 := by decide +kernel
theorem sT_141 : stepsT 141 = 0 := by decide +kernel
theorem sT_142 : stepsT 142 = 0 := by decide +kernel
theorem sT_143 : stepsT 143 = 0 := by decide +kernel
theorem sT_144 : stepsT 144 = 1 := by decide +kernel
theorem sT_145 : stepsT 145 = 1 := by decide +kernel
theorem sT_146 : stepsT 146 = 2048 := by decide +kernel
theorem sT_147 : stepsT 147 = 12 := by decide +kernel
theorem sT_148 : stepsT 148 = 0 := by decide +kernel
theorem sT_149 : stepsT 149 = 0 := by decide +kernel
theorem sT_150 : stepsT 150 = 0 := by decide +kernel
theorem sT_151 : stepsT 151 = 3616 := by decide +kernel
theorem sT_152 : stepsT 152 = 3616 := by decide +kernel
theorem sT_153 : stepsT 153 = 0 := by decide +kernel
theorem sT_154 : stepsT 154 = 0 := by decide +kernel
theorem sT_155 : stepsT 155 = 0 := by decide +kernel
theorem sT_156 : stepsT 156 = 0 := by decide +kernel
theorem sT_157 : stepsT 157 = 1 := by decide +kernel
theorem sT_158 : stepsT 158 = 2048 := by decide +kernel
theorem sT_159 : stepsT 159 = 12 := by decide +kernel
theorem sT_160 : stepsT 160 = 0 := by decide +kernel
theorem sT_161 : stepsT 161 = 0 := by decide +kernel
theorem sT_162 : stepsT 162 = 0 := by decide +kernel
theorem sT_163 : stepsT 163 = 1817 := by decide +kernel
theorem sT_164 : stepsT 164 = 1817 := by decide +kernel
theorem sT_165 : stepsT 165 = 0 := by decide +kernel
theorem sT_166 : stepsT 166 = 0 := by decide +kernel
theorem sT_167 : stepsT 167 = 0 := by decide +kernel
theorem lw_m46 : lw (-46) = (-46) := by decide +kernel
theorem lw_m25 : lw (-25) = (-25) := by decide +kernel
theorem lw_m8 : lw (-8) = (-8) := by decide +kernel
theorem lw_m2 : lw (-2) = (-2) := by decide +kernel
theorem lw_m1 : lw (-1) = (-1) := by decide +kernel
theorem lw_0 : lw 0 = 0 := by decide +kernel
theorem lw_1 : lw 1 = 1 := by decide +kernel
theorem lw_2 : lw 2 = 2 := by decide +kernel
theorem lw_4 : lw 4 = 4 := by decide +kernel
theorem lw_5 : lw 5 = 5 := by decide +kernel
theorem lw_8 : lw 8 = 8 := by decide +kernel
theorem lw_9 : lw 9 = 9 := by decide +kernel
theorem lw_10 : lw 10 = 10 := by decide +kernel
theorem lw_12 : lw 12 = 12 := by decide +kernel
theorem lw_16 : lw 16 = 16 := by decide +kernel
theorem lw_21 : lw 21 = 21 := by decide +kernel
theorem lw_81 : lw 81 = 81 := by decide +kernel
theorem lw_128 : lw 128 = 128 := by decide +kernel
theorem lw_161 : lw 161 = 161 := by decide +kernel
theorem lw_217 : lw 217 = 217 := by decide +kernel
theorem lw_1817 : lw 1817 = 1817 := by decide +kernel
theorem lw_2048 : lw 2048 = 2048 := by decide +kernel
theorem lw_3616 : lw 3616 = 3616 := by decide +kernel
theorem lw_6497 : lw 6497 = 6497 := by decide +kernel
theorem nz_m46 : (((-46) : Int64) = 0) = False := eq_false (by decide)
theorem nz_m25 : (((-25) : Int64) = 0) = False := eq_false (by decide)
theorem nz_m8 : (((-8) : Int64) = 0) = False := eq_false (by decide)
theorem nz_m2 : (((-2) : Int64) = 0) = False := eq_false (by decide)
theorem nz_m1 : (((-1) : Int64) = 0) = False := eq_false (by decide)
theorem nz_1 : ((1 : Int64) = 0) = False := eq_false (by decide)
theorem nz_2 : ((2 : Int64) = 0) = False := eq_false (by decide)
theorem nz_4 : ((4 : Int64) = 0) = False := eq_false (by decide)
theorem nz_5 : ((5 : Int64) = 0) = False := eq_false (by decide)
theorem nz_8 : ((8 : Int64) = 0) = False := eq_false (by decide)
theorem nz_9 : ((9 : Int64) = 0) = False := eq_false (by decide)
theorem nz_10 : ((10 : Int64) = 0) = False := eq_false (by decide)
theorem nz_12 : ((12 : Int64) = 0) = False := eq_false (by decide)
theorem nz_16 : ((16 : Int64) = 0) = False := eq_false (by decide)
theorem nz_21 : ((21 : Int64) = 0) = False := eq_false (by decide)
theorem nz_81 : ((81 : Int64) = 0) = False := eq_false (by decide)
theorem nz_128 : ((128 : Int64) = 0) = False := eq_false (by decide)
theorem nz_161 : ((161 : Int64) = 0) = False := eq_false (by decide)
theorem nz_217 : ((217 : Int64) = 0) = False := eq_false (by decide)
theorem nz_1817 : ((1817 : Int64) = 0) = False := eq_false (by decide)
theorem nz_2048 : ((2048 : Int64) = 0) = False := eq_false (by decide)
theorem nz_3616 : ((3616 : Int64) = 0) = False := eq_false (by decide)
theorem nz_6497 : ((6497 : Int64) = 0) = False := eq_false (by decide)
theorem fT_0 : firstT 0 = 0 := by decide +kernel
theorem fT_1 : firstT 1 = 2 := by decide +kernel
theorem fT_2 : firstT 2 = 4 := by decide +kernel
theorem fT_3 : firstT 3 = 6 := by decide +kernel
theorem fT_4 : firstT 4 = 6 := by decide +kernel
theorem fT_5 : firstT 5 = 8 := by decide +kernel
theorem fT_6 : firstT 6 = 10 := by decide +kernel
theorem cg_p {x A B : Int64} {c : Int} (h : A = B) : x + 1 * shR A c = x + shR B c := by rw [h]; grind
theorem cg_m {x A B : Int64} {c : Int} (h : A = B) : x + -1 * shR A c = x + -shR B c := by rw [h]; grind
theorem am_00 (ge go : Int → Int64) (k n : Int) : amL 0 0 ge go k n = shR ((ge (clI n k) + ge (clI n (k + 1))) + 1) 1 := by
  unfold amL; rw [if_neg (by decide), if_neg (by decide), if_neg (by decide), if_pos rfl, if_pos rfl]; rw [show bI (cOd 0 0) = 1 from by decide]; unfold prI; simp only [if_pos, if_neg, reduceIte, Int.reduceEq, Int.sub_zero, Int.add_zero, Int.add_assoc, Int.reduceAdd, Int.sub_sub]
theorem lf_00 {un dr k n : Int} (hu : (un = 0 ∧ dr = 1) ∨ (un = 1 ∧ dr = -1)) (hk : 0 ≤ k ∧ k < n) (ge go : Int → Int64) (x : Int64) : lfv ge ((firstT 0 + 0) * 12) (stepsT ((firstT 0 + 0) * 12 + 1) * dr) 3 n k x = x + amS 0 0 un (ge, go) k n := by
  have i0 : k - 3 + 0 = k - 3 := by omega
  have i1 : k - 3 + 1 = k - 2 := by omega
  have i2 : k - 3 + 2 = k - 1 := by omega
  have i3 : k - 3 + 3 = k := by omega
  have i4 : k - 3 + 4 = k + 1 := by omega
  have i5 : k - 3 + 5 = k + 2 := by omega
  have i6 : k - 3 + 6 = k + 3 := by omega
  have i7 : k - 3 + 7 = k + 4 := by omega
  have ck := cl_k hk
  unfold amS; rw [am_00]
  unfold lfv wgA; rw [it_8]; unfold wgf
  simp only [fT_0, Int.reduceAdd, Int.reduceMul, sT_0, sT_1, sT_2, sT_3, sT_4, sT_5, sT_6, sT_7, sT_8, sT_9, sT_10, sT_11, lw_m46, lw_m25, lw_m8, lw_m2, lw_m1, lw_0, lw_1, lw_2, lw_4, lw_5, lw_8, lw_9, lw_10, lw_12, lw_16, lw_21, lw_81, lw_128, lw_161, lw_217, lw_1817, lw_2048, lw_3616, lw_6497, nz_m46, nz_m25, nz_m8, nz_m2, nz_m1, nz_1, nz_2, nz_4, nz_5, nz_8, nz_9, nz_10, nz_12, nz_16, nz_21, nz_81, nz_128, nz_161, nz_217, nz_1817, nz_2048, nz_3616, nz_6497, reduceIte, cl_e (show 1 ≤ n by omega), i0, i1, i2, i3, i4, i5, i6, i7]
  rcases hu with ⟨rfl, rfl⟩ | ⟨rfl, rfl⟩
  · simp only [Int.reduceMul, Int.reduceNeg, lw_1, lw_m1]; rw [if_neg (by decide)]; exact cg_m (by grind)
  · simp only [Int.reduceMul, Int.reduceNeg, lw_1, lw_m1]; rw [if_pos (by decide)]; exact cg_p (by grind)
theorem am_01 (ge go : Int → Int64) (k n : Int) : amL 0 1 ge go k n = shR ((go (clI n (k - 1)) + go (clI n k)) + 2) 2 := by
  unfold amL; rw [if_neg (by decide), if_neg (by decide), if_neg (by decide), if_neg (by decide), if_neg (by decide)]; rw [show bI (cOd 0 1) = 0 from by decide]; unfold prI; simp only [if_pos, if_neg, reduceIte, Int.reduceEq, Int.sub_zero, Int.add_zero, Int.add_assoc, Int.reduceAdd, Int.sub_sub]
theorem lf_01 {un dr k n : Int} (hu : (un = 0 ∧ dr = 1) ∨ (un = 1 ∧ dr = -1)) (hk : 0 ≤ k ∧ k < n) (ge go : Int → Int64) (x : Int64) : lfv go ((firstT 0 + 1) * 12) (stepsT ((firstT 0 + 1) * 12 + 1) * dr) 4 n k x = x + amS 0 1 un (ge, go) k n := by
  have i0 : k - 4 + 0 = k - 4 := by omega
  have i1 : k - 4 + 1 = k - 3 := by omega
  have i2 : k - 4 + 2 = k - 2 := by omega
  have i3 : k - 4 + 3 = k - 1 := by omega
  have i4 : k - 4 + 4 = k := by omega
  have i5 : k - 4 + 5 = k + 1 := by omega
  have i6 : k - 4 + 6 = k + 2 := by omega
  have i7 : k - 4 + 7 = k + 3 := by omega
  have ck := cl_k hk
  unfold amS; rw [am_01]
  unfold lfv wgA; rw [it_8]; unfold wgf
  simp only [fT_0, Int.reduceAdd, Int.reduceMul, sT_12, sT_13, sT_14, sT_15, sT_16, sT_17, sT_18, sT_19, sT_20, sT_21, sT_22, sT_23, lw_m46, lw_m25, lw_m8, lw_m2, lw_m1, lw_0, lw_1, lw_2, lw_4, lw_5, lw_8, lw_9, lw_10, lw_12, lw_16, lw_21, lw_81, lw_128, lw_161, lw_217, lw_1817, lw_2048, lw_3616, lw_6497, nz_m46, nz_m25, nz_m8, nz_m2, nz_m1, nz_1, nz_2, nz_4, nz_5, nz_8, nz_9, nz_10, nz_12, nz_16, nz_21, nz_81, nz_128, nz_161, nz_217, nz_1817, nz_2048, nz_3616, nz_6497, reduceIte, cl_e (show 1 ≤ n by omega), i0, i1, i2, i3, i4, i5, i6, i7]
  rcases hu with ⟨rfl, rfl⟩ | ⟨rfl, rfl⟩
  · simp only [Int.reduceMul, Int.reduceNeg, lw_1, lw_m1]; rw [if_pos (by decide)]; exact cg_p (by grind)
  · simp only [Int.reduceMul, Int.reduceNeg, lw_1, lw_m1]; rw [if_neg (by decide)]; exact cg_m (by grind)
theorem am_10 (ge go : Int → Int64) (k n : Int) : amL 1 0 ge go k n = shR (9 * (ge (clI n k) + ge (clI n (k + 1))) - (ge (clI n (k - 1)) + ge (clI n (k + 2))) + 8) 4 := by
  unfold amL; rw [if_neg (by decide), if_neg (by decide), if_neg (by decide), if_pos rfl, if_neg (by decide)]; rw [show bI (cOd 1 0) = 1 from by decide]; unfold prI; simp only [if_pos, if_neg, reduceIte, Int.reduceEq, Int.sub_zero, Int.add_zero, Int.add_assoc, Int.reduceAdd, Int.sub_sub]
theorem lf_10 {un dr k n : Int} (hu : (un = 0 ∧ dr = 1) ∨ (un = 1 ∧ dr = -1)) (hk : 0 ≤ k ∧ k < n) (ge go : Int → Int64) (x : Int64) : lfv ge ((firstT 1 + 0) * 12) (stepsT ((firstT 1 + 0) * 12 + 1) * dr) 3 n k x = x + amS 1 0 un (ge, go) k n := by
  have i0 : k - 3 + 0 = k - 3 := by omega
  have i1 : k - 3 + 1 = k - 2 := by omega
  have i2 : k - 3 + 2 = k - 1 := by omega
  have i3 : k - 3 + 3 = k := by omega
  have i4 : k - 3 + 4 = k + 1 := by omega
  have i5 : k - 3 + 5 = k + 2 := by omega
  have i6 : k - 3 + 6 = k + 3 := by omega
  have i7 : k - 3 + 7 = k + 4 := by omega
  have ck := cl_k hk
  unfold amS; rw [am_10]
  unfold lfv wgA; rw [it_8]; unfold wgf
  simp only [fT_1, Int.reduceAdd, Int.reduceMul, sT_24, sT_25, sT_26, sT_27, sT_28, sT_29, sT_30, sT_31, sT_32, sT_33, sT_34, sT_35, lw_m46, lw_m25, lw_m8, lw_m2, lw_m1, lw_0, lw_1, lw_2, lw_4, lw_5, lw_8, lw_9, lw_10, lw_12, lw_16, lw_21, lw_81, lw_128, lw_161, lw_217, lw_1817, lw_2048, lw_3616, lw_6497, nz_m46, nz_m25, nz_m8, nz_m2, nz_m1, nz_1, nz_2, nz_4, nz_5, nz_8, nz_9, nz_10, nz_12, nz_16, nz_21, nz_81, nz_128, nz_161, nz_217, nz_1817, nz_2048, nz_3616, nz_6497, reduceIte, cl_e (show 1 ≤ n by omega), i0, i1, i2, i3, i4, i5, i6, i7]
  rcases hu with ⟨rfl, rfl⟩ | ⟨rfl, rfl⟩
  · simp only [Int.reduceMul, Int.reduceNeg, lw_1, lw_m1]; rw [if_neg (by decide)]; exact cg_m (by grind)
  · simp only [Int.reduceMul, Int.reduceNeg, lw_1, lw_m1]; rw [if_pos (by decide)]; exact cg_p (by grind)
theorem am_11 (ge go : Int → Int64) (k n : Int) : amL 1 1 ge go k n = shR ((go (clI n (k - 1)) + go (clI n k)) + 2) 2 := by
  unfold amL; rw [if_neg (by decide), if_neg (by decide), if_neg (by decide), if_neg (by decide), if_neg (by decide)]; rw [show bI (cOd 1 1) = 0 from by decide]; unfold prI; simp only [if_pos, if_neg, reduceIte, Int.reduceEq, Int.sub_zero, Int.add_zero, Int.add_assoc, Int.reduceAdd, Int.sub_sub]
theorem lf_11 {un dr k n : Int} (hu : (un = 0 ∧ dr = 1) ∨ (un = 1 ∧ dr = -1)) (hk : 0 ≤ k ∧ k < n) (ge go : Int → Int64) (x : Int64) : lfv go ((firstT 1 + 1) * 12) (stepsT ((firstT 1 + 1) * 12 + 1) * dr) 4 n k x = x + amS 1 1 un (ge, go) k n := by
  have i0 : k - 4 + 0 = k - 4 := by omega
  have i1 : k - 4 + 1 = k - 3 := by omega
  have i2 : k - 4 + 2 = k - 2 := by omega
  have i3 : k - 4 + 3 = k - 1 := by omega
  have i4 : k - 4 + 4 = k := by omega
  have i5 : k - 4 + 5 = k + 1 := by omega
  have i6 : k - 4 + 6 = k + 2 := by omega
  have i7 : k - 4 + 7 = k + 3 := by omega
  have ck := cl_k hk
  unfold amS; rw [am_11]
  unfold lfv wgA; rw [it_8]; unfold wgf
  simp only [fT_1, Int.reduceAdd, Int.reduceMul, sT_36, sT_37, sT_38, sT_39, sT_40, sT_41, sT_42, sT_43, sT_44, sT_45, sT_46, sT_47, lw_m46, lw_m25, lw_m8, lw_m2, lw_m1, lw_0, lw_1, lw_2, lw_4, lw_5, lw_8, lw_9, lw_10, lw_12, lw_16, lw_21, lw_81, lw_128, lw_161, lw_217, lw_1817, lw_2048, lw_3616, lw_6497, nz_m46, nz_m25, nz_m8, nz_m2, nz_m1, nz_1, nz_2, nz_4, nz_5, nz_8, nz_9, nz_10, nz_12, nz_16, nz_21, nz_81, nz_128, nz_161, nz_217, nz_1817, nz_2048, nz_3616, nz_6497, reduceIte, cl_e (show 1 ≤ n by omega), i0, i1, i2, i3, i4, i5, i6, i7]
  rcases hu with ⟨rfl, rfl⟩ | ⟨rfl, rfl⟩
  · simp only [Int.reduceMul, Int.reduceNeg, lw_1, lw_m1]; rw [if_pos (by decide)]; exact cg_p (by grind)
  · simp only [Int.reduceMul, Int.reduceNeg, lw_1, lw_m1]; rw [if_neg (by decide)]; exact cg_m (by grind)
theorem am_20 (ge go : Int → Int64) (k n : Int) : amL 2 0 ge go k n = shR (9 * (ge (clI n k) + ge (clI n (k + 1))) - (ge (clI n (k - 1)) + ge (clI n (k + 2))) + 8) 4 := by
  unfold amL; rw [if_neg (by decide), if_neg (by decide), if_neg (by decide), if_pos rfl, if_neg (by decide)]; rw [show bI (cOd 2 0) = 1 from by decide]; unfold prI; simp only [if_pos, if_neg, reduceIte, Int.reduceEq, Int.sub_zero, Int.add_zero, Int.add_assoc, Int.reduceAdd, Int.sub_sub]
theorem lf_20 {un dr k n : Int} (hu : (un = 0 ∧ dr = 1) ∨ (un = 1 ∧ dr = -1)) (hk : 0 ≤ k ∧ k < n) (ge go : Int → Int64) (x : Int64) : lfv ge ((firstT 2 + 0) * 12) (stepsT ((firstT 2 + 0) * 12 + 1) * dr) 3 n k x = x + amS 2 0 un (ge, go) k n := by
  have i0 : k - 3 + 0 = k - 3 := by omega
  have i1 : k - 3 + 1 = k - 2 := by omega
  have i2 : k - 3 + 2 = k - 1 := by omega
  have i3 : k - 3 + 3 = k := by omega
  have i4 : k - 3 + 4 = k + 1 := by omega
  have i5 : k - 3 + 5 = k + 2 := by omega
  have i6 : k - 3 + 6 = k + 3 := by omega
  have i7 : k - 3 + 7 = k + 4 := by omega
  have ck := cl_k hk
  unfold amS; rw [am_20]
  unfold lfv wgA; rw [it_8]; unfold wgf
  simp only [fT_2, Int.reduceAdd, Int.reduceMul, sT_48, sT_49, sT_50, sT_51, sT_52, sT_53, sT_54, sT_55, sT_56, sT_57, sT_58, sT_59, lw_m46, lw_m25, lw_m8, lw_m2, lw_m1, lw_0, lw_1, lw_2, lw_4, lw_5, lw_8, lw_9, lw_10, lw_12, lw_16, lw_21, lw_81, lw_128, lw_161, lw_217, lw_1817, lw_2048, lw_3616, lw_6497, nz_m46, nz_m25, nz_m8, nz_m2, nz_m1, nz_1, nz_2, nz_4, nz_5, nz_8, nz_9, nz_10, nz_12, nz_16, nz_21, nz_81, nz_128, nz_161, nz_217, nz_1817, nz_2048, nz_3616, nz_6497, reduceIte, cl_e (show 1 ≤ n by omega), i0, i1, i2, i3, i4, i5, i6, i7]
  rcases hu with ⟨rfl, rfl⟩ | ⟨rfl, rfl⟩
  · simp only [Int.reduceMul, Int.reduceNeg, lw_1, lw_m1]; rw [if_neg (by decide)]; exact cg_m (by grind)
  · simp only [Int.reduceMul, Int.reduceNeg, lw_1, lw_m1]; rw [if_pos (by decide)]; exact cg_p (by grind)
theorem am_21 (ge go : Int → Int64) (k n : Int) : amL 2 1 ge go k n = shR (9 * (go (clI n (k - 1)) + go (clI n k)) - (go (clI n (k - 2)) + go (clI n (k + 1))) + 16) 5 := by
  unfold amL; rw [if_neg (by decide), if_neg (by decide), if_neg (by decide), if_neg (by decide), if_pos rfl]; rw [show bI (cOd 2 1) = 0 from by decide]; unfold prI; simp only [if_pos, if_neg, reduceIte, Int.reduceEq, Int.sub_zero, Int.add_zero, Int.add_assoc, Int.reduceAdd, Int.sub_sub]
theorem lf_21 {un dr k n : Int} (hu : (un = 0 ∧ dr = 1) ∨ (un = 1 ∧ dr = -1)) (hk : 0 ≤ k ∧ k < n) (ge go : Int → Int64) (x : Int64) : lfv go ((firstT 2 + 1) * 12) (stepsT ((firstT 2 + 1) * 12 + 1) * dr) 4 n k x = x + amS 2 1 un (ge, go) k n := by
  have i0 : k - 4 + 0 = k - 4 := by omega
  have i1 : k - 4 + 1 = k - 3 := by omega
  have i2 : k - 4 + 2 = k - 2 := by omega
  have i3 : k - 4 + 3 = k - 1 := by omega
  have i4 : k - 4 + 4 = k := by omega
  have i5 : k - 4 + 5 = k + 1 := by omega
  have i6 : k - 4 + 6 = k + 2 := by omega
  have i7 : k - 4 + 7 = k + 3 := by omega
  have ck := cl_k hk
  unfold amS; rw [am_21]
  unfold lfv wgA; rw [it_8]; unfold wgf
  simp only [fT_2, Int.reduceAdd, Int.reduceMul, sT_60, sT_61, sT_62, sT_63, sT_64, sT_65, sT_66, sT_67, sT_68, sT_69, sT_70, sT_71, lw_m46, lw_m25, lw_m8, lw_m2, lw_m1, lw_0, lw_1, lw_2, lw_4, lw_5, lw_8, lw_9, lw_10, lw_12, lw_16, lw_21, lw_81, lw_128, lw_161, lw_217, lw_1817, lw_2048, lw_3616, lw_6497, nz_m46, nz_m25, nz_m8, nz_m2, nz_m1, nz_1, nz_2, nz_4, nz_5, nz_8, nz_9, nz_10, nz_12, nz_16, nz_21, nz_81, nz_128, nz_161, nz_217, nz_1817, nz_2048, nz_3616, nz_6497, reduceIte, cl_e (show 1 ≤ n by omega), i0, i1, i2, i3, i4, i5, i6, i7]
  rcases hu with ⟨rfl, rfl⟩ | ⟨rfl, rfl⟩
  · simp only [Int.reduceMul, Int.reduceNeg, lw_1, lw_m1]; rw [if_pos (by decide)]; exact cg_p (by grind)
  · simp only [Int.reduceMul, Int.reduceNeg, lw_1, lw_m1]; rw [if_neg (by decide)]; exact cg_m (by grind)
theorem am_30 (ge go : Int → Int64) (k n : Int) : amL 3 0 ge go k n = shR (ge k) 0 := by
  unfold amL; rw [if_neg (by decide), if_neg (by decide), if_pos (by decide), if_pos rfl]; rw [sh_0]
theorem lf_30 {un dr k n : Int} (hu : (un = 0 ∧ dr = 1) ∨ (un = 1 ∧ dr = -1)) (hk : 0 ≤ k ∧ k < n) (ge go : Int → Int64) (x : Int64) : lfv ge ((firstT 3 + 0) * 12) (stepsT ((firstT 3 + 0) * 12 + 1) * dr) 3 n k x = x + amS 3 0 un (ge, go) k n := by
  have i0 : k - 3 + 0 = k - 3 := by omega
  have i1 : k - 3 + 1 = k - 2 := by omega
  have i2 : k - 3 + 2 = k - 1 := by omega
  have i3 : k - 3 + 3 = k := by omega
  have i4 : k - 3 + 4 = k + 1 := by omega
  have i5 : k - 3 + 5 = k + 2 := by omega
  have i6 : k - 3 + 6 = k + 3 := by omega
  have i7 : k - 3 + 7 = k + 4 := by omega
  have ck := cl_k hk
  unfold amS; rw [am_30]
  unfold lfv wgA; rw [it_8]; unfold wgf
  simp only [fT_3, Int.reduceAdd, Int.reduceMul, sT_72, sT_73, sT_74, sT_75, sT_76, sT_77, sT_78, sT_79, sT_80, sT_81, sT_82, sT_83, lw_m46, lw_m25, lw_m8, lw_m2, lw_m1, lw_0, lw_1, lw_2, lw_4, lw_5, lw_8, lw_9, lw_10, lw_12, lw_16, lw_21, lw_81, lw_128, lw_161, lw_217, lw_1817, lw_2048, lw_3616, lw_6497, nz_m46, nz_m25, nz_m8, nz_m2, nz_m1, nz_1, nz_2, nz_4, nz_5, nz_8, nz_9, nz_10, nz_12, nz_16, nz_21, nz_81, nz_128, nz_161, nz_217, nz_1817, nz_2048, nz_3616, nz_6497, reduceIte, cl_e (show 1 ≤ n by omega), i0, i1, i2, i3, i4, i5, i6, i7]
  rcases hu with ⟨rfl, rfl⟩ | ⟨rfl, rfl⟩
  · simp only [Int.reduceMul, Int.reduceNeg, lw_1, lw_m1]; rw [if_neg (by decide)]; exact cg_m (by simp only [ck]; grind)
  · simp only [Int.reduceMul, Int.reduceNeg, lw_1, lw_m1]; rw [if_pos (by decide)]; exact cg_p (by simp only [ck]; grind)
theorem am_40 (ge go : Int → Int64) (k n : Int) : amL 4 0 ge go k n = shR (ge k) 0 := by
  unfold amL; rw [if_neg (by decide), if_neg (by decide), if_pos (by decide), if_pos rfl]; rw [sh_0]
theorem lf_40 {un dr k n : Int} (hu : (un = 0 ∧ dr = 1) ∨ (un = 1 ∧ dr = -1)) (hk : 0 ≤ k ∧ k < n) (ge go : Int → Int64) (x : Int64) : lfv ge ((firstT 4 + 0) * 12) (stepsT ((firstT 4 + 0) * 12 + 1) * dr) 3 n k x = x + amS 4 0 un (ge, go) k n := by
  have i0 : k - 3 + 0 = k - 3 := by omega
  have i1 : k - 3 + 1 = k - 2 := by omega
  have i2 : k - 3 + 2 = k - 1 := by omega
  have i3 : k - 3 + 3 = k := by omega
  have i4 : k - 3 + 4 = k + 1 := by omega
  have i5 : k - 3 + 5 = k + 2 := by omega
  have i6 : k - 3 + 6 = k + 3 := by omega
  have i7 : k - 3 + 7 = k + 4 := by omega
  have ck := cl_k hk
  unfold amS; rw [am_40]
  unfold lfv wgA; rw [it_8]; unfold wgf
  simp only [fT_4, Int.reduceAdd, Int.reduceMul, sT_72, sT_73, sT_74, sT_75, sT_76, sT_77, sT_78, sT_79, sT_80, sT_81, sT_82, sT_83, lw_m46, lw_m25, lw_m8, lw_m2, lw_m1, lw_0, lw_1, lw_2, lw_4, lw_5, lw_8, lw_9, lw_10, lw_12, lw_16, lw_21, lw_81, lw_128, lw_161, lw_217, lw_1817, lw_2048, lw_3616, lw_6497, nz_m46, nz_m25, nz_m8, nz_m2, nz_m1, nz_1, nz_2, nz_4, nz_5, nz_8, nz_9, nz_10, nz_12, nz_16, nz_21, nz_81, nz_128, nz_161, nz_217, nz_1817, nz_2048, nz_3616, nz_6497, reduceIte, cl_e (show 1 ≤ n by omega), i0, i1, i2, i3, i4, i5, i6, i7]
  rcases hu with ⟨rfl, rfl⟩ | ⟨rfl, rfl⟩
  · simp only [Int.reduceMul, Int.reduceNeg, lw_1, lw_m1]; rw [if_neg (by decide)]; exact cg_m (by simp only [ck]; grind)
  · simp only [Int.reduceMul, Int.reduceNeg, lw_1, lw_m1]; rw [if_pos (by decide)]; exact cg_p (by simp only [ck]; grind)
theorem am_31 (ge go : Int → Int64) (k n : Int) : amL 3 1 ge go k n = shR (go k + 1) 1 := by
  unfold amL; rw [if_neg (by decide), if_neg (by decide), if_pos (by decide), if_neg (by decide)]
theorem lf_31 {un dr k n : Int} (hu : (un = 0 ∧ dr = 1) ∨ (un = 1 ∧ dr = -1)) (hk : 0 ≤ k ∧ k < n) (ge go : Int → Int64) (x : Int64) : lfv go ((firstT 3 + 1) * 12) (stepsT ((firstT 3 + 1) * 12 + 1) * dr) 4 n k x = x + amS 3 1 un (ge, go) k n := by
  have i0 : k - 4 + 0 = k - 4 := by omega
  have i1 : k - 4 + 1 = k - 3 := by omega
  have i2 : k - 4 + 2 = k - 2 := by omega
  have i3 : k - 4 + 3 = k - 1 := by omega
  have i4 : k - 4 + 4 = k := by omega
  have i5 : k - 4 + 5 = k + 1 := by omega
  have i6 : k - 4 + 6 = k + 2 := by omega
  have i7 : k - 4 + 7 = k + 3 := by omega
  have ck := cl_k hk
  unfold amS; rw [am_31]
  unfold lfv wgA; rw [it_8]; unfold wgf
  simp only [fT_3, Int.reduceAdd, Int.reduceMul, sT_84, sT_85, sT_86, sT_87, sT_88, sT_89, sT_90, sT_91, sT_92, sT_93, sT_94, sT_95, lw_m46, lw_m25, lw_m8, lw_m2, lw_m1, lw_0, lw_1, lw_2, lw_4, lw_5, lw_8, lw_9, lw_10, lw_12, lw_16, lw_21, lw_81, lw_128, lw_161, lw_217, lw_1817, lw_2048, lw_3616, lw_6497, nz_m46, nz_m25, nz_m8, nz_m2, nz_m1, nz_1, nz_2, nz_4, nz_5, nz_8, nz_9, nz_10, nz_12, nz_16, nz_21, nz_81, nz_128, nz_161, nz_217, nz_1817, nz_2048, nz_3616, nz_6497, reduceIte, cl_e (show 1 ≤ n by omega), i0, i1, i2, i3, i4, i5, i6, i7]
  rcases hu with ⟨rfl, rfl⟩ | ⟨rfl, rfl⟩
  · simp only [Int.reduceMul, Int.reduceNeg, lw_1, lw_m1]; rw [if_pos (by decide)]; exact cg_p (by simp only [ck]; grind)
  · simp only [Int.reduceMul, Int.reduceNeg, lw_1, lw_m1]; rw [if_neg (by decide)]; exact cg_m (by simp only [ck]; grind)
theorem am_41 (ge go : Int → Int64) (k n : Int) : amL 4 1 ge go k n = shR (go k + 1) 1 := by
  unfold amL; rw [if_neg (by decide), if_neg (by decide), if_pos (by decide), if_neg (by decide)]
theorem lf_41 {un dr k n : Int} (hu : (un = 0 ∧ dr = 1) ∨ (un = 1 ∧ dr = -1)) (hk : 0 ≤ k ∧ k < n) (ge go : Int → Int64) (x : Int64) : lfv go ((firstT 4 + 1) * 12) (stepsT ((firstT 4 + 1) * 12 + 1) * dr) 4 n k x = x + amS 4 1 un (ge, go) k n := by
  have i0 : k - 4 + 0 = k - 4 := by omega
  have i1 : k - 4 + 1 = k - 3 := by omega
  have i2 : k - 4 + 2 = k - 2 := by omega
  have i3 : k - 4 + 3 = k - 1 := by omega
  have i4 : k - 4 + 4 = k := by omega
  have i5 : k - 4 + 5 = k + 1 := by omega
  have i6 : k - 4 + 6 = k + 2 := by omega
  have i7 : k - 4 + 7 = k + 3 := by omega
  have ck := cl_k hk
  unfold amS; rw [am_41]
  unfold lfv wgA; rw [it_8]; unfold wgf
  simp only [fT_4, Int.reduceAdd, Int.reduceMul, sT_84, sT_85, sT_86, sT_87, sT_88, sT_89, sT_90, sT_91, sT_92, sT_93, sT_94, sT_95, lw_m46, lw_m25, lw_m8, lw_m2, lw_m1, lw_0, lw_1, lw_2, lw_4, lw_5, lw_8, lw_9, lw_10, lw_12, lw_16, lw_21, lw_81, lw_128, lw_161, lw_217, lw_1817, lw_2048, lw_3616, lw_6497, nz_m46, nz_m25, nz_m8, nz_m2, nz_m1, nz_1, nz_2, nz_4, nz_5, nz_8, nz_9, nz_10, nz_12, nz_16, nz_21, nz_81, nz_128, nz_161, nz_217, nz_1817, nz_2048, nz_3616, nz_6497, reduceIte, cl_e (show 1 ≤ n by omega), i0, i1, i2, i3, i4, i5, i6, i7]
  rcases hu with ⟨rfl, rfl⟩ | ⟨rfl, rfl⟩
  · simp only [Int.reduceMul, Int.reduceNeg, lw_1, lw_m1]; rw [if_pos (by decide)]; exact cg_p (by simp only [ck]; grind)
  · simp only [Int.reduceMul, Int.reduceNeg, lw_1, lw_m1]; rw [if_neg (by decide)]; exact cg_m (by simp only [ck]; grind)
theorem am_50 (ge go : Int → Int64) (k n : Int) : amL 5 0 ge go k n = shR (161 * (go (clI n (k - 1)) + go (clI n k)) - 46 * (go (clI n (k - 2)) + go (clI n (k + 1))) + 21 * (go (clI n (k - 3)) + go (clI n (k + 2))) - 8 * (go (clI n (k - 4)) + go (clI n (k + 3))) + 128) 8 := by
  unfold amL; rw [if_neg (by decide), if_pos rfl, if_pos rfl]; rw [show bI (cOd 5 0) = 0 from by decide]; unfold prI; simp only [if_pos, if_neg, reduceIte, Int.reduceEq, Int.sub_zero, Int.add_zero, Int.add_assoc, Int.reduceAdd, Int.sub_sub]
theorem lf_50 {un dr k n : Int} (hu : (un = 0 ∧ dr = 1) ∨ (un = 1 ∧ dr = -1)) (hk : 0 ≤ k ∧ k < n) (ge go : Int → Int64) (x : Int64) : lfv go ((firstT 5 + 0) * 12) (stepsT ((firstT 5 + 0) * 12 + 1) * dr) 4 n k x = x + amS 5 0 un (ge, go) k n := by
  have i0 : k - 4 + 0 = k - 4 := by omega
  have i1 : k - 4 + 1 = k - 3 := by omega
  have i2 : k - 4 + 2 = k - 2 := by omega
  have i3 : k - 4 + 3 = k - 1 := by omega
  have i4 : k - 4 + 4 = k := by omega
  have i5 : k - 4 + 5 = k + 1 := by omega
  have i6 : k - 4 + 6 = k + 2 := by omega
  have i7 : k - 4 + 7 = k + 3 := by omega
  have ck := cl_k hk
  unfold amS; rw [am_50]
  unfold lfv wgA; rw [it_8]; unfold wgf
  simp only [fT_5, Int.reduceAdd, Int.reduceMul, sT_96, sT_97, sT_98, sT_99, sT_100, sT_101, sT_102, sT_103, sT_104, sT_105, sT_106, sT_107, lw_m46, lw_m25, lw_m8, lw_m2, lw_m1, lw_0, lw_1, lw_2, lw_4, lw_5, lw_8, lw_9, lw_10, lw_12, lw_16, lw_21, lw_81, lw_128, lw_161, lw_217, lw_1817, lw_2048, lw_3616, lw_6497, nz_m46, nz_m25, nz_m8, nz_m2, nz_m1, nz_1, nz_2, nz_4, nz_5, nz_8, nz_9, nz_10, nz_12, nz_16, nz_21, nz_81, nz_128, nz_161, nz_217, nz_1817, nz_2048, nz_3616, nz_6497, reduceIte, cl_e (show 1 ≤ n by omega), i0, i1, i2, i3, i4, i5, i6, i7]
  rcases hu with ⟨rfl, rfl⟩ | ⟨rfl, rfl⟩
  · simp only [Int.reduceMul, Int.reduceNeg, lw_1, lw_m1]; rw [if_pos (by decide)]; exact cg_p (by grind)
  · simp only [Int.reduceMul, Int.reduceNeg, lw_1, lw_m1]; rw [if_neg (by decide)]; exact cg_m (by grind)
theorem am_51 (ge go : Int → Int64) (k n : Int) : amL 5 1 ge go k n = shR (81 * (ge (clI n k) + ge (clI n (k + 1))) - 25 * (ge (clI n (k - 1)) + ge (clI n (k + 2))) + 10 * (ge (clI n (k - 2)) + ge (clI n (k + 3))) - 2 * (ge (clI n (k - 3)) + ge (clI n (k + 4))) + 128) 8 := by
  unfold amL; rw [if_neg (by decide), if_pos rfl, if_neg (by decide)]; rw [show bI (cOd 5 1) = 1 from by decide]; unfold prI; simp only [if_pos, if_neg, reduceIte, Int.reduceEq, Int.sub_zero, Int.add_zero, Int.add_assoc, Int.reduceAdd, Int.sub_sub]
theorem lf_51 {un dr k n : Int} (hu : (un = 0 ∧ dr = 1) ∨ (un = 1 ∧ dr = -1)) (hk : 0 ≤ k ∧ k < n) (ge go : Int → Int64) (x : Int64) : lfv ge ((firstT 5 + 1) * 12) (stepsT ((firstT 5 + 1) * 12 + 1) * dr) 3 n k x = x + amS 5 1 un (ge, go) k n := by
  have i0 : k - 3 + 0 = k - 3 := by omega
  have i1 : k - 3 + 1 = k - 2 := by omega
  have i2 : k - 3 + 2 = k - 1 := by omega
  have i3 : k - 3 + 3 = k := by omega
  have i4 : k - 3 + 4 = k + 1 := by omega
  have i5 : k - 3 + 5 = k + 2 := by omega
  have i6 : k - 3 + 6 = k + 3 := by omega
  have i7 : k - 3 + 7 = k + 4 := by omega
  have ck := cl_k hk
  unfold amS; rw [am_51]
  unfold lfv wgA; rw [it_8]; unfold wgf
  simp only [fT_5, Int.reduceAdd, Int.reduceMul, sT_108, sT_109, sT_110, sT_111, sT_112, sT_113, sT_114, sT_115, sT_116, sT_117, sT_118, sT_119, lw_m46, lw_m25, lw_m8, lw_m2, lw_m1, lw_0, lw_1, lw_2, lw_4, lw_5, lw_8, lw_9, lw_10, lw_12, lw_16, lw_21, lw_81, lw_128, lw_161, lw_217, lw_1817, lw_2048, lw_3616, lw_6497, nz_m46, nz_m25, nz_m8, nz_m2, nz_m1, nz_1, nz_2, nz_4, nz_5, nz_8, nz_9, nz_10, nz_12, nz_16, nz_21, nz_81, nz_128, nz_161, nz_217, nz_1817, nz_2048, nz_3616, nz_6497, reduceIte, cl_e (show 1 ≤ n by omega), i0, i1, i2, i3, i4, i5, i6, i7]
  rcases hu with ⟨rfl, rfl⟩ | ⟨rfl, rfl⟩
  · simp only [Int.reduceMul, Int.reduceNeg, lw_1, lw_m1]; rw [if_neg (by decide)]; exact cg_m (by grind)
  · simp only [Int.reduceMul, Int.reduceNeg, lw_1, lw_m1]; rw [if_pos (by decide)]; exact cg_p (by grind)
theorem am_60 (ge go : Int → Int64) (k n : Int) : amL 6 0 ge go k n = shR (6497 * (ge (clI n k) + ge (clI n (k + 1))) + 2048) 12 := by
  unfold amL; rw [if_pos rfl, if_pos rfl]; rw [show bI (cOd 6 0) = 1 from by decide]; unfold prI; simp only [if_pos, if_neg, reduceIte, Int.reduceEq, Int.sub_zero, Int.add_zero, Int.add_assoc, Int.reduceAdd, Int.sub_sub]
theorem lf_60 {un dr k n : Int} (hu : (un = 0 ∧ dr = 1) ∨ (un = 1 ∧ dr = -1)) (hk : 0 ≤ k ∧ k < n) (ge go : Int → Int64) (x : Int64) : lfv ge ((firstT 6 + 0) * 12) (stepsT ((firstT 6 + 0) * 12 + 1) * dr) 3 n k x = x + amS 6 0 un (ge, go) k n := by
  have i0 : k - 3 + 0 = k - 3 := by omega
  have i1 : k - 3 + 1 = k - 2 := by omega
  have i2 : k - 3 + 2 = k - 1 := by omega
  have i3 : k - 3 + 3 = k := by omega
  have i4 : k - 3 + 4 = k + 1 := by omega
  have i5 : k - 3 + 5 = k + 2 := by omega
  have i6 : k - 3 + 6 = k + 3 := by omega
  have i7 : k - 3 + 7 = k + 4 := by omega
  have ck := cl_k hk
  unfold amS; rw [am_60]
  unfold lfv wgA; rw [it_8]; unfold wgf
  simp only [fT_6, Int.reduceAdd, Int.reduceMul, sT_120, sT_121, sT_122, sT_123, sT_124, sT_125, sT_126, sT_127, sT_128, sT_129, sT_130, sT_131, lw_m46, lw_m25, lw_m8, lw_m2, lw_m1, lw_0, lw_1, lw_2, lw_4, lw_5, lw_8, lw_9, lw_10, lw_12, lw_16, lw_21, lw_81, lw_128, lw_161, lw_217, lw_1817, lw_2048, lw_3616, lw_6497, nz_m46, nz_m25, nz_m8, nz_m2, nz_m1, nz_1, nz_2, nz_4, nz_5, nz_8, nz_9, nz_10, nz_12, nz_16, nz_21, nz_81, nz_128, nz_161, nz_217, nz_1817, nz_2048, nz_3616, nz_6497, reduceIte, cl_e (show 1 ≤ n by omega), i0, i1, i2, i3, i4, i5, i6, i7]
  rcases hu with ⟨rfl, rfl⟩ | ⟨rfl, rfl⟩
  · simp only [Int.reduceMul, Int.reduceNeg, lw_1, lw_m1]; rw [if_neg (by decide)]; exact cg_m (by grind)
  · simp only [Int.reduceMul, Int.reduceNeg, lw_1, lw_m1]; rw [if_pos (by decide)]; exact cg_p (by grind)
theorem am_61 (ge go : Int → Int64) (k n : Int) : amL 6 1 ge go k n = shR (217 * (go (clI n (k - 1)) + go (clI n k)) + 2048) 12 := by
  unfold amL; rw [if_pos rfl, if_neg (by decide), if_pos rfl]; rw [show bI (cOd 6 1) = 0 from by decide]; unfold prI; simp only [if_pos, if_neg, reduceIte, Int.reduceEq, Int.sub_zero, Int.add_zero, Int.add_assoc, Int.reduceAdd, Int.sub_sub]
theorem lf_61 {un dr k n : Int} (hu : (un = 0 ∧ dr = 1) ∨ (un = 1 ∧ dr = -1)) (hk : 0 ≤ k ∧ k < n) (ge go : Int → Int64) (x : Int64) : lfv go ((firstT 6 + 1) * 12) (stepsT ((firstT 6 + 1) * 12 + 1) * dr) 4 n k x = x + amS 6 1 un (ge, go) k n := by
  have i0 : k - 4 + 0 = k - 4 := by omega
  have i1 : k - 4 + 1 = k - 3 := by omega
  have i2 : k - 4 + 2 = k - 2 := by omega
  have i3 : k - 4 + 3 = k - 1 := by omega
  have i4 : k - 4 + 4 = k := by omega
  have i5 : k - 4 + 5 = k + 1 := by omega
  have i6 : k - 4 + 6 = k + 2 := by omega
  have i7 : k - 4 + 7 = k + 3 := by omega
  have ck := cl_k hk
  unfold amS; rw [am_61]
  unfold lfv wgA; rw [it_8]; unfold wgf
  simp only [fT_6, Int.reduceAdd, Int.reduceMul, sT_132, sT_133, sT_134, sT_135, sT_136, sT_137, sT_138, sT_139, sT_140, sT_141, sT_142, sT_143, lw_m46, lw_m25, lw_m8, lw_m2, lw_m1, lw_0, lw_1, lw_2, lw_4, lw_5, lw_8, lw_9, lw_10, lw_12, lw_16, lw_21, lw_81, lw_128, lw_161, lw_217, lw_1817, lw_2048, lw_3616, lw_6497, nz_m46, nz_m25, nz_m8, nz_m2, nz_m1, nz_1, nz_2, nz_4, nz_5, nz_8, nz_9, nz_10, nz_12, nz_16, nz_21, nz_81, nz_128, nz_161, nz_217, nz_1817, nz_2048, nz_3616, nz_6497, reduceIte, cl_e (show 1 ≤ n by omega), i0, i1, i2, i3, i4, i5, i6, i7]
  rcases hu with ⟨rfl, rfl⟩ | ⟨rfl, rfl⟩
  · simp only [Int.reduceMul, Int.reduceNeg, lw_1, lw_m1]; rw [if_neg (by decide)]; exact cg_m (by grind)
  · simp only [Int.reduceMul, Int.reduceNeg, lw_1, lw_m1]; rw [if_pos (by decide)]; exact cg_p (by grind)
theorem am_62 (ge go : Int → Int64) (k n : Int) : amL 6 2 ge go k n = shR (3616 * (ge (clI n k) + ge (clI n (k + 1))) + 2048) 12 := by
  unfold amL; rw [if_pos rfl, if_neg (by decide), if_neg (by decide), if_pos rfl]; rw [show bI (cOd 6 2) = 1 from by decide]; unfold prI; simp only [if_pos, if_neg, reduceIte, Int.reduceEq, Int.sub_zero, Int.add_zero, Int.add_assoc, Int.reduceAdd, Int.sub_sub]
theorem lf_62 {un dr k n : Int} (hu : (un = 0 ∧ dr = 1) ∨ (un = 1 ∧ dr = -1)) (hk : 0 ≤ k ∧ k < n) (ge go : Int → Int64) (x : Int64) : lfv ge ((firstT 6 + 2) * 12) (stepsT ((firstT 6 + 2) * 12 + 1) * dr) 3 n k x = x + amS 6 2 un (ge, go) k n := by
  have i0 : k - 3 + 0 = k - 3 := by omega
  have i1 : k - 3 + 1 = k - 2 := by omega
  have i2 : k - 3 + 2 = k - 1 := by omega
  have i3 : k - 3 + 3 = k := by omega
  have i4 : k - 3 + 4 = k + 1 := by omega
  have i5 : k - 3 + 5 = k + 2 := by omega
  have i6 : k - 3 + 6 = k + 3 := by omega
  have i7 : k - 3 + 7 = k + 4 := by omega
  have ck := cl_k hk
  unfold amS; rw [am_62]
  unfold lfv wgA; rw [it_8]; unfold wgf
  simp only [fT_6, Int.reduceAdd, Int.reduceMul, sT_144, sT_145, sT_146, sT_147, sT_148, sT_149, sT_150, sT_151, sT_152, sT_153, sT_154, sT_155, lw_m46, lw_m25, lw_m8, lw_m2, lw_m1, lw_0, lw_1, lw_2, lw_4, lw_5, lw_8, lw_9, lw_10, lw_12, lw_16, lw_21, lw_81, lw_128, lw_161, lw_217, lw_1817, lw_2048, lw_3616, lw_6497, nz_m46, nz_m25, nz_m8, nz_m2, nz_m1, nz_1, nz_2, nz_4, nz_5, nz_8, nz_9, nz_10, nz_12, nz_16, nz_21, nz_81, nz_128, nz_161, nz_217, nz_1817, nz_2048, nz_3616, nz_6497, reduceIte, cl_e (show 1 ≤ n by omega), i0, i1, i2, i3, i4, i5, i6, i7]
  rcases hu with ⟨rfl, rfl⟩ | ⟨rfl, rfl⟩
  · simp only [Int.reduceMul, Int.reduceNeg, lw_1, lw_m1]; rw [if_pos (by decide)]; exact cg_p (by grind)
  · simp only [Int.reduceMul, Int.reduceNeg, lw_1, lw_m1]; rw [if_neg (by decide)]; exact cg_m (by grind)
theorem am_63 (ge go : Int → Int64) (k n : Int) : amL 6 3 ge go k n = shR (1817 * (go (clI n (k - 1)) + go (clI n k)) + 2048) 12 := by
  unfold amL; rw [if_pos rfl, if_neg (by decide), if_neg (by decide), if_neg (by decide)]; rw [show bI (cOd 6 3) = 0 from by decide]; unfold prI; simp only [if_pos, if_neg, reduceIte, Int.reduceEq, Int.sub_zero, Int.add_zero, Int.add_assoc, Int.reduceAdd, Int.sub_sub]
theorem lf_63 {un dr k n : Int} (hu : (un = 0 ∧ dr = 1) ∨ (un = 1 ∧ dr = -1)) (hk : 0 ≤ k ∧ k < n) (ge go : Int → Int64) (x : Int64) : lfv go ((firstT 6 + 3) * 12) (stepsT ((firstT 6 + 3) * 12 + 1) * dr) 4 n k x = x + amS 6 3 un (ge, go) k n := by
  have i0 : k - 4 + 0 = k - 4 := by omega
  have i1 : k - 4 + 1 = k - 3 := by omega
  have i2 : k - 4 + 2 = k - 2 := by omega
  have i3 : k - 4 + 3 = k - 1 := by omega
  have i4 : k - 4 + 4 = k := by omega
  have i5 : k - 4 + 5 = k + 1 := by omega
  have i6 : k - 4 + 6 = k + 2 := by omega
  have i7 : k - 4 + 7 = k + 3 := by omega
  have ck := cl_k hk
  unfold amS; rw [am_63]
  unfold lfv wgA; rw [it_8]; unfold wgf
  simp only [fT_6, Int.reduceAdd, Int.reduceMul, sT_156, sT_157, sT_158, sT_159, sT_160, sT_161, sT_162, sT_163, sT_164, sT_165, sT_166, sT_167, lw_m46, lw_m25, lw_m8, lw_m2, lw_m1, lw_0, lw_1, lw_2, lw_4, lw_5, lw_8, lw_9, lw_10, lw_12, lw_16, lw_21, lw_81, lw_128, lw_161, lw_217, lw_1817, lw_2048, lw_3616, lw_6497, nz_m46, nz_m25, nz_m8, nz_m2, nz_m1, nz_1, nz_2, nz_4, nz_5, nz_8, nz_9, nz_10, nz_12, nz_16, nz_21, nz_81, nz_128, nz_161, nz_217, nz_1817, nz_2048, nz_3616, nz_6497, reduceIte, cl_e (show 1 ≤ n by omega), i0, i1, i2, i3, i4, i5, i6, i7]
  rcases hu with ⟨rfl, rfl⟩ | ⟨rfl, rfl⟩
  · simp only [Int.reduceMul, Int.reduceNeg, lw_1, lw_m1]; rw [if_pos (by decide)]; exact cg_p (by grind)
  · simp only [Int.reduceMul, Int.reduceNeg, lw_1, lw_m1]; rw [if_neg (by decide)]; exact cg_m (by grind)
theorem am_t {kd st : Int} (hk : kdst kd st) (h : cOd kd st) (ge go go' : Int → Int64) (k n : Int) : amL kd st ge go k n = amL kd st ge go' k n := by
  rcases ks_c hk with ⟨rfl, rfl⟩ | ⟨rfl, rfl⟩ | ⟨rfl, rfl⟩ | ⟨rfl, rfl⟩ | ⟨rfl, rfl⟩ | ⟨rfl, rfl⟩ | ⟨rfl, rfl⟩ | ⟨rfl, rfl⟩ | ⟨rfl, rfl⟩ | ⟨rfl, rfl⟩ | ⟨rfl, rfl⟩ | ⟨rfl, rfl⟩ | ⟨rfl, rfl⟩ | ⟨rfl, rfl⟩ | ⟨rfl, rfl⟩ | ⟨rfl, rfl⟩
  · rw [am_00, am_00]
  · exact absurd h (by decide)
  · rw [am_10, am_10]
  · exact absurd h (by decide)
  · rw [am_20, am_20]
  · exact absurd h (by decide)
  · rw [am_30, am_30]
  · exact absurd h (by decide)
  · rw [am_40, am_40]
  · exact absurd h (by decide)
  · exact absurd h (by decide)
  · rw [am_51, am_51]
  · rw [am_60, am_60]
  · exact absurd h (by decide)
  · rw [am_62, am_62]
  · exact absurd h (by decide)
theorem am_f {kd st : Int} (hk : kdst kd st) (h : ¬ cOd kd st) (ge ge' go : Int → Int64) (k n : Int) : amL kd st ge go k n = amL kd st ge' go k n := by
  rcases ks_c hk with ⟨rfl, rfl⟩ | ⟨rfl, rfl⟩ | ⟨rfl, rfl⟩ | ⟨rfl, rfl⟩ | ⟨rfl, rfl⟩ | ⟨rfl, rfl⟩ | ⟨rfl, rfl⟩ | ⟨rfl, rfl⟩ | ⟨rfl, rfl⟩ | ⟨rfl, rfl⟩ | ⟨rfl, rfl⟩ | ⟨rfl, rfl⟩ | ⟨rfl, rfl⟩ | ⟨rfl, rfl⟩ | ⟨rfl, rfl⟩ | ⟨rfl, rfl⟩
  · exact absurd h (by decide)
  · rw [am_01, am_01]
  · exact absurd h (by decide)
  · rw [am_11, am_11]
  · exact absurd h (by decide)
  · rw [am_21, am_21]
  · exact absurd h (by decide)
  · rw [am_31, am_31]
  · exact absurd h (by decide)
  · rw [am_41, am_41]
  · rw [am_50, am_50]
  · exact absurd h (by decide)
  · exact absurd h (by decide)
  · rw [am_61, am_61]
  · exact absurd h (by decide)
  · rw [am_63, am_63]
theorem lf_e {kd st un dr k n : Int} (hs : kdst kd st) (hu : (un = 0 ∧ dr = 1) ∨ (un = 1 ∧ dr = -1)) (hk : 0 ≤ k ∧ k < n) (ge go : Int → Int64) (x : Int64) : (cOd kd st → stepsT ((firstT kd + st) * 12) = 1 ∧ lfv ge ((firstT kd + st) * 12) (stepsT ((firstT kd + st) * 12 + 1) * dr) 3 n k x = x + amS kd st un (ge, go) k n) ∧ (¬ cOd kd st → ¬ stepsT ((firstT kd + st) * 12) = 1 ∧ lfv go ((firstT kd + st) * 12) (stepsT ((firstT kd + st) * 12 + 1) * dr) 4 n k x = x + amS kd st un (ge, go) k n) := by
  rcases ks_c hs with ⟨rfl, rfl⟩ | ⟨rfl, rfl⟩ | ⟨rfl, rfl⟩ | ⟨rfl, rfl⟩ | ⟨rfl, rfl⟩ | ⟨rfl, rfl⟩ | ⟨rfl, rfl⟩ | ⟨rfl, rfl⟩ | ⟨rfl, rfl⟩ | ⟨rfl, rfl⟩ | ⟨rfl, rfl⟩ | ⟨rfl, rfl⟩ | ⟨rfl, rfl⟩ | ⟨rfl, rfl⟩ | ⟨rfl, rfl⟩ | ⟨rfl, rfl⟩
  · exact ⟨fun _ => ⟨by decide +kernel, lf_00 hu hk ge go x⟩, fun q => absurd (by decide) q⟩
  · exact ⟨fun q => absurd q (by decide), fun _ => ⟨by decide +kernel, lf_01 hu hk ge go x⟩⟩
  · exact ⟨fun _ => ⟨by decide +kernel, lf_10 hu hk ge go x⟩, fun q => absurd (by decide) q⟩
  · exact ⟨fun q => absurd q (by decide), fun _ => ⟨by decide +kernel, lf_11 hu hk ge go x⟩⟩
  · exact ⟨fun _ => ⟨by decide +kernel, lf_20 hu hk ge go x⟩, fun q => absurd (by decide) q⟩
  · exact ⟨fun q => absurd q (by decide), fun _ => ⟨by decide +kernel, lf_21 hu hk ge go x⟩⟩
  · exact ⟨fun _ => ⟨by decide +kernel, lf_30 hu hk ge go x⟩, fun q => absurd (by decide) q⟩
  · exact ⟨fun q => absurd q (by decide), fun _ => ⟨by decide +kernel, lf_31 hu hk ge go x⟩⟩
  · exact ⟨fun _ => ⟨by decide +kernel, lf_40 hu hk ge go x⟩, fun q => absurd (by decide) q⟩
  · exact ⟨fun q => absurd q (by decide), fun _ => ⟨by decide +kernel, lf_41 hu hk ge go x⟩⟩
  · exact ⟨fun q => absurd q (by decide), fun _ => ⟨by decide +kernel, lf_50 hu hk ge go x⟩⟩
  · exact ⟨fun _ => ⟨by decide +kernel, lf_51 hu hk ge go x⟩, fun q => absurd (by decide) q⟩
  · exact ⟨fun _ => ⟨by decide +kernel, lf_60 hu hk ge go x⟩, fun q => absurd (by decide) q⟩
  · exact ⟨fun q => absurd q (by decide), fun _ => ⟨by decide +kernel, lf_61 hu hk ge go x⟩⟩
  · exact ⟨fun _ => ⟨by decide +kernel, lf_62 hu hk ge go x⟩, fun q => absurd (by decide) q⟩
  · exact ⟨fun q => absurd q (by decide), fun _ => ⟨by decide +kernel, lf_63 hu hk ge go x⟩⟩
/-- the reference's step, at once -/
theorem dsK_v {kd st un n : Int} (hk : kdst kd st) (hn : 0 ≤ n) (x : eo) : dsK kd st un n x = if cOd kd st then (x.1, fun k => if 0 ≤ k ∧ k < n then x.2 k + amS kd st un x k n else x.2 k) else ((fun k => if 0 ≤ k ∧ k < n then x.1 k + amS kd st un x k n else x.1 k), x.2) := by
  unfold dsK
  by_cases c : cOd kd st
  · rw [if_pos c]
    have e : it (dsf kd st un n) 0 n x = (x.1, it (fun k t => up t k (t k + amS kd st un x k n)) 0 n x.2) := by
      refine it_rel (R := fun (y : eo) (t : Int → Int64) => y = (x.1, t)) rfl (fun i y t _ _ hy => ?_)
      subst hy
      show dsf kd st un n i (x.1, t) = _
      unfold dsf
      rw [if_pos c]
      simp only [up_id]
      unfold amS
      rw [am_t hk c x.1 t x.2]
    rw [e]
    congr 1
    funext j
    exact it_map (F := fun k (v : Int64) => v + amS kd st un x k n) hn x.2 j
  · rw [if_neg c]
    have e : it (dsf kd st un n) 0 n x = (it (fun k t => up t k (t k + amS kd st un x k n)) 0 n x.1, x.2) := by
      refine it_rel (R := fun (y : eo) (t : Int → Int64) => y = (t, x.2)) rfl (fun i y t _ _ hy => ?_)
      subst hy
      show dsf kd st un n i (t, x.2) = _
      unfold dsf
      rw [if_neg c]
      simp only [up_id]
      unfold amS
      rw [am_f hk c t x.1 x.2]
    rw [e]
    congr 1
    funext j
    exact it_map (F := fun k (v : Int64) => v + amS kd st un x k n) hn x.1 j
/-- the class's step, at once -/
theorem lfK_v {st dr n : Int} (hn : 0 ≤ n) (x : eo) : lfK st dr n n x = if stepsT (st * 12) = 1 then (x.1, fun k => if 0 ≤ k ∧ k < n then lfv x.1 (st * 12) (stepsT (st * 12 + 1) * dr) 3 n k (x.2 k) else x.2 k) else ((fun k => if 0 ≤ k ∧ k < n then lfv x.2 (st * 12) (stepsT (st * 12 + 1) * dr) 4 n k (x.1 k) else x.1 k), x.2) := by
  unfold lfK
  split
  · congr 1
    funext j
    exact it_map (F := fun k (v : Int64) => lfv x.1 (st * 12) (stepsT (st * 12 + 1) * dr) 3 n k v) hn x.2 j
  · congr 1
    funext j
    exact it_map (F := fun k (v : Int64) => lfv x.2 (st * 12) (stepsT (st * 12 + 1) * dr) 4 n k v) hn x.1 j
theorem amS_e {kd st un k n : Int} {x y : eo} (hs : kdst kd st) (hk : 0 ≤ k ∧ k < n) (h : eqE n x y) : amS kd st un x k n = amS kd st un y k n := by
  have c : ∀ z, x.1 (clI n z) = y.1 (clI n z) ∧ x.2 (clI n z) = y.2 (clI n z) := fun z => h _ (cl_r (by omega)).1 (cl_r (by omega)).2
  have c1 := fun z => (c z).1
  have c2 := fun z => (c z).2
  have k1 := (h k hk.1 hk.2).1
  have k2 := (h k hk.1 hk.2).2
  have e : amL kd st x.1 x.2 k n = amL kd st y.1 y.2 k n := by
    rcases ks_c hs with ⟨rfl, rfl⟩ | ⟨rfl, rfl⟩ | ⟨rfl, rfl⟩ | ⟨rfl, rfl⟩ | ⟨rfl, rfl⟩ | ⟨rfl, rfl⟩ | ⟨rfl, rfl⟩ | ⟨rfl, rfl⟩ | ⟨rfl, rfl⟩ | ⟨rfl, rfl⟩ | ⟨rfl, rfl⟩ | ⟨rfl, rfl⟩ | ⟨rfl, rfl⟩ | ⟨rfl, rfl⟩ | ⟨rfl, rfl⟩ | ⟨rfl, rfl⟩
    · simp only [am_00, c1, c2, k1, k2]
    · simp only [am_01, c1, c2, k1, k2]
    · simp only [am_10, c1, c2, k1, k2]
    · simp only [am_11, c1, c2, k1, k2]
    · simp only [am_20, c1, c2, k1, k2]
    · simp only [am_21, c1, c2, k1, k2]
    · simp only [am_30, c1, c2, k1, k2]
    · simp only [am_31, c1, c2, k1, k2]
    · simp only [am_40, c1, c2, k1, k2]
    · simp only [am_41, c1, c2, k1, k2]
    · simp only [am_50, c1, c2, k1, k2]
    · simp only [am_51, c1, c2, k1, k2]
    · simp only [am_60, c1, c2, k1, k2]
    · simp only [am_61, c1, c2, k1, k2]
    · simp only [am_62, c1, c2, k1, k2]
    · simp only [am_63, c1, c2, k1, k2]
  unfold amS
  rw [e]
/-- a step of the class is the reference's, on the places that count -/
theorem st_e {kd st un dr n : Int} {x y : eo} (hs : kdst kd st) (hu : (un = 0 ∧ dr = 1) ∨ (un = 1 ∧ dr = -1)) (hn : 0 ≤ n) (h : eqE n x y) : eqE n (lfK (firstT kd + st) dr n n x) (dsK kd st un n y) := by
  intro k k0 k1
  have hk := h k k0 k1
  have e := lf_e hs hu ⟨k0, k1⟩ x.1 x.2
  have ea := amS_e (un := un) hs ⟨k0, k1⟩ h
  rw [lfK_v hn, dsK_v hs hn]
  by_cases c : cOd kd st
  · have e1 := (e (x.2 k)).1 c
    rw [if_pos c, if_pos e1.1]
    dsimp only
    rw [if_pos ⟨k0, k1⟩, if_pos ⟨k0, k1⟩, e1.2]
    exact ⟨hk.1, by rw [hk.2, ← ea]⟩
  · have e1 := (e (x.1 k)).2 c
    rw [if_neg c, if_neg e1.1]
    dsimp only
    rw [if_pos ⟨k0, k1⟩, if_pos ⟨k0, k1⟩, e1.2]
    exact ⟨by rw [hk.1, ← ea], hk.2⟩
theorem cnt_e {kd : Int} (h : 0 ≤ kd ∧ kd ≤ 6) : countT kd = stc kd := by
  rcases (show kd = 0 ∨ kd = 1 ∨ kd = 2 ∨ kd = 3 ∨ kd = 4 ∨ kd = 5 ∨ kd = 6 by omega) with rfl | rfl | rfl | rfl | rfl | rfl | rfl <;> decide +kernel
theorem sp_e {kd n : Int} {x y : eo} (hk : 0 ≤ kd ∧ kd ≤ 6) (hn : 0 ≤ n) (h : eqE n x y) : eqE n (spK kd n (countT kd) x) (tuE kd 0 n (stc kd) (stc kd) y) := by
  rw [cnt_e hk]
  refine it_rel h (fun i x y i0 i1 hx => ?_)
  show eqE n (lfK (firstT kd + i) 1 n n x) (dsK kd (stI 0 (stc kd) i) 0 n y)
  rw [show stI 0 (stc kd) i = i from if_pos rfl]
  exact st_e ⟨hk, i0, i1⟩ (Or.inl ⟨rfl, rfl⟩) hn hx
theorem jn_e {kd n : Int} {x y : eo} (hk : 0 ≤ kd ∧ kd ≤ 6) (hn : 0 ≤ n) (h : eqE n x y) : eqE n (jnK kd n (countT kd) x) (tuE kd 1 n (stc kd) (stc kd) y) := by
  rw [cnt_e hk]
  refine it_rel h (fun i x y i0 i1 hx => ?_)
  show eqE n (lfK (firstT kd + (countT kd - 1 - i)) (-1) n n x) (dsK kd (stI 1 (stc kd) i) 1 n y)
  rw [show stI 1 (stc kd) i = stc kd - 1 - i from if_neg (by decide), cnt_e hk]
  exact st_e ⟨hk, by omega, by omega⟩ (Or.inr ⟨rfl, rfl⟩) hn hx
/-- lines: lists that agree on the places Z -/
def eqZ (Z : Int → Prop) (a b : Int → Int64) : Prop := ∀ j, Z j → a j = b j
theorem ld_e {Z : Int → Prop} {a b : Int → Int64} {pe po : Int → Int} {n : Int} {x y : eo} (h : eqZ Z a b) (hp : ∀ k, 0 ≤ k → k < n → Z (pe k) ∧ Z (po k)) (hn : 0 ≤ n) : eqE n (it (ldf a pe po) 0 n x) (it (ldf b pe po) 0 n y) := by
  have key : ∀ (a : Int → Int64) (x : eo), ∀ k, 0 ≤ k → k < n → (it (ldf a pe po) 0 n x).1 k = a (pe k) ∧ (it (ldf a pe po) 0 n x).2 k = a (po k) := by
    intro a x
    refine it_inv (f := ldf a pe po) (I := fun i (z : eo) => ∀ k, 0 ≤ k → k < i → z.1 k = a (pe k) ∧ z.2 k = a (po k)) (fun k h1 h2 => by omega) ?_ hn
    intro i z h1 h2 hz k k0 k1
    show up z.1 i (a (pe i)) k = _ ∧ up z.2 i (a (po i)) k = _
    by_cases e : k = i
    · subst e; rw [up_self, up_self]; exact ⟨rfl, rfl⟩
    · rw [up_ne _ _ e, up_ne _ _ e]; exact hz k k0 (by omega)
  intro k k0 k1
  have h1 := key a x k k0 k1
  have h2 := key b y k k0 k1
  have h3 := hp k k0 k1
  rw [h1.1, h1.2, h2.1, h2.2]
  exact ⟨h _ h3.1, h _ h3.2⟩
theorem eqZ_up {Z : Int → Prop} {a b : Int → Int64} (h : eqZ Z a b) (k : Int) {v w : Int64} (e : v = w) : eqZ Z (up a k v) (up b k w) := by
  intro j hj
  subst e
  unfold up
  split
  · rfl
  · exact h j hj
theorem stf_e {Z : Int → Prop} {a b : Int → Int64} {pe po : Int → Int} {n : Int} {x y : eo} (h : eqZ Z a b) (hx : eqE n x y) : eqZ Z (it (stf x pe po) 0 n a) (it (stf y pe po) 0 n b) :=
  it_rel h (fun i a b i0 i1 ha => eqZ_up (eqZ_up ha _ (hx i i0 i1).1) _ (hx i i0 i1).2)
theorem pe0 (s d : Int) : peI 0 s d = p2k s d := by funext k; exact if_pos rfl
theorem po0 (s d n : Int) : poI 0 s d n = p2o s d := by funext k; exact if_pos rfl
theorem qe0 (s d : Int) : qeI 0 s d = p1k s d := by funext k; exact if_pos rfl
theorem qo0 (s d n : Int) : qoI 0 s d n = p1n s d n := by funext k; exact if_pos rfl
theorem pe1 (s d : Int) : peI 1 s d = p1k s d := by funext k; exact if_neg (by decide)
theorem po1 (s d n : Int) : poI 1 s d n = p1n s d n := by funext k; exact if_neg (by decide)
theorem qe1 (s d : Int) : qeI 1 s d = p2k s d := by funext k; exact if_neg (by decide)
theorem qo1 (s d n : Int) : qoI 1 s d n = p2o s d := by funext k; exact if_neg (by decide)
theorem spL_e {Z : Int → Prop} {s d n kd : Int} {x y : aeo} (hk : 0 ≤ kd ∧ kd ≤ 6) (hn : 0 ≤ n) (h : eqZ Z x.1 y.1) (hz : ∀ k, 0 ≤ k → k < 2 * n → Z (s + k * d)) : eqZ Z (spL s d n kd x).1 (tuL s d n 0 kd y).1 := by
  unfold spL tuL
  rw [pe0, po0, qe0, qo0]
  exact stf_e h (sp_e hk hn (ld_e h (fun k k0 k1 => ⟨hz (2 * k) (by omega) (by omega), hz (2 * k + 1) (by omega) (by omega)⟩) hn))
theorem jnL_e {Z : Int → Prop} {s d n kd : Int} {x y : aeo} (hk : 0 ≤ kd ∧ kd ≤ 6) (hn : 0 ≤ n) (h : eqZ Z x.1 y.1) (hz : ∀ k, 0 ≤ k → k < 2 * n → Z (s + k * d)) : eqZ Z (jnL s d n kd x).1 (tuL s d n 1 kd y).1 := by
  unfold jnL tuL
  rw [pe1, po1, qe1, qo1]
  exact stf_e h (jn_e hk hn (ld_e h (fun k k0 k1 => ⟨hz k (by omega) (by omega), hz (n + k) (by omega) (by omega)⟩) hn))
/-- two loops that go over a rectangle, each place from its own old value -/
theorem it_rect {α : Type} {F : Int → α → α} {w h : Int} (hw : 0 ≤ w ∧ w ≤ 16) (hh : 0 ≤ h) (t : Int → α) (j : Int) : it (fun y f => it (fun x f => up f (y * 16 + x) (F (y * 16 + x) (f (y * 16 + x)))) 0 w f) 0 h t j = if (0 ≤ j ∧ j % 16 < w) ∧ j / 16 < h then F j (t j) else t j := by
  have row : ∀ (y : Int) (f : Int → α) (j : Int), it (fun x (f : Int → α) => up f (y * 16 + x) (F (y * 16 + x) (f (y * 16 + x)))) 0 w f j = if j / 16 = y ∧ j % 16 < w then F j (f j) else f j := by
    intro y f
    have := it_inv (f := fun x (f : Int → α) => up f (y * 16 + x) (F (y * 16 + x) (f (y * 16 + x)))) (a := 0) (b := w) (x := f) (I := fun i (u : Int → α) => ∀ j, u j = if j / 16 = y ∧ j % 16 < i then F j (f j) else f j) (fun j => by rw [if_neg (by omega)]) (fun i u h1 h2 hu j => by
      show up u (y * 16 + i) (F (y * 16 + i) (u (y * 16 + i))) j = _
      by_cases e : j = y * 16 + i
      · subst e
        rw [up_self, if_pos (by omega), hu, if_neg (by omega)]
      · rw [up_ne _ _ e, hu j]
        by_cases q : j / 16 = y ∧ j % 16 < i
        · rw [if_pos q, if_pos (by omega)]
        · rw [if_neg q, if_neg (by omega)]) hw.1
    exact this
  refine it_inv (f := fun y (f : Int → α) => it (fun x (f : Int → α) => up f (y * 16 + x) (F (y * 16 + x) (f (y * 16 + x)))) 0 w f) (I := fun i (u : Int → α) => ∀ j, u j = if (0 ≤ j ∧ j % 16 < w) ∧ j / 16 < i then F j (t j) else t j) (fun j => by rw [if_neg (by omega)]) ?_ hh j
  intro y u h1 h2 hu j
  show it (fun x (f : Int → α) => up f (y * 16 + x) (F (y * 16 + x) (f (y * 16 + x)))) 0 w u j = _
  rw [row y u j, hu j]
  by_cases q : j / 16 = y ∧ j % 16 < w
  · rw [if_pos q, if_neg (by omega), if_pos (by omega)]
  · rw [if_neg q]
    by_cases q2 : (0 ≤ j ∧ j % 16 < w) ∧ j / 16 < y
    · rw [if_pos q2, if_pos (by omega)]
    · rw [if_neg q2, if_neg (by omega)]
/-! levels -/
theorem it_id {σ : Type} {f : Int → σ → σ} {a b : Int} {x : σ} (h : ∀ i y, f i y = y) : it f a b x = x := it_c h
theorem it_split {σ : Type} {f : Int → σ → σ} {a b c : Int} (h1 : a ≤ b) (h2 : b ≤ c) (x : σ) : it f a c x = it f b c (it f a b x) := by
  obtain ⟨n, rfl⟩ : ∃ n : Nat, c = b + n := ⟨(c - b).toNat, by omega⟩
  clear h2
  induction n with
  | zero => rw [show b + ((0 : Nat) : Int) = b by omega, it_self]
  | succ n ih =>
    have e : b + ((n + 1 : Nat) : Int) = (b + n) + 1 := by omega
    rw [e, it_s f x (by omega), it_s f _ (by omega), ih]
theorem it_shift {σ : Type} {f : Int → σ → σ} {a b : Int} (d : Int) (h : a ≤ b) (x : σ) : it f (a + d) (b + d) x = it (fun i => f (i + d)) a b x := by
  obtain ⟨n, rfl⟩ : ∃ n : Nat, b = a + n := ⟨(b - a).toNat, by omega⟩
  clear h
  induction n with
  | zero => rw [show a + ((0 : Nat) : Int) = a by omega, it_self, it_self]
  | succ n ih =>
    have e : a + ((n + 1 : Nat) : Int) = (a + n) + 1 := by omega
    rw [e, show a + (n : Int) + 1 + d = (a + n + d) + 1 by omega, it_s f x (by omega), it_s _ x (by omega), ih]
theorem shL_1 (x : Int64) : shL x 1 = 2 * x := by
  unfold shL
  have e : ((iv 1).toInt64 &&& 63) = 1 := by decide
  rw [e]
  apply Int64.toBitVec_inj.mp
  rw [Int64.toBitVec_mul]
  show x.toBitVec <<< _ = _
  have e2 : ((1 : Int64).toBitVec.smod 64) = 1#64 := by decide
  rw [e2]
  show x.toBitVec <<< (1 : Nat) = 2#64 * x.toBitVec
  rw [BitVec.shiftLeft_eq_mul_twoPow, BitVec.mul_comm]
  rfl
/-- a rectangle of the list -/
abbrev inZ (w h j : Int) : Prop := (0 ≤ j ∧ j % 16 < w) ∧ j / 16 < h
theorem ra_e {Z : Int → Prop} {w h kd : Int} {a b : Int → Int64} (hk : 0 ≤ kd ∧ kd ≤ 6) (hw : 0 ≤ w ∧ w ≤ 16) (hh : 0 ≤ h ∧ h ≤ 16) (e : eqZ Z a b) : eqZ Z (raA w h (gainT kd) a) (it (rg1 (gainT kd) w h 0) 0 256 b) := by
  intro j hj
  have e1 : raA w h (gainT kd) a j = if inZ w h j then shL (a j) (gainT kd) else a j := it_rect (F := fun _ v => shL v (gainT kd)) hw hh.1 a j
  rw [e1]
  by_cases g : gainT kd = 0
  · rw [it_id (fun i y => rg1_c (Or.inl g) i y), g, ← e j hj]
    have : shL (a j) 0 = a j := by
      unfold shL
      have e : ((iv 0).toInt64 &&& 63) = 0 := by decide
      rw [e]
      simp
    rw [this]; split <;> rfl
  · have g1 : gainT kd = 1 := by have := gainT_r kd; omega
    have e2 : it (rg1 (gainT kd) w h 0) 0 256 b j = if 0 ≤ j ∧ j < 256 then (if j % 16 < w ∧ j / 16 < h then 2 * b j else b j) else b j := by
      have : rg1 (gainT kd) w h 0 = fun k t => up t k (if k % 16 < w ∧ k / 16 < h then 2 * t k else t k) := by
        funext k t
        unfold rg1
        rw [if_neg (by omega)]
        split <;> rfl
      rw [this]
      exact it_map (F := fun k (v : Int64) => if k % 16 < w ∧ k / 16 < h then 2 * v else v) (by omega) b j
    rw [e2, g1, shL_1, e j hj]
    by_cases q : inZ w h j
    · rw [if_pos q, if_pos (by omega), if_pos (by omega)]
    · rw [if_neg q]
      by_cases q2 : 0 ≤ j ∧ j < 256
      · rw [if_pos q2, if_neg (by omega)]
      · rw [if_neg q2]
theorem lo_e {Z : Int → Prop} {w h kd : Int} {a b : Int → Int64} (hk : 0 ≤ kd ∧ kd ≤ 6) (hw : 0 ≤ w ∧ w ≤ 16) (hh : 0 ≤ h ∧ h ≤ 16) (e : eqZ Z a b) : eqZ Z (loA w h (gainT kd) a) (it (rg5 (gainT kd) w h 1) 0 256 b) := by
  intro j hj
  have e1 : loA w h (gainT kd) a j = if inZ w h j then shR (a j + lw (gainT kd)) (gainT kd) else a j := it_rect (F := fun _ v => shR (v + lw (gainT kd)) (gainT kd)) hw hh.1 a j
  rw [e1]
  by_cases g : gainT kd = 0
  · rw [it_id (fun i y => rg5_c (Or.inl g) i y), g, ← e j hj, sh_0]
    have : a j + lw 0 = a j := by rw [lw_0]; grind
    rw [this]; split <;> rfl
  · have g1 : gainT kd = 1 := by have := gainT_r kd; omega
    have e2 : it (rg5 (gainT kd) w h 1) 0 256 b j = if 0 ≤ j ∧ j < 256 then (if j % 16 < w ∧ j / 16 < h then shR (b j + 1) 1 else b j) else b j := by
      have : rg5 (gainT kd) w h 1 = fun k t => up t k (if k % 16 < w ∧ k / 16 < h then shR (t k + 1) 1 else t k) := by
        funext k t
        unfold rg5
        rw [if_neg (by omega)]
        split <;> rfl
      rw [this]
      exact it_map (F := fun k (v : Int64) => if k % 16 < w ∧ k / 16 < h then shR (v + 1) 1 else v) (by omega) b j
    rw [e2, g1, lw_1, e j hj]
    by_cases q : inZ w h j
    · rw [if_pos q, if_pos (by omega), if_pos (by omega)]
    · rw [if_neg q]
      by_cases q2 : 0 ≤ j ∧ j < 256
      · rw [if_pos q2, if_neg (by omega)]
      · rw [if_neg q2]
/-- one level up, one level down: class and reference on a rectangle cP × cQ -/
theorem fw1 {cP cQ w h kd ct : Int} {x y : aeo} (hk : 0 ≤ kd ∧ kd ≤ 6) (hw : 0 ≤ w ∧ w ≤ cP ∧ cP ≤ 16) (hh : 0 ≤ h ∧ h ≤ cQ ∧ cQ ≤ 16) (e : eqZ (inZ cP cQ) x.1 y.1) : eqZ (inZ cP cQ) (if ¬ ct = 0 then spC w h kd (spR w h kd (raA w h (gainT kd) x.1, x.2)) else spR w h kd (raA w h (gainT kd) x.1, x.2)).1 (rgA kd w h ct 0 y).1 := by
  have s1 := ra_e (w := w) (h := h) hk ⟨hw.1, by omega⟩ ⟨hh.1, by omega⟩ e
  have s3 : eqZ (inZ cP cQ) (spR w h kd (raA w h (gainT kd) x.1, x.2)).1 (it (rg3 kd w 0) 0 h (it (rg1 (gainT kd) w h 0) 0 256 y.1, y.2)).1 := by
    unfold spR
    refine it_rel (R := fun (u v : aeo) => eqZ (inZ cP cQ) u.1 v.1) s1 (fun i u v i0 i1 hu => ?_)
    show eqZ _ (spL (i * 16) 1 (w / 2) kd u).1 (tuL (16 * i) 1 (w / 2) 0 kd v).1
    rw [Int.mul_comm 16 i]
    refine spL_e hk (by omega) hu (fun k k0 k1 => ?_)
    rw [Int.mul_one]
    omega
  unfold rgA
  dsimp only
  rw [it_id (fun i y => rg5_c (Or.inr rfl) i y), it_id (f := rg2 kd h ct 0) (fun i y => rg2_c (Or.inr rfl) i y)]
  by_cases c : ct = 0
  · rw [if_neg (fun q => q c), it_id (f := rg4 kd h ct 0) (fun i y => rg4_c (Or.inl c) i y)]
    exact s3
  · rw [if_pos c]
    refine it_rel (R := fun (u v : aeo) => eqZ (inZ cP cQ) u.1 v.1) s3 (fun i u v i0 i1 hu => ?_)
    show eqZ _ (spL i 16 (h / 2) kd u).1 (rg4 kd h ct 0 i v).1
    unfold rg4
    rw [if_neg (by omega)]
    exact spL_e hk (by omega) hu (fun k k0 k1 => by omega)
theorem bw1 {cP cQ w h kd ct : Int} {x y : aeo} (hk : 0 ≤ kd ∧ kd ≤ 6) (hw : 0 ≤ w ∧ w ≤ cP ∧ cP ≤ 16) (hh : 0 ≤ h ∧ h ≤ cQ ∧ cQ ≤ 16) (e : eqZ (inZ cP cQ) x.1 y.1) : eqZ (inZ cP cQ) (loA w h (gainT kd) (jnR w h kd (if ¬ ct = 0 then jnC w h kd x else x)).1) (rgA kd w h ct 1 y).1 := by
  unfold rgA
  dsimp only
  rw [it_id (f := rg1 (gainT kd) w h 1) (fun i y => rg1_c (Or.inr (by decide)) i y), it_id (f := rg4 kd h ct 1) (fun i y => rg4_c (Or.inr (by decide)) i y)]
  refine lo_e hk ⟨hw.1, by omega⟩ ⟨hh.1, by omega⟩ ?_
  have s2 : eqZ (inZ cP cQ) (if ¬ ct = 0 then jnC w h kd x else x).1 (it (rg2 kd h ct 1) 0 w y).1 := by
    by_cases c : ct = 0
    · rw [if_neg (fun q => q c), it_id (f := rg2 kd h ct 1) (fun i y => rg2_c (Or.inl c) i y)]
      exact e
    · rw [if_pos c]
      refine it_rel (R := fun (u v : aeo) => eqZ (inZ cP cQ) u.1 v.1) e (fun i u v i0 i1 hu => ?_)
      show eqZ _ (jnL i 16 (h / 2) kd u).1 (rg2 kd h ct 1 i v).1
      unfold rg2
      rw [if_neg (by omega)]
      exact jnL_e hk (by omega) hu (fun k k0 k1 => by omega)
  unfold jnR
  refine it_rel (R := fun (u v : aeo) => eqZ (inZ cP cQ) u.1 v.1) s2 (fun i u v i0 i1 hu => ?_)
  show eqZ _ (jnL (i * 16) 1 (w / 2) kd u).1 (tuL (16 * i) 1 (w / 2) 1 kd v).1
  rw [Int.mul_comm 16 i]
  refine jnL_e hk (by omega) hu (fun k k0 k1 => ?_)
  rw [Int.mul_one]
  omega
theorem lv_le {c : Int} (k : Nat) (h : 0 ≤ c) : 0 ≤ c / 2 ^ k ∧ c / 2 ^ k ≤ c := ⟨Int.ediv_nonneg h (by have := p2_1 k; omega), Int.ediv_le_self _ h⟩
/-- the coefficients of class and reference are the same -/
theorem fw_e {cP cQ db ew kd : Int} {x y : aeo} (hk : 0 ≤ kd ∧ kd ≤ 6) (hP : 0 ≤ cP ∧ cP ≤ 16) (hQ : 0 ≤ cQ ∧ cQ ≤ 16) (hd : 0 ≤ db ∧ 0 ≤ ew) (e : eqZ (inZ cP cQ) x.1 y.1) : eqZ (inZ cP cQ) (fwA cP cQ db ew kd x).1 (fmW cP cQ db ew kd y).1 := by
  unfold fwA fmW
  rw [it_split (b := db) hd.1 (by omega)]
  have s1 : eqZ (inZ cP cQ) (it (fwf cP cQ db kd) 0 db x).1 (it (fmL1 cP cQ kd) 0 db y).1 := by
    refine it_rel (R := fun (u v : aeo) => eqZ (inZ cP cQ) u.1 v.1) e (fun i u v i0 i1 hu => ?_)
    have := fw1 (cP := cP) (cQ := cQ) (w := cP / 2 ^ i.toNat) (h := cQ / 2 ^ i.toNat) (ct := 1) hk ⟨(lv_le _ hP.1).1, (lv_le _ hP.1).2, hP.2⟩ ⟨(lv_le _ hQ.1).1, (lv_le _ hQ.1).2, hQ.2⟩ hu
    rw [if_pos (by decide)] at this
    unfold fwf fmL1 lvW lvH
    dsimp only
    rw [if_pos i1, show min i db = i by omega]
    exact this
  refine it_rel (R := fun (u v : aeo) => eqZ (inZ cP cQ) u.1 v.1) s1 (fun i u v i0 i1 hu => ?_)
  have := fw1 (cP := cP) (cQ := cQ) (w := cP / 2 ^ i.toNat) (h := cQ / 2 ^ db.toNat) (ct := 0) hk ⟨(lv_le _ hP.1).1, (lv_le _ hP.1).2, hP.2⟩ ⟨(lv_le _ hQ.1).1, (lv_le _ hQ.1).2, hQ.2⟩ hu
  rw [if_neg (by decide)] at this
  unfold fwf fmL2 lvW lvH
  dsimp only
  rw [if_neg (by omega), show min i db = db by omega]
  exact this
theorem bw_e {cP cQ db ew kd : Int} {x y : aeo} (hk : 0 ≤ kd ∧ kd ≤ 6) (hP : 0 ≤ cP ∧ cP ≤ 16) (hQ : 0 ≤ cQ ∧ cQ ≤ 16) (hd : 0 ≤ db ∧ 0 ≤ ew) (e : eqZ (inZ cP cQ) x.1 y.1) : eqZ (inZ cP cQ) (bwA cP cQ db ew kd x).1 (bmW cP cQ db ew kd y).1 := by
  unfold bwA bmW
  rw [it_split (b := ew) hd.2 (by omega)]
  have s1 : eqZ (inZ cP cQ) (it (fun k y => bwf cP cQ db kd (db + ew - 1 - k) y) 0 ew x).1 (it (fun k y => bmL1 cP cQ db kd (db + ew - 1 - k) y) 0 ew y).1 := by
    refine it_rel (R := fun (u v : aeo) => eqZ (inZ cP cQ) u.1 v.1) e (fun i u v i0 i1 hu => ?_)
    have := bw1 (cP := cP) (cQ := cQ) (w := cP / 2 ^ (db + ew - 1 - i).toNat) (h := cQ / 2 ^ db.toNat) (ct := 0) hk ⟨(lv_le _ hP.1).1, (lv_le _ hP.1).2, hP.2⟩ ⟨(lv_le _ hQ.1).1, (lv_le _ hQ.1).2, hQ.2⟩ hu
    rw [if_neg (by decide)] at this
    unfold bwf bmL1 lvW lvH
    dsimp only
    rw [if_neg (by omega), show min (db + ew - 1 - i) db = db by omega]
    exact this
  have e2 := it_shift (f := fun k y => bwf cP cQ db kd (db + ew - 1 - k) y) (a := 0) (b := db) ew hd.1 (it (fun k y => bwf cP cQ db kd (db + ew - 1 - k) y) 0 ew x)
  rw [Int.zero_add] at e2
  rw [e2]
  refine it_rel (R := fun (u v : aeo) => eqZ (inZ cP cQ) u.1 v.1) s1 (fun i u v i0 i1 hu => ?_)
  have := bw1 (cP := cP) (cQ := cQ) (w := cP / 2 ^ (db - 1 - i).toNat) (h := cQ / 2 ^ (db - 1 - i).toNat) (ct := 1) hk ⟨(lv_le _ hP.1).1, (lv_le _ hP.1).2, hP.2⟩ ⟨(lv_le _ hQ.1).1, (lv_le _ hQ.1).2, hQ.2⟩ hu
  rw [if_pos (by decide)] at this
  show eqZ _ (bwf cP cQ db kd (db + ew - 1 - (i + ew)) u).1 _
  rw [show db + ew - 1 - (i + ew) = db - 1 - i by omega]
  unfold bwf bmL2 lvW lvH
  dsimp only
  rw [if_pos (by omega), show min (db - 1 - i) db = db - 1 - i by omega]
  exact this

