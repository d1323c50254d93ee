/-! cutting bands into slices: (how many so far, places, bands) -/
def cutI (w a i : Int) : Int := w * i / a
theorem cut_r {w a i : Int} (hw : 0 ≤ w ∧ w ≤ 16) (ha : 1 ≤ a ∧ a ≤ 4) (hi : 0 ≤ i ∧ i ≤ 4) : 0 ≤ cutI w a i ∧ cutI w a i ≤ 64 ∧ 0 ≤ w * i ∧ w * i ≤ 64 := by
  have h := mul_r (a := w) (b := i) (A := 16) (B := 4) hw hi
  have h2 := Int.ediv_le_self a h.1
  have h3 := Int.ediv_nonneg (b := a) h.1 (by omega)
  unfold cutI
  omega
theorem cut_m {w a i : Int} (hw : 0 ≤ w) (ha : 1 ≤ a) : cutI w a i ≤ cutI w a (i + 1) := by
  unfold cutI
  exact Int.ediv_le_ediv (by omega) (Int.mul_le_mul_of_nonneg_left (by omega) hw)
abbrev lst3 : Type := Int × (Int → Int) × (Int → Int)
def psh (p b : Int) (x : lst3) : lst3 := (x.1 + 1, up x.2.1 x.1 p, up x.2.2 x.1 b)
def prx (l t b y : Int) : Int → lst3 → lst3 := fun x st => psh ((t + y) * 16 + l + x) b st
def pry (l t b xs xe : Int) : Int → lst3 → lst3 := fun y st => it (prx l t b y) xs xe st
/-- the part of band b (left l, top t, w wide, h high) that slice s has -/
def prt (l t w h b ac dn s : Int) (x : lst3) : lst3 := it (pry l t b (cutI w ac (s % ac)) (cutI w ac (s % ac + 1))) (cutI h dn (s / ac)) (cutI h dn (s / ac + 1)) x
def psz (w h ac dn s : Int) : Int := (cutI h dn (s / ac + 1) - cutI h dn (s / ac)) * (cutI w ac (s % ac + 1) - cutI w ac (s % ac))
/-- slice s: all bands -/
def prb (gl gt gw gh : Int → Int) (ac dn s : Int) : Int → lst3 → lst3 := fun b x => prt (gl b) (gt b) (gw b) (gh b) b ac dn s x
def slf (gl gt gw gh : Int → Int) (nb ac dn : Int) : Int → (Int → Int) × lst3 → (Int → Int) × lst3 := fun s x => (up x.1 s x.2.1, it (prb gl gt gw gh ac dn s) 0 nb x.2)
def slA (gl gt gw gh : Int → Int) (nb ac dn : Int) (gf gp gb : Int → Int) (s : Int) : (Int → Int) × lst3 := it (slf gl gt gw gh nb ac dn) 0 s (gf, 0, gp, gb)
/-- bands placed -/
abbrev lst5 : Type := Int × (Int → Int) × (Int → Int) × (Int → Int) × (Int → Int)
def adB (x y w h : Int) (z : lst5) : lst5 := (z.1 + 1, up z.2.1 z.1 x, up z.2.2.1 z.1 y, up z.2.2.2.1 z.1 w, up z.2.2.2.2 z.1 h)
def plf (cP cQ db : Int) (lv : Int) (z : lst5) : lst5 := if db ≤ lv then adB (cP / 2 ^ (lv + 1).toNat) 0 (cP / 2 ^ (lv + 1).toNat) (cQ / 2 ^ db.toNat) z else
  adB (cP / 2 ^ (lv + 1).toNat) (cQ / 2 ^ (lv + 1).toNat) (cP / 2 ^ (lv + 1).toNat) (cQ / 2 ^ (lv + 1).toNat) (adB 0 (cQ / 2 ^ (lv + 1).toNat) (cP / 2 ^ (lv + 1).toNat) (cQ / 2 ^ (lv + 1).toNat) (adB (cP / 2 ^ (lv + 1).toNat) 0 (cP / 2 ^ (lv + 1).toNat) (cQ / 2 ^ (lv + 1).toNat) z))
def pln (cP cQ db n : Int) : Int → lst5 → lst5 := fun k z => plf cP cQ db (n - 1 - k) z
def plA (cP cQ db ew : Int) (gl gt gw gh : Int → Int) : lst5 := it (pln cP cQ db (db + ew)) 0 (db + ew) (adB 0 0 (cP / 2 ^ (db + ew).toNat) (cQ / 2 ^ db.toNat) (0, gl, gt, gw, gh))
theorem p2_8 {k : Int} (h : 0 ≤ k ∧ k ≤ 3) : (1 : Int) ≤ 2 ^ k.toNat ∧ (2 : Int) ^ k.toNat ≤ 8 := ⟨p2_1 _, by
  have := p2_le (a := k.toNat) (b := 3) (by omega)
  have e : (2 : Int) ^ 3 = 8 := by decide
  omega⟩
theorem lmI_r {v n : Int} (hv : 1 ≤ v ∧ v ≤ 16) (hn : n = 1 ∨ n = 2 ∨ n = 4 ∨ n = 8) : v ≤ lmI v n ∧ lmI v n ≤ 16 := by
  unfold lmI
  rcases hn with rfl | rfl | rfl | rfl <;> omega
theorem p2_c {k : Int} (h : 0 ≤ k ∧ k ≤ 3) : (2 : Int) ^ k.toNat = 1 ∨ (2 : Int) ^ k.toNat = 2 ∨ (2 : Int) ^ k.toNat = 4 ∨ (2 : Int) ^ k.toNat = 8 := by
  rcases (show k = 0 ∨ k = 1 ∨ k = 2 ∨ k = 3 by omega) with rfl | rfl | rfl | rfl <;> decide
theorem m1_231 : Cond.code y_Layout_addBand prog_3_method_6_code 5 none ∈ wl := wl_1 231 (by decide +kernel) (by decide +kernel)
theorem m2_3 : Cond.code y_Layout_addPart prog_3_method_7_code 12 (some .int) ∈ wl := wl_2 3 (by decide +kernel) (by decide +kernel)
theorem m1_227 : Cond.code y_Layout_leastMultiple prog_3_method_5_code 2 (some .int) ∈ wl := wl_1 227 (by decide +kernel) (by decide +kernel)
theorem m1_224 : Cond.code y_Setup_levels prog_5_method_2_code 1 (some .int) ∈ wl := wl_1 224 (by decide +kernel) (by decide +kernel)
theorem m1_239 : Cond.code y_Setup_sliceCount prog_5_method_4_code 1 (some .int) ∈ wl := wl_1 239 (by decide +kernel) (by decide +kernel)
theorem m1_93 : Cond.fieldLink "WaveletSlices$Layout" 40 "WaveletSlices$Layout" "bandOf" "[I" ∈ wl := wl_1 93 (by decide +kernel) (by decide +kernel)
theorem m1_89 : Cond.fieldLink "WaveletSlices$Layout" 34 "WaveletSlices$Layout" "first" "[I" ∈ wl := wl_1 89 (by decide +kernel) (by decide +kernel)
theorem m1_91 : Cond.fieldLink "WaveletSlices$Layout" 37 "WaveletSlices$Layout" "placeOf" "[I" ∈ wl := wl_1 91 (by decide +kernel) (by decide +kernel)
theorem m1_38 : Cond.fieldLink "WaveletSlices$Layout" 71 "WaveletSlices$Setup" "across" "I" ∈ wl := wl_1 38 (by decide +kernel) (by decide +kernel)
theorem m1_41 : Cond.fieldLink "WaveletSlices$Layout" 74 "WaveletSlices$Setup" "down" "I" ∈ wl := wl_1 41 (by decide +kernel) (by decide +kernel)
theorem m1_32 : Cond.fieldLink "WaveletSlices$Layout" 53 "WaveletSlices$Setup" "levelsBoth" "I" ∈ wl := wl_1 32 (by decide +kernel) (by decide +kernel)
theorem m1_3 : Cond.initialized "WaveletSlices$Layout" ∈ wl := wl_1 3 (by decide +kernel) (by decide +kernel)
theorem m1_230 : Cond.instanceMethod y_Layout_addBand ∈ wl := wl_1 230 (by decide +kernel) (by decide +kernel)
theorem m2_2 : Cond.instanceMethod y_Layout_addPart ∈ wl := wl_2 2 (by decide +kernel) (by decide +kernel)
theorem m1_222 : Cond.instanceMethod y_Setup_levels ∈ wl := wl_1 222 (by decide +kernel) (by decide +kernel)
theorem m1_237 : Cond.instanceMethod y_Setup_sliceCount ∈ wl := wl_1 237 (by decide +kernel) (by decide +kernel)
theorem m1_228 : Cond.methodLink "WaveletSlices$Layout" 60 y_Layout_addBand ∈ wl := wl_1 228 (by decide +kernel) (by decide +kernel)
theorem m2_0 : Cond.methodLink "WaveletSlices$Layout" 67 y_Layout_addPart ∈ wl := wl_2 0 (by decide +kernel) (by decide +kernel)
theorem m1_225 : Cond.methodLink "WaveletSlices$Layout" 56 y_Layout_leastMultiple ∈ wl := wl_1 225 (by decide +kernel) (by decide +kernel)
theorem m1_221 : Cond.methodLink "WaveletSlices$Layout" 47 y_Setup_levels ∈ wl := wl_1 221 (by decide +kernel) (by decide +kernel)
theorem m1_236 : Cond.methodLink "WaveletSlices$Layout" 64 y_Setup_sliceCount ∈ wl := wl_1 236 (by decide +kernel) (by decide +kernel)
theorem mp_0 : Cond.selects "WaveletSlices$Layout" y_Layout_addBand y_Layout_addBand ∈ wl := wl_p 0 (by decide +kernel) (by decide +kernel)
theorem mp_1 : Cond.selects "WaveletSlices$Layout" y_Layout_addPart y_Layout_addPart ∈ wl := wl_p 1 (by decide +kernel) (by decide +kernel)
theorem m1_223 : Cond.selects "WaveletSlices$Setup" y_Setup_levels y_Setup_levels ∈ wl := wl_1 223 (by decide +kernel) (by decide +kernel)
theorem m1_238 : Cond.selects "WaveletSlices$Setup" y_Setup_sliceCount y_Setup_sliceCount ∈ wl := wl_1 238 (by decide +kernel) (by decide +kernel)
theorem m1_226 : Cond.static y_Layout_leastMultiple ∈ wl := wl_1 226 (by decide +kernel) (by decide +kernel)
theorem d_Layout_addPart_0 : decode prog_3_method_7_code 0 = .ok (.iload_n 2, 1) := by decide +kernel
theorem d_Layout_addPart_1 : decode prog_3_method_7_code 1 = .ok (.aload_n 1, 1) := by decide +kernel
theorem d_Layout_addPart_2 : decode prog_3_method_7_code 2 = .ok (.getfield 71, 3) := by decide +kernel
theorem d_Layout_addPart_5 : decode prog_3_method_7_code 5 = .ok (.irem, 1) := by decide +kernel
theorem d_Layout_addPart_6 : decode prog_3_method_7_code 6 = .ok (.istore 5, 2) := by decide +kernel
theorem d_Layout_addPart_8 : decode prog_3_method_7_code 8 = .ok (.iload_n 2, 1) := by decide +kernel
theorem d_Layout_addPart_9 : decode prog_3_method_7_code 9 = .ok (.aload_n 1, 1) := by decide +kernel
theorem d_Layout_addPart_10 : decode prog_3_method_7_code 10 = .ok (.getfield 71, 3) := by decide +kernel
theorem d_Layout_addPart_13 : decode prog_3_method_7_code 13 = .ok (.idiv, 1) := by decide +kernel
theorem d_Layout_addPart_14 : decode prog_3_method_7_code 14 = .ok (.istore 6, 2) := by decide +kernel
theorem d_Layout_addPart_16 : decode prog_3_method_7_code 16 = .ok (.aload_n 0, 1) := by decide +kernel
theorem d_Layout_addPart_17 : decode prog_3_method_7_code 17 = .ok (.getfield 28, 3) := by decide +kernel
theorem d_Layout_addPart_20 : decode prog_3_method_7_code 20 = .ok (.iload_n 3, 1) := by decide +kernel
theorem d_Layout_addPart_21 : decode prog_3_method_7_code 21 = .ok (.iaload, 1) := by decide +kernel
theorem d_Layout_addPart_22 : decode prog_3_method_7_code 22 = .ok (.iload 5, 2) := by decide +kernel
theorem d_Layout_addPart_24 : decode prog_3_method_7_code 24 = .ok (.iconst 1, 1) := by decide +kernel
theorem d_Layout_addPart_25 : decode prog_3_method_7_code 25 = .ok (.iadd, 1) := by decide +kernel
theorem d_Layout_addPart_26 : decode prog_3_method_7_code 26 = .ok (.imul, 1) := by decide +kernel
theorem d_Layout_addPart_27 : decode prog_3_method_7_code 27 = .ok (.aload_n 1, 1) := by decide +kernel
theorem d_Layout_addPart_28 : decode prog_3_method_7_code 28 = .ok (.getfield 71, 3) := by decide +kernel
theorem d_Layout_addPart_31 : decode prog_3_method_7_code 31 = .ok (.idiv, 1) := by decide +kernel
theorem d_Layout_addPart_32 : decode prog_3_method_7_code 32 = .ok (.istore 7, 2) := by decide +kernel
theorem d_Layout_addPart_34 : decode prog_3_method_7_code 34 = .ok (.aload_n 0, 1) := by decide +kernel
theorem d_Layout_addPart_35 : decode prog_3_method_7_code 35 = .ok (.getfield 31, 3) := by decide +kernel
theorem d_Layout_addPart_38 : decode prog_3_method_7_code 38 = .ok (.iload_n 3, 1) := by decide +kernel
theorem d_Layout_addPart_39 : decode prog_3_method_7_code 39 = .ok (.iaload, 1) := by decide +kernel
theorem d_Layout_addPart_40 : decode prog_3_method_7_code 40 = .ok (.iload 6, 2) := by decide +kernel
theorem d_Layout_addPart_42 : decode prog_3_method_7_code 42 = .ok (.iconst 1, 1) := by decide +kernel
theorem d_Layout_addPart_43 : decode prog_3_method_7_code 43 = .ok (.iadd, 1) := by decide +kernel
theorem d_Layout_addPart_44 : decode prog_3_method_7_code 44 = .ok (.imul, 1) := by decide +kernel
theorem d_Layout_addPart_45 : decode prog_3_method_7_code 45 = .ok (.aload_n 1, 1) := by decide +kernel
theorem d_Layout_addPart_46 : decode prog_3_method_7_code 46 = .ok (.getfield 74, 3) := by decide +kernel
theorem d_Layout_addPart_49 : decode prog_3_method_7_code 49 = .ok (.idiv, 1) := by decide +kernel
theorem d_Layout_addPart_50 : decode prog_3_method_7_code 50 = .ok (.istore 8, 2) := by decide +kernel
theorem d_Layout_addPart_52 : decode prog_3_method_7_code 52 = .ok (.iload 4, 2) := by decide +kernel
theorem d_Layout_addPart_54 : decode prog_3_method_7_code 54 = .ok (.istore 9, 2) := by decide +kernel
theorem d_Layout_addPart_56 : decode prog_3_method_7_code 56 = .ok (.aload_n 0, 1) := by decide +kernel
theorem d_Layout_addPart_57 : decode prog_3_method_7_code 57 = .ok (.getfield 31, 3) := by decide +kernel
theorem d_Layout_addPart_60 : decode prog_3_method_7_code 60 = .ok (.iload_n 3, 1) := by decide +kernel
theorem d_Layout_addPart_61 : decode prog_3_method_7_code 61 = .ok (.iaload, 1) := by decide +kernel
theorem d_Layout_addPart_62 : decode prog_3_method_7_code 62 = .ok (.iload 6, 2) := by decide +kernel
theorem d_Layout_addPart_64 : decode prog_3_method_7_code 64 = .ok (.imul, 1) := by decide +kernel
theorem d_Layout_addPart_65 : decode prog_3_method_7_code 65 = .ok (.aload_n 1, 1) := by decide +kernel
theorem d_Layout_addPart_66 : decode prog_3_method_7_code 66 = .ok (.getfield 74, 3) := by decide +kernel
theorem d_Layout_addPart_69 : decode prog_3_method_7_code 69 = .ok (.idiv, 1) := by decide +kernel
theorem d_Layout_addPart_70 : decode prog_3_method_7_code 70 = .ok (.istore 10, 2) := by decide +kernel
theorem d_Layout_addPart_72 : decode prog_3_method_7_code 72 = .ok (.iload 10, 2) := by decide +kernel
theorem d_Layout_addPart_74 : decode prog_3_method_7_code 74 = .ok (.iload 8, 2) := by decide +kernel
theorem d_Layout_addPart_76 : decode prog_3_method_7_code 76 = .ok (.if_icmp .ge 78, 3) := by decide +kernel
theorem d_Layout_addPart_79 : decode prog_3_method_7_code 79 = .ok (.aload_n 0, 1) := by decide +kernel
theorem d_Layout_addPart_80 : decode prog_3_method_7_code 80 = .ok (.getfield 28, 3) := by decide +kernel
theorem d_Layout_addPart_83 : decode prog_3_method_7_code 83 = .ok (.iload_n 3, 1) := by decide +kernel
theorem d_Layout_addPart_84 : decode prog_3_method_7_code 84 = .ok (.iaload, 1) := by decide +kernel
theorem d_Layout_addPart_85 : decode prog_3_method_7_code 85 = .ok (.iload 5, 2) := by decide +kernel
theorem d_Layout_addPart_87 : decode prog_3_method_7_code 87 = .ok (.imul, 1) := by decide +kernel
theorem d_Layout_addPart_88 : decode prog_3_method_7_code 88 = .ok (.aload_n 1, 1) := by decide +kernel
theorem d_Layout_addPart_89 : decode prog_3_method_7_code 89 = .ok (.getfield 71, 3) := by decide +kernel
theorem d_Layout_addPart_92 : decode prog_3_method_7_code 92 = .ok (.idiv, 1) := by decide +kernel
theorem d_Layout_addPart_93 : decode prog_3_method_7_code 93 = .ok (.istore 11, 2) := by decide +kernel
theorem d_Layout_addPart_95 : decode prog_3_method_7_code 95 = .ok (.iload 11, 2) := by decide +kernel
theorem d_Layout_addPart_97 : decode prog_3_method_7_code 97 = .ok (.iload 7, 2) := by decide +kernel
theorem d_Layout_addPart_99 : decode prog_3_method_7_code 99 = .ok (.if_icmp .ge 49, 3) := by decide +kernel
theorem d_Layout_addPart_102 : decode prog_3_method_7_code 102 = .ok (.aload_n 0, 1) := by decide +kernel
theorem d_Layout_addPart_103 : decode prog_3_method_7_code 103 = .ok (.getfield 37, 3) := by decide +kernel
theorem d_Layout_addPart_106 : decode prog_3_method_7_code 106 = .ok (.iload 9, 2) := by decide +kernel
theorem d_Layout_addPart_108 : decode prog_3_method_7_code 108 = .ok (.aload_n 0, 1) := by decide +kernel
theorem d_Layout_addPart_109 : decode prog_3_method_7_code 109 = .ok (.getfield 25, 3) := by decide +kernel
theorem d_Layout_addPart_112 : decode prog_3_method_7_code 112 = .ok (.iload_n 3, 1) := by decide +kernel
theorem d_Layout_addPart_113 : decode prog_3_method_7_code 113 = .ok (.iaload, 1) := by decide +kernel
theorem d_Layout_addPart_114 : decode prog_3_method_7_code 114 = .ok (.iload 10, 2) := by decide +kernel
theorem d_Layout_addPart_116 : decode prog_3_method_7_code 116 = .ok (.iadd, 1) := by decide +kernel
theorem d_Layout_addPart_117 : decode prog_3_method_7_code 117 = .ok (.bipush 16, 2) := by decide +kernel
theorem d_Layout_addPart_119 : decode prog_3_method_7_code 119 = .ok (.imul, 1) := by decide +kernel
theorem d_Layout_addPart_120 : decode prog_3_method_7_code 120 = .ok (.aload_n 0, 1) := by decide +kernel
theorem d_Layout_addPart_121 : decode prog_3_method_7_code 121 = .ok (.getfield 21, 3) := by decide +kernel
theorem d_Layout_addPart_124 : decode prog_3_method_7_code 124 = .ok (.iload_n 3, 1) := by decide +kernel
theorem d_Layout_addPart_125 : decode prog_3_method_7_code 125 = .ok (.iaload, 1) := by decide +kernel
theorem d_Layout_addPart_126 : decode prog_3_method_7_code 126 = .ok (.iadd, 1) := by decide +kernel
theorem d_Layout_addPart_127 : decode prog_3_method_7_code 127 = .ok (.iload 11, 2) := by decide +kernel
theorem d_Layout_addPart_129 : decode prog_3_method_7_code 129 = .ok (.iadd, 1) := by decide +kernel
theorem d_Layout_addPart_130 : decode prog_3_method_7_code 130 = .ok (.iastore, 1) := by decide +kernel
theorem d_Layout_addPart_131 : decode prog_3_method_7_code 131 = .ok (.aload_n 0, 1) := by decide +kernel
theorem d_Layout_addPart_132 : decode prog_3_method_7_code 132 = .ok (.getfield 40, 3) := by decide +kernel
theorem d_Layout_addPart_135 : decode prog_3_method_7_code 135 = .ok (.iload 9, 2) := by decide +kernel
theorem d_Layout_addPart_137 : decode prog_3_method_7_code 137 = .ok (.iload_n 3, 1) := by decide +kernel
theorem d_Layout_addPart_138 : decode prog_3_method_7_code 138 = .ok (.iastore, 1) := by decide +kernel
theorem d_Layout_addPart_139 : decode prog_3_method_7_code 139 = .ok (.iinc 9 1, 3) := by decide +kernel
theorem d_Layout_addPart_142 : decode prog_3_method_7_code 142 = .ok (.iinc 11 1, 3) := by decide +kernel
theorem d_Layout_addPart_145 : decode prog_3_method_7_code 145 = .ok (.goto (-50), 3) := by decide +kernel
theorem d_Layout_addPart_148 : decode prog_3_method_7_code 148 = .ok (.iinc 10 1, 3) := by decide +kernel
theorem d_Layout_addPart_151 : decode prog_3_method_7_code 151 = .ok (.goto (-79), 3) := by decide +kernel
theorem d_Layout_addPart_154 : decode prog_3_method_7_code 154 = .ok (.iload 9, 2) := by decide +kernel
theorem d_Layout_addPart_156 : decode prog_3_method_7_code 156 = .ok (.ireturn, 1) := by decide +kernel
theorem d_Layout_cutSlices_0 : decode prog_3_method_4_code 0 = .ok (.iconst 0, 1) := by decide +kernel
theorem d_Layout_cutSlices_1 : decode prog_3_method_4_code 1 = .ok (.istore_n 2, 1) := by decide +kernel
theorem d_Layout_cutSlices_2 : decode prog_3_method_4_code 2 = .ok (.iconst 0, 1) := by decide +kernel
theorem d_Layout_cutSlices_3 : decode prog_3_method_4_code 3 = .ok (.istore_n 3, 1) := by decide +kernel
theorem d_Layout_cutSlices_4 : decode prog_3_method_4_code 4 = .ok (.iload_n 3, 1) := by decide +kernel
theorem d_Layout_cutSlices_5 : decode prog_3_method_4_code 5 = .ok (.aload_n 1, 1) := by decide +kernel
theorem d_Layout_cutSlices_6 : decode prog_3_method_4_code 6 = .ok (.invokevirtual 64, 3) := by decide +kernel
theorem d_Layout_cutSlices_9 : decode prog_3_method_4_code 9 = .ok (.if_icmp .ge 44, 3) := by decide +kernel
theorem d_Layout_cutSlices_12 : decode prog_3_method_4_code 12 = .ok (.aload_n 0, 1) := by decide +kernel
theorem d_Layout_cutSlices_13 : decode prog_3_method_4_code 13 = .ok (.getfield 34, 3) := by decide +kernel
theorem d_Layout_cutSlices_16 : decode prog_3_method_4_code 16 = .ok (.iload_n 3, 1) := by decide +kernel
theorem d_Layout_cutSlices_17 : decode prog_3_method_4_code 17 = .ok (.iload_n 2, 1) := by decide +kernel
theorem d_Layout_cutSlices_18 : decode prog_3_method_4_code 18 = .ok (.iastore, 1) := by decide +kernel
theorem d_Layout_cutSlices_19 : decode prog_3_method_4_code 19 = .ok (.iconst 0, 1) := by decide +kernel
theorem d_Layout_cutSlices_20 : decode prog_3_method_4_code 20 = .ok (.istore 4, 2) := by decide +kernel
theorem d_Layout_cutSlices_22 : decode prog_3_method_4_code 22 = .ok (.iload 4, 2) := by decide +kernel
theorem d_Layout_cutSlices_24 : decode prog_3_method_4_code 24 = .ok (.aload_n 0, 1) := by decide +kernel
theorem d_Layout_cutSlices_25 : decode prog_3_method_4_code 25 = .ok (.getfield 18, 3) := by decide +kernel
theorem d_Layout_cutSlices_28 : decode prog_3_method_4_code 28 = .ok (.if_icmp .ge 19, 3) := by decide +kernel
theorem d_Layout_cutSlices_31 : decode prog_3_method_4_code 31 = .ok (.aload_n 0, 1) := by decide +kernel
theorem d_Layout_cutSlices_32 : decode prog_3_method_4_code 32 = .ok (.aload_n 1, 1) := by decide +kernel
theorem d_Layout_cutSlices_33 : decode prog_3_method_4_code 33 = .ok (.iload_n 3, 1) := by decide +kernel
theorem d_Layout_cutSlices_34 : decode prog_3_method_4_code 34 = .ok (.iload 4, 2) := by decide +kernel
theorem d_Layout_cutSlices_36 : decode prog_3_method_4_code 36 = .ok (.iload_n 2, 1) := by decide +kernel
theorem d_Layout_cutSlices_37 : decode prog_3_method_4_code 37 = .ok (.invokevirtual 67, 3) := by decide +kernel
theorem d_Layout_cutSlices_40 : decode prog_3_method_4_code 40 = .ok (.istore_n 2, 1) := by decide +kernel
theorem d_Layout_cutSlices_41 : decode prog_3_method_4_code 41 = .ok (.iinc 4 1, 3) := by decide +kernel
theorem d_Layout_cutSlices_44 : decode prog_3_method_4_code 44 = .ok (.goto (-22), 3) := by decide +kernel
theorem d_Layout_cutSlices_47 : decode prog_3_method_4_code 47 = .ok (.iinc 3 1, 3) := by decide +kernel
theorem d_Layout_cutSlices_50 : decode prog_3_method_4_code 50 = .ok (.goto (-46), 3) := by decide +kernel
theorem d_Layout_cutSlices_53 : decode prog_3_method_4_code 53 = .ok (.aload_n 0, 1) := by decide +kernel
theorem d_Layout_cutSlices_54 : decode prog_3_method_4_code 54 = .ok (.getfield 34, 3) := by decide +kernel
theorem d_Layout_cutSlices_57 : decode prog_3_method_4_code 57 = .ok (.aload_n 1, 1) := by decide +kernel
theorem d_Layout_cutSlices_58 : decode prog_3_method_4_code 58 = .ok (.invokevirtual 64, 3) := by decide +kernel
theorem d_Layout_cutSlices_61 : decode prog_3_method_4_code 61 = .ok (.iload_n 2, 1) := by decide +kernel
theorem d_Layout_cutSlices_62 : decode prog_3_method_4_code 62 = .ok (.iastore, 1) := by decide +kernel
theorem d_Layout_cutSlices_63 : decode prog_3_method_4_code 63 = .ok (.return_, 1) := by decide +kernel
theorem d_Layout_placeBands_0 : decode prog_3_method_3_code 0 = .ok (.aload_n 1, 1) := by decide +kernel
theorem d_Layout_placeBands_1 : decode prog_3_method_3_code 1 = .ok (.invokevirtual 47, 3) := by decide +kernel
theorem d_Layout_placeBands_4 : decode prog_3_method_3_code 4 = .ok (.istore 4, 2) := by decide +kernel
theorem d_Layout_placeBands_6 : decode prog_3_method_3_code 6 = .ok (.aload_n 1, 1) := by decide +kernel
theorem d_Layout_placeBands_7 : decode prog_3_method_3_code 7 = .ok (.getfield 53, 3) := by decide +kernel
theorem d_Layout_placeBands_10 : decode prog_3_method_3_code 10 = .ok (.istore 5, 2) := by decide +kernel
theorem d_Layout_placeBands_12 : decode prog_3_method_3_code 12 = .ok (.aload_n 0, 1) := by decide +kernel
theorem d_Layout_placeBands_13 : decode prog_3_method_3_code 13 = .ok (.iload_n 2, 1) := by decide +kernel
theorem d_Layout_placeBands_14 : decode prog_3_method_3_code 14 = .ok (.iconst 1, 1) := by decide +kernel
theorem d_Layout_placeBands_15 : decode prog_3_method_3_code 15 = .ok (.iload 4, 2) := by decide +kernel
theorem d_Layout_placeBands_17 : decode prog_3_method_3_code 17 = .ok (.ishl, 1) := by decide +kernel
theorem d_Layout_placeBands_18 : decode prog_3_method_3_code 18 = .ok (.invokestatic 56, 3) := by decide +kernel
theorem d_Layout_placeBands_21 : decode prog_3_method_3_code 21 = .ok (.putfield 9, 3) := by decide +kernel
theorem d_Layout_placeBands_24 : decode prog_3_method_3_code 24 = .ok (.aload_n 0, 1) := by decide +kernel
theorem d_Layout_placeBands_25 : decode prog_3_method_3_code 25 = .ok (.iload_n 3, 1) := by decide +kernel
theorem d_Layout_placeBands_26 : decode prog_3_method_3_code 26 = .ok (.iconst 1, 1) := by decide +kernel
theorem d_Layout_placeBands_27 : decode prog_3_method_3_code 27 = .ok (.iload 5, 2) := by decide +kernel
theorem d_Layout_placeBands_29 : decode prog_3_method_3_code 29 = .ok (.ishl, 1) := by decide +kernel
theorem d_Layout_placeBands_30 : decode prog_3_method_3_code 30 = .ok (.invokestatic 56, 3) := by decide +kernel
theorem d_Layout_placeBands_33 : decode prog_3_method_3_code 33 = .ok (.putfield 15, 3) := by decide +kernel
theorem d_Layout_placeBands_36 : decode prog_3_method_3_code 36 = .ok (.aload_n 0, 1) := by decide +kernel
theorem d_Layout_placeBands_37 : decode prog_3_method_3_code 37 = .ok (.iconst 0, 1) := by decide +kernel
theorem d_Layout_placeBands_38 : decode prog_3_method_3_code 38 = .ok (.putfield 18, 3) := by decide +kernel
theorem d_Layout_placeBands_41 : decode prog_3_method_3_code 41 = .ok (.aload_n 0, 1) := by decide +kernel
theorem d_Layout_placeBands_42 : decode prog_3_method_3_code 42 = .ok (.iconst 0, 1) := by decide +kernel
theorem d_Layout_placeBands_43 : decode prog_3_method_3_code 43 = .ok (.iconst 0, 1) := by decide +kernel
theorem d_Layout_placeBands_44 : decode prog_3_method_3_code 44 = .ok (.aload_n 0, 1) := by decide +kernel
theorem d_Layout_placeBands_45 : decode prog_3_method_3_code 45 = .ok (.getfield 9, 3) := by decide +kernel
theorem d_Layout_placeBands_48 : decode prog_3_method_3_code 48 = .ok (.iload 4, 2) := by decide +kernel
theorem d_Layout_placeBands_50 : decode prog_3_method_3_code 50 = .ok (.ishr, 1) := by decide +kernel
theorem d_Layout_placeBands_51 : decode prog_3_method_3_code 51 = .ok (.aload_n 0, 1) := by decide +kernel
theorem d_Layout_placeBands_52 : decode prog_3_method_3_code 52 = .ok (.getfield 15, 3) := by decide +kernel
theorem d_Layout_placeBands_55 : decode prog_3_method_3_code 55 = .ok (.iload 5, 2) := by decide +kernel
theorem d_Layout_placeBands_57 : decode prog_3_method_3_code 57 = .ok (.ishr, 1) := by decide +kernel
theorem d_Layout_placeBands_58 : decode prog_3_method_3_code 58 = .ok (.invokevirtual 60, 3) := by decide +kernel
theorem d_Layout_placeBands_61 : decode prog_3_method_3_code 61 = .ok (.iload 4, 2) := by decide +kernel
theorem d_Layout_placeBands_63 : decode prog_3_method_3_code 63 = .ok (.iconst 1, 1) := by decide +kernel
theorem d_Layout_placeBands_64 : decode prog_3_method_3_code 64 = .ok (.isub, 1) := by decide +kernel
theorem d_Layout_placeBands_65 : decode prog_3_method_3_code 65 = .ok (.istore 6, 2) := by decide +kernel
theorem d_Layout_placeBands_67 : decode prog_3_method_3_code 67 = .ok (.iload 6, 2) := by decide +kernel
theorem d_Layout_placeBands_69 : decode prog_3_method_3_code 69 = .ok (.ifCond .lt 91, 3) := by decide +kernel
theorem d_Layout_placeBands_72 : decode prog_3_method_3_code 72 = .ok (.aload_n 0, 1) := by decide +kernel
theorem d_Layout_placeBands_73 : decode prog_3_method_3_code 73 = .ok (.getfield 9, 3) := by decide +kernel
theorem d_Layout_placeBands_76 : decode prog_3_method_3_code 76 = .ok (.iload 6, 2) := by decide +kernel
theorem d_Layout_placeBands_78 : decode prog_3_method_3_code 78 = .ok (.iconst 1, 1) := by decide +kernel
theorem d_Layout_placeBands_79 : decode prog_3_method_3_code 79 = .ok (.iadd, 1) := by decide +kernel
theorem d_Layout_placeBands_80 : decode prog_3_method_3_code 80 = .ok (.ishr, 1) := by decide +kernel
theorem d_Layout_placeBands_81 : decode prog_3_method_3_code 81 = .ok (.istore 7, 2) := by decide +kernel
theorem d_Layout_placeBands_83 : decode prog_3_method_3_code 83 = .ok (.iload 6, 2) := by decide +kernel
theorem d_Layout_placeBands_85 : decode prog_3_method_3_code 85 = .ok (.iload 5, 2) := by decide +kernel
theorem d_Layout_placeBands_87 : decode prog_3_method_3_code 87 = .ok (.if_icmp .lt 22, 3) := by decide +kernel
theorem d_Layout_placeBands_90 : decode prog_3_method_3_code 90 = .ok (.aload_n 0, 1) := by decide +kernel
theorem d_Layout_placeBands_91 : decode prog_3_method_3_code 91 = .ok (.iload 7, 2) := by decide +kernel
theorem d_Layout_placeBands_93 : decode prog_3_method_3_code 93 = .ok (.iconst 0, 1) := by decide +kernel
theorem d_Layout_placeBands_94 : decode prog_3_method_3_code 94 = .ok (.iload 7, 2) := by decide +kernel
theorem d_Layout_placeBands_96 : decode prog_3_method_3_code 96 = .ok (.aload_n 0, 1) := by decide +kernel
theorem d_Layout_placeBands_97 : decode prog_3_method_3_code 97 = .ok (.getfield 15, 3) := by decide +kernel
theorem d_Layout_placeBands_100 : decode prog_3_method_3_code 100 = .ok (.iload 5, 2) := by decide +kernel
theorem d_Layout_placeBands_102 : decode prog_3_method_3_code 102 = .ok (.ishr, 1) := by decide +kernel
theorem d_Layout_placeBands_103 : decode prog_3_method_3_code 103 = .ok (.invokevirtual 60, 3) := by decide +kernel
theorem d_Layout_placeBands_106 : decode prog_3_method_3_code 106 = .ok (.goto 48, 3) := by decide +kernel
theorem d_Layout_placeBands_109 : decode prog_3_method_3_code 109 = .ok (.aload_n 0, 1) := by decide +kernel
theorem d_Layout_placeBands_110 : decode prog_3_method_3_code 110 = .ok (.getfield 15, 3) := by decide +kernel
theorem d_Layout_placeBands_113 : decode prog_3_method_3_code 113 = .ok (.iload 6, 2) := by decide +kernel
theorem d_Layout_placeBands_115 : decode prog_3_method_3_code 115 = .ok (.iconst 1, 1) := by decide +kernel
theorem d_Layout_placeBands_116 : decode prog_3_method_3_code 116 = .ok (.iadd, 1) := by decide +kernel
theorem d_Layout_placeBands_117 : decode prog_3_method_3_code 117 = .ok (.ishr, 1) := by decide +kernel
theorem d_Layout_placeBands_118 : decode prog_3_method_3_code 118 = .ok (.istore 8, 2) := by decide +kernel
theorem d_Layout_placeBands_120 : decode prog_3_method_3_code 120 = .ok (.aload_n 0, 1) := by decide +kernel
theorem d_Layout_placeBands_121 : decode prog_3_method_3_code 121 = .ok (.iload 7, 2) := by decide +kernel
theorem d_Layout_placeBands_123 : decode prog_3_method_3_code 123 = .ok (.iconst 0, 1) := by decide +kernel
theorem d_Layout_placeBands_124 : decode prog_3_method_3_code 124 = .ok (.iload 7, 2) := by decide +kernel
theorem d_Layout_placeBands_126 : decode prog_3_method_3_code 126 = .ok (.iload 8, 2) := by decide +kernel
theorem d_Layout_placeBands_128 : decode prog_3_method_3_code 128 = .ok (.invokevirtual 60, 3) := by decide +kernel
theorem d_Layout_placeBands_131 : decode prog_3_method_3_code 131 = .ok (.aload_n 0, 1) := by decide +kernel
theorem d_Layout_placeBands_132 : decode prog_3_method_3_code 132 = .ok (.iconst 0, 1) := by decide +kernel
theorem d_Layout_placeBands_133 : decode prog_3_method_3_code 133 = .ok (.iload 8, 2) := by decide +kernel
theorem d_Layout_placeBands_135 : decode prog_3_method_3_code 135 = .ok (.iload 7, 2) := by decide +kernel
theorem d_Layout_placeBands_137 : decode prog_3_method_3_code 137 = .ok (.iload 8, 2) := by decide +kernel
theorem d_Layout_placeBands_139 : decode prog_3_method_3_code 139 = .ok (.invokevirtual 60, 3) := by decide +kernel
theorem d_Layout_placeBands_142 : decode prog_3_method_3_code 142 = .ok (.aload_n 0, 1) := by decide +kernel
theorem d_Layout_placeBands_143 : decode prog_3_method_3_code 143 = .ok (.iload 7, 2) := by decide +kernel
theorem d_Layout_placeBands_145 : decode prog_3_method_3_code 145 = .ok (.iload 8, 2) := by decide +kernel
theorem d_Layout_placeBands_147 : decode prog_3_method_3_code 147 = .ok (.iload 7, 2) := by decide +kernel
theorem d_Layout_placeBands_149 : decode prog_3_method_3_code 149 = .ok (.iload 8, 2) := by decide +kernel
theorem d_Layout_placeBands_151 : decode prog_3_method_3_code 151 = .ok (.invokevirtual 60, 3) := by decide +kernel
theorem d_Layout_placeBands_154 : decode prog_3_method_3_code 154 = .ok (.iinc 6 (-1), 3) := by decide +kernel
theorem d_Layout_placeBands_157 : decode prog_3_method_3_code 157 = .ok (.goto (-90), 3) := by decide +kernel
theorem d_Layout_placeBands_160 : decode prog_3_method_3_code 160 = .ok (.return_, 1) := by decide +kernel
abbrev w_Layout_addPart : List Cond := Cond.code y_Layout_addPart prog_3_method_7_code 12 (some .int) :: wl
abbrev r_Layout_addPart : Room := { frames := 0, cells := 0, slots := 0, locals := 0 }
set_option maxHeartbeats 4000000 in
set_option maxRecDepth 100000 in
theorem c_Layout_addPart (l : Launch) (G : k_G) (sz : Nat) (rL rS rl rt rw rh rf rp rb rE : Nat) (s0 bn cn cP cQ nb kd db ew ac dn pr nu de : Int) (gl gt gw gh gp gb : Int → Int) (hs0 : 0 ≤ s0 ∧ s0 < 16) (hac : 1 ≤ ac ∧ ac ≤ 4) (hdn : 1 ≤ dn ∧ dn ≤ 4) (hsn : s0 < ac * dn) (hbn : 0 ≤ bn ∧ bn < 8) (hgw : 0 ≤ gw bn ∧ gw bn ≤ 16) (hgh : 0 ≤ gh bn ∧ gh bn ≤ 16) (hcap : 0 ≤ cn ∧ cn + psz (gw bn) (gh bn) ac dn s0 ≤ 256) : Met l y_Layout_addPart w_Layout_addPart r_Layout_addPart (k_P G [.ref rL, .ref rS, .int (iv (s0)), .int (iv (bn)), .int (iv (cn))] [(rL, .inr (1, [.int (iv (cP)), .int (iv (cQ)), .int (iv (nb)), .ref rl, .ref rt, .ref rw, .ref rh, .ref rf, .ref rp, .ref rb])), (rl, ai (gI G) 8 (gl)), (rt, ai (gI G) 8 (gt)), (rw, ai (gI G) 8 (gw)), (rh, ai (gI G) 8 (gh)), (rp, ai (gI G) 256 (gp)), (rb, ai (gI G) 256 (gb)), (rS, .inr (3, [.int (iv (kd)), .int (iv (db)), .int (iv (ew)), .int (iv (ac)), .int (iv (dn)), .int (iv (pr)), .ref rE, .int (iv (nu)), .int (iv (de))]))] sz) (qi G (fun (r : Int32) (u : Int × (Int → Int) × (Int → Int)) => r = iv (u.1) ∧ (u = prt (gl bn) (gt bn) (gw bn) (gh bn) bn ac dn s0 (cn, gp, gb))) (fun u : Int × (Int → Int) × (Int → Int) => [(rL, .inr (1, [.int (iv (cP)), .int (iv (cQ)), .int (iv (nb)), .ref rl, .ref rt, .ref rw, .ref rh, .ref rf, .ref rp, .ref rb])), (rl, ai (gI G) 8 (gl)), (rt, ai (gI G) 8 (gt)), (rw, ai (gI G) 8 (gw)), (rh, ai (gI G) 8 (gh)), (rp, ai (gI G) 256 (u.2.1)), (rb, ai (gI G) 256 (u.2.2)), (rS, .inr (3, [.int (iv (kd)), .int (iv (db)), .int (iv (ew)), .int (iv (ac)), .int (iv (dn)), .int (iv (pr)), .ref rE, .int (iv (nu)), .int (iv (de))]))]) (va_A [(rL, .inr (1, [.int (iv (cP)), .int (iv (cQ)), .int (iv (nb)), .ref rl, .ref rt, .ref rw, .ref rh, .ref rf, .ref rp, .ref rb])), (rl, ai (gI G) 8 (gl)), (rt, ai (gI G) 8 (gt)), (rw, ai (gI G) 8 (gw)), (rh, ai (gI G) 8 (gh)), (rp, ai (gI G) 256 (gp)), (rb, ai (gI G) 256 (gb)), (rS, .inr (3, [.int (iv (kd)), .int (iv (db)), .int (iv (ew)), .int (iv (ac)), .int (iv (dn)), .int (iv (pr)), .ref rE, .int (iv (nu)), .int (iv (de))]))] sz)) 0 0 (va_A [(rL, .inr (1, [.int (iv (cP)), .int (iv (cQ)), .int (iv (nb)), .ref rl, .ref rt, .ref rw, .ref rh, .ref rf, .ref rp, .ref rb])), (rl, ai (gI G) 8 (gl)), (rt, ai (gI G) 8 (gt)), (rw, ai (gI G) 8 (gw)), (rh, ai (gI G) 8 (gh)), (rp, ai (gI G) 256 (gp)), (rb, ai (gI G) 256 (gb)), (rS, .inr (3, [.int (iv (kd)), .int (iv (db)), .int (iv (ew)), .int (iv (ac)), .int (iv (dn)), .int (iv (pr)), .ref rE, .int (iv (nu)), .int (iv (de))]))] sz) := by
  refine k_met (fun A => qi G (fun (r : Int32) (u : Int × (Int → Int) × (Int → Int)) => r = iv (u.1) ∧ (u = prt (gl bn) (gt bn) (gw bn) (gh bn) bn ac dn s0 (cn, gp, gb))) (fun u : Int × (Int → Int) × (Int → Int) => [(rL, .inr (1, [.int (iv (cP)), .int (iv (cQ)), .int (iv (nb)), .ref rl, .ref rt, .ref rw, .ref rh, .ref rf, .ref rp, .ref rb])), (rl, ai (gI G) 8 (gl)), (rt, ai (gI G) 8 (gt)), (rw, ai (gI G) 8 (gw)), (rh, ai (gI G) 8 (gh)), (rp, ai (gI G) 256 (u.2.1)), (rb, ai (gI G) 256 (u.2.2)), (rS, .inr (3, [.int (iv (kd)), .int (iv (db)), .int (iv (ew)), .int (iv (ac)), .int (iv (dn)), .int (iv (pr)), .ref rE, .int (iv (nu)), .int (iv (de))]))]) A) (fun A => A) (by decide) rfl (Nat.le_of_ble_eq_true rfl) (fun p e s m args below meth c ls A Q S hr hlk hnm hl hsz hP hK hD hS hA hT hQ => ?_)
  obtain ⟨hx, hb, hml, hown, hts⟩ := id S
  have hw : ∀ w ∈ wl, w.before args s = true := fun w h => hts w (List.mem_cons_of_mem _ h)
  have hl : lv_has ls 12 [(0, .ref rL), (1, .ref rS), (2, .int (iv (s0))), (3, .int (iv (bn))), (4, .int (iv (cn)))] := hl
  have m1 : 0 ≤ s0 % ac ∧ s0 % ac < ac := ⟨Int.emod_nonneg _ (by omega), Int.emod_lt_of_pos _ (by omega)⟩
  have m2 : 0 ≤ s0 / ac ∧ s0 / ac < dn := ⟨Int.ediv_nonneg hs0.1 (by omega), Int.ediv_lt_of_lt_mul (by omega) (by rw [Int.mul_comm]; exact hsn)⟩
  have m3 := cut_r (i := s0 % ac) hgw hac (by omega)
  have m4 := cut_r (i := s0 % ac + 1) hgw hac (by omega)
  have m5 := cut_r (i := s0 / ac) hgh hdn (by omega)
  have m6 := cut_r (i := s0 / ac + 1) hgh hdn (by omega)
  have m7 := cut_m (w := gw bn) (a := ac) (i := s0 % ac) hgw.1 hac.1
  have m8 := cut_m (w := gh bn) (a := dn) (i := s0 / ac) hgh.1 hdn.1
  have m9 : gw bn * (s0 % ac + 1) / ac = cutI (gw bn) ac (s0 % ac + 1) := rfl
  have m10 : gh bn * (s0 / ac + 1) / dn = cutI (gh bn) dn (s0 / ac + 1) := rfl
  have m11 : gh bn * (s0 / ac) / dn = cutI (gh bn) dn (s0 / ac) := rfl
  have m12 : gw bn * (s0 % ac) / ac = cutI (gw bn) ac (s0 % ac) := rfl
  obtain ⟨xe, hxe⟩ : ∃ z, z = cutI (gw bn) ac (s0 % ac + 1) := ⟨_, rfl⟩
  obtain ⟨ye, hye⟩ : ∃ z, z = cutI (gh bn) dn (s0 / ac + 1) := ⟨_, rfl⟩
  obtain ⟨ys, hys⟩ : ∃ z, z = cutI (gh bn) dn (s0 / ac) := ⟨_, rfl⟩
  obtain ⟨xs, hxs⟩ : ∃ z, z = cutI (gw bn) ac (s0 % ac) := ⟨_, rfl⟩
  have hcap2 : cn + (ye - ys) * (xe - xs) ≤ 256 := by rw [hxe, hye, hys, hxs]; exact hcap.2
  refine lv_iload_n hx hb d_Layout_addPart_0 rfl (lv_at hl 2 rfl) ?_
  refine lv_aload_n hx hb d_Layout_addPart_1 rfl (lv_at hl 1 rfl) ?_
  refine va_get (D := gD G) (ci := 3) (v := .int (iv (ac))) (C := R_Setup) (T := F_Setup) (N := 9) hx hb hw in_Setup hown hK hP 7 rfl rfl 3 (by decide) (hw _ m1_38) (fun _ h => h) rfl d_Layout_addPart_2 ?_
  refine k_irem hx hb d_Layout_addPart_5 (by omega) (by omega) ?_
  refine lv_istore hx hb d_Layout_addPart_6 hl (by decide) rfl (fun ls hl => ?_)
  have hl : lv_has ls 12 [(5, .int (iv (s0 % ac))), (0, .ref rL), (1, .ref rS), (2, .int (iv (s0))), (3, .int (iv (bn))), (4, .int (iv (cn)))] := hl
  refine lv_iload_n hx hb d_Layout_addPart_8 rfl (lv_at hl 3 rfl) ?_
  refine lv_aload_n hx hb d_Layout_addPart_9 rfl (lv_at hl 2 rfl) ?_
  refine va_get (D := gD G) (ci := 3) (v := .int (iv (ac))) (C := R_Setup) (T := F_Setup) (N := 9) hx hb hw in_Setup hown hK hP 7 rfl rfl 3 (by decide) (hw _ m1_38) (fun _ h => h) rfl d_Layout_addPart_10 ?_
  refine k_idiv hx hb d_Layout_addPart_13 (by omega) (by omega) ?_
  refine lv_istore hx hb d_Layout_addPart_14 hl (by decide) rfl (fun ls hl => ?_)
  have hl : lv_has ls 12 [(6, .int (iv (s0 / ac))), (5, .int (iv (s0 % ac))), (0, .ref rL), (1, .ref rS), (2, .int (iv (s0))), (3, .int (iv (bn))), (4, .int (iv (cn)))] := hl
  refine lv_aload_n hx hb d_Layout_addPart_16 rfl (lv_at hl 2 rfl) ?_
  refine va_get (D := gD G) (ci := 1) (v := .ref rw) (C := R_Layout) (T := F_Layout) (N := 10) hx hb hw in_Layout hown hK hP 0 rfl rfl 5 (by decide) (hw _ m1_87) (fun _ h => h) rfl d_Layout_addPart_17 ?_
  refine lv_iload_n hx hb d_Layout_addPart_20 rfl (lv_at hl 5 rfl) ?_
  refine k_ial hx hb hK hP 3 0 rfl rfl (by decide) (by omega) d_Layout_addPart_21 ?_
  refine lv_iload hx hb d_Layout_addPart_22 (lv_at hl 1 rfl) ?_
  refine lv_iconst (v := iv (1)) hx hb d_Layout_addPart_24 rfl ?_
  refine k_iadd hx hb d_Layout_addPart_25 ?_
  refine k_imul hx hb d_Layout_addPart_26 ?_
  refine lv_aload_n hx hb d_Layout_addPart_27 rfl (lv_at hl 3 rfl) ?_
  refine va_get (D := gD G) (ci := 3) (v := .int (iv (ac))) (C := R_Setup) (T := F_Setup) (N := 9) hx hb hw in_Setup hown hK hP 7 rfl rfl 3 (by decide) (hw _ m1_38) (fun _ h => h) rfl d_Layout_addPart_28 ?_
  refine k_idiv hx hb d_Layout_addPart_31 (by omega) (by omega) ?_
  refine k_eqi (b := xe) (by rw [hxe]; rfl) ?_
  refine lv_istore hx hb d_Layout_addPart_32 hl (by decide) rfl (fun ls hl => ?_)
  have hl : lv_has ls 12 [(7, .int (iv (xe))), (6, .int (iv (s0 / ac))), (5, .int (iv (s0 % ac))), (0, .ref rL), (1, .ref rS), (2, .int (iv (s0))), (3, .int (iv (bn))), (4, .int (iv (cn)))] := hl
  refine lv_aload_n hx hb d_Layout_addPart_34 rfl (lv_at hl 3 rfl) ?_
  refine va_get (D := gD G) (ci := 1) (v := .ref rh) (C := R_Layout) (T := F_Layout) (N := 10) hx hb hw in_Layout hown hK hP 0 rfl rfl 6 (by decide) (hw _ m1_88) (fun _ h => h) rfl d_Layout_addPart_35 ?_
  refine lv_iload_n hx hb d_Layout_addPart_38 rfl (lv_at hl 6 rfl) ?_
  refine k_ial hx hb hK hP 4 0 rfl rfl (by decide) (by omega) d_Layout_addPart_39 ?_
  refine lv_iload hx hb d_Layout_addPart_40 (lv_at hl 1 rfl) ?_
  refine lv_iconst (v := iv (1)) hx hb d_Layout_addPart_42 rfl ?_
  refine k_iadd hx hb d_Layout_addPart_43 ?_
  refine k_imul hx hb d_Layout_addPart_44 ?_
  refine lv_aload_n hx hb d_Layout_addPart_45 rfl (lv_at hl 4 rfl) ?_
  refine va_get (D := gD G) (ci := 3) (v := .int (iv (dn))) (C := R_Setup) (T := F_Setup) (N := 9) hx hb hw in_Setup hown hK hP 7 rfl rfl 4 (by decide) (hw _ m1_41) (fun _ h => h) rfl d_Layout_addPart_46 ?_
  refine k_idiv hx hb d_Layout_addPart_49 (by omega) (by omega) ?_
  refine k_eqi (b := ye) (by rw [hye]; rfl) ?_
  refine lv_istore hx hb d_Layout_addPart_50 hl (by decide) rfl (fun ls hl => ?_)
  have hl : lv_has ls 12 [(8, .int (iv (ye))), (7, .int (iv (xe))), (6, .int (iv (s0 / ac))), (5, .int (iv (s0 % ac))), (0, .ref rL), (1, .ref rS), (2, .int (iv (s0))), (3, .int (iv (bn))), (4, .int (iv (cn)))] := hl
  refine lv_iload hx hb d_Layout_addPart_52 (lv_at hl 8 rfl) ?_
  refine lv_istore hx hb d_Layout_addPart_54 hl (by decide) rfl (fun ls hl => ?_)
  have hl : lv_has ls 12 [(9, .int (iv (cn))), (8, .int (iv (ye))), (7, .int (iv (xe))), (6, .int (iv (s0 / ac))), (5, .int (iv (s0 % ac))), (0, .ref rL), (1, .ref rS), (2, .int (iv (s0))), (3, .int (iv (bn))), (4, .int (iv (cn)))] := hl
  refine lv_aload_n hx hb d_Layout_addPart_56 rfl (lv_at hl 5 rfl) ?_
  refine va_get (D := gD G) (ci := 1) (v := .ref rh) (C := R_Layout) (T := F_Layout) (N := 10) hx hb hw in_Layout hown hK hP 0 rfl rfl 6 (by decide) (hw _ m1_88) (fun _ h => h) rfl d_Layout_addPart_57 ?_
  refine lv_iload_n hx hb d_Layout_addPart_60 rfl (lv_at hl 8 rfl) ?_
  refine k_ial hx hb hK hP 4 0 rfl rfl (by decide) (by omega) d_Layout_addPart_61 ?_
  refine lv_iload hx hb d_Layout_addPart_62 (lv_at hl 3 rfl) ?_
  refine k_imul hx hb d_Layout_addPart_64 ?_
  refine lv_aload_n hx hb d_Layout_addPart_65 rfl (lv_at hl 6 rfl) ?_
  refine va_get (D := gD G) (ci := 3) (v := .int (iv (dn))) (C := R_Setup) (T := F_Setup) (N := 9) hx hb hw in_Setup hown hK hP 7 rfl rfl 4 (by decide) (hw _ m1_41) (fun _ h => h) rfl d_Layout_addPart_66 ?_
  refine k_idiv hx hb d_Layout_addPart_69 (by omega) (by omega) ?_
  refine k_eqi (b := ys) (by rw [hys]; rfl) ?_
  refine lv_istore hx hb d_Layout_addPart_70 hl (by decide) rfl (fun ls hl => ?_)
  have hl : lv_has ls 12 [(10, .int (iv (ys))), (9, .int (iv (cn))), (8, .int (iv (ye))), (7, .int (iv (xe))), (6, .int (iv (s0 / ac))), (5, .int (iv (s0 % ac))), (0, .ref rL), (1, .ref rS), (2, .int (iv (s0))), (3, .int (iv (bn))), (4, .int (iv (cn)))] := hl
  refine lo_up (P := fun y => ∀ (ls : Array Slot) (H : Heap) (locs : List Loc) (n1 : Int) (gp1 : Int → Int) (gb1 : Int → Int), lv_has ls 12 [(0, .ref rL), (1, .ref rS), (2, .int (iv (s0))), (3, .int (iv (bn))), (4, .int (iv (cn))), (5, .int (iv (s0 % ac))), (6, .int (iv (s0 / ac))), (7, .int (iv (xe))), (8, .int (iv (ye))), (9, .int (iv (n1))), (10, .int (iv (y)))] → va_P (gD G) classes [(rL, .inr (1, [.int (iv (cP)), .int (iv (cQ)), .int (iv (nb)), .ref rl, .ref rt, .ref rw, .ref rh, .ref rf, .ref rp, .ref rb])), (rl, ai (gI G) 8 (gl)), (rt, ai (gI G) 8 (gt)), (rw, ai (gI G) 8 (gw)), (rh, ai (gI G) 8 (gh)), (rp, ai (gI G) 256 (gp1)), (rb, ai (gI G) 256 (gb1)), (rS, .inr (3, [.int (iv (kd)), .int (iv (db)), .int (iv (ew)), .int (iv (ac)), .int (iv (dn)), .int (iv (pr)), .ref rE, .int (iv (nu)), .int (iv (de))]))] H → va_D A [(rL, .inr (1, [.int (iv (cP)), .int (iv (cQ)), .int (iv (nb)), .ref rl, .ref rt, .ref rw, .ref rh, .ref rf, .ref rp, .ref rb])), (rl, ai (gI G) 8 (gl)), (rt, ai (gI G) 8 (gt)), (rw, ai (gI G) 8 (gw)), (rh, ai (gI G) 8 (gh)), (rp, ai (gI G) 256 (gp1)), (rb, ai (gI G) 256 (gb1)), (rS, .inr (3, [.int (iv (kd)), .int (iv (db)), .int (iv (ew)), .int (iv (ac)), .int (iv (dn)), .int (iv (pr)), .ref rE, .int (iv (nu)), .int (iv (de))]))] → va_S A s.heap H locs → ((n1, gp1, gb1) = it (pry (gl bn) (gt bn) bn xs xe) ys y (cn, gp, gb)) → (n1 = cn + (y - ys) * (xe - xs)) → W p l e r_Layout_addPart s m args below meth c H locs 0 0 Q (F0 m 72 ls [])) (a := ys) (b := ye) (fun y hiy hjy ihy => ?_) _ _ _ cn gp gb (lv_sub hl [6, 7, 8, 9, 10, 5, 4, 3, 2, 1, 0] rfl) hP hD hS (it_self _ _ _).symm (by rw [Int.sub_self, Int.zero_mul, Int.add_zero])
  intro ls H locs n1 gp1 gb1 hl hP hD hS hs hn
  refine lv_iload hx hb d_Layout_addPart_72 (lv_at hl 10 rfl) ?_
  refine lv_iload hx hb d_Layout_addPart_74 (lv_at hl 8 rfl) ?_
  refine k_icmp_ge (tgt := 154) hx hb d_Layout_addPart_76 (by decide) (by omega) (by omega) (fun hc76 => ?_) (fun hc76 => ?_)
  · refine lv_iload hx hb d_Layout_addPart_154 (lv_at hl 9 rfl) ?_
    exact k_iret hx hb hr hlk hQ ((n1, gp1, gb1)) (⟨rfl, by unfold prt; rw [← hxe, ← hxs, ← hye, ← hys, hs]; exact it_x _ _ hc76 hjy⟩) hP hD hS d_Layout_addPart_156
  · have b1 : (y - ys) * (xe - xs) + (xe - xs) ≤ (ye - ys) * (xe - xs) := by have := Int.mul_le_mul_of_nonneg_right (show y - ys + 1 ≤ ye - ys by omega) (show 0 ≤ xe - xs by omega); rw [Int.add_mul, Int.one_mul] at this; exact this
    have b2 : 0 ≤ (y - ys) * (xe - xs) := Int.mul_nonneg (by omega) (by omega)
    refine lv_aload_n hx hb d_Layout_addPart_79 rfl (lv_at hl 0 rfl) ?_
    refine va_get (D := gD G) (ci := 1) (v := .ref rw) (C := R_Layout) (T := F_Layout) (N := 10) hx hb hw in_Layout hown hK hP 0 rfl rfl 5 (by decide) (hw _ m1_87) (fun _ h => h) rfl d_Layout_addPart_80 ?_
    refine lv_iload_n hx hb d_Layout_addPart_83 rfl (lv_at hl 3 rfl) ?_
    refine k_ial hx hb hK hP 3 0 rfl rfl (by decide) (by omega) d_Layout_addPart_84 ?_
    refine lv_iload hx hb d_Layout_addPart_85 (lv_at hl 5 rfl) ?_
    refine k_imul hx hb d_Layout_addPart_87 ?_
    refine lv_aload_n hx hb d_Layout_addPart_88 rfl (lv_at hl 1 rfl) ?_
    refine va_get (D := gD G) (ci := 3) (v := .int (iv (ac))) (C := R_Setup) (T := F_Setup) (N := 9) hx hb hw in_Setup hown hK hP 7 rfl rfl 3 (by decide) (hw _ m1_38) (fun _ h => h) rfl d_Layout_addPart_89 ?_
    refine k_idiv hx hb d_Layout_addPart_92 (by omega) (by omega) ?_
    refine k_eqi (b := xs) (by rw [hxs]; rfl) ?_
    refine lv_istore hx hb d_Layout_addPart_93 hl (by decide) rfl (fun ls hl => ?_)
    have hl : lv_has ls 12 [(11, .int (iv (xs))), (0, .ref rL), (1, .ref rS), (2, .int (iv (s0))), (3, .int (iv (bn))), (4, .int (iv (cn))), (5, .int (iv (s0 % ac))), (6, .int (iv (s0 / ac))), (7, .int (iv (xe))), (8, .int (iv (ye))), (9, .int (iv (n1))), (10, .int (iv (y)))] := hl
    refine lo_up (P := fun x => ∀ (ls : Array Slot) (H : Heap) (locs : List Loc) (n2 : Int) (gp2 : Int → Int) (gb2 : Int → Int), lv_has ls 12 [(0, .ref rL), (1, .ref rS), (2, .int (iv (s0))), (3, .int (iv (bn))), (4, .int (iv (cn))), (5, .int (iv (s0 % ac))), (6, .int (iv (s0 / ac))), (7, .int (iv (xe))), (8, .int (iv (ye))), (9, .int (iv (n2))), (10, .int (iv (y))), (11, .int (iv (x)))] → va_P (gD G) classes [(rL, .inr (1, [.int (iv (cP)), .int (iv (cQ)), .int (iv (nb)), .ref rl, .ref rt, .ref rw, .ref rh, .ref rf, .ref rp, .ref rb])), (rl, ai (gI G) 8 (gl)), (rt, ai (gI G) 8 (gt)), (rw, ai (gI G) 8 (gw)), (rh, ai (gI G) 8 (gh)), (rp, ai (gI G) 256 (gp2)), (rb, ai (gI G) 256 (gb2)), (rS, .inr (3, [.int (iv (kd)), .int (iv (db)), .int (iv (ew)), .int (iv (ac)), .int (iv (dn)), .int (iv (pr)), .ref rE, .int (iv (nu)), .int (iv (de))]))] H → va_D A [(rL, .inr (1, [.int (iv (cP)), .int (iv (cQ)), .int (iv (nb)), .ref rl, .ref rt, .ref rw, .ref rh, .ref rf, .ref rp, .ref rb])), (rl, ai (gI G) 8 (gl)), (rt, ai (gI G) 8 (gt)), (rw, ai (gI G) 8 (gw)), (rh, ai (gI G) 8 (gh)), (rp, ai (gI G) 256 (gp2)), (rb, ai (gI G) 256 (gb2)), (rS, .inr (3, [.int (iv (kd)), .int (iv (db)), .int (iv (ew)), .int (iv (ac)), .int (iv (dn)), .int (iv (pr)), .ref rE, .int (iv (nu)), .int (iv (de))]))] → va_S A s.heap H locs → ((n2, gp2, gb2) = it (prx (gl bn) (gt bn) bn y) xs x (n1, gp1, gb1)) → (n2 = n1 + (x - xs)) → W p l e r_Layout_addPart s m args below meth c H locs 0 0 Q (F0 m 95 ls [])) (a := xs) (b := xe) (fun x hix hjx ihx => ?_) _ _ _ n1 gp1 gb1 (lv_sub hl [1, 2, 3, 4, 5, 6, 7, 8, 9, 10, 11, 0] rfl) hP hD hS (it_self _ _ _).symm (by omega)
    intro ls H locs n2 gp2 gb2 hl hP hD hS hs2 hn2
    refine lv_iload hx hb d_Layout_addPart_95 (lv_at hl 11 rfl) ?_
    refine lv_iload hx hb d_Layout_addPart_97 (lv_at hl 7 rfl) ?_
    refine k_icmp_ge (tgt := 148) hx hb d_Layout_addPart_99 (by decide) (by omega) (by omega) (fun hc99 => ?_) (fun hc99 => ?_)
    · refine lv_iinc (k := 10) (v := iv (y + 1)) hx hb d_Layout_addPart_148 hl rfl (iv_add _ _) (by decide) rfl (fun ls hl => ?_)
      have hl : lv_has ls 12 [(10, .int (iv (y + 1))), (0, .ref rL), (1, .ref rS), (2, .int (iv (s0))), (3, .int (iv (bn))), (4, .int (iv (cn))), (5, .int (iv (s0 % ac))), (6, .int (iv (s0 / ac))), (7, .int (iv (xe))), (8, .int (iv (ye))), (9, .int (iv (n2))), (11, .int (iv (x)))] := hl
      refine lv_goto (tgt := 72) hx hb d_Layout_addPart_151 (by decide) ?_
      exact ihy (by omega) _ _ _ n2 gp2 gb2 (lv_sub hl [1, 2, 3, 4, 5, 6, 7, 8, 9, 10, 0] rfl) hP hD hS (by rw [it_s _ _ hiy, ← hs]; show _ = it (prx (gl bn) (gt bn) bn y) xs xe (n1, gp1, gb1); rw [hs2]; exact it_x _ _ hc99 hjx) (by rw [hn2, hn, show y + 1 - ys = (y - ys) + 1 by omega, Int.add_mul, Int.one_mul]; omega)
    · refine lv_aload_n hx hb d_Layout_addPart_102 rfl (lv_at hl 0 rfl) ?_
      refine va_get (D := gD G) (ci := 1) (v := .ref rp) (C := R_Layout) (T := F_Layout) (N := 10) hx hb hw in_Layout hown hK hP 0 rfl rfl 8 (by decide) (hw _ m1_91) (fun _ h => h) rfl d_Layout_addPart_103 ?_
      refine lv_iload hx hb d_Layout_addPart_106 (lv_at hl 9 rfl) ?_
      refine lv_aload_n hx hb d_Layout_addPart_108 rfl (lv_at hl 0 rfl) ?_
      refine va_get (D := gD G) (ci := 1) (v := .ref rt) (C := R_Layout) (T := F_Layout) (N := 10) hx hb hw in_Layout hown hK hP 0 rfl rfl 4 (by decide) (hw _ m1_86) (fun _ h => h) rfl d_Layout_addPart_109 ?_
      refine lv_iload_n hx hb d_Layout_addPart_112 rfl (lv_at hl 3 rfl) ?_
      refine k_ial hx hb hK hP 2 0 rfl rfl (by decide) (by omega) d_Layout_addPart_113 ?_
      refine lv_iload hx hb d_Layout_addPart_114 (lv_at hl 10 rfl) ?_
      refine k_iadd hx hb d_Layout_addPart_116 ?_
      refine lv_bipush (v := iv (16)) hx hb d_Layout_addPart_117 rfl ?_
      refine k_imul hx hb d_Layout_addPart_119 ?_
      refine lv_aload_n hx hb d_Layout_addPart_120 rfl (lv_at hl 0 rfl) ?_
      refine va_get (D := gD G) (ci := 1) (v := .ref rl) (C := R_Layout) (T := F_Layout) (N := 10) hx hb hw in_Layout hown hK hP 0 rfl rfl 3 (by decide) (hw _ m1_85) (fun _ h => h) rfl d_Layout_addPart_121 ?_
      refine lv_iload_n hx hb d_Layout_addPart_124 rfl (lv_at hl 3 rfl) ?_
      refine k_ial hx hb hK hP 1 0 rfl rfl (by decide) (by omega) d_Layout_addPart_125 ?_
      refine k_iadd hx hb d_Layout_addPart_126 ?_
      refine lv_iload hx hb d_Layout_addPart_127 (lv_at hl 11 rfl) ?_
      refine k_iadd hx hb d_Layout_addPart_129 ?_
      refine k_ias hx hb hK hP hD hS 5 0 rfl rfl (by decide) (by omega) d_Layout_addPart_130 (fun H locs hP hD hS => ?_)
      have hP : va_P (gD G) classes [(rL, .inr (1, [.int (iv (cP)), .int (iv (cQ)), .int (iv (nb)), .ref rl, .ref rt, .ref rw, .ref rh, .ref rf, .ref rp, .ref rb])), (rl, ai (gI G) 8 (gl)), (rt, ai (gI G) 8 (gt)), (rw, ai (gI G) 8 (gw)), (rh, ai (gI G) 8 (gh)), (rp, ai (gI G) 256 (up gp2 n2 (((((gt bn) + y) * 16) + (gl bn)) + x))), (rb, ai (gI G) 256 (gb2)), (rS, .inr (3, [.int (iv (kd)), .int (iv (db)), .int (iv (ew)), .int (iv (ac)), .int (iv (dn)), .int (iv (pr)), .ref rE, .int (iv (nu)), .int (iv (de))]))] H := hP
      have hD : va_D A [(rL, .inr (1, [.int (iv (cP)), .int (iv (cQ)), .int (iv (nb)), .ref rl, .ref rt, .ref rw, .ref rh, .ref rf, .ref rp, .ref rb])), (rl, ai (gI G) 8 (gl)), (rt, ai (gI G) 8 (gt)), (rw, ai (gI G) 8 (gw)), (rh, ai (gI G) 8 (gh)), (rp, ai (gI G) 256 (up gp2 n2 (((((gt bn) + y) * 16) + (gl bn)) + x))), (rb, ai (gI G) 256 (gb2)), (rS, .inr (3, [.int (iv (kd)), .int (iv (db)), .int (iv (ew)), .int (iv (ac)), .int (iv (dn)), .int (iv (pr)), .ref rE, .int (iv (nu)), .int (iv (de))]))] := hD
      refine lv_aload_n hx hb d_Layout_addPart_131 rfl (lv_at hl 0 rfl) ?_
      refine va_get (D := gD G) (ci := 1) (v := .ref rb) (C := R_Layout) (T := F_Layout) (N := 10) hx hb hw in_Layout hown hK hP 0 rfl rfl 9 (by decide) (hw _ m1_93) (fun _ h => h) rfl d_Layout_addPart_132 ?_
      refine lv_iload hx hb d_Layout_addPart_135 (lv_at hl 9 rfl) ?_
      refine lv_iload_n hx hb d_Layout_addPart_137 rfl (lv_at hl 3 rfl) ?_
      refine k_ias hx hb hK hP hD hS 6 0 rfl rfl (by decide) (by omega) d_Layout_addPart_138 (fun H locs hP hD hS => ?_)
      have hP : va_P (gD G) classes [(rL, .inr (1, [.int (iv (cP)), .int (iv (cQ)), .int (iv (nb)), .ref rl, .ref rt, .ref rw, .ref rh, .ref rf, .ref rp, .ref rb])), (rl, ai (gI G) 8 (gl)), (rt, ai (gI G) 8 (gt)), (rw, ai (gI G) 8 (gw)), (rh, ai (gI G) 8 (gh)), (rp, ai (gI G) 256 (up gp2 n2 (((((gt bn) + y) * 16) + (gl bn)) + x))), (rb, ai (gI G) 256 (up gb2 n2 bn)), (rS, .inr (3, [.int (iv (kd)), .int (iv (db)), .int (iv (ew)), .int (iv (ac)), .int (iv (dn)), .int (iv (pr)), .ref rE, .int (iv (nu)), .int (iv (de))]))] H := hP
      have hD : va_D A [(rL, .inr (1, [.int (iv (cP)), .int (iv (cQ)), .int (iv (nb)), .ref rl, .ref rt, .ref rw, .ref rh, .ref rf, .ref rp, .ref rb])), (rl, ai (gI G) 8 (gl)), (rt, ai (gI G) 8 (gt)), (rw, ai (gI G) 8 (gw)), (rh, ai (gI G) 8 (gh)), (rp, ai (gI G) 256 (up gp2 n2 (((((gt bn) + y) * 16) + (gl bn)) + x))), (rb, ai (gI G) 256 (up gb2 n2 bn)), (rS, .inr (3, [.int (iv (kd)), .int (iv (db)), .int (iv (ew)), .int (iv (ac)), .int (iv (dn)), .int (iv (pr)), .ref rE, .int (iv (nu)), .int (iv (de))]))] := hD
      refine lv_iinc (k := 9) (v := iv (n2 + 1)) hx hb d_Layout_addPart_139 hl rfl (iv_add _ _) (by decide) rfl (fun ls hl => ?_)
      have hl : lv_has ls 12 [(9, .int (iv (n2 + 1))), (0, .ref rL), (1, .ref rS), (2, .int (iv (s0))), (3, .int (iv (bn))), (4, .int (iv (cn))), (5, .int (iv (s0 % ac))), (6, .int (iv (s0 / ac))), (7, .int (iv (xe))), (8, .int (iv (ye))), (10, .int (iv (y))), (11, .int (iv (x)))] := hl
      refine lv_iinc (k := 11) (v := iv (x + 1)) hx hb d_Layout_addPart_142 hl rfl (iv_add _ _) (by decide) rfl (fun ls hl => ?_)
      have hl : lv_has ls 12 [(11, .int (iv (x + 1))), (9, .int (iv (n2 + 1))), (0, .ref rL), (1, .ref rS), (2, .int (iv (s0))), (3, .int (iv (bn))), (4, .int (iv (cn))), (5, .int (iv (s0 % ac))), (6, .int (iv (s0 / ac))), (7, .int (iv (xe))), (8, .int (iv (ye))), (10, .int (iv (y)))] := hl
      refine lv_goto (tgt := 95) hx hb d_Layout_addPart_145 (by decide) ?_
      exact ihx (by omega) _ _ _ (n2 + 1) (up gp2 n2 (((((gt bn) + y) * 16) + (gl bn)) + x)) (up gb2 n2 bn) (lv_sub hl [2, 3, 4, 5, 6, 7, 8, 9, 10, 1, 11, 0] rfl) hP hD hS (by rw [it_s _ _ hix, ← hs2]; rfl) (by omega)
abbrev w_Layout_cutSlices : List Cond := Cond.code y_Layout_cutSlices prog_3_method_4_code 5 none :: wl
abbrev r_Layout_cutSlices : Room := { frames := 1, cells := 0, slots := 0, locals := 31 }
set_option maxHeartbeats 4000000 in
set_option maxRecDepth 100000 in
theorem c_Layout_cutSlices (l : Launch) (G : k_G) (sz : Nat) (rL rS rl rt rw rh rf rp rb rE : Nat) (cP cQ nb kd db ew ac dn pr nu de : Int) (gl gt gw gh gf gp gb : Int → Int) (hac : 1 ≤ ac ∧ ac ≤ 4) (hdn : 1 ≤ dn ∧ dn ≤ 4) (hnb : 0 ≤ nb ∧ nb ≤ 8) (hbb : ∀ b, 0 ≤ b → b < nb → (0 ≤ gw b ∧ gw b ≤ 16) ∧ 0 ≤ gh b ∧ gh b ≤ 16) (hcap : ∀ s b, 0 ≤ s → s < ac * dn → 0 ≤ b → b < nb → 0 ≤ (it (prb gl gt gw gh ac dn s) 0 b (slA gl gt gw gh nb ac dn gf gp gb s).2).1 ∧ (it (prb gl gt gw gh ac dn s) 0 b (slA gl gt gw gh nb ac dn gf gp gb s).2).1 + psz (gw b) (gh b) ac dn s ≤ 256) : Met l y_Layout_cutSlices w_Layout_cutSlices r_Layout_cutSlices (k_P G [.ref rL, .ref rS] [(rL, .inr (1, [.int (iv (cP)), .int (iv (cQ)), .int (iv (nb)), .ref rl, .ref rt, .ref rw, .ref rh, .ref rf, .ref rp, .ref rb])), (rl, ai (gI G) 8 (gl)), (rt, ai (gI G) 8 (gt)), (rw, ai (gI G) 8 (gw)), (rh, ai (gI G) 8 (gh)), (rf, ai (gI G) 17 (gf)), (rp, ai (gI G) 256 (gp)), (rb, ai (gI G) 256 (gb)), (rS, .inr (3, [.int (iv (kd)), .int (iv (db)), .int (iv (ew)), .int (iv (ac)), .int (iv (dn)), .int (iv (pr)), .ref rE, .int (iv (nu)), .int (iv (de))]))] sz) (qv G (fun u : (Int → Int) × (Int → Int) × (Int → Int) => u = (up (slA gl gt gw gh nb ac dn gf gp gb (ac * dn)).1 (ac * dn) (slA gl gt gw gh nb ac dn gf gp gb (ac * dn)).2.1, (slA gl gt gw gh nb ac dn gf gp gb (ac * dn)).2.2.1, (slA gl gt gw gh nb ac dn gf gp gb (ac * dn)).2.2.2)) (fun u : (Int → Int) × (Int → Int) × (Int → Int) => [(rL, .inr (1, [.int (iv (cP)), .int (iv (cQ)), .int (iv (nb)), .ref rl, .ref rt, .ref rw, .ref rh, .ref rf, .ref rp, .ref rb])), (rl, ai (gI G) 8 (gl)), (rt, ai (gI G) 8 (gt)), (rw, ai (gI G) 8 (gw)), (rh, ai (gI G) 8 (gh)), (rf, ai (gI G) 17 (u.1)), (rp, ai (gI G) 256 (u.2.1)), (rb, ai (gI G) 256 (u.2.2)), (rS, .inr (3, [.int (iv (kd)), .int (iv (db)), .int (iv (ew)), .int (iv (ac)), .int (iv (dn)), .int (iv (pr)), .ref rE, .int (iv (nu)), .int (iv (de))]))]) (va_A [(rL, .inr (1, [.int (iv (cP)), .int (iv (cQ)), .int (iv (nb)), .ref rl, .ref rt, .ref rw, .ref rh, .ref rf, .ref rp, .ref rb])), (rl, ai (gI G) 8 (gl)), (rt, ai (gI G) 8 (gt)), (rw, ai (gI G) 8 (gw)), (rh, ai (gI G) 8 (gh)), (rf, ai (gI G) 17 (gf)), (rp, ai (gI G) 256 (gp)), (rb, ai (gI G) 256 (gb)), (rS, .inr (3, [.int (iv (kd)), .int (iv (db)), .int (iv (ew)), .int (iv (ac)), .int (iv (dn)), .int (iv (pr)), .ref rE, .int (iv (nu)), .int (iv (de))]))] sz)) 0 0 (va_A [(rL, .inr (1, [.int (iv (cP)), .int (iv (cQ)), .int (iv (nb)), .ref rl, .ref rt, .ref rw, .ref rh, .ref rf, .ref rp, .ref rb])), (rl, ai (gI G) 8 (gl)), (rt, ai (gI G) 8 (gt)), (rw, ai (gI G) 8 (gw)), (rh, ai (gI G) 8 (gh)), (rf, ai (gI G) 17 (gf)), (rp, ai (gI G) 256 (gp)), (rb, ai (gI G) 256 (gb)), (rS, .inr (3, [.int (iv (kd)), .int (iv (db)), .int (iv (ew)), .int (iv (ac)), .int (iv (dn)), .int (iv (pr)), .ref rE, .int (iv (nu)), .int (iv (de))]))] sz) := by
  refine k_met (fun A => qv G (fun u : (Int → Int) × (Int → Int) × (Int → Int) => u = (up (slA gl gt gw gh nb ac dn gf gp gb (ac * dn)).1 (ac * dn) (slA gl gt gw gh nb ac dn gf gp gb (ac * dn)).2.1, (slA gl gt gw gh nb ac dn gf gp gb (ac * dn)).2.2.1, (slA gl gt gw gh nb ac dn gf gp gb (ac * dn)).2.2.2)) (fun u : (Int → Int) × (Int → Int) × (Int → Int) => [(rL, .inr (1, [.int (iv (cP)), .int (iv (cQ)), .int (iv (nb)), .ref rl, .ref rt, .ref rw, .ref rh, .ref rf, .ref rp, .ref rb])), (rl, ai (gI G) 8 (gl)), (rt, ai (gI G) 8 (gt)), (rw, ai (gI G) 8 (gw)), (rh, ai (gI G) 8 (gh)), (rf, ai (gI G) 17 (u.1)), (rp, ai (gI G) 256 (u.2.1)), (rb, ai (gI G) 256 (u.2.2)), (rS, .inr (3, [.int (iv (kd)), .int (iv (db)), .int (iv (ew)), .int (iv (ac)), .int (iv (dn)), .int (iv (pr)), .ref rE, .int (iv (nu)), .int (iv (de))]))]) A) (fun A => A) (by decide) rfl (Nat.le_of_ble_eq_true rfl) (fun p e s m args below meth c ls A Q S hr hlk hnm hl hsz hP hK hD hS hA hT hQ => ?_)
  obtain ⟨hx, hb, hml, hown, hts⟩ := id S
  have hw : ∀ w ∈ wl, w.before args s = true := fun w h => hts w (List.mem_cons_of_mem _ h)
  have hl : lv_has ls 5 [(0, .ref rL), (1, .ref rS)] := hl
  have m1 := mul_r (a := ac) (b := dn) (A := 4) (B := 4) (by omega) (by omega)
  have m2 : 1 ≤ ac * dn := Int.mul_pos (by omega) (by omega)
  refine lv_iconst (v := iv (0)) hx hb d_Layout_cutSlices_0 rfl ?_
  refine lv_istore_n hx hb d_Layout_cutSlices_1 rfl hl (by decide) rfl (fun ls hl => ?_)
  have hl : lv_has ls 5 [(2, .int (iv (0))), (0, .ref rL), (1, .ref rS)] := hl
  refine lv_iconst (v := iv (0)) hx hb d_Layout_cutSlices_2 rfl ?_
  refine lv_istore_n hx hb d_Layout_cutSlices_3 rfl hl (by decide) rfl (fun ls hl => ?_)
  have hl : lv_has ls 5 [(3, .int (iv (0))), (2, .int (iv (0))), (0, .ref rL), (1, .ref rS)] := hl
  refine lo_up (P := fun i => ∀ (ls : Array Slot) (H : Heap) (locs : List Loc) (n1 : Int) (gf1 : Int → Int) (gp1 : Int → Int) (gb1 : Int → Int), lv_has ls 5 [(0, .ref rL), (1, .ref rS), (2, .int (iv (n1))), (3, .int (iv (i)))] → va_P (gD G) classes [(rL, .inr (1, [.int (iv (cP)), .int (iv (cQ)), .int (iv (nb)), .ref rl, .ref rt, .ref rw, .ref rh, .ref rf, .ref rp, .ref rb])), (rl, ai (gI G) 8 (gl)), (rt, ai (gI G) 8 (gt)), (rw, ai (gI G) 8 (gw)), (rh, ai (gI G) 8 (gh)), (rf, ai (gI G) 17 (gf1)), (rp, ai (gI G) 256 (gp1)), (rb, ai (gI G) 256 (gb1)), (rS, .inr (3, [.int (iv (kd)), .int (iv (db)), .int (iv (ew)), .int (iv (ac)), .int (iv (dn)), .int (iv (pr)), .ref rE, .int (iv (nu)), .int (iv (de))]))] H → va_D A [(rL, .inr (1, [.int (iv (cP)), .int (iv (cQ)), .int (iv (nb)), .ref rl, .ref rt, .ref rw, .ref rh, .ref rf, .ref rp, .ref rb])), (rl, ai (gI G) 8 (gl)), (rt, ai (gI G) 8 (gt)), (rw, ai (gI G) 8 (gw)), (rh, ai (gI G) 8 (gh)), (rf, ai (gI G) 17 (gf1)), (rp, ai (gI G) 256 (gp1)), (rb, ai (gI G) 256 (gb1)), (rS, .inr (3, [.int (iv (kd)), .int (iv (db)), .int (iv (ew)), .int (iv (ac)), .int (iv (dn)), .int (iv (pr)), .ref rE, .int (iv (nu)), .int (iv (de))]))] → va_S A s.heap H locs → ((gf1, n1, gp1, gb1) = slA gl gt gw gh nb ac dn gf gp gb i) → W p l e r_Layout_cutSlices s m args below meth c H locs 0 0 Q (F0 m 4 ls [])) (a := 0) (b := ac * dn) (fun i hii hji ihi => ?_) _ _ _ 0 gf gp gb (lv_sub hl [2, 3, 1, 0] rfl) hP hD hS (it_self _ _ _).symm
  intro ls H locs n1 gf1 gp1 gb1 hl hP hD hS hs
  refine lv_iload_n hx hb d_Layout_cutSlices_4 rfl (lv_at hl 3 rfl) ?_
  refine lv_aload_n hx hb d_Layout_cutSlices_5 rfl (lv_at hl 1 rfl) ?_
  refine k_ciR (k_rv S (c_Setup_sliceCount l G _ rS rE kd db ew ac dn pr nu de ) 0 m1_239 m1_236 m1_237 m1_238 m1_2 (by decide +kernel) (by decide) rfl rfl (k_preV (q0 := 8) hK hP hD hS hA hT rfl rfl [8] (by decide) rfl) rfl hl.1 rfl (Nat.le_of_ble_eq_true rfl) d_Layout_cutSlices_6 ⟨Nat.le_of_ble_eq_true rfl, Nat.le_of_ble_eq_true rfl⟩) (fun r6 h6 => ?_)
  subst h6
  refine k_icmp_ge (tgt := 53) hx hb d_Layout_cutSlices_9 (by decide) (by omega) (by omega) (fun hc9 => ?_) (fun hc9 => ?_)
  · refine lv_aload_n hx hb d_Layout_cutSlices_53 rfl (lv_at hl 0 rfl) ?_
    refine va_get (D := gD G) (ci := 1) (v := .ref rf) (C := R_Layout) (T := F_Layout) (N := 10) hx hb hw in_Layout hown hK hP 0 rfl rfl 7 (by decide) (hw _ m1_89) (fun _ h => h) rfl d_Layout_cutSlices_54 ?_
    refine lv_aload_n hx hb d_Layout_cutSlices_57 rfl (lv_at hl 1 rfl) ?_
    refine k_ciR (k_rv S (c_Setup_sliceCount l G _ rS rE kd db ew ac dn pr nu de ) 0 m1_239 m1_236 m1_237 m1_238 m1_2 (by decide +kernel) (by decide) rfl rfl (k_preV (q0 := 8) hK hP hD hS hA hT rfl rfl [8] (by decide) rfl) rfl hl.1 rfl (Nat.le_of_ble_eq_true rfl) d_Layout_cutSlices_58 ⟨Nat.le_of_ble_eq_true rfl, Nat.le_of_ble_eq_true rfl⟩) (fun r58 h58 => ?_)
    subst h58
    refine lv_iload_n hx hb d_Layout_cutSlices_61 rfl (lv_at hl 2 rfl) ?_
    refine k_ias hx hb hK hP hD hS 5 0 rfl rfl (by decide) (by omega) d_Layout_cutSlices_62 (fun H locs hP hD hS => ?_)
    have hP : va_P (gD G) classes [(rL, .inr (1, [.int (iv (cP)), .int (iv (cQ)), .int (iv (nb)), .ref rl, .ref rt, .ref rw, .ref rh, .ref rf, .ref rp, .ref rb])), (rl, ai (gI G) 8 (gl)), (rt, ai (gI G) 8 (gt)), (rw, ai (gI G) 8 (gw)), (rh, ai (gI G) 8 (gh)), (rf, ai (gI G) 17 (up gf1 (ac * dn) n1)), (rp, ai (gI G) 256 (gp1)), (rb, ai (gI G) 256 (gb1)), (rS, .inr (3, [.int (iv (kd)), .int (iv (db)), .int (iv (ew)), .int (iv (ac)), .int (iv (dn)), .int (iv (pr)), .ref rE, .int (iv (nu)), .int (iv (de))]))] H := hP
    have hD : va_D A [(rL, .inr (1, [.int (iv (cP)), .int (iv (cQ)), .int (iv (nb)), .ref rl, .ref rt, .ref rw, .ref rh, .ref rf, .ref rp, .ref rb])), (rl, ai (gI G) 8 (gl)), (rt, ai (gI G) 8 (gt)), (rw, ai (gI G) 8 (gw)), (rh, ai (gI G) 8 (gh)), (rf, ai (gI G) 17 (up gf1 (ac * dn) n1)), (rp, ai (gI G) 256 (gp1)), (rb, ai (gI G) 256 (gb1)), (rS, .inr (3, [.int (iv (kd)), .int (iv (db)), .int (iv (ew)), .int (iv (ac)), .int (iv (dn)), .int (iv (pr)), .ref rE, .int (iv (nu)), .int (iv (de))]))] := hD
    have hi : i = ac * dn := by omega
    subst hi
    exact k_vret hx hb hr hlk hQ ((up gf1 (ac * dn) n1, gp1, gb1)) (by rw [← hs]) hP hD hS d_Layout_cutSlices_63
  · refine lv_aload_n hx hb d_Layout_cutSlices_12 rfl (lv_at hl 0 rfl) ?_
    refine va_get (D := gD G) (ci := 1) (v := .ref rf) (C := R_Layout) (T := F_Layout) (N := 10) hx hb hw in_Layout hown hK hP 0 rfl rfl 7 (by decide) (hw _ m1_89) (fun _ h => h) rfl d_Layout_cutSlices_13 ?_
    refine lv_iload_n hx hb d_Layout_cutSlices_16 rfl (lv_at hl 3 rfl) ?_
    refine lv_iload_n hx hb d_Layout_cutSlices_17 rfl (lv_at hl 2 rfl) ?_
    refine k_ias hx hb hK hP hD hS 5 0 rfl rfl (by decide) (by omega) d_Layout_cutSlices_18 (fun H locs hP hD hS => ?_)
    have hP : va_P (gD G) classes [(rL, .inr (1, [.int (iv (cP)), .int (iv (cQ)), .int (iv (nb)), .ref rl, .ref rt, .ref rw, .ref rh, .ref rf, .ref rp, .ref rb])), (rl, ai (gI G) 8 (gl)), (rt, ai (gI G) 8 (gt)), (rw, ai (gI G) 8 (gw)), (rh, ai (gI G) 8 (gh)), (rf, ai (gI G) 17 (up gf1 i n1)), (rp, ai (gI G) 256 (gp1)), (rb, ai (gI G) 256 (gb1)), (rS, .inr (3, [.int (iv (kd)), .int (iv (db)), .int (iv (ew)), .int (iv (ac)), .int (iv (dn)), .int (iv (pr)), .ref rE, .int (iv (nu)), .int (iv (de))]))] H := hP
    have hD : va_D A [(rL, .inr (1, [.int (iv (cP)), .int (iv (cQ)), .int (iv (nb)), .ref rl, .ref rt, .ref rw, .ref rh, .ref rf, .ref rp, .ref rb])), (rl, ai (gI G) 8 (gl)), (rt, ai (gI G) 8 (gt)), (rw, ai (gI G) 8 (gw)), (rh, ai (gI G) 8 (gh)), (rf, ai (gI G) 17 (up gf1 i n1)), (rp, ai (gI G) 256 (gp1)), (rb, ai (gI G) 256 (gb1)), (rS, .inr (3, [.int (iv (kd)), .int (iv (db)), .int (iv (ew)), .int (iv (ac)), .int (iv (dn)), .int (iv (pr)), .ref rE, .int (iv (nu)), .int (iv (de))]))] := hD
    refine lv_iconst (v := iv (0)) hx hb d_Layout_cutSlices_19 rfl ?_
    refine lv_istore hx hb d_Layout_cutSlices_20 hl (by decide) rfl (fun ls hl => ?_)
    have hl : lv_has ls 5 [(4, .int (iv (0))), (0, .ref rL), (1, .ref rS), (2, .int (iv (n1))), (3, .int (iv (i)))] := hl
    refine lo_up (P := fun j => ∀ (ls : Array Slot) (H : Heap) (locs : List Loc) (n2 : Int) (gp2 : Int → Int) (gb2 : Int → Int), lv_has ls 5 [(0, .ref rL), (1, .ref rS), (2, .int (iv (n2))), (3, .int (iv (i))), (4, .int (iv (j)))] → va_P (gD G) classes [(rL, .inr (1, [.int (iv (cP)), .int (iv (cQ)), .int (iv (nb)), .ref rl, .ref rt, .ref rw, .ref rh, .ref rf, .ref rp, .ref rb])), (rl, ai (gI G) 8 (gl)), (rt, ai (gI G) 8 (gt)), (rw, ai (gI G) 8 (gw)), (rh, ai (gI G) 8 (gh)), (rf, ai (gI G) 17 (up gf1 i n1)), (rp, ai (gI G) 256 (gp2)), (rb, ai (gI G) 256 (gb2)), (rS, .inr (3, [.int (iv (kd)), .int (iv (db)), .int (iv (ew)), .int (iv (ac)), .int (iv (dn)), .int (iv (pr)), .ref rE, .int (iv (nu)), .int (iv (de))]))] H → va_D A [(rL, .inr (1, [.int (iv (cP)), .int (iv (cQ)), .int (iv (nb)), .ref rl, .ref rt, .ref rw, .ref rh, .ref rf, .ref rp, .ref rb])), (rl, ai (gI G) 8 (gl)), (rt, ai (gI G) 8 (gt)), (rw, ai (gI G) 8 (gw)), (rh, ai (gI G) 8 (gh)), (rf, ai (gI G) 17 (up gf1 i n1)), (rp, ai (gI G) 256 (gp2)), (rb, ai (gI G) 256 (gb2)), (rS, .inr (3, [.int (iv (kd)), .int (iv (db)), .int (iv (ew)), .int (iv (ac)), .int (iv (dn)), .int (iv (pr)), .ref rE, .int (iv (nu)), .int (iv (de))]))] → va_S A s.heap H locs → ((n2, gp2, gb2) = it (prb gl gt gw gh ac dn i) 0 j (n1, gp1, gb1)) → W p l e r_Layout_cutSlices s m args below meth c H locs 0 0 Q (F0 m 22 ls [])) (a := 0) (b := nb) (fun j hij hjj ihj => ?_) _ _ _ n1 gp1 gb1 (lv_sub hl [1, 2, 3, 4, 0] rfl) hP hD hS (it_self _ _ _).symm
    intro ls H locs n2 gp2 gb2 hl hP hD hS hs2
    refine lv_iload hx hb d_Layout_cutSlices_22 (lv_at hl 4 rfl) ?_
    refine lv_aload_n hx hb d_Layout_cutSlices_24 rfl (lv_at hl 0 rfl) ?_
    refine va_get (D := gD G) (ci := 1) (v := .int (iv (nb))) (C := R_Layout) (T := F_Layout) (N := 10) hx hb hw in_Layout hown hK hP 0 rfl rfl 2 (by decide) (hw _ m1_84) (fun _ h => h) rfl d_Layout_cutSlices_25 ?_
    refine k_icmp_ge (tgt := 47) hx hb d_Layout_cutSlices_28 (by decide) (by omega) (by omega) (fun hc28 => ?_) (fun hc28 => ?_)
    · refine lv_iinc (k := 3) (v := iv (i + 1)) hx hb d_Layout_cutSlices_47 hl rfl (iv_add _ _) (by decide) rfl (fun ls hl => ?_)
      have hl : lv_has ls 5 [(3, .int (iv (i + 1))), (0, .ref rL), (1, .ref rS), (2, .int (iv (n2))), (4, .int (iv (j)))] := hl
      refine lv_goto (tgt := 4) hx hb d_Layout_cutSlices_50 (by decide) ?_
      exact ihi (by omega) _ _ _ n2 (up gf1 i n1) gp2 gb2 (lv_sub hl [1, 2, 3, 0] rfl) hP hD hS (by unfold slA; rw [it_s _ _ hii]; show _ = slf gl gt gw gh nb ac dn i (slA gl gt gw gh nb ac dn gf gp gb i); rw [← hs]; show _ = (up gf1 i n1, it (prb gl gt gw gh ac dn i) 0 nb (n1, gp1, gb1)); rw [← it_x _ _ hc28 hjj, ← hs2])
    · have hb1 := hbb j hij hc28
      have hb2 := hcap i j hii hc9 hij hc28
      rw [← hs, ← hs2] at hb2
      dsimp only at hb2
      refine lv_aload_n hx hb d_Layout_cutSlices_31 rfl (lv_at hl 0 rfl) ?_
      refine lv_aload_n hx hb d_Layout_cutSlices_32 rfl (lv_at hl 1 rfl) ?_
      refine lv_iload_n hx hb d_Layout_cutSlices_33 rfl (lv_at hl 3 rfl) ?_
      refine lv_iload hx hb d_Layout_cutSlices_34 (lv_at hl 4 rfl) ?_
      refine lv_iload_n hx hb d_Layout_cutSlices_36 rfl (lv_at hl 2 rfl) ?_
      refine k_ci (wz := fun u : Int × (Int → Int) × (Int → Int) => [(rL, .inr (1, [.int (iv (cP)), .int (iv (cQ)), .int (iv (nb)), .ref rl, .ref rt, .ref rw, .ref rh, .ref rf, .ref rp, .ref rb])), (rl, ai (gI G) 8 (gl)), (rt, ai (gI G) 8 (gt)), (rw, ai (gI G) 8 (gw)), (rh, ai (gI G) 8 (gh)), (rf, ai (gI G) 17 (up gf1 i n1)), (rp, ai (gI G) 256 (u.2.1)), (rb, ai (gI G) 256 (u.2.2)), (rS, .inr (3, [.int (iv (kd)), .int (iv (db)), .int (iv (ew)), .int (iv (ac)), .int (iv (dn)), .int (iv (pr)), .ref rE, .int (iv (nu)), .int (iv (de))]))]) (wr := [(rf, ai (gI G) 17 (up gf1 i n1))]) (k_rv S (c_Layout_addPart l G _ rL rS rl rt rw rh rf rp rb rE i j n2 cP cQ nb kd db ew ac dn pr nu de gl gt gw gh gp2 gb2 (by omega) (by omega) (by omega) (by omega) (by omega) hb1.1 hb1.2 hb2) 4 m2_3 m2_0 m2_2 mp_1 m1_3 (by decide +kernel) (by decide) rfl rfl (k_preV (q0 := 0) hK hP hD hS hA hT rfl rfl [0, 1, 2, 3, 4, 6, 7, 8] (by decide) rfl) rfl hl.1 rfl (Nat.le_of_ble_eq_true rfl) d_Layout_cutSlices_37 ⟨Nat.le_of_ble_eq_true rfl, Nat.le_of_ble_eq_true rfl⟩) hP hD hS hA [0, 1, 2, 3, 4, 6, 7, 8] [5] [1, 2, 3, 4, 5, 0, 6, 7, 8] rfl rfl (by decide) (by decide) (by decide) (fun _ => rfl) (fun r37 u37 H locs h37 hP hD hS => ?_)
      obtain ⟨n37, gp37, gb37⟩ := u37
      have hP : va_P (gD G) classes [(rL, .inr (1, [.int (iv (cP)), .int (iv (cQ)), .int (iv (nb)), .ref rl, .ref rt, .ref rw, .ref rh, .ref rf, .ref rp, .ref rb])), (rl, ai (gI G) 8 (gl)), (rt, ai (gI G) 8 (gt)), (rw, ai (gI G) 8 (gw)), (rh, ai (gI G) 8 (gh)), (rf, ai (gI G) 17 (up gf1 i n1)), (rp, ai (gI G) 256 (gp37)), (rb, ai (gI G) 256 (gb37)), (rS, .inr (3, [.int (iv (kd)), .int (iv (db)), .int (iv (ew)), .int (iv (ac)), .int (iv (dn)), .int (iv (pr)), .ref rE, .int (iv (nu)), .int (iv (de))]))] H := hP
      have hD : va_D A [(rL, .inr (1, [.int (iv (cP)), .int (iv (cQ)), .int (iv (nb)), .ref rl, .ref rt, .ref rw, .ref rh, .ref rf, .ref rp, .ref rb])), (rl, ai (gI G) 8 (gl)), (rt, ai (gI G) 8 (gt)), (rw, ai (gI G) 8 (gw)), (rh, ai (gI G) 8 (gh)), (rf, ai (gI G) 17 (up gf1 i n1)), (rp, ai (gI G) 256 (gp37)), (rb, ai (gI G) 256 (gb37)), (rS, .inr (3, [.int (iv (kd)), .int (iv (db)), .int (iv (ew)), .int (iv (ac)), .int (iv (dn)), .int (iv (pr)), .ref rE, .int (iv (nu)), .int (iv (de))]))] := hD
      obtain ⟨hr37, h37⟩ := h37
      subst hr37
      try dsimp only at h37
      refine lv_istore_n hx hb d_Layout_cutSlices_40 rfl hl (by decide) rfl (fun ls hl => ?_)
      have hl : lv_has ls 5 [(2, .int (iv (n37))), (0, .ref rL), (1, .ref rS), (3, .int (iv (i))), (4, .int (iv (j)))] := hl
      refine lv_iinc (k := 4) (v := iv (j + 1)) hx hb d_Layout_cutSlices_41 hl rfl (iv_add _ _) (by decide) rfl (fun ls hl => ?_)
      have hl : lv_has ls 5 [(4, .int (iv (j + 1))), (2, .int (iv (n37))), (0, .ref rL), (1, .ref rS), (3, .int (iv (i)))] := hl
      refine lv_goto (tgt := 22) hx hb d_Layout_cutSlices_44 (by decide) ?_
      exact ihj (by omega) _ _ _ n37 gp37 gb37 (lv_sub hl [2, 3, 1, 4, 0] rfl) hP hD hS (by rw [it_s _ _ hij, ← hs2]; exact h37)
abbrev w_Layout_placeBands : List Cond := Cond.code y_Layout_placeBands prog_3_method_3_code 9 none :: wl
abbrev r_Layout_placeBands : Room := { frames := 1, cells := 0, slots := 0, locals := 24 }
set_option maxHeartbeats 4000000 in
set_option maxRecDepth 100000 in
theorem c_Layout_placeBands (l : Launch) (G : k_G) (sz : Nat) (rL rS rl rt rw rh rf rp rb rE : Nat) (wd ht cP cQ nb kd db ew ac dn pr nu de : Int) (gl gt gw gh : Int → Int) (hde : 0 ≤ db ∧ db ≤ 2 ∧ 0 ≤ ew ∧ ew ≤ 2 ∧ db + ew ≤ 3) (hwd : 1 ≤ wd ∧ wd ≤ 16) (hht : 1 ≤ ht ∧ ht ≤ 16) : Met l y_Layout_placeBands w_Layout_placeBands r_Layout_placeBands (k_P G [.ref rL, .ref rS, .int (iv (wd)), .int (iv (ht))] [(rL, .inr (1, [.int (iv (cP)), .int (iv (cQ)), .int (iv (nb)), .ref rl, .ref rt, .ref rw, .ref rh, .ref rf, .ref rp, .ref rb])), (rl, ai (gI G) 8 (gl)), (rt, ai (gI G) 8 (gt)), (rw, ai (gI G) 8 (gw)), (rh, ai (gI G) 8 (gh)), (rS, .inr (3, [.int (iv (kd)), .int (iv (db)), .int (iv (ew)), .int (iv (ac)), .int (iv (dn)), .int (iv (pr)), .ref rE, .int (iv (nu)), .int (iv (de))]))] sz) (qv G (fun u : Int × Int × Int × (Int → Int) × (Int → Int) × (Int → Int) × (Int → Int) => u = (lmI wd (2 ^ (db + ew).toNat), lmI ht (2 ^ db.toNat), (plA (lmI wd (2 ^ (db + ew).toNat)) (lmI ht (2 ^ db.toNat)) db ew gl gt gw gh).1, (plA (lmI wd (2 ^ (db + ew).toNat)) (lmI ht (2 ^ db.toNat)) db ew gl gt gw gh).2.1, (plA (lmI wd (2 ^ (db + ew).toNat)) (lmI ht (2 ^ db.toNat)) db ew gl gt gw gh).2.2.1, (plA (lmI wd (2 ^ (db + ew).toNat)) (lmI ht (2 ^ db.toNat)) db ew gl gt gw gh).2.2.2.1, (plA (lmI wd (2 ^ (db + ew).toNat)) (lmI ht (2 ^ db.toNat)) db ew gl gt gw gh).2.2.2.2)) (fun u : Int × Int × Int × (Int → Int) × (Int → Int) × (Int → Int) × (Int → Int) => [(rL, .inr (1, [.int (iv (u.1)), .int (iv (u.2.1)), .int (iv (u.2.2.1)), .ref rl, .ref rt, .ref rw, .ref rh, .ref rf, .ref rp, .ref rb])), (rl, ai (gI G) 8 (u.2.2.2.1)), (rt, ai (gI G) 8 (u.2.2.2.2.1)), (rw, ai (gI G) 8 (u.2.2.2.2.2.1)), (rh, ai (gI G) 8 (u.2.2.2.2.2.2)), (rS, .inr (3, [.int (iv (kd)), .int (iv (db)), .int (iv (ew)), .int (iv (ac)), .int (iv (dn)), .int (iv (pr)), .ref rE, .int (iv (nu)), .int (iv (de))]))]) (va_A [(rL, .inr (1, [.int (iv (cP)), .int (iv (cQ)), .int (iv (nb)), .ref rl, .ref rt, .ref rw, .ref rh, .ref rf, .ref rp, .ref rb])), (rl, ai (gI G) 8 (gl)), (rt, ai (gI G) 8 (gt)), (rw, ai (gI G) 8 (gw)), (rh, ai (gI G) 8 (gh)), (rS, .inr (3, [.int (iv (kd)), .int (iv (db)), .int (iv (ew)), .int (iv (ac)), .int (iv (dn)), .int (iv (pr)), .ref rE, .int (iv (nu)), .int (iv (de))]))] sz)) 0 0 (va_A [(rL, .inr (1, [.int (iv (cP)), .int (iv (cQ)), .int (iv (nb)), .ref rl, .ref rt, .ref rw, .ref rh, .ref rf, .ref rp, .ref rb])), (rl, ai (gI G) 8 (gl)), (rt, ai (gI G) 8 (gt)), (rw, ai (gI G) 8 (gw)), (rh, ai (gI G) 8 (gh)), (rS, .inr (3, [.int (iv (kd)), .int (iv (db)), .int (iv (ew)), .int (iv (ac)), .int (iv (dn)), .int (iv (pr)), .ref rE, .int (iv (nu)), .int (iv (de))]))] sz) := by
  refine k_met (fun A => qv G (fun u : Int × Int × Int × (Int → Int) × (Int → Int) × (Int → Int) × (Int → Int) => u = (lmI wd (2 ^ (db + ew).toNat), lmI ht (2 ^ db.toNat), (plA (lmI wd (2 ^ (db + ew).toNat)) (lmI ht (2 ^ db.toNat)) db ew gl gt gw gh).1, (plA (lmI wd (2 ^ (db + ew).toNat)) (lmI ht (2 ^ db.toNat)) db ew gl gt gw gh).2.1, (plA (lmI wd (2 ^ (db + ew).toNat)) (lmI ht (2 ^ db.toNat)) db ew gl gt gw gh).2.2.1, (plA (lmI wd (2 ^ (db + ew).toNat)) (lmI ht (2 ^ db.toNat)) db ew gl gt gw gh).2.2.2.1, (plA (lmI wd (2 ^ (db + ew).toNat)) (lmI ht (2 ^ db.toNat)) db ew gl gt gw gh).2.2.2.2)) (fun u : Int × Int × Int × (Int → Int) × (Int → Int) × (Int → Int) × (Int → Int) => [(rL, .inr (1, [.int (iv (u.1)), .int (iv (u.2.1)), .int (iv (u.2.2.1)), .ref rl, .ref rt, .ref rw, .ref rh, .ref rf, .ref rp, .ref rb])), (rl, ai (gI G) 8 (u.2.2.2.1)), (rt, ai (gI G) 8 (u.2.2.2.2.1)), (rw, ai (gI G) 8 (u.2.2.2.2.2.1)), (rh, ai (gI G) 8 (u.2.2.2.2.2.2)), (rS, .inr (3, [.int (iv (kd)), .int (iv (db)), .int (iv (ew)), .int (iv (ac)), .int (iv (dn)), .int (iv (pr)), .ref rE, .int (iv (nu)), .int (iv (de))]))]) A) (fun A => A) (by decide) rfl (Nat.le_of_ble_eq_true rfl) (fun p e s m args below meth c ls A Q S hr hlk hnm hl hsz hP hK hD hS hA hT hQ => ?_)
  obtain ⟨hx, hb, hml, hown, hts⟩ := id S
  have hw : ∀ w ∈ wl, w.before args s = true := fun w h => hts w (List.mem_cons_of_mem _ h)
  have hl : lv_has ls 9 [(0, .ref rL), (1, .ref rS), (2, .int (iv (wd))), (3, .int (iv (ht)))] := hl
  have e1 := p2_8 (k := db + ew) (by omega)
  have e2 := p2_8 (k := db) (by omega)
  have e3 := lmI_r hwd (p2_c (k := db + ew) (by omega))
  have e4 := lmI_r hht (p2_c (k := db) (by omega))
  rw [← Int.one_mul (2 ^ (db + ew).toNat)] at e1
  rw [← Int.one_mul (2 ^ db.toNat)] at e2
  refine lv_aload_n hx hb d_Layout_placeBands_0 rfl (lv_at hl 1 rfl) ?_
  refine k_ciR (k_rv S (c_Setup_levels l G _ rS rE kd db ew ac dn pr nu de ) 0 m1_224 m1_221 m1_222 m1_223 m1_2 (by decide +kernel) (by decide) rfl rfl (k_preV (q0 := 5) hK hP hD hS hA hT rfl rfl [5] (by decide) rfl) rfl hl.1 rfl (Nat.le_of_ble_eq_true rfl) d_Layout_placeBands_1 ⟨Nat.le_of_ble_eq_true rfl, Nat.le_of_ble_eq_true rfl⟩) (fun r1 h1 => ?_)
  subst h1
  refine lv_istore hx hb d_Layout_placeBands_4 hl (by decide) rfl (fun ls hl => ?_)
  have hl : lv_has ls 9 [(4, .int (iv (db + ew))), (0, .ref rL), (1, .ref rS), (2, .int (iv (wd))), (3, .int (iv (ht)))] := hl
  refine lv_aload_n hx hb d_Layout_placeBands_6 rfl (lv_at hl 2 rfl) ?_
  refine va_get (D := gD G) (ci := 3) (v := .int (iv (db))) (C := R_Setup) (T := F_Setup) (N := 9) hx hb hw in_Setup hown hK hP 5 rfl rfl 1 (by decide) (hw _ m1_32) (fun _ h => h) rfl d_Layout_placeBands_7 ?_
  refine lv_istore hx hb d_Layout_placeBands_10 hl (by decide) rfl (fun ls hl => ?_)
  have hl : lv_has ls 9 [(5, .int (iv (db))), (4, .int (iv (db + ew))), (0, .ref rL), (1, .ref rS), (2, .int (iv (wd))), (3, .int (iv (ht)))] := hl
  refine lv_aload_n hx hb d_Layout_placeBands_12 rfl (lv_at hl 2 rfl) ?_
  refine lv_iload_n hx hb d_Layout_placeBands_13 rfl (lv_at hl 4 rfl) ?_
  refine lv_iconst (v := iv (1)) hx hb d_Layout_placeBands_14 rfl ?_
  refine lv_iload hx hb d_Layout_placeBands_15 (lv_at hl 1 rfl) ?_
  refine k_ishl hx hb d_Layout_placeBands_17 (by omega) ?_
  refine k_ciR (k_rs S (c_Layout_leastMultiple l G _ wd (1 * 2 ^ (db + ew).toNat) (by omega) (by omega)) 2 m1_227 m1_225 m1_226 m1_3 (by decide +kernel) (by decide) rfl rfl (k_preS hK hP hD hS hA hT [] (by decide) rfl) rfl hl.1 rfl (Nat.le_of_ble_eq_true rfl) d_Layout_placeBands_18 ⟨Nat.le_of_ble_eq_true rfl, Nat.le_of_ble_eq_true rfl⟩) (fun r18 h18 => ?_)
  subst h18
  refine k_eqi (b := lmI wd (2 ^ (db + ew).toNat)) (by rw [Int.one_mul]) ?_
  refine va_put (D := gD G) (ci := 1) (v := .int (iv (lmI wd (2 ^ (db + ew).toNat)))) (ty := .int) (C := R_Layout) (T := F_Layout) (N := 10) hx hb hw in_Layout t_Layout t_Layout_ok n_Layout hown hK hP hD hS 0 rfl rfl 0 (by decide) (hw _ m1_78) (fun _ h => h) rfl (by decide +kernel) rfl rfl (Nat.le_of_ble_eq_true rfl) d_Layout_placeBands_21 (fun H locs hP hD hS => ?_)
  have hP : va_P (gD G) classes [(rL, .inr (1, [.int (iv (lmI wd (2 ^ (db + ew).toNat))), .int (iv (cQ)), .int (iv (nb)), .ref rl, .ref rt, .ref rw, .ref rh, .ref rf, .ref rp, .ref rb])), (rl, ai (gI G) 8 (gl)), (rt, ai (gI G) 8 (gt)), (rw, ai (gI G) 8 (gw)), (rh, ai (gI G) 8 (gh)), (rS, .inr (3, [.int (iv (kd)), .int (iv (db)), .int (iv (ew)), .int (iv (ac)), .int (iv (dn)), .int (iv (pr)), .ref rE, .int (iv (nu)), .int (iv (de))]))] H := hP
  have hD : va_D A [(rL, .inr (1, [.int (iv (lmI wd (2 ^ (db + ew).toNat))), .int (iv (cQ)), .int (iv (nb)), .ref rl, .ref rt, .ref rw, .ref rh, .ref rf, .ref rp, .ref rb])), (rl, ai (gI G) 8 (gl)), (rt, ai (gI G) 8 (gt)), (rw, ai (gI G) 8 (gw)), (rh, ai (gI G) 8 (gh)), (rS, .inr (3, [.int (iv (kd)), .int (iv (db)), .int (iv (ew)), .int (iv (ac)), .int (iv (dn)), .int (iv (pr)), .ref rE, .int (iv (nu)), .int (iv (de))]))] := hD
  refine lv_aload_n hx hb d_Layout_placeBands_24 rfl (lv_at hl 2 rfl) ?_
  refine lv_iload_n hx hb d_Layout_placeBands_25 rfl (lv_at hl 5 rfl) ?_
  refine lv_iconst (v := iv (1)) hx hb d_Layout_placeBands_26 rfl ?_
  refine lv_iload hx hb d_Layout_placeBands_27 (lv_at hl 0 rfl) ?_
  refine k_ishl hx hb d_Layout_placeBands_29 (by omega) ?_
  refine k_ciR (k_rs S (c_Layout_leastMultiple l G _ ht (1 * 2 ^ (db).toNat) (by omega) (by omega)) 2 m1_227 m1_225 m1_226 m1_3 (by decide +kernel) (by decide) rfl rfl (k_preS hK hP hD hS hA hT [] (by decide) rfl) rfl hl.1 rfl (Nat.le_of_ble_eq_true rfl) d_Layout_placeBands_30 ⟨Nat.le_of_ble_eq_true rfl, Nat.le_of_ble_eq_true rfl⟩) (fun r30 h30 => ?_)
  subst h30
  refine k_eqi (b := lmI ht (2 ^ db.toNat)) (by rw [Int.one_mul]) ?_
  refine va_put (D := gD G) (ci := 1) (v := .int (iv (lmI ht (2 ^ db.toNat)))) (ty := .int) (C := R_Layout) (T := F_Layout) (N := 10) hx hb hw in_Layout t_Layout t_Layout_ok n_Layout hown hK hP hD hS 0 rfl rfl 1 (by decide) (hw _ m1_81) (fun _ h => h) rfl (by decide +kernel) rfl rfl (Nat.le_of_ble_eq_true rfl) d_Layout_placeBands_33 (fun H locs hP hD hS => ?_)
  have hP : va_P (gD G) classes [(rL, .inr (1, [.int (iv (lmI wd (2 ^ (db + ew).toNat))), .int (iv (lmI ht (2 ^ db.toNat))), .int (iv (nb)), .ref rl, .ref rt, .ref rw, .ref rh, .ref rf, .ref rp, .ref rb])), (rl, ai (gI G) 8 (gl)), (rt, ai (gI G) 8 (gt)), (rw, ai (gI G) 8 (gw)), (rh, ai (gI G) 8 (gh)), (rS, .inr (3, [.int (iv (kd)), .int (iv (db)), .int (iv (ew)), .int (iv (ac)), .int (iv (dn)), .int (iv (pr)), .ref rE, .int (iv (nu)), .int (iv (de))]))] H := hP
  have hD : va_D A [(rL, .inr (1, [.int (iv (lmI wd (2 ^ (db + ew).toNat))), .int (iv (lmI ht (2 ^ db.toNat))), .int (iv (nb)), .ref rl, .ref rt, .ref rw, .ref rh, .ref rf, .ref rp, .ref rb])), (rl, ai (gI G) 8 (gl)), (rt, ai (gI G) 8 (gt)), (rw, ai (gI G) 8 (gw)), (rh, ai (gI G) 8 (gh)), (rS, .inr (3, [.int (iv (kd)), .int (iv (db)), .int (iv (ew)), .int (iv (ac)), .int (iv (dn)), .int (iv (pr)), .ref rE, .int (iv (nu)), .int (iv (de))]))] := hD
  refine lv_aload_n hx hb d_Layout_placeBands_36 rfl (lv_at hl 2 rfl) ?_
  refine lv_iconst (v := iv (0)) hx hb d_Layout_placeBands_37 rfl ?_
  refine va_put (D := gD G) (ci := 1) (v := .int (iv (0))) (ty := .int) (C := R_Layout) (T := F_Layout) (N := 10) hx hb hw in_Layout t_Layout t_Layout_ok n_Layout hown hK hP hD hS 0 rfl rfl 2 (by decide) (hw _ m1_84) (fun _ h => h) rfl (by decide +kernel) rfl rfl (Nat.le_of_ble_eq_true rfl) d_Layout_placeBands_38 (fun H locs hP hD hS => ?_)
  have hP : va_P (gD G) classes [(rL, .inr (1, [.int (iv (lmI wd (2 ^ (db + ew).toNat))), .int (iv (lmI ht (2 ^ db.toNat))), .int (iv (0)), .ref rl, .ref rt, .ref rw, .ref rh, .ref rf, .ref rp, .ref rb])), (rl, ai (gI G) 8 (gl)), (rt, ai (gI G) 8 (gt)), (rw, ai (gI G) 8 (gw)), (rh, ai (gI G) 8 (gh)), (rS, .inr (3, [.int (iv (kd)), .int (iv (db)), .int (iv (ew)), .int (iv (ac)), .int (iv (dn)), .int (iv (pr)), .ref rE, .int (iv (nu)), .int (iv (de))]))] H := hP
  have hD : va_D A [(rL, .inr (1, [.int (iv (lmI wd (2 ^ (db + ew).toNat))), .int (iv (lmI ht (2 ^ db.toNat))), .int (iv (0)), .ref rl, .ref rt, .ref rw, .ref rh, .ref rf, .ref rp, .ref rb])), (rl, ai (gI G) 8 (gl)), (rt, ai (gI G) 8 (gt)), (rw, ai (gI G) 8 (gw)), (rh, ai (gI G) 8 (gh)), (rS, .inr (3, [.int (iv (kd)), .int (iv (db)), .int (iv (ew)), .int (iv (ac)), .int (iv (dn)), .int (iv (pr)), .ref rE, .int (iv (nu)), .int (iv (de))]))] := hD
  refine lv_aload_n hx hb d_Layout_placeBands_41 rfl (lv_at hl 2 rfl) ?_
  refine lv_iconst (v := iv (0)) hx hb d_Layout_placeBands_42 rfl ?_
  refine lv_iconst (v := iv (0)) hx hb d_Layout_placeBands_43 rfl ?_
  refine lv_aload_n hx hb d_Layout_placeBands_44 rfl (lv_at hl 2 rfl) ?_
  refine va_get (D := gD G) (ci := 1) (v := .int (iv (lmI wd (2 ^ (db + ew).toNat)))) (C := R_Layout) (T := F_Layout) (N := 10) hx hb hw in_Layout hown hK hP 0 rfl rfl 0 (by decide) (hw _ m1_78) (fun _ h => h) rfl d_Layout_placeBands_45 ?_
  refine lv_iload hx hb d_Layout_placeBands_48 (lv_at hl 1 rfl) ?_
  refine k_ishr hx hb d_Layout_placeBands_50 (by omega) (by omega) ?_
  refine lv_aload_n hx hb d_Layout_placeBands_51 rfl (lv_at hl 2 rfl) ?_
  refine va_get (D := gD G) (ci := 1) (v := .int (iv (lmI ht (2 ^ db.toNat)))) (C := R_Layout) (T := F_Layout) (N := 10) hx hb hw in_Layout hown hK hP 0 rfl rfl 1 (by decide) (hw _ m1_81) (fun _ h => h) rfl d_Layout_placeBands_52 ?_
  refine lv_iload hx hb d_Layout_placeBands_55 (lv_at hl 0 rfl) ?_
  refine k_ishr hx hb d_Layout_placeBands_57 (by omega) (by omega) ?_
  refine k_cv (wz := fun u : Int × (Int → Int) × (Int → Int) × (Int → Int) × (Int → Int) => [(rL, .inr (1, [.int (iv (lmI wd (2 ^ (db + ew).toNat))), .int (iv (lmI ht (2 ^ db.toNat))), .int (iv (u.1)), .ref rl, .ref rt, .ref rw, .ref rh, .ref rf, .ref rp, .ref rb])), (rl, ai (gI G) 8 (u.2.1)), (rt, ai (gI G) 8 (u.2.2.1)), (rw, ai (gI G) 8 (u.2.2.2.1)), (rh, ai (gI G) 8 (u.2.2.2.2)), (rS, .inr (3, [.int (iv (kd)), .int (iv (db)), .int (iv (ew)), .int (iv (ac)), .int (iv (dn)), .int (iv (pr)), .ref rE, .int (iv (nu)), .int (iv (de))]))]) (wr := [(rS, .inr (3, [.int (iv (kd)), .int (iv (db)), .int (iv (ew)), .int (iv (ac)), .int (iv (dn)), .int (iv (pr)), .ref rE, .int (iv (nu)), .int (iv (de))]))]) (k_rv S (c_Layout_addBand l G _ rL rl rt rw rh rf rp rb 0 0 ((lmI wd (2 ^ (db + ew).toNat)) / 2 ^ (db + ew).toNat) ((lmI ht (2 ^ db.toNat)) / 2 ^ (db).toNat) (lmI wd (2 ^ (db + ew).toNat)) (lmI ht (2 ^ db.toNat)) 0 gl gt gw gh (by omega)) 4 m1_231 m1_228 m1_230 mp_0 m1_3 (by decide +kernel) (by decide) rfl rfl (k_preV (q0 := 0) hK hP hD hS hA hT rfl rfl [0, 1, 2, 3, 4] (by decide) rfl) rfl hl.1 rfl (Nat.le_of_ble_eq_true rfl) d_Layout_placeBands_58 ⟨Nat.le_of_ble_eq_true rfl, Nat.le_of_ble_eq_true rfl⟩) hP hD hS hA [0, 1, 2, 3, 4] [5] [1, 2, 3, 4, 5, 0] rfl rfl (by decide) (by decide) (by decide) (fun _ => rfl) (fun u58 H locs h58 hP hD hS => ?_)
  subst h58
  have hP : va_P (gD G) classes [(rL, .inr (1, [.int (iv (lmI wd (2 ^ (db + ew).toNat))), .int (iv (lmI ht (2 ^ db.toNat))), .int (iv (0 + 1)), .ref rl, .ref rt, .ref rw, .ref rh, .ref rf, .ref rp, .ref rb])), (rl, ai (gI G) 8 (up gl 0 0)), (rt, ai (gI G) 8 (up gt 0 0)), (rw, ai (gI G) 8 (up gw 0 ((lmI wd (2 ^ (db + ew).toNat)) / 2 ^ (db + ew).toNat))), (rh, ai (gI G) 8 (up gh 0 ((lmI ht (2 ^ db.toNat)) / 2 ^ (db).toNat))), (rS, .inr (3, [.int (iv (kd)), .int (iv (db)), .int (iv (ew)), .int (iv (ac)), .int (iv (dn)), .int (iv (pr)), .ref rE, .int (iv (nu)), .int (iv (de))]))] H := hP
  have hD : va_D A [(rL, .inr (1, [.int (iv (lmI wd (2 ^ (db + ew).toNat))), .int (iv (lmI ht (2 ^ db.toNat))), .int (iv (0 + 1)), .ref rl, .ref rt, .ref rw, .ref rh, .ref rf, .ref rp, .ref rb])), (rl, ai (gI G) 8 (up gl 0 0)), (rt, ai (gI G) 8 (up gt 0 0)), (rw, ai (gI G) 8 (up gw 0 ((lmI wd (2 ^ (db + ew).toNat)) / 2 ^ (db + ew).toNat))), (rh, ai (gI G) 8 (up gh 0 ((lmI ht (2 ^ db.toNat)) / 2 ^ (db).toNat))), (rS, .inr (3, [.int (iv (kd)), .int (iv (db)), .int (iv (ew)), .int (iv (ac)), .int (iv (dn)), .int (iv (pr)), .ref rE, .int (iv (nu)), .int (iv (de))]))] := hD
  refine lv_iload hx hb d_Layout_placeBands_61 (lv_at hl 1 rfl) ?_
  refine lv_iconst (v := iv (1)) hx hb d_Layout_placeBands_63 rfl ?_
  refine k_isub hx hb d_Layout_placeBands_64 ?_
  refine lv_istore hx hb d_Layout_placeBands_65 hl (by decide) rfl (fun ls hl => ?_)
  have hl : lv_has ls 9 [(6, .int (iv ((db + ew) - 1))), (5, .int (iv (db))), (4, .int (iv (db + ew))), (0, .ref rL), (1, .ref rS), (2, .int (iv (wd))), (3, .int (iv (ht)))] := hl
  refine lo_dn (P := fun i => ∀ (ls : Array Slot) (H : Heap) (locs : List Loc) (nb1 : Int) (gl1 : Int → Int) (gt1 : Int → Int) (gw1 : Int → Int) (gh1 : Int → Int), lv_has ls 9 [(0, .ref rL), (1, .ref rS), (2, .int (iv (wd))), (3, .int (iv (ht))), (4, .int (iv (db + ew))), (5, .int (iv (db))), (6, .int (iv (i)))] → va_P (gD G) classes [(rL, .inr (1, [.int (iv (lmI wd (2 ^ (db + ew).toNat))), .int (iv (lmI ht (2 ^ db.toNat))), .int (iv (nb1)), .ref rl, .ref rt, .ref rw, .ref rh, .ref rf, .ref rp, .ref rb])), (rl, ai (gI G) 8 (gl1)), (rt, ai (gI G) 8 (gt1)), (rw, ai (gI G) 8 (gw1)), (rh, ai (gI G) 8 (gh1)), (rS, .inr (3, [.int (iv (kd)), .int (iv (db)), .int (iv (ew)), .int (iv (ac)), .int (iv (dn)), .int (iv (pr)), .ref rE, .int (iv (nu)), .int (iv (de))]))] H → va_D A [(rL, .inr (1, [.int (iv (lmI wd (2 ^ (db + ew).toNat))), .int (iv (lmI ht (2 ^ db.toNat))), .int (iv (nb1)), .ref rl, .ref rt, .ref rw, .ref rh, .ref rf, .ref rp, .ref rb])), (rl, ai (gI G) 8 (gl1)), (rt, ai (gI G) 8 (gt1)), (rw, ai (gI G) 8 (gw1)), (rh, ai (gI G) 8 (gh1)), (rS, .inr (3, [.int (iv (kd)), .int (iv (db)), .int (iv (ew)), .int (iv (ac)), .int (iv (dn)), .int (iv (pr)), .ref rE, .int (iv (nu)), .int (iv (de))]))] → va_S A s.heap H locs → ((nb1, gl1, gt1, gw1, gh1) = it (pln (lmI wd (2 ^ (db + ew).toNat)) (lmI ht (2 ^ db.toNat)) db (db + ew)) 0 (db + ew - 1 - i) (adB 0 0 ((lmI wd (2 ^ (db + ew).toNat)) / 2 ^ (db + ew).toNat) ((lmI ht (2 ^ db.toNat)) / 2 ^ db.toNat) (0, gl, gt, gw, gh))) → ((db ≤ i + 1 → nb1 = 1 + (db + ew - 1 - i)) ∧ (i + 1 ≤ db → nb1 = 1 + ew + 3 * (db - 1 - i))) → W p l e r_Layout_placeBands s m args below meth c H locs 0 0 Q (F0 m 67 ls [])) (a := db + ew - 1) (fun i hii hji ihi => ?_) _ _ _ (0 + 1) (up gl 0 0) (up gt 0 0) (up gw 0 ((lmI wd (2 ^ (db + ew).toNat)) / 2 ^ (db + ew).toNat)) (up gh 0 ((lmI ht (2 ^ db.toNat)) / 2 ^ (db).toNat)) (lv_sub hl [3, 4, 5, 6, 2, 1, 0] rfl) hP hD hS (by rw [Int.sub_self, it_self]; rfl) (by omega)
  intro ls H locs nb1 gl1 gt1 gw1 gh1 hl hP hD hS hs hn
  refine lv_iload hx hb d_Layout_placeBands_67 (lv_at hl 6 rfl) ?_
  refine k_if_lt (tgt := 160) hx hb d_Layout_placeBands_69 (by decide) (by omega) (fun hc69 => ?_) (fun hc69 => ?_)
  · exact k_vret hx hb hr hlk hQ ((lmI wd (2 ^ (db + ew).toNat), lmI ht (2 ^ db.toNat), nb1, gl1, gt1, gw1, gh1)) (by rw [show plA (lmI wd (2 ^ (db + ew).toNat)) (lmI ht (2 ^ db.toNat)) db ew gl gt gw gh = (nb1, gl1, gt1, gw1, gh1) from by unfold plA; rw [hs]; exact (it_x _ _ (by omega) (by omega)).symm]) hP hD hS d_Layout_placeBands_160
  · refine lv_aload_n hx hb d_Layout_placeBands_72 rfl (lv_at hl 0 rfl) ?_
    refine va_get (D := gD G) (ci := 1) (v := .int (iv (lmI wd (2 ^ (db + ew).toNat)))) (C := R_Layout) (T := F_Layout) (N := 10) hx hb hw in_Layout hown hK hP 0 rfl rfl 0 (by decide) (hw _ m1_78) (fun _ h => h) rfl d_Layout_placeBands_73 ?_
    refine lv_iload hx hb d_Layout_placeBands_76 (lv_at hl 6 rfl) ?_
    refine lv_iconst (v := iv (1)) hx hb d_Layout_placeBands_78 rfl ?_
    refine k_iadd hx hb d_Layout_placeBands_79 ?_
    refine k_ishr hx hb d_Layout_placeBands_80 (by omega) (by omega) ?_
    refine lv_istore hx hb d_Layout_placeBands_81 hl (by decide) rfl (fun ls hl => ?_)
    have hl : lv_has ls 9 [(7, .int (iv ((lmI wd (2 ^ (db + ew).toNat)) / 2 ^ (i + 1).toNat))), (0, .ref rL), (1, .ref rS), (2, .int (iv (wd))), (3, .int (iv (ht))), (4, .int (iv (db + ew))), (5, .int (iv (db))), (6, .int (iv (i)))] := hl
    refine lv_iload hx hb d_Layout_placeBands_83 (lv_at hl 7 rfl) ?_
    refine lv_iload hx hb d_Layout_placeBands_85 (lv_at hl 6 rfl) ?_
    refine k_icmp_lt (tgt := 109) hx hb d_Layout_placeBands_87 (by decide) (by omega) (by omega) (fun hc87 => ?_) (fun hc87 => ?_)
    · refine lv_aload_n hx hb d_Layout_placeBands_109 rfl (lv_at hl 1 rfl) ?_
      refine va_get (D := gD G) (ci := 1) (v := .int (iv (lmI ht (2 ^ db.toNat)))) (C := R_Layout) (T := F_Layout) (N := 10) hx hb hw in_Layout hown hK hP 0 rfl rfl 1 (by decide) (hw _ m1_81) (fun _ h => h) rfl d_Layout_placeBands_110 ?_
      refine lv_iload hx hb d_Layout_placeBands_113 (lv_at hl 7 rfl) ?_
      refine lv_iconst (v := iv (1)) hx hb d_Layout_placeBands_115 rfl ?_
      refine k_iadd hx hb d_Layout_placeBands_116 ?_
      refine k_ishr hx hb d_Layout_placeBands_117 (by omega) (by omega) ?_
      refine lv_istore hx hb d_Layout_placeBands_118 hl (by decide) rfl (fun ls hl => ?_)
      have hl : lv_has ls 9 [(8, .int (iv ((lmI ht (2 ^ db.toNat)) / 2 ^ (i + 1).toNat))), (7, .int (iv ((lmI wd (2 ^ (db + ew).toNat)) / 2 ^ (i + 1).toNat))), (0, .ref rL), (1, .ref rS), (2, .int (iv (wd))), (3, .int (iv (ht))), (4, .int (iv (db + ew))), (5, .int (iv (db))), (6, .int (iv (i)))] := hl
      refine lv_aload_n hx hb d_Layout_placeBands_120 rfl (lv_at hl 2 rfl) ?_
      refine lv_iload hx hb d_Layout_placeBands_121 (lv_at hl 1 rfl) ?_
      refine lv_iconst (v := iv (0)) hx hb d_Layout_placeBands_123 rfl ?_
      refine lv_iload hx hb d_Layout_placeBands_124 (lv_at hl 1 rfl) ?_
      refine lv_iload hx hb d_Layout_placeBands_126 (lv_at hl 0 rfl) ?_
      refine k_cv (wz := fun u : Int × (Int → Int) × (Int → Int) × (Int → Int) × (Int → Int) => [(rL, .inr (1, [.int (iv (lmI wd (2 ^ (db + ew).toNat))), .int (iv (lmI ht (2 ^ db.toNat))), .int (iv (u.1)), .ref rl, .ref rt, .ref rw, .ref rh, .ref rf, .ref rp, .ref rb])), (rl, ai (gI G) 8 (u.2.1)), (rt, ai (gI G) 8 (u.2.2.1)), (rw, ai (gI G) 8 (u.2.2.2.1)), (rh, ai (gI G) 8 (u.2.2.2.2)), (rS, .inr (3, [.int (iv (kd)), .int (iv (db)), .int (iv (ew)), .int (iv (ac)), .int (iv (dn)), .int (iv (pr)), .ref rE, .int (iv (nu)), .int (iv (de))]))]) (wr := [(rS, .inr (3, [.int (iv (kd)), .int (iv (db)), .int (iv (ew)), .int (iv (ac)), .int (iv (dn)), .int (iv (pr)), .ref rE, .int (iv (nu)), .int (iv (de))]))]) (k_rv S (c_Layout_addBand l G _ rL rl rt rw rh rf rp rb ((lmI wd (2 ^ (db + ew).toNat)) / 2 ^ (i + 1).toNat) 0 ((lmI wd (2 ^ (db + ew).toNat)) / 2 ^ (i + 1).toNat) ((lmI ht (2 ^ db.toNat)) / 2 ^ (i + 1).toNat) (lmI wd (2 ^ (db + ew).toNat)) (lmI ht (2 ^ db.toNat)) nb1 gl1 gt1 gw1 gh1 (by omega)) 4 m1_231 m1_228 m1_230 mp_0 m1_3 (by decide +kernel) (by decide) rfl rfl (k_preV (q0 := 0) hK hP hD hS hA hT rfl rfl [0, 1, 2, 3, 4] (by decide) rfl) rfl hl.1 rfl (Nat.le_of_ble_eq_true rfl) d_Layout_placeBands_128 ⟨Nat.le_of_ble_eq_true rfl, Nat.le_of_ble_eq_true rfl⟩) hP hD hS hA [0, 1, 2, 3, 4] [5] [1, 2, 3, 4, 5, 0] rfl rfl (by decide) (by decide) (by decide) (fun _ => rfl) (fun u128 H locs h128 hP hD hS => ?_)
      subst h128
      have hP : va_P (gD G) classes [(rL, .inr (1, [.int (iv (lmI wd (2 ^ (db + ew).toNat))), .int (iv (lmI ht (2 ^ db.toNat))), .int (iv (nb1 + 1)), .ref rl, .ref rt, .ref rw, .ref rh, .ref rf, .ref rp, .ref rb])), (rl, ai (gI G) 8 (up gl1 nb1 ((lmI wd (2 ^ (db + ew).toNat)) / 2 ^ (i + 1).toNat))), (rt, ai (gI G) 8 (up gt1 nb1 0)), (rw, ai (gI G) 8 (up gw1 nb1 ((lmI wd (2 ^ (db + ew).toNat)) / 2 ^ (i + 1).toNat))), (rh, ai (gI G) 8 (up gh1 nb1 ((lmI ht (2 ^ db.toNat)) / 2 ^ (i + 1).toNat))), (rS, .inr (3, [.int (iv (kd)), .int (iv (db)), .int (iv (ew)), .int (iv (ac)), .int (iv (dn)), .int (iv (pr)), .ref rE, .int (iv (nu)), .int (iv (de))]))] H := hP
      have hD : va_D A [(rL, .inr (1, [.int (iv (lmI wd (2 ^ (db + ew).toNat))), .int (iv (lmI ht (2 ^ db.toNat))), .int (iv (nb1 + 1)), .ref rl, .ref rt, .ref rw, .ref rh, .ref rf, .ref rp, .ref rb])), (rl, ai (gI G) 8 (up gl1 nb1 ((lmI wd (2 ^ (db + ew).toNat)) / 2 ^ (i + 1).toNat))), (rt, ai (gI G) 8 (up gt1 nb1 0)), (rw, ai (gI G) 8 (up gw1 nb1 ((lmI wd (2 ^ (db + ew).toNat)) / 2 ^ (i + 1).toNat))), (rh, ai (gI G) 8 (up gh1 nb1 ((lmI ht (2 ^ db.toNat)) / 2 ^ (i + 1).toNat))), (rS, .inr (3, [.int (iv (kd)), .int (iv (db)), .int (iv (ew)), .int (iv (ac)), .int (iv (dn)), .int (iv (pr)), .ref rE, .int (iv (nu)), .int (iv (de))]))] := hD
      refine lv_aload_n hx hb d_Layout_placeBands_131 rfl (lv_at hl 2 rfl) ?_
      refine lv_iconst (v := iv (0)) hx hb d_Layout_placeBands_132 rfl ?_
      refine lv_iload hx hb d_Layout_placeBands_133 (lv_at hl 0 rfl) ?_
      refine lv_iload hx hb d_Layout_placeBands_135 (lv_at hl 1 rfl) ?_
      refine lv_iload hx hb d_Layout_placeBands_137 (lv_at hl 0 rfl) ?_
      refine k_cv (wz := fun u : Int × (Int → Int) × (Int → Int) × (Int → Int) × (Int → Int) => [(rL, .inr (1, [.int (iv (lmI wd (2 ^ (db + ew).toNat))), .int (iv (lmI ht (2 ^ db.toNat))), .int (iv (u.1)), .ref rl, .ref rt, .ref rw, .ref rh, .ref rf, .ref rp, .ref rb])), (rl, ai (gI G) 8 (u.2.1)), (rt, ai (gI G) 8 (u.2.2.1)), (rw, ai (gI G) 8 (u.2.2.2.1)), (rh, ai (gI G) 8 (u.2.2.2.2)), (rS, .inr (3, [.int (iv (kd)), .int (iv (db)), .int (iv (ew)), .int (iv (ac)), .int (iv (dn)), .int (iv (pr)), .ref rE, .int (iv (nu)), .int (iv (de))]))]) (wr := [(rS, .inr (3, [.int (iv (kd)), .int (iv (db)), .int (iv (ew)), .int (iv (ac)), .int (iv (dn)), .int (iv (pr)), .ref rE, .int (iv (nu)), .int (iv (de))]))]) (k_rv S (c_Layout_addBand l G _ rL rl rt rw rh rf rp rb 0 ((lmI ht (2 ^ db.toNat)) / 2 ^ (i + 1).toNat) ((lmI wd (2 ^ (db + ew).toNat)) / 2 ^ (i + 1).toNat) ((lmI ht (2 ^ db.toNat)) / 2 ^ (i + 1).toNat) (lmI wd (2 ^ (db + ew).toNat)) (lmI ht (2 ^ db.toNat)) (nb1 + 1) (up gl1 nb1 ((lmI wd (2 ^ (db + ew).toNat)) / 2 ^ (i + 1).toNat)) (up gt1 nb1 0) (up gw1 nb1 ((lmI wd (2 ^ (db + ew).toNat)) / 2 ^ (i + 1).toNat)) (up gh1 nb1 ((lmI ht (2 ^ db.toNat)) / 2 ^ (i + 1).toNat)) (by omega)) 4 m1_231 m1_228 m1_230 mp_0 m1_3 (by decide +kernel) (by decide) rfl rfl (k_preV (q0 := 0) hK hP hD hS hA hT rfl rfl [0, 1, 2, 3, 4] (by decide) rfl) rfl hl.1 rfl (Nat.le_of_ble_eq_true rfl) d_Layout_placeBands_139 ⟨Nat.le_of_ble_eq_true rfl, Nat.le_of_ble_eq_true rfl⟩) hP hD hS hA [0, 1, 2, 3, 4] [5] [1, 2, 3, 4, 5, 0] rfl rfl (by decide) (by decide) (by decide) (fun _ => rfl) (fun u139 H locs h139 hP hD hS => ?_)
      subst h139
      have hP : va_P (gD G) classes [(rL, .inr (1, [.int (iv (lmI wd (2 ^ (db + ew).toNat))), .int (iv (lmI ht (2 ^ db.toNat))), .int (iv ((nb1 + 1) + 1)), .ref rl, .ref rt, .ref rw, .ref rh, .ref rf, .ref rp, .ref rb])), (rl, ai (gI G) 8 (up (up gl1 nb1 ((lmI wd (2 ^ (db + ew).toNat)) / 2 ^ (i + 1).toNat)) (nb1 + 1) 0)), (rt, ai (gI G) 8 (up (up gt1 nb1 0) (nb1 + 1) ((lmI ht (2 ^ db.toNat)) / 2 ^ (i + 1).toNat))), (rw, ai (gI G) 8 (up (up gw1 nb1 ((lmI wd (2 ^ (db + ew).toNat)) / 2 ^ (i + 1).toNat)) (nb1 + 1) ((lmI wd (2 ^ (db + ew).toNat)) / 2 ^ (i + 1).toNat))), (rh, ai (gI G) 8 (up (up gh1 nb1 ((lmI ht (2 ^ db.toNat)) / 2 ^ (i + 1).toNat)) (nb1 + 1) ((lmI ht (2 ^ db.toNat)) / 2 ^ (i + 1).toNat))), (rS, .inr (3, [.int (iv (kd)), .int (iv (db)), .int (iv (ew)), .int (iv (ac)), .int (iv (dn)), .int (iv (pr)), .ref rE, .int (iv (nu)), .int (iv (de))]))] H := hP
      have hD : va_D A [(rL, .inr (1, [.int (iv (lmI wd (2 ^ (db + ew).toNat))), .int (iv (lmI ht (2 ^ db.toNat))), .int (iv ((nb1 + 1) + 1)), .ref rl, .ref rt, .ref rw, .ref rh, .ref rf, .ref rp, .ref rb])), (rl, ai (gI G) 8 (up (up gl1 nb1 ((lmI wd (2 ^ (db + ew).toNat)) / 2 ^ (i + 1).toNat)) (nb1 + 1) 0)), (rt, ai (gI G) 8 (up (up gt1 nb1 0) (nb1 + 1) ((lmI ht (2 ^ db.toNat)) / 2 ^ (i + 1).toNat))), (rw, ai (gI G) 8 (up (up gw1 nb1 ((lmI wd (2 ^ (db + ew).toNat)) / 2 ^ (i + 1).toNat)) (nb1 + 1) ((lmI wd (2 ^ (db + ew).toNat)) / 2 ^ (i + 1).toNat))), (rh, ai (gI G) 8 (up (up gh1 nb1 ((lmI ht (2 ^ db.toNat)) / 2 ^ (i + 1).toNat)) (nb1 + 1) ((lmI ht (2 ^ db.toNat)) / 2 ^ (i + 1).toNat))), (rS, .inr (3, [.int (iv (kd)), .int (iv (db)), .int (iv (ew)), .int (iv (ac)), .int (iv (dn)), .int (iv (pr)), .ref rE, .int (iv (nu)), .int (iv (de))]))] := hD
      refine lv_aload_n hx hb d_Layout_placeBands_142 rfl (lv_at hl 2 rfl) ?_
      refine lv_iload hx hb d_Layout_placeBands_143 (lv_at hl 1 rfl) ?_
      refine lv_iload hx hb d_Layout_placeBands_145 (lv_at hl 0 rfl) ?_
      refine lv_iload hx hb d_Layout_placeBands_147 (lv_at hl 1 rfl) ?_
      refine lv_iload hx hb d_Layout_placeBands_149 (lv_at hl 0 rfl) ?_
      refine k_cv (wz := fun u : Int × (Int → Int) × (Int → Int) × (Int → Int) × (Int → Int) => [(rL, .inr (1, [.int (iv (lmI wd (2 ^ (db + ew).toNat))), .int (iv (lmI ht (2 ^ db.toNat))), .int (iv (u.1)), .ref rl, .ref rt, .ref rw, .ref rh, .ref rf, .ref rp, .ref rb])), (rl, ai (gI G) 8 (u.2.1)), (rt, ai (gI G) 8 (u.2.2.1)), (rw, ai (gI G) 8 (u.2.2.2.1)), (rh, ai (gI G) 8 (u.2.2.2.2)), (rS, .inr (3, [.int (iv (kd)), .int (iv (db)), .int (iv (ew)), .int (iv (ac)), .int (iv (dn)), .int (iv (pr)), .ref rE, .int (iv (nu)), .int (iv (de))]))]) (wr := [(rS, .inr (3, [.int (iv (kd)), .int (iv (db)), .int (iv (ew)), .int (iv (ac)), .int (iv (dn)), .int (iv (pr)), .ref rE, .int (iv (nu)), .int (iv (de))]))]) (k_rv S (c_Layout_addBand l G _ rL rl rt rw rh rf rp rb ((lmI wd (2 ^ (db + ew).toNat)) / 2 ^ (i + 1).toNat) ((lmI ht (2 ^ db.toNat)) / 2 ^ (i + 1).toNat) ((lmI wd (2 ^ (db + ew).toNat)) / 2 ^ (i + 1).toNat) ((lmI ht (2 ^ db.toNat)) / 2 ^ (i + 1).toNat) (lmI wd (2 ^ (db + ew).toNat)) (lmI ht (2 ^ db.toNat)) ((nb1 + 1) + 1) (up (up gl1 nb1 ((lmI wd (2 ^ (db + ew).toNat)) / 2 ^ (i + 1).toNat)) (nb1 + 1) 0) (up (up gt1 nb1 0) (nb1 + 1) ((lmI ht (2 ^ db.toNat)) / 2 ^ (i + 1).toNat)) (up (up gw1 nb1 ((lmI wd (2 ^ (db + ew).toNat)) / 2 ^ (i + 1).toNat)) (nb1 + 1) ((lmI wd (2 ^ (db + ew).toNat)) / 2 ^ (i + 1).toNat)) (up (up gh1 nb1 ((lmI ht (2 ^ db.toNat)) / 2 ^ (i + 1).toNat)) (nb1 + 1) ((lmI ht (2 ^ db.toNat)) / 2 ^ (i + 1).toNat)) (by omega)) 4 m1_231 m1_228 m1_230 mp_0 m1_3 (by decide +kernel) (by decide) rfl rfl (k_preV (q0 := 0) hK hP hD hS hA hT rfl rfl [0, 1, 2, 3, 4] (by decide) rfl) rfl hl.1 rfl (Nat.le_of_ble_eq_true rfl) d_Layout_placeBands_151 ⟨Nat.le_of_ble_eq_true rfl, Nat.le_of_ble_eq_true rfl⟩) hP hD hS hA [0, 1, 2, 3, 4] [5] [1, 2, 3, 4, 5, 0] rfl rfl (by decide) (by decide) (by decide) (fun _ => rfl) (fun u151 H locs h151 hP hD hS => ?_)
      subst h151
      have hP : va_P (gD G) classes [(rL, .inr (1, [.int (iv (lmI wd (2 ^ (db + ew).toNat))), .int (iv (lmI ht (2 ^ db.toNat))), .int (iv (((nb1 + 1) + 1) + 1)), .ref rl, .ref rt, .ref rw, .ref rh, .ref rf, .ref rp, .ref rb])), (rl, ai (gI G) 8 (up (up (up gl1 nb1 ((lmI wd (2 ^ (db + ew).toNat)) / 2 ^ (i + 1).toNat)) (nb1 + 1) 0) ((nb1 + 1) + 1) ((lmI wd (2 ^ (db + ew).toNat)) / 2 ^ (i + 1).toNat))), (rt, ai (gI G) 8 (up (up (up gt1 nb1 0) (nb1 + 1) ((lmI ht (2 ^ db.toNat)) / 2 ^ (i + 1).toNat)) ((nb1 + 1) + 1) ((lmI ht (2 ^ db.toNat)) / 2 ^ (i + 1).toNat))), (rw, ai (gI G) 8 (up (up (up gw1 nb1 ((lmI wd (2 ^ (db + ew).toNat)) / 2 ^ (i + 1).toNat)) (nb1 + 1) ((lmI wd (2 ^ (db + ew).toNat)) / 2 ^ (i + 1).toNat)) ((nb1 + 1) + 1) ((lmI wd (2 ^ (db + ew).toNat)) / 2 ^ (i + 1).toNat))), (rh, ai (gI G) 8 (up (up (up gh1 nb1 ((lmI ht (2 ^ db.toNat)) / 2 ^ (i + 1).toNat)) (nb1 + 1) ((lmI ht (2 ^ db.toNat)) / 2 ^ (i + 1).toNat)) ((nb1 + 1) + 1) ((lmI ht (2 ^ db.toNat)) / 2 ^ (i + 1).toNat))), (rS, .inr (3, [.int (iv (kd)), .int (iv (db)), .int (iv (ew)), .int (iv (ac)), .int (iv (dn)), .int (iv (pr)), .ref rE, .int (iv (nu)), .int (iv (de))]))] H := hP
      have hD : va_D A [(rL, .inr (1, [.int (iv (lmI wd (2 ^ (db + ew).toNat))), .int (iv (lmI ht (2 ^ db.toNat))), .int (iv (((nb1 + 1) + 1) + 1)), .ref rl, .ref rt, .ref rw, .ref rh, .ref rf, .ref rp, .ref rb])), (rl, ai (gI G) 8 (up (up (up gl1 nb1 ((lmI wd (2 ^ (db + ew).toNat)) / 2 ^ (i + 1).toNat)) (nb1 + 1) 0) ((nb1 + 1) + 1) ((lmI wd (2 ^ (db + ew).toNat)) / 2 ^ (i + 1).toNat))), (rt, ai (gI G) 8 (up (up (up gt1 nb1 0) (nb1 + 1) ((lmI ht (2 ^ db.toNat)) / 2 ^ (i + 1).toNat)) ((nb1 + 1) + 1) ((lmI ht (2 ^ db.toNat)) / 2 ^ (i + 1).toNat))), (rw, ai (gI G) 8 (up (up (up gw1 nb1 ((lmI wd (2 ^ (db + ew).toNat)) / 2 ^ (i + 1).toNat)) (nb1 + 1) ((lmI wd (2 ^ (db + ew).toNat)) / 2 ^ (i + 1).toNat)) ((nb1 + 1) + 1) ((lmI wd (2 ^ (db + ew).toNat)) / 2 ^ (i + 1).toNat))), (rh, ai (gI G) 8 (up (up (up gh1 nb1 ((lmI ht (2 ^ db.toNat)) / 2 ^ (i + 1).toNat)) (nb1 + 1) ((lmI ht (2 ^ db.toNat)) / 2 ^ (i + 1).toNat)) ((nb1 + 1) + 1) ((lmI ht (2 ^ db.toNat)) / 2 ^ (i + 1).toNat))), (rS, .inr (3, [.int (iv (kd)), .int (iv (db)), .int (iv (ew)), .int (iv (ac)), .int (iv (dn)), .int (iv (pr)), .ref rE, .int (iv (nu)), .int (iv (de))]))] := hD
      refine lv_iinc (k := 8) (v := iv (i + (-1))) hx hb d_Layout_placeBands_154 hl rfl (iv_add _ _) (by decide) rfl (fun ls hl => ?_)
      have hl : lv_has ls 9 [(6, .int (iv (i + (-1)))), (8, .int (iv ((lmI ht (2 ^ db.toNat)) / 2 ^ (i + 1).toNat))), (7, .int (iv ((lmI wd (2 ^ (db + ew).toNat)) / 2 ^ (i + 1).toNat))), (0, .ref rL), (1, .ref rS), (2, .int (iv (wd))), (3, .int (iv (ht))), (4, .int (iv (db + ew))), (5, .int (iv (db)))] := hl
      refine lv_goto (tgt := 67) hx hb d_Layout_placeBands_157 (by decide) ?_
      exact ihi (by omega) _ _ _ (((nb1 + 1) + 1) + 1) (up (up (up gl1 nb1 ((lmI wd (2 ^ (db + ew).toNat)) / 2 ^ (i + 1).toNat)) (nb1 + 1) 0) ((nb1 + 1) + 1) ((lmI wd (2 ^ (db + ew).toNat)) / 2 ^ (i + 1).toNat)) (up (up (up gt1 nb1 0) (nb1 + 1) ((lmI ht (2 ^ db.toNat)) / 2 ^ (i + 1).toNat)) ((nb1 + 1) + 1) ((lmI ht (2 ^ db.toNat)) / 2 ^ (i + 1).toNat)) (up (up (up gw1 nb1 ((lmI wd (2 ^ (db + ew).toNat)) / 2 ^ (i + 1).toNat)) (nb1 + 1) ((lmI wd (2 ^ (db + ew).toNat)) / 2 ^ (i + 1).toNat)) ((nb1 + 1) + 1) ((lmI wd (2 ^ (db + ew).toNat)) / 2 ^ (i + 1).toNat)) (up (up (up gh1 nb1 ((lmI ht (2 ^ db.toNat)) / 2 ^ (i + 1).toNat)) (nb1 + 1) ((lmI ht (2 ^ db.toNat)) / 2 ^ (i + 1).toNat)) ((nb1 + 1) + 1) ((lmI ht (2 ^ db.toNat)) / 2 ^ (i + 1).toNat)) (lv_sub hl [3, 4, 5, 6, 7, 8, 0] rfl) hP hD hS (by rw [show db + ew - 1 - (i + (-1)) = (db + ew - 1 - i) + 1 by omega, it_s _ _ (by omega), ← hs]; show _ = plf (lmI wd (2 ^ (db + ew).toNat)) (lmI ht (2 ^ db.toNat)) db (db + ew - 1 - (db + ew - 1 - i)) (nb1, gl1, gt1, gw1, gh1); rw [show db + ew - 1 - (db + ew - 1 - i) = i by omega]; unfold plf; first | (rw [if_pos (by omega)]; rfl) | (rw [if_neg (by omega)]; rfl)) (by omega)
    · refine lv_aload_n hx hb d_Layout_placeBands_90 rfl (lv_at hl 1 rfl) ?_
      refine lv_iload hx hb d_Layout_placeBands_91 (lv_at hl 0 rfl) ?_
      refine lv_iconst (v := iv (0)) hx hb d_Layout_placeBands_93 rfl ?_
      refine lv_iload hx hb d_Layout_placeBands_94 (lv_at hl 0 rfl) ?_
      refine lv_aload_n hx hb d_Layout_placeBands_96 rfl (lv_at hl 1 rfl) ?_
      refine va_get (D := gD G) (ci := 1) (v := .int (iv (lmI ht (2 ^ db.toNat)))) (C := R_Layout) (T := F_Layout) (N := 10) hx hb hw in_Layout hown hK hP 0 rfl rfl 1 (by decide) (hw _ m1_81) (fun _ h => h) rfl d_Layout_placeBands_97 ?_
      refine lv_iload hx hb d_Layout_placeBands_100 (lv_at hl 6 rfl) ?_
      refine k_ishr hx hb d_Layout_placeBands_102 (by omega) (by omega) ?_
      refine k_cv (wz := fun u : Int × (Int → Int) × (Int → Int) × (Int → Int) × (Int → Int) => [(rL, .inr (1, [.int (iv (lmI wd (2 ^ (db + ew).toNat))), .int (iv (lmI ht (2 ^ db.toNat))), .int (iv (u.1)), .ref rl, .ref rt, .ref rw, .ref rh, .ref rf, .ref rp, .ref rb])), (rl, ai (gI G) 8 (u.2.1)), (rt, ai (gI G) 8 (u.2.2.1)), (rw, ai (gI G) 8 (u.2.2.2.1)), (rh, ai (gI G) 8 (u.2.2.2.2)), (rS, .inr (3, [.int (iv (kd)), .int (iv (db)), .int (iv (ew)), .int (iv (ac)), .int (iv (dn)), .int (iv (pr)), .ref rE, .int (iv (nu)), .int (iv (de))]))]) (wr := [(rS, .inr (3, [.int (iv (kd)), .int (iv (db)), .int (iv (ew)), .int (iv (ac)), .int (iv (dn)), .int (iv (pr)), .ref rE, .int (iv (nu)), .int (iv (de))]))]) (k_rv S (c_Layout_addBand l G _ rL rl rt rw rh rf rp rb ((lmI wd (2 ^ (db + ew).toNat)) / 2 ^ (i + 1).toNat) 0 ((lmI wd (2 ^ (db + ew).toNat)) / 2 ^ (i + 1).toNat) ((lmI ht (2 ^ db.toNat)) / 2 ^ (db).toNat) (lmI wd (2 ^ (db + ew).toNat)) (lmI ht (2 ^ db.toNat)) nb1 gl1 gt1 gw1 gh1 (by omega)) 4 m1_231 m1_228 m1_230 mp_0 m1_3 (by decide +kernel) (by decide) rfl rfl (k_preV (q0 := 0) hK hP hD hS hA hT rfl rfl [0, 1, 2, 3, 4] (by decide) rfl) rfl hl.1 rfl (Nat.le_of_ble_eq_true rfl) d_Layout_placeBands_103 ⟨Nat.le_of_ble_eq_true rfl, Nat.le_of_ble_eq_true rfl⟩) hP hD hS hA [0, 1, 2, 3, 4] [5] [1, 2, 3, 4, 5, 0] rfl rfl (by decide) (by decide) (by decide) (fun _ => rfl) (fun u103 H locs h103 hP hD hS => ?_)
      subst h103
      have hP : va_P (gD G) classes [(rL, .inr (1, [.int (iv (lmI wd (2 ^ (db + ew).toNat))), .int (iv (lmI ht (2 ^ db.toNat))), .int (iv (nb1 + 1)), .ref rl, .ref rt, .ref rw, .ref rh, .ref rf, .ref rp, .ref rb])), (rl, ai (gI G) 8 (up gl1 nb1 ((lmI wd (2 ^ (db + ew).toNat)) / 2 ^ (i + 1).toNat))), (rt, ai (gI G) 8 (up gt1 nb1 0)), (rw, ai (gI G) 8 (up gw1 nb1 ((lmI wd (2 ^ (db + ew).toNat)) / 2 ^ (i + 1).toNat))), (rh, ai (gI G) 8 (up gh1 nb1 ((lmI ht (2 ^ db.toNat)) / 2 ^ (db).toNat))), (rS, .inr (3, [.int (iv (kd)), .int (iv (db)), .int (iv (ew)), .int (iv (ac)), .int (iv (dn)), .int (iv (pr)), .ref rE, .int (iv (nu)), .int (iv (de))]))] H := hP
      have hD : va_D A [(rL, .inr (1, [.int (iv (lmI wd (2 ^ (db + ew).toNat))), .int (iv (lmI ht (2 ^ db.toNat))), .int (iv (nb1 + 1)), .ref rl, .ref rt, .ref rw, .ref rh, .ref rf, .ref rp, .ref rb])), (rl, ai (gI G) 8 (up gl1 nb1 ((lmI wd (2 ^ (db + ew).toNat)) / 2 ^ (i + 1).toNat))), (rt, ai (gI G) 8 (up gt1 nb1 0)), (rw, ai (gI G) 8 (up gw1 nb1 ((lmI wd (2 ^ (db + ew).toNat)) / 2 ^ (i + 1).toNat))), (rh, ai (gI G) 8 (up gh1 nb1 ((lmI ht (2 ^ db.toNat)) / 2 ^ (db).toNat))), (rS, .inr (3, [.int (iv (kd)), .int (iv (db)), .int (iv (ew)), .int (iv (ac)), .int (iv (dn)), .int (iv (pr)), .ref rE, .int (iv (nu)), .int (iv (de))]))] := hD
      refine lv_goto (tgt := 154) hx hb d_Layout_placeBands_106 (by decide) ?_
      refine lv_iinc (k := 7) (v := iv (i + (-1))) hx hb d_Layout_placeBands_154 hl rfl (iv_add _ _) (by decide) rfl (fun ls hl => ?_)
      have hl : lv_has ls 9 [(6, .int (iv (i + (-1)))), (7, .int (iv ((lmI wd (2 ^ (db + ew).toNat)) / 2 ^ (i + 1).toNat))), (0, .ref rL), (1, .ref rS), (2, .int (iv (wd))), (3, .int (iv (ht))), (4, .int (iv (db + ew))), (5, .int (iv (db)))] := hl
      refine lv_goto (tgt := 67) hx hb d_Layout_placeBands_157 (by decide) ?_
      exact ihi (by omega) _ _ _ (nb1 + 1) (up gl1 nb1 ((lmI wd (2 ^ (db + ew).toNat)) / 2 ^ (i + 1).toNat)) (up gt1 nb1 0) (up gw1 nb1 ((lmI wd (2 ^ (db + ew).toNat)) / 2 ^ (i + 1).toNat)) (up gh1 nb1 ((lmI ht (2 ^ db.toNat)) / 2 ^ (db).toNat)) (lv_sub hl [2, 3, 4, 5, 6, 7, 0] rfl) hP hD hS (by rw [show db + ew - 1 - (i + (-1)) = (db + ew - 1 - i) + 1 by omega, it_s _ _ (by omega), ← hs]; show _ = plf (lmI wd (2 ^ (db + ew).toNat)) (lmI ht (2 ^ db.toNat)) db (db + ew - 1 - (db + ew - 1 - i)) (nb1, gl1, gt1, gw1, gh1); rw [show db + ew - 1 - (db + ew - 1 - i) = i by omega]; unfold plf; first | (rw [if_pos (by omega)]; rfl) | (rw [if_neg (by omega)]; rfl)) (by omega)
