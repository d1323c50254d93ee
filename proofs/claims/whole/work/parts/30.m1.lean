/-- the reference's object -/
abbrev o_Mod (a : Nat) (f0 : Int) (f1 : Int) (f2 : Nat) (f3 : Nat) (f4 : Nat) (f5 : Nat) (f6 : Nat) (f7 : Int) (f8 : Int) (f9 : Int) (f10 : Int) (f11 : Int) (f12 : Int) (f13 : Int) (f14 : Int) (f15 : Nat) (f16 : Nat) (f17 : Int) (f18 : Int) (f19 : Nat) (f20 : Nat) (f21 : Int) (f22 : Nat) (f23 : Nat) (f24 : Int) (f25 : Int) (f26 : Int) (f27 : Int) (f28 : Int) (f29 : Int) (f30 : Int) (f31 : Nat) (f32 : Int) (f33 : Int) : Nat × va_E := (a, .inr (7, [.int (iv f0), .int (iv f1), .ref f2, .ref f3, .ref f4, .ref f5, .ref f6, .int (iv f7), .int (iv f8), .int (iv f9), .int (iv f10), .int (iv f11), .int (iv f12), .int (iv f13), .int (iv f14), .ref f15, .ref f16, .int (iv f17), .int (iv f18), .ref f19, .ref f20, .int (iv f21), .ref f22, .ref f23, .int (iv f24), .int (iv f25), .int (iv f26), .int (iv f27), .int (iv f28), .int (iv f29), .int (iv f30), .ref f31, .int (iv f32), .int (iv f33)]))
/-! the reference: picture, lifting -/
theorem clp_1 {v : Int64} (h : ¬ -128 ≤ v) : clp v.toInt = -128 := by
  have e1 : (-128 : Int64).toInt = -128 := by decide
  rw [Int64.le_iff_toInt_le, e1] at h
  unfold clp; omega
theorem clp_2 {v : Int64} (h : ¬ v ≤ 127) : clp v.toInt = 127 := by
  have e1 : (127 : Int64).toInt = 127 := by decide
  rw [Int64.le_iff_toInt_le, e1] at h
  unfold clp; omega
theorem clp_3 {v : Int64} (h1 : -128 ≤ v) (h2 : v ≤ 127) : clp v.toInt = v.toInt := by
  have e1 : (-128 : Int64).toInt = -128 := by decide
  have e2 : (127 : Int64).toInt = 127 := by decide
  rw [Int64.le_iff_toInt_le, e1] at h1
  rw [Int64.le_iff_toInt_le, e2] at h2
  unfold clp; omega
def pmA (wd ht x0 y0 x1 y1 v0 : Int) (f : Int → Int) : Int → Int := it (fun y f => it (fun x f => if ((0 ≤ x ∧ x ≤ wd - 1) ∧ 0 ≤ y ∧ y ≤ ht - 1) then up f (16 * y + x) v0 else f) x0 x1 f) y0 y1 f
def smA (a d w h : Int) (f : Int → Int) : Int → Int := it (fun y f => it (fun x f => up f (16 * y + x) (clp (f (16 * y + x) + a * x + d * y))) 0 w f) 0 h f
def clI (n z : Int) : Int := if z < 0 then 0 else if n ≤ z then n - 1 else z
def prI (ge go : Int → Int64) (to k j n : Int) : Int64 := if to = 1 then ge (clI n (k - j)) + ge (clI n (k + 1 + j)) else go (clI n (k - 1 - j)) + go (clI n (k + j))
abbrev cOd (kd st : Int) : Prop := (kd = 5 ∧ st = 1) ∨ (¬ kd = 5 ∧ st % 2 = 0)
abbrev tAw (kd st : Int) : Prop := (kd = 5 ∧ st = 1) ∨ (kd = 6 ∧ st < 2) ∨ (¬ kd = 5 ∧ ¬ kd = 6 ∧ st = 0)
def amL (kd st : Int) (ge go : Int → Int64) (k n : Int) : Int64 :=
  if kd = 6 then shR ((if st = 0 then 6497 else if st = 1 then 217 else if st = 2 then 3616 else 1817) * prI ge go (bI (cOd kd st)) k 0 n + 2048) 12
  else if kd = 5 then (if st = 0 then shR (161 * prI ge go (bI (cOd kd st)) k 0 n - 46 * prI ge go (bI (cOd kd st)) k 1 n + 21 * prI ge go (bI (cOd kd st)) k 2 n - 8 * prI ge go (bI (cOd kd st)) k 3 n + 128) 8
    else shR (81 * prI ge go (bI (cOd kd st)) k 0 n - 25 * prI ge go (bI (cOd kd st)) k 1 n + 10 * prI ge go (bI (cOd kd st)) k 2 n - 2 * prI ge go (bI (cOd kd st)) k 3 n + 128) 8)
  else if kd = 3 ∨ kd = 4 then (if st = 0 then ge k else shR (go k + 1) 1)
  else if st = 0 then (if kd = 0 then shR (prI ge go (bI (cOd kd st)) k 0 n + 1) 1 else shR (9 * prI ge go (bI (cOd kd st)) k 0 n - prI ge go (bI (cOd kd st)) k 1 n + 8) 4)
  else if kd = 2 then shR (9 * prI ge go (bI (cOd kd st)) k 0 n - prI ge go (bI (cOd kd st)) k 1 n + 16) 5 else shR (prI ge go (bI (cOd kd st)) k 0 n + 2) 2
theorem m4_28 : Cond.code y_Mod_bands prog_9_method_12_code 1 (some .int) ∈ wl := wl_4 28 (by decide +kernel) (by decide +kernel)
theorem m4_70 : Cond.code y_Mod_changesOdd prog_9_method_16_code 2 (some .boolean) ∈ wl := wl_4 70 (by decide +kernel) (by decide +kernel)
theorem m4_2 : Cond.code y_Mod_clip prog_9_method_3_code 2 (some .int) ∈ wl := wl_4 2 (by decide +kernel) (by decide +kernel)
theorem m4_16 : Cond.code y_Mod_forget prog_9_method_7_code 1 none ∈ wl := wl_4 16 (by decide +kernel) (by decide +kernel)
theorem m3_235 : Cond.code y_Mod_isPlace prog_9_method_2_code 3 (some .boolean) ∈ wl := wl_3 235 (by decide +kernel) (by decide +kernel)
theorem m4_82 : Cond.code y_Mod_pair prog_9_method_15_code 7 (some .long) ∈ wl := wl_4 82 (by decide +kernel) (by decide +kernel)
theorem m4_83 : Cond.constantLong "WaveletSlicesModel" 113 (6497) ∈ wl := wl_4 83 (by decide +kernel) (by decide +kernel)
theorem m4_84 : Cond.constantLong "WaveletSlicesModel" 115 (217) ∈ wl := wl_4 84 (by decide +kernel) (by decide +kernel)
theorem m4_85 : Cond.constantLong "WaveletSlicesModel" 117 (3616) ∈ wl := wl_4 85 (by decide +kernel) (by decide +kernel)
theorem m4_86 : Cond.constantLong "WaveletSlicesModel" 119 (1817) ∈ wl := wl_4 86 (by decide +kernel) (by decide +kernel)
theorem m4_87 : Cond.constantLong "WaveletSlicesModel" 121 (2048) ∈ wl := wl_4 87 (by decide +kernel) (by decide +kernel)
theorem m4_88 : Cond.constantLong "WaveletSlicesModel" 123 (161) ∈ wl := wl_4 88 (by decide +kernel) (by decide +kernel)
theorem m4_89 : Cond.constantLong "WaveletSlicesModel" 125 (46) ∈ wl := wl_4 89 (by decide +kernel) (by decide +kernel)
theorem m4_90 : Cond.constantLong "WaveletSlicesModel" 127 (21) ∈ wl := wl_4 90 (by decide +kernel) (by decide +kernel)
theorem m4_91 : Cond.constantLong "WaveletSlicesModel" 129 (8) ∈ wl := wl_4 91 (by decide +kernel) (by decide +kernel)
theorem m4_92 : Cond.constantLong "WaveletSlicesModel" 131 (128) ∈ wl := wl_4 92 (by decide +kernel) (by decide +kernel)
theorem m4_93 : Cond.constantLong "WaveletSlicesModel" 133 (81) ∈ wl := wl_4 93 (by decide +kernel) (by decide +kernel)
theorem m4_94 : Cond.constantLong "WaveletSlicesModel" 135 (25) ∈ wl := wl_4 94 (by decide +kernel) (by decide +kernel)
theorem m4_95 : Cond.constantLong "WaveletSlicesModel" 137 (10) ∈ wl := wl_4 95 (by decide +kernel) (by decide +kernel)
theorem m4_58 : Cond.constantLong "WaveletSlicesModel" 139 (2) ∈ wl := wl_4 58 (by decide +kernel) (by decide +kernel)
theorem m4_96 : Cond.constantLong "WaveletSlicesModel" 141 (9) ∈ wl := wl_4 96 (by decide +kernel) (by decide +kernel)
theorem m4_97 : Cond.constantLong "WaveletSlicesModel" 143 (16) ∈ wl := wl_4 97 (by decide +kernel) (by decide +kernel)
theorem m4_3 : Cond.constantLong "WaveletSlicesModel" 70 (-128) ∈ wl := wl_4 3 (by decide +kernel) (by decide +kernel)
theorem m4_4 : Cond.constantLong "WaveletSlicesModel" 72 (127) ∈ wl := wl_4 4 (by decide +kernel) (by decide +kernel)
theorem m3_134 : Cond.fieldLink "WaveletSlicesModel" 30 "WaveletSlicesModel" "across" "I" ∈ wl := wl_3 134 (by decide +kernel) (by decide +kernel)
theorem m3_132 : Cond.fieldLink "WaveletSlicesModel" 26 "WaveletSlicesModel" "both" "I" ∈ wl := wl_3 132 (by decide +kernel) (by decide +kernel)
theorem m3_138 : Cond.fieldLink "WaveletSlicesModel" 39 "WaveletSlicesModel" "den" "I" ∈ wl := wl_3 138 (by decide +kernel) (by decide +kernel)
theorem m3_135 : Cond.fieldLink "WaveletSlicesModel" 33 "WaveletSlicesModel" "down" "I" ∈ wl := wl_3 135 (by decide +kernel) (by decide +kernel)
theorem m3_139 : Cond.fieldLink "WaveletSlicesModel" 42 "WaveletSlicesModel" "eases" "[I" ∈ wl := wl_3 139 (by decide +kernel) (by decide +kernel)
theorem m3_143 : Cond.fieldLink "WaveletSlicesModel" 49 "WaveletSlicesModel" "even" "[J" ∈ wl := wl_3 143 (by decide +kernel) (by decide +kernel)
theorem m3_125 : Cond.fieldLink "WaveletSlicesModel" 67 "WaveletSlicesModel" "height" "I" ∈ wl := wl_3 125 (by decide +kernel) (by decide +kernel)
theorem m3_131 : Cond.fieldLink "WaveletSlicesModel" 89 "WaveletSlicesModel" "kind" "I" ∈ wl := wl_3 131 (by decide +kernel) (by decide +kernel)
theorem m3_137 : Cond.fieldLink "WaveletSlicesModel" 36 "WaveletSlicesModel" "num" "I" ∈ wl := wl_3 137 (by decide +kernel) (by decide +kernel)
theorem m3_144 : Cond.fieldLink "WaveletSlicesModel" 52 "WaveletSlicesModel" "odd" "[J" ∈ wl := wl_3 144 (by decide +kernel) (by decide +kernel)
theorem m3_136 : Cond.fieldLink "WaveletSlicesModel" 98 "WaveletSlicesModel" "predicts" "Z" ∈ wl := wl_3 136 (by decide +kernel) (by decide +kernel)
theorem m3_142 : Cond.fieldLink "WaveletSlicesModel" 86 "WaveletSlicesModel" "readOnce" "Z" ∈ wl := wl_3 142 (by decide +kernel) (by decide +kernel)
theorem m3_126 : Cond.fieldLink "WaveletSlicesModel" 7 "WaveletSlicesModel" "samples" "[I" ∈ wl := wl_3 126 (by decide +kernel) (by decide +kernel)
theorem m3_133 : Cond.fieldLink "WaveletSlicesModel" 92 "WaveletSlicesModel" "wide" "I" ∈ wl := wl_3 133 (by decide +kernel) (by decide +kernel)
theorem m3_124 : Cond.fieldLink "WaveletSlicesModel" 64 "WaveletSlicesModel" "width" "I" ∈ wl := wl_3 124 (by decide +kernel) (by decide +kernel)
theorem m3_141 : Cond.fieldLink "WaveletSlicesModel" 82 "WaveletSlicesModel" "written" "Z" ∈ wl := wl_3 141 (by decide +kernel) (by decide +kernel)
theorem m1_9 : Cond.initialized "WaveletSlicesModel" ∈ wl := wl_1 9 (by decide +kernel) (by decide +kernel)
theorem m4_26 : Cond.instanceMethod y_Mod_bands ∈ wl := wl_4 26 (by decide +kernel) (by decide +kernel)
theorem m4_69 : Cond.instanceMethod y_Mod_changesOdd ∈ wl := wl_4 69 (by decide +kernel) (by decide +kernel)
theorem m4_15 : Cond.instanceMethod y_Mod_forget ∈ wl := wl_4 15 (by decide +kernel) (by decide +kernel)
theorem m3_234 : Cond.instanceMethod y_Mod_isPlace ∈ wl := wl_3 234 (by decide +kernel) (by decide +kernel)
theorem m4_81 : Cond.instanceMethod y_Mod_pair ∈ wl := wl_4 81 (by decide +kernel) (by decide +kernel)
theorem m4_25 : Cond.methodLink "WaveletSlicesModel" 101 y_Mod_bands ∈ wl := wl_4 25 (by decide +kernel) (by decide +kernel)
theorem m4_67 : Cond.methodLink "WaveletSlicesModel" 105 y_Mod_changesOdd ∈ wl := wl_4 67 (by decide +kernel) (by decide +kernel)
theorem m4_0 : Cond.methodLink "WaveletSlicesModel" 78 y_Mod_clip ∈ wl := wl_4 0 (by decide +kernel) (by decide +kernel)
theorem m4_13 : Cond.methodLink "WaveletSlicesModel" 95 y_Mod_forget ∈ wl := wl_4 13 (by decide +kernel) (by decide +kernel)
theorem m3_232 : Cond.methodLink "WaveletSlicesModel" 74 y_Mod_isPlace ∈ wl := wl_3 232 (by decide +kernel) (by decide +kernel)
theorem m4_79 : Cond.methodLink "WaveletSlicesModel" 109 y_Mod_pair ∈ wl := wl_4 79 (by decide +kernel) (by decide +kernel)
theorem m4_27 : Cond.selects "WaveletSlicesModel" y_Mod_bands y_Mod_bands ∈ wl := wl_4 27 (by decide +kernel) (by decide +kernel)
theorem mp_29 : Cond.selects "WaveletSlicesModel" y_Mod_changesOdd y_Mod_changesOdd ∈ wl := wl_p 29 (by decide +kernel) (by decide +kernel)
theorem mp_21 : Cond.selects "WaveletSlicesModel" y_Mod_forget y_Mod_forget ∈ wl := wl_p 21 (by decide +kernel) (by decide +kernel)
theorem mp_20 : Cond.selects "WaveletSlicesModel" y_Mod_isPlace y_Mod_isPlace ∈ wl := wl_p 20 (by decide +kernel) (by decide +kernel)
theorem mp_32 : Cond.selects "WaveletSlicesModel" y_Mod_pair y_Mod_pair ∈ wl := wl_p 32 (by decide +kernel) (by decide +kernel)
theorem m4_1 : Cond.static y_Mod_clip ∈ wl := wl_4 1 (by decide +kernel) (by decide +kernel)
theorem d_Mod_isPlace_0 : decode prog_9_method_2_code 0 = .ok (.iload_n 1, 1) := by decide +kernel
theorem d_Mod_isPlace_1 : decode prog_9_method_2_code 1 = .ok (.ifCond .lt 27, 3) := by decide +kernel
theorem d_Mod_isPlace_4 : decode prog_9_method_2_code 4 = .ok (.iload_n 1, 1) := by decide +kernel
theorem d_Mod_isPlace_5 : decode prog_9_method_2_code 5 = .ok (.aload_n 0, 1) := by decide +kernel
theorem d_Mod_isPlace_6 : decode prog_9_method_2_code 6 = .ok (.getfield 64, 3) := by decide +kernel
theorem d_Mod_isPlace_9 : decode prog_9_method_2_code 9 = .ok (.if_icmp .ge 19, 3) := by decide +kernel
theorem d_Mod_isPlace_12 : decode prog_9_method_2_code 12 = .ok (.iload_n 2, 1) := by decide +kernel
theorem d_Mod_isPlace_13 : decode prog_9_method_2_code 13 = .ok (.ifCond .lt 15, 3) := by decide +kernel
theorem d_Mod_isPlace_16 : decode prog_9_method_2_code 16 = .ok (.iload_n 2, 1) := by decide +kernel
theorem d_Mod_isPlace_17 : decode prog_9_method_2_code 17 = .ok (.aload_n 0, 1) := by decide +kernel
theorem d_Mod_isPlace_18 : decode prog_9_method_2_code 18 = .ok (.getfield 67, 3) := by decide +kernel
theorem d_Mod_isPlace_21 : decode prog_9_method_2_code 21 = .ok (.if_icmp .ge 7, 3) := by decide +kernel
theorem d_Mod_isPlace_24 : decode prog_9_method_2_code 24 = .ok (.iconst 1, 1) := by decide +kernel
theorem d_Mod_isPlace_25 : decode prog_9_method_2_code 25 = .ok (.goto 4, 3) := by decide +kernel
theorem d_Mod_isPlace_28 : decode prog_9_method_2_code 28 = .ok (.iconst 0, 1) := by decide +kernel
theorem d_Mod_isPlace_29 : decode prog_9_method_2_code 29 = .ok (.ireturn, 1) := by decide +kernel
theorem d_Mod_clip_0 : decode prog_9_method_3_code 0 = .ok (.lload_n 0, 1) := by decide +kernel
theorem d_Mod_clip_1 : decode prog_9_method_3_code 1 = .ok (.ldc2_w 70, 3) := by decide +kernel
theorem d_Mod_clip_4 : decode prog_9_method_3_code 4 = .ok (.lcmp, 1) := by decide +kernel
theorem d_Mod_clip_5 : decode prog_9_method_3_code 5 = .ok (.ifCond .ge 8, 3) := by decide +kernel
theorem d_Mod_clip_8 : decode prog_9_method_3_code 8 = .ok (.bipush (-128), 2) := by decide +kernel
theorem d_Mod_clip_10 : decode prog_9_method_3_code 10 = .ok (.goto 18, 3) := by decide +kernel
theorem d_Mod_clip_13 : decode prog_9_method_3_code 13 = .ok (.lload_n 0, 1) := by decide +kernel
theorem d_Mod_clip_14 : decode prog_9_method_3_code 14 = .ok (.ldc2_w 72, 3) := by decide +kernel
theorem d_Mod_clip_17 : decode prog_9_method_3_code 17 = .ok (.lcmp, 1) := by decide +kernel
theorem d_Mod_clip_18 : decode prog_9_method_3_code 18 = .ok (.ifCond .le 8, 3) := by decide +kernel
theorem d_Mod_clip_21 : decode prog_9_method_3_code 21 = .ok (.bipush 127, 2) := by decide +kernel
theorem d_Mod_clip_23 : decode prog_9_method_3_code 23 = .ok (.goto 5, 3) := by decide +kernel
theorem d_Mod_clip_26 : decode prog_9_method_3_code 26 = .ok (.lload_n 0, 1) := by decide +kernel
theorem d_Mod_clip_27 : decode prog_9_method_3_code 27 = .ok (.l2i, 1) := by decide +kernel
theorem d_Mod_clip_28 : decode prog_9_method_3_code 28 = .ok (.ireturn, 1) := by decide +kernel
theorem d_Mod_sample_0 : decode prog_9_method_6_code 0 = .ok (.aload_n 0, 1) := by decide +kernel
theorem d_Mod_sample_1 : decode prog_9_method_6_code 1 = .ok (.iload_n 1, 1) := by decide +kernel
theorem d_Mod_sample_2 : decode prog_9_method_6_code 2 = .ok (.iload_n 2, 1) := by decide +kernel
theorem d_Mod_sample_3 : decode prog_9_method_6_code 3 = .ok (.invokevirtual 74, 3) := by decide +kernel
theorem d_Mod_sample_6 : decode prog_9_method_6_code 6 = .ok (.ifCond .eq 17, 3) := by decide +kernel
theorem d_Mod_sample_9 : decode prog_9_method_6_code 9 = .ok (.aload_n 0, 1) := by decide +kernel
theorem d_Mod_sample_10 : decode prog_9_method_6_code 10 = .ok (.getfield 7, 3) := by decide +kernel
theorem d_Mod_sample_13 : decode prog_9_method_6_code 13 = .ok (.bipush 16, 2) := by decide +kernel
theorem d_Mod_sample_15 : decode prog_9_method_6_code 15 = .ok (.iload_n 2, 1) := by decide +kernel
theorem d_Mod_sample_16 : decode prog_9_method_6_code 16 = .ok (.imul, 1) := by decide +kernel
theorem d_Mod_sample_17 : decode prog_9_method_6_code 17 = .ok (.iload_n 1, 1) := by decide +kernel
theorem d_Mod_sample_18 : decode prog_9_method_6_code 18 = .ok (.iadd, 1) := by decide +kernel
theorem d_Mod_sample_19 : decode prog_9_method_6_code 19 = .ok (.iaload, 1) := by decide +kernel
theorem d_Mod_sample_20 : decode prog_9_method_6_code 20 = .ok (.goto 6, 3) := by decide +kernel
theorem d_Mod_sample_23 : decode prog_9_method_6_code 23 = .ok (.sipush (-1000), 3) := by decide +kernel
theorem d_Mod_sample_26 : decode prog_9_method_6_code 26 = .ok (.ireturn, 1) := by decide +kernel
theorem d_Mod_forget_0 : decode prog_9_method_7_code 0 = .ok (.aload_n 0, 1) := by decide +kernel
theorem d_Mod_forget_1 : decode prog_9_method_7_code 1 = .ok (.iconst 0, 1) := by decide +kernel
theorem d_Mod_forget_2 : decode prog_9_method_7_code 2 = .ok (.putfield 82, 3) := by decide +kernel
theorem d_Mod_forget_5 : decode prog_9_method_7_code 5 = .ok (.aload_n 0, 1) := by decide +kernel
theorem d_Mod_forget_6 : decode prog_9_method_7_code 6 = .ok (.iconst 0, 1) := by decide +kernel
theorem d_Mod_forget_7 : decode prog_9_method_7_code 7 = .ok (.putfield 86, 3) := by decide +kernel
theorem d_Mod_forget_10 : decode prog_9_method_7_code 10 = .ok (.return_, 1) := by decide +kernel
theorem d_Mod_paint_0 : decode prog_9_method_4_code 0 = .ok (.aload_n 0, 1) := by decide +kernel
theorem d_Mod_paint_1 : decode prog_9_method_4_code 1 = .ok (.iload_n 1, 1) := by decide +kernel
theorem d_Mod_paint_2 : decode prog_9_method_4_code 2 = .ok (.iload_n 2, 1) := by decide +kernel
theorem d_Mod_paint_3 : decode prog_9_method_4_code 3 = .ok (.invokevirtual 74, 3) := by decide +kernel
theorem d_Mod_paint_6 : decode prog_9_method_4_code 6 = .ok (.ifCond .eq 41, 3) := by decide +kernel
theorem d_Mod_paint_9 : decode prog_9_method_4_code 9 = .ok (.iload_n 3, 1) := by decide +kernel
theorem d_Mod_paint_10 : decode prog_9_method_4_code 10 = .ok (.iconst 1, 1) := by decide +kernel
theorem d_Mod_paint_11 : decode prog_9_method_4_code 11 = .ok (.if_icmp .lt 36, 3) := by decide +kernel
theorem d_Mod_paint_14 : decode prog_9_method_4_code 14 = .ok (.iload_n 3, 1) := by decide +kernel
theorem d_Mod_paint_15 : decode prog_9_method_4_code 15 = .ok (.bipush 16, 2) := by decide +kernel
theorem d_Mod_paint_17 : decode prog_9_method_4_code 17 = .ok (.if_icmp .gt 30, 3) := by decide +kernel
theorem d_Mod_paint_20 : decode prog_9_method_4_code 20 = .ok (.iload 4, 2) := by decide +kernel
theorem d_Mod_paint_22 : decode prog_9_method_4_code 22 = .ok (.iconst 1, 1) := by decide +kernel
theorem d_Mod_paint_23 : decode prog_9_method_4_code 23 = .ok (.if_icmp .lt 24, 3) := by decide +kernel
theorem d_Mod_paint_26 : decode prog_9_method_4_code 26 = .ok (.iload 4, 2) := by decide +kernel
theorem d_Mod_paint_28 : decode prog_9_method_4_code 28 = .ok (.bipush 16, 2) := by decide +kernel
theorem d_Mod_paint_30 : decode prog_9_method_4_code 30 = .ok (.if_icmp .gt 17, 3) := by decide +kernel
theorem d_Mod_paint_33 : decode prog_9_method_4_code 33 = .ok (.iload 5, 2) := by decide +kernel
theorem d_Mod_paint_35 : decode prog_9_method_4_code 35 = .ok (.bipush (-128), 2) := by decide +kernel
theorem d_Mod_paint_37 : decode prog_9_method_4_code 37 = .ok (.if_icmp .lt 10, 3) := by decide +kernel
theorem d_Mod_paint_40 : decode prog_9_method_4_code 40 = .ok (.iload 5, 2) := by decide +kernel
theorem d_Mod_paint_42 : decode prog_9_method_4_code 42 = .ok (.bipush 127, 2) := by decide +kernel
theorem d_Mod_paint_44 : decode prog_9_method_4_code 44 = .ok (.if_icmp .le 5, 3) := by decide +kernel
theorem d_Mod_paint_47 : decode prog_9_method_4_code 47 = .ok (.iconst 0, 1) := by decide +kernel
theorem d_Mod_paint_48 : decode prog_9_method_4_code 48 = .ok (.ireturn, 1) := by decide +kernel
theorem d_Mod_paint_49 : decode prog_9_method_4_code 49 = .ok (.iload_n 2, 1) := by decide +kernel
theorem d_Mod_paint_50 : decode prog_9_method_4_code 50 = .ok (.istore 6, 2) := by decide +kernel
theorem d_Mod_paint_52 : decode prog_9_method_4_code 52 = .ok (.iload 6, 2) := by decide +kernel
theorem d_Mod_paint_54 : decode prog_9_method_4_code 54 = .ok (.iload_n 2, 1) := by decide +kernel
theorem d_Mod_paint_55 : decode prog_9_method_4_code 55 = .ok (.iload 4, 2) := by decide +kernel
theorem d_Mod_paint_57 : decode prog_9_method_4_code 57 = .ok (.iadd, 1) := by decide +kernel
theorem d_Mod_paint_58 : decode prog_9_method_4_code 58 = .ok (.if_icmp .ge 52, 3) := by decide +kernel
theorem d_Mod_paint_61 : decode prog_9_method_4_code 61 = .ok (.iload_n 1, 1) := by decide +kernel
theorem d_Mod_paint_62 : decode prog_9_method_4_code 62 = .ok (.istore 7, 2) := by decide +kernel
theorem d_Mod_paint_64 : decode prog_9_method_4_code 64 = .ok (.iload 7, 2) := by decide +kernel
theorem d_Mod_paint_66 : decode prog_9_method_4_code 66 = .ok (.iload_n 1, 1) := by decide +kernel
theorem d_Mod_paint_67 : decode prog_9_method_4_code 67 = .ok (.iload_n 3, 1) := by decide +kernel
theorem d_Mod_paint_68 : decode prog_9_method_4_code 68 = .ok (.iadd, 1) := by decide +kernel
theorem d_Mod_paint_69 : decode prog_9_method_4_code 69 = .ok (.if_icmp .ge 35, 3) := by decide +kernel
theorem d_Mod_paint_72 : decode prog_9_method_4_code 72 = .ok (.aload_n 0, 1) := by decide +kernel
theorem d_Mod_paint_73 : decode prog_9_method_4_code 73 = .ok (.iload 7, 2) := by decide +kernel
theorem d_Mod_paint_75 : decode prog_9_method_4_code 75 = .ok (.iload 6, 2) := by decide +kernel
theorem d_Mod_paint_77 : decode prog_9_method_4_code 77 = .ok (.invokevirtual 74, 3) := by decide +kernel
theorem d_Mod_paint_80 : decode prog_9_method_4_code 80 = .ok (.ifCond .eq 18, 3) := by decide +kernel
theorem d_Mod_paint_83 : decode prog_9_method_4_code 83 = .ok (.aload_n 0, 1) := by decide +kernel
theorem d_Mod_paint_84 : decode prog_9_method_4_code 84 = .ok (.getfield 7, 3) := by decide +kernel
theorem d_Mod_paint_87 : decode prog_9_method_4_code 87 = .ok (.bipush 16, 2) := by decide +kernel
theorem d_Mod_paint_89 : decode prog_9_method_4_code 89 = .ok (.iload 6, 2) := by decide +kernel
theorem d_Mod_paint_91 : decode prog_9_method_4_code 91 = .ok (.imul, 1) := by decide +kernel
theorem d_Mod_paint_92 : decode prog_9_method_4_code 92 = .ok (.iload 7, 2) := by decide +kernel
theorem d_Mod_paint_94 : decode prog_9_method_4_code 94 = .ok (.iadd, 1) := by decide +kernel
theorem d_Mod_paint_95 : decode prog_9_method_4_code 95 = .ok (.iload 5, 2) := by decide +kernel
theorem d_Mod_paint_97 : decode prog_9_method_4_code 97 = .ok (.iastore, 1) := by decide +kernel
theorem d_Mod_paint_98 : decode prog_9_method_4_code 98 = .ok (.iinc 7 1, 3) := by decide +kernel
theorem d_Mod_paint_101 : decode prog_9_method_4_code 101 = .ok (.goto (-37), 3) := by decide +kernel
theorem d_Mod_paint_104 : decode prog_9_method_4_code 104 = .ok (.iinc 6 1, 3) := by decide +kernel
theorem d_Mod_paint_107 : decode prog_9_method_4_code 107 = .ok (.goto (-55), 3) := by decide +kernel
theorem d_Mod_paint_110 : decode prog_9_method_4_code 110 = .ok (.iconst 1, 1) := by decide +kernel
theorem d_Mod_paint_111 : decode prog_9_method_4_code 111 = .ok (.ireturn, 1) := by decide +kernel
theorem d_Mod_slope_0 : decode prog_9_method_5_code 0 = .ok (.iload_n 1, 1) := by decide +kernel
theorem d_Mod_slope_1 : decode prog_9_method_5_code 1 = .ok (.bipush (-32), 2) := by decide +kernel
theorem d_Mod_slope_3 : decode prog_9_method_5_code 3 = .ok (.if_icmp .lt 21, 3) := by decide +kernel
theorem d_Mod_slope_6 : decode prog_9_method_5_code 6 = .ok (.iload_n 1, 1) := by decide +kernel
theorem d_Mod_slope_7 : decode prog_9_method_5_code 7 = .ok (.bipush 32, 2) := by decide +kernel
theorem d_Mod_slope_9 : decode prog_9_method_5_code 9 = .ok (.if_icmp .gt 15, 3) := by decide +kernel
theorem d_Mod_slope_12 : decode prog_9_method_5_code 12 = .ok (.iload_n 2, 1) := by decide +kernel
theorem d_Mod_slope_13 : decode prog_9_method_5_code 13 = .ok (.bipush (-32), 2) := by decide +kernel
theorem d_Mod_slope_15 : decode prog_9_method_5_code 15 = .ok (.if_icmp .lt 9, 3) := by decide +kernel
theorem d_Mod_slope_18 : decode prog_9_method_5_code 18 = .ok (.iload_n 2, 1) := by decide +kernel
theorem d_Mod_slope_19 : decode prog_9_method_5_code 19 = .ok (.bipush 32, 2) := by decide +kernel
theorem d_Mod_slope_21 : decode prog_9_method_5_code 21 = .ok (.if_icmp .le 5, 3) := by decide +kernel
theorem d_Mod_slope_24 : decode prog_9_method_5_code 24 = .ok (.iconst 0, 1) := by decide +kernel
theorem d_Mod_slope_25 : decode prog_9_method_5_code 25 = .ok (.ireturn, 1) := by decide +kernel
theorem d_Mod_slope_26 : decode prog_9_method_5_code 26 = .ok (.iconst 0, 1) := by decide +kernel
theorem d_Mod_slope_27 : decode prog_9_method_5_code 27 = .ok (.istore_n 3, 1) := by decide +kernel
theorem d_Mod_slope_28 : decode prog_9_method_5_code 28 = .ok (.iload_n 3, 1) := by decide +kernel
theorem d_Mod_slope_29 : decode prog_9_method_5_code 29 = .ok (.aload_n 0, 1) := by decide +kernel
theorem d_Mod_slope_30 : decode prog_9_method_5_code 30 = .ok (.getfield 67, 3) := by decide +kernel
theorem d_Mod_slope_33 : decode prog_9_method_5_code 33 = .ok (.if_icmp .ge 64, 3) := by decide +kernel
theorem d_Mod_slope_36 : decode prog_9_method_5_code 36 = .ok (.iconst 0, 1) := by decide +kernel
theorem d_Mod_slope_37 : decode prog_9_method_5_code 37 = .ok (.istore 4, 2) := by decide +kernel
theorem d_Mod_slope_39 : decode prog_9_method_5_code 39 = .ok (.iload 4, 2) := by decide +kernel
theorem d_Mod_slope_41 : decode prog_9_method_5_code 41 = .ok (.aload_n 0, 1) := by decide +kernel
theorem d_Mod_slope_42 : decode prog_9_method_5_code 42 = .ok (.getfield 64, 3) := by decide +kernel
theorem d_Mod_slope_45 : decode prog_9_method_5_code 45 = .ok (.if_icmp .ge 46, 3) := by decide +kernel
theorem d_Mod_slope_48 : decode prog_9_method_5_code 48 = .ok (.aload_n 0, 1) := by decide +kernel
theorem d_Mod_slope_49 : decode prog_9_method_5_code 49 = .ok (.getfield 7, 3) := by decide +kernel
theorem d_Mod_slope_52 : decode prog_9_method_5_code 52 = .ok (.bipush 16, 2) := by decide +kernel
theorem d_Mod_slope_54 : decode prog_9_method_5_code 54 = .ok (.iload_n 3, 1) := by decide +kernel
theorem d_Mod_slope_55 : decode prog_9_method_5_code 55 = .ok (.imul, 1) := by decide +kernel
theorem d_Mod_slope_56 : decode prog_9_method_5_code 56 = .ok (.iload 4, 2) := by decide +kernel
theorem d_Mod_slope_58 : decode prog_9_method_5_code 58 = .ok (.iadd, 1) := by decide +kernel
theorem d_Mod_slope_59 : decode prog_9_method_5_code 59 = .ok (.aload_n 0, 1) := by decide +kernel
theorem d_Mod_slope_60 : decode prog_9_method_5_code 60 = .ok (.getfield 7, 3) := by decide +kernel
theorem d_Mod_slope_63 : decode prog_9_method_5_code 63 = .ok (.bipush 16, 2) := by decide +kernel
theorem d_Mod_slope_65 : decode prog_9_method_5_code 65 = .ok (.iload_n 3, 1) := by decide +kernel
theorem d_Mod_slope_66 : decode prog_9_method_5_code 66 = .ok (.imul, 1) := by decide +kernel
theorem d_Mod_slope_67 : decode prog_9_method_5_code 67 = .ok (.iload 4, 2) := by decide +kernel
theorem d_Mod_slope_69 : decode prog_9_method_5_code 69 = .ok (.iadd, 1) := by decide +kernel
theorem d_Mod_slope_70 : decode prog_9_method_5_code 70 = .ok (.iaload, 1) := by decide +kernel
theorem d_Mod_slope_71 : decode prog_9_method_5_code 71 = .ok (.iload_n 1, 1) := by decide +kernel
theorem d_Mod_slope_72 : decode prog_9_method_5_code 72 = .ok (.iload 4, 2) := by decide +kernel
theorem d_Mod_slope_74 : decode prog_9_method_5_code 74 = .ok (.imul, 1) := by decide +kernel
theorem d_Mod_slope_75 : decode prog_9_method_5_code 75 = .ok (.iadd, 1) := by decide +kernel
theorem d_Mod_slope_76 : decode prog_9_method_5_code 76 = .ok (.iload_n 2, 1) := by decide +kernel
theorem d_Mod_slope_77 : decode prog_9_method_5_code 77 = .ok (.iload_n 3, 1) := by decide +kernel
theorem d_Mod_slope_78 : decode prog_9_method_5_code 78 = .ok (.imul, 1) := by decide +kernel
theorem d_Mod_slope_79 : decode prog_9_method_5_code 79 = .ok (.iadd, 1) := by decide +kernel
theorem d_Mod_slope_80 : decode prog_9_method_5_code 80 = .ok (.i2l, 1) := by decide +kernel
theorem d_Mod_slope_81 : decode prog_9_method_5_code 81 = .ok (.invokestatic 78, 3) := by decide +kernel
theorem d_Mod_slope_84 : decode prog_9_method_5_code 84 = .ok (.iastore, 1) := by decide +kernel
theorem d_Mod_slope_85 : decode prog_9_method_5_code 85 = .ok (.iinc 4 1, 3) := by decide +kernel
theorem d_Mod_slope_88 : decode prog_9_method_5_code 88 = .ok (.goto (-49), 3) := by decide +kernel
theorem d_Mod_slope_91 : decode prog_9_method_5_code 91 = .ok (.iinc 3 1, 3) := by decide +kernel
theorem d_Mod_slope_94 : decode prog_9_method_5_code 94 = .ok (.goto (-66), 3) := by decide +kernel
theorem d_Mod_slope_97 : decode prog_9_method_5_code 97 = .ok (.iconst 1, 1) := by decide +kernel
theorem d_Mod_slope_98 : decode prog_9_method_5_code 98 = .ok (.ireturn, 1) := by decide +kernel
theorem d_Mod_bands_0 : decode prog_9_method_12_code 0 = .ok (.iconst 1, 1) := by decide +kernel
theorem d_Mod_bands_1 : decode prog_9_method_12_code 1 = .ok (.aload_n 0, 1) := by decide +kernel
theorem d_Mod_bands_2 : decode prog_9_method_12_code 2 = .ok (.getfield 92, 3) := by decide +kernel
theorem d_Mod_bands_5 : decode prog_9_method_12_code 5 = .ok (.iadd, 1) := by decide +kernel
theorem d_Mod_bands_6 : decode prog_9_method_12_code 6 = .ok (.iconst 3, 1) := by decide +kernel
theorem d_Mod_bands_7 : decode prog_9_method_12_code 7 = .ok (.aload_n 0, 1) := by decide +kernel
theorem d_Mod_bands_8 : decode prog_9_method_12_code 8 = .ok (.getfield 26, 3) := by decide +kernel
theorem d_Mod_bands_11 : decode prog_9_method_12_code 11 = .ok (.imul, 1) := by decide +kernel
theorem d_Mod_bands_12 : decode prog_9_method_12_code 12 = .ok (.iadd, 1) := by decide +kernel
theorem d_Mod_bands_13 : decode prog_9_method_12_code 13 = .ok (.ireturn, 1) := by decide +kernel
theorem d_Mod_filter_0 : decode prog_9_method_8_code 0 = .ok (.iload_n 1, 1) := by decide +kernel
theorem d_Mod_filter_1 : decode prog_9_method_8_code 1 = .ok (.ifCond .lt 34, 3) := by decide +kernel
theorem d_Mod_filter_4 : decode prog_9_method_8_code 4 = .ok (.iload_n 1, 1) := by decide +kernel
theorem d_Mod_filter_5 : decode prog_9_method_8_code 5 = .ok (.bipush 6, 2) := by decide +kernel
theorem d_Mod_filter_7 : decode prog_9_method_8_code 7 = .ok (.if_icmp .gt 28, 3) := by decide +kernel
theorem d_Mod_filter_10 : decode prog_9_method_8_code 10 = .ok (.iload_n 2, 1) := by decide +kernel
theorem d_Mod_filter_11 : decode prog_9_method_8_code 11 = .ok (.ifCond .lt 24, 3) := by decide +kernel
theorem d_Mod_filter_14 : decode prog_9_method_8_code 14 = .ok (.iload_n 2, 1) := by decide +kernel
theorem d_Mod_filter_15 : decode prog_9_method_8_code 15 = .ok (.iconst 2, 1) := by decide +kernel
theorem d_Mod_filter_16 : decode prog_9_method_8_code 16 = .ok (.if_icmp .gt 19, 3) := by decide +kernel
theorem d_Mod_filter_19 : decode prog_9_method_8_code 19 = .ok (.iload_n 3, 1) := by decide +kernel
theorem d_Mod_filter_20 : decode prog_9_method_8_code 20 = .ok (.ifCond .lt 15, 3) := by decide +kernel
theorem d_Mod_filter_23 : decode prog_9_method_8_code 23 = .ok (.iload_n 3, 1) := by decide +kernel
theorem d_Mod_filter_24 : decode prog_9_method_8_code 24 = .ok (.iconst 2, 1) := by decide +kernel
theorem d_Mod_filter_25 : decode prog_9_method_8_code 25 = .ok (.if_icmp .gt 10, 3) := by decide +kernel
theorem d_Mod_filter_28 : decode prog_9_method_8_code 28 = .ok (.iload_n 2, 1) := by decide +kernel
theorem d_Mod_filter_29 : decode prog_9_method_8_code 29 = .ok (.iload_n 3, 1) := by decide +kernel
theorem d_Mod_filter_30 : decode prog_9_method_8_code 30 = .ok (.iadd, 1) := by decide +kernel
theorem d_Mod_filter_31 : decode prog_9_method_8_code 31 = .ok (.iconst 3, 1) := by decide +kernel
theorem d_Mod_filter_32 : decode prog_9_method_8_code 32 = .ok (.if_icmp .le 5, 3) := by decide +kernel
theorem d_Mod_filter_35 : decode prog_9_method_8_code 35 = .ok (.iconst 0, 1) := by decide +kernel
theorem d_Mod_filter_36 : decode prog_9_method_8_code 36 = .ok (.ireturn, 1) := by decide +kernel
theorem d_Mod_filter_37 : decode prog_9_method_8_code 37 = .ok (.aload_n 0, 1) := by decide +kernel
theorem d_Mod_filter_38 : decode prog_9_method_8_code 38 = .ok (.iload_n 1, 1) := by decide +kernel
theorem d_Mod_filter_39 : decode prog_9_method_8_code 39 = .ok (.putfield 89, 3) := by decide +kernel
theorem d_Mod_filter_42 : decode prog_9_method_8_code 42 = .ok (.aload_n 0, 1) := by decide +kernel
theorem d_Mod_filter_43 : decode prog_9_method_8_code 43 = .ok (.iload_n 2, 1) := by decide +kernel
theorem d_Mod_filter_44 : decode prog_9_method_8_code 44 = .ok (.putfield 26, 3) := by decide +kernel
theorem d_Mod_filter_47 : decode prog_9_method_8_code 47 = .ok (.aload_n 0, 1) := by decide +kernel
theorem d_Mod_filter_48 : decode prog_9_method_8_code 48 = .ok (.iload_n 3, 1) := by decide +kernel
theorem d_Mod_filter_49 : decode prog_9_method_8_code 49 = .ok (.putfield 92, 3) := by decide +kernel
theorem d_Mod_filter_52 : decode prog_9_method_8_code 52 = .ok (.iconst 0, 1) := by decide +kernel
theorem d_Mod_filter_53 : decode prog_9_method_8_code 53 = .ok (.istore 4, 2) := by decide +kernel
theorem d_Mod_filter_55 : decode prog_9_method_8_code 55 = .ok (.iload 4, 2) := by decide +kernel
theorem d_Mod_filter_57 : decode prog_9_method_8_code 57 = .ok (.bipush 8, 2) := by decide +kernel
theorem d_Mod_filter_59 : decode prog_9_method_8_code 59 = .ok (.if_icmp .ge 17, 3) := by decide +kernel
theorem d_Mod_filter_62 : decode prog_9_method_8_code 62 = .ok (.aload_n 0, 1) := by decide +kernel
theorem d_Mod_filter_63 : decode prog_9_method_8_code 63 = .ok (.getfield 42, 3) := by decide +kernel
theorem d_Mod_filter_66 : decode prog_9_method_8_code 66 = .ok (.iload 4, 2) := by decide +kernel
theorem d_Mod_filter_68 : decode prog_9_method_8_code 68 = .ok (.iconst 0, 1) := by decide +kernel
theorem d_Mod_filter_69 : decode prog_9_method_8_code 69 = .ok (.iastore, 1) := by decide +kernel
theorem d_Mod_filter_70 : decode prog_9_method_8_code 70 = .ok (.iinc 4 1, 3) := by decide +kernel
theorem d_Mod_filter_73 : decode prog_9_method_8_code 73 = .ok (.goto (-18), 3) := by decide +kernel
theorem d_Mod_filter_76 : decode prog_9_method_8_code 76 = .ok (.aload_n 0, 1) := by decide +kernel
theorem d_Mod_filter_77 : decode prog_9_method_8_code 77 = .ok (.invokevirtual 95, 3) := by decide +kernel
theorem d_Mod_filter_80 : decode prog_9_method_8_code 80 = .ok (.iconst 1, 1) := by decide +kernel
theorem d_Mod_filter_81 : decode prog_9_method_8_code 81 = .ok (.ireturn, 1) := by decide +kernel
theorem d_Mod_slices_0 : decode prog_9_method_9_code 0 = .ok (.iload_n 1, 1) := by decide +kernel
theorem d_Mod_slices_1 : decode prog_9_method_9_code 1 = .ok (.iconst 1, 1) := by decide +kernel
theorem d_Mod_slices_2 : decode prog_9_method_9_code 2 = .ok (.if_icmp .lt 18, 3) := by decide +kernel
theorem d_Mod_slices_5 : decode prog_9_method_9_code 5 = .ok (.iload_n 1, 1) := by decide +kernel
theorem d_Mod_slices_6 : decode prog_9_method_9_code 6 = .ok (.iconst 4, 1) := by decide +kernel
theorem d_Mod_slices_7 : decode prog_9_method_9_code 7 = .ok (.if_icmp .gt 13, 3) := by decide +kernel
theorem d_Mod_slices_10 : decode prog_9_method_9_code 10 = .ok (.iload_n 2, 1) := by decide +kernel
theorem d_Mod_slices_11 : decode prog_9_method_9_code 11 = .ok (.iconst 1, 1) := by decide +kernel
theorem d_Mod_slices_12 : decode prog_9_method_9_code 12 = .ok (.if_icmp .lt 8, 3) := by decide +kernel
theorem d_Mod_slices_15 : decode prog_9_method_9_code 15 = .ok (.iload_n 2, 1) := by decide +kernel
theorem d_Mod_slices_16 : decode prog_9_method_9_code 16 = .ok (.iconst 4, 1) := by decide +kernel
theorem d_Mod_slices_17 : decode prog_9_method_9_code 17 = .ok (.if_icmp .le 5, 3) := by decide +kernel
theorem d_Mod_slices_20 : decode prog_9_method_9_code 20 = .ok (.iconst 0, 1) := by decide +kernel
theorem d_Mod_slices_21 : decode prog_9_method_9_code 21 = .ok (.ireturn, 1) := by decide +kernel
theorem d_Mod_slices_22 : decode prog_9_method_9_code 22 = .ok (.aload_n 0, 1) := by decide +kernel
theorem d_Mod_slices_23 : decode prog_9_method_9_code 23 = .ok (.iload_n 1, 1) := by decide +kernel
theorem d_Mod_slices_24 : decode prog_9_method_9_code 24 = .ok (.putfield 30, 3) := by decide +kernel
theorem d_Mod_slices_27 : decode prog_9_method_9_code 27 = .ok (.aload_n 0, 1) := by decide +kernel
theorem d_Mod_slices_28 : decode prog_9_method_9_code 28 = .ok (.iload_n 2, 1) := by decide +kernel
theorem d_Mod_slices_29 : decode prog_9_method_9_code 29 = .ok (.putfield 33, 3) := by decide +kernel
theorem d_Mod_slices_32 : decode prog_9_method_9_code 32 = .ok (.aload_n 0, 1) := by decide +kernel
theorem d_Mod_slices_33 : decode prog_9_method_9_code 33 = .ok (.iload_n 3, 1) := by decide +kernel
theorem d_Mod_slices_34 : decode prog_9_method_9_code 34 = .ok (.putfield 98, 3) := by decide +kernel
theorem d_Mod_slices_37 : decode prog_9_method_9_code 37 = .ok (.aload_n 0, 1) := by decide +kernel
theorem d_Mod_slices_38 : decode prog_9_method_9_code 38 = .ok (.invokevirtual 95, 3) := by decide +kernel
theorem d_Mod_slices_41 : decode prog_9_method_9_code 41 = .ok (.iconst 1, 1) := by decide +kernel
theorem d_Mod_slices_42 : decode prog_9_method_9_code 42 = .ok (.ireturn, 1) := by decide +kernel
theorem d_Mod_ease_0 : decode prog_9_method_10_code 0 = .ok (.iload_n 1, 1) := by decide +kernel
theorem d_Mod_ease_1 : decode prog_9_method_10_code 1 = .ok (.ifCond .lt 21, 3) := by decide +kernel
theorem d_Mod_ease_4 : decode prog_9_method_10_code 4 = .ok (.iload_n 1, 1) := by decide +kernel
theorem d_Mod_ease_5 : decode prog_9_method_10_code 5 = .ok (.aload_n 0, 1) := by decide +kernel
theorem d_Mod_ease_6 : decode prog_9_method_10_code 6 = .ok (.invokevirtual 101, 3) := by decide +kernel
theorem d_Mod_ease_9 : decode prog_9_method_10_code 9 = .ok (.if_icmp .ge 13, 3) := by decide +kernel
theorem d_Mod_ease_12 : decode prog_9_method_10_code 12 = .ok (.iload_n 2, 1) := by decide +kernel
theorem d_Mod_ease_13 : decode prog_9_method_10_code 13 = .ok (.ifCond .lt 9, 3) := by decide +kernel
theorem d_Mod_ease_16 : decode prog_9_method_10_code 16 = .ok (.iload_n 2, 1) := by decide +kernel
theorem d_Mod_ease_17 : decode prog_9_method_10_code 17 = .ok (.bipush 15, 2) := by decide +kernel
theorem d_Mod_ease_19 : decode prog_9_method_10_code 19 = .ok (.if_icmp .le 5, 3) := by decide +kernel
theorem d_Mod_ease_22 : decode prog_9_method_10_code 22 = .ok (.iconst 0, 1) := by decide +kernel
theorem d_Mod_ease_23 : decode prog_9_method_10_code 23 = .ok (.ireturn, 1) := by decide +kernel
theorem d_Mod_ease_24 : decode prog_9_method_10_code 24 = .ok (.aload_n 0, 1) := by decide +kernel
theorem d_Mod_ease_25 : decode prog_9_method_10_code 25 = .ok (.getfield 42, 3) := by decide +kernel
theorem d_Mod_ease_28 : decode prog_9_method_10_code 28 = .ok (.iload_n 1, 1) := by decide +kernel
theorem d_Mod_ease_29 : decode prog_9_method_10_code 29 = .ok (.iload_n 2, 1) := by decide +kernel
theorem d_Mod_ease_30 : decode prog_9_method_10_code 30 = .ok (.iastore, 1) := by decide +kernel
theorem d_Mod_ease_31 : decode prog_9_method_10_code 31 = .ok (.aload_n 0, 1) := by decide +kernel
theorem d_Mod_ease_32 : decode prog_9_method_10_code 32 = .ok (.invokevirtual 95, 3) := by decide +kernel
theorem d_Mod_ease_35 : decode prog_9_method_10_code 35 = .ok (.iconst 1, 1) := by decide +kernel
theorem d_Mod_ease_36 : decode prog_9_method_10_code 36 = .ok (.ireturn, 1) := by decide +kernel
theorem d_Mod_rate_0 : decode prog_9_method_11_code 0 = .ok (.iload_n 2, 1) := by decide +kernel
theorem d_Mod_rate_1 : decode prog_9_method_11_code 1 = .ok (.iconst 1, 1) := by decide +kernel
theorem d_Mod_rate_2 : decode prog_9_method_11_code 2 = .ok (.if_icmp .lt 25, 3) := by decide +kernel
theorem d_Mod_rate_5 : decode prog_9_method_11_code 5 = .ok (.iload_n 2, 1) := by decide +kernel
theorem d_Mod_rate_6 : decode prog_9_method_11_code 6 = .ok (.bipush 64, 2) := by decide +kernel
theorem d_Mod_rate_8 : decode prog_9_method_11_code 8 = .ok (.if_icmp .gt 19, 3) := by decide +kernel
theorem d_Mod_rate_11 : decode prog_9_method_11_code 11 = .ok (.iload_n 1, 1) := by decide +kernel
theorem d_Mod_rate_12 : decode prog_9_method_11_code 12 = .ok (.iconst 2, 1) := by decide +kernel
theorem d_Mod_rate_13 : decode prog_9_method_11_code 13 = .ok (.iload_n 2, 1) := by decide +kernel
theorem d_Mod_rate_14 : decode prog_9_method_11_code 14 = .ok (.imul, 1) := by decide +kernel
theorem d_Mod_rate_15 : decode prog_9_method_11_code 15 = .ok (.if_icmp .lt 12, 3) := by decide +kernel
theorem d_Mod_rate_18 : decode prog_9_method_11_code 18 = .ok (.iload_n 1, 1) := by decide +kernel
theorem d_Mod_rate_19 : decode prog_9_method_11_code 19 = .ok (.sipush 128, 3) := by decide +kernel
theorem d_Mod_rate_22 : decode prog_9_method_11_code 22 = .ok (.iload_n 2, 1) := by decide +kernel
theorem d_Mod_rate_23 : decode prog_9_method_11_code 23 = .ok (.imul, 1) := by decide +kernel
theorem d_Mod_rate_24 : decode prog_9_method_11_code 24 = .ok (.if_icmp .le 5, 3) := by decide +kernel
theorem d_Mod_rate_27 : decode prog_9_method_11_code 27 = .ok (.iconst 0, 1) := by decide +kernel
theorem d_Mod_rate_28 : decode prog_9_method_11_code 28 = .ok (.ireturn, 1) := by decide +kernel
theorem d_Mod_rate_29 : decode prog_9_method_11_code 29 = .ok (.aload_n 0, 1) := by decide +kernel
theorem d_Mod_rate_30 : decode prog_9_method_11_code 30 = .ok (.iload_n 1, 1) := by decide +kernel
theorem d_Mod_rate_31 : decode prog_9_method_11_code 31 = .ok (.putfield 36, 3) := by decide +kernel
theorem d_Mod_rate_34 : decode prog_9_method_11_code 34 = .ok (.aload_n 0, 1) := by decide +kernel
theorem d_Mod_rate_35 : decode prog_9_method_11_code 35 = .ok (.iload_n 2, 1) := by decide +kernel
theorem d_Mod_rate_36 : decode prog_9_method_11_code 36 = .ok (.putfield 39, 3) := by decide +kernel
theorem d_Mod_rate_39 : decode prog_9_method_11_code 39 = .ok (.aload_n 0, 1) := by decide +kernel
theorem d_Mod_rate_40 : decode prog_9_method_11_code 40 = .ok (.invokevirtual 95, 3) := by decide +kernel
theorem d_Mod_rate_43 : decode prog_9_method_11_code 43 = .ok (.iconst 1, 1) := by decide +kernel
theorem d_Mod_rate_44 : decode prog_9_method_11_code 44 = .ok (.ireturn, 1) := by decide +kernel
theorem d_Mod_columns_0 : decode prog_9_method_13_code 0 = .ok (.iconst 1, 1) := by decide +kernel
theorem d_Mod_columns_1 : decode prog_9_method_13_code 1 = .ok (.aload_n 0, 1) := by decide +kernel
theorem d_Mod_columns_2 : decode prog_9_method_13_code 2 = .ok (.getfield 26, 3) := by decide +kernel
theorem d_Mod_columns_5 : decode prog_9_method_13_code 5 = .ok (.aload_n 0, 1) := by decide +kernel
theorem d_Mod_columns_6 : decode prog_9_method_13_code 6 = .ok (.getfield 92, 3) := by decide +kernel
theorem d_Mod_columns_9 : decode prog_9_method_13_code 9 = .ok (.iadd, 1) := by decide +kernel
theorem d_Mod_columns_10 : decode prog_9_method_13_code 10 = .ok (.ishl, 1) := by decide +kernel
theorem d_Mod_columns_11 : decode prog_9_method_13_code 11 = .ok (.istore_n 1, 1) := by decide +kernel
theorem d_Mod_columns_12 : decode prog_9_method_13_code 12 = .ok (.aload_n 0, 1) := by decide +kernel
theorem d_Mod_columns_13 : decode prog_9_method_13_code 13 = .ok (.getfield 64, 3) := by decide +kernel
theorem d_Mod_columns_16 : decode prog_9_method_13_code 16 = .ok (.iload_n 1, 1) := by decide +kernel
theorem d_Mod_columns_17 : decode prog_9_method_13_code 17 = .ok (.iadd, 1) := by decide +kernel
theorem d_Mod_columns_18 : decode prog_9_method_13_code 18 = .ok (.iconst 1, 1) := by decide +kernel
theorem d_Mod_columns_19 : decode prog_9_method_13_code 19 = .ok (.isub, 1) := by decide +kernel
theorem d_Mod_columns_20 : decode prog_9_method_13_code 20 = .ok (.iload_n 1, 1) := by decide +kernel
theorem d_Mod_columns_21 : decode prog_9_method_13_code 21 = .ok (.idiv, 1) := by decide +kernel
theorem d_Mod_columns_22 : decode prog_9_method_13_code 22 = .ok (.iload_n 1, 1) := by decide +kernel
theorem d_Mod_columns_23 : decode prog_9_method_13_code 23 = .ok (.imul, 1) := by decide +kernel
theorem d_Mod_columns_24 : decode prog_9_method_13_code 24 = .ok (.ireturn, 1) := by decide +kernel
theorem d_Mod_rows_0 : decode prog_9_method_14_code 0 = .ok (.iconst 1, 1) := by decide +kernel
theorem d_Mod_rows_1 : decode prog_9_method_14_code 1 = .ok (.aload_n 0, 1) := by decide +kernel
theorem d_Mod_rows_2 : decode prog_9_method_14_code 2 = .ok (.getfield 26, 3) := by decide +kernel
theorem d_Mod_rows_5 : decode prog_9_method_14_code 5 = .ok (.ishl, 1) := by decide +kernel
theorem d_Mod_rows_6 : decode prog_9_method_14_code 6 = .ok (.istore_n 1, 1) := by decide +kernel
theorem d_Mod_rows_7 : decode prog_9_method_14_code 7 = .ok (.aload_n 0, 1) := by decide +kernel
theorem d_Mod_rows_8 : decode prog_9_method_14_code 8 = .ok (.getfield 67, 3) := by decide +kernel
theorem d_Mod_rows_11 : decode prog_9_method_14_code 11 = .ok (.iload_n 1, 1) := by decide +kernel
theorem d_Mod_rows_12 : decode prog_9_method_14_code 12 = .ok (.iadd, 1) := by decide +kernel
theorem d_Mod_rows_13 : decode prog_9_method_14_code 13 = .ok (.iconst 1, 1) := by decide +kernel
theorem d_Mod_rows_14 : decode prog_9_method_14_code 14 = .ok (.isub, 1) := by decide +kernel
theorem d_Mod_rows_15 : decode prog_9_method_14_code 15 = .ok (.iload_n 1, 1) := by decide +kernel
theorem d_Mod_rows_16 : decode prog_9_method_14_code 16 = .ok (.idiv, 1) := by decide +kernel
theorem d_Mod_rows_17 : decode prog_9_method_14_code 17 = .ok (.iload_n 1, 1) := by decide +kernel
theorem d_Mod_rows_18 : decode prog_9_method_14_code 18 = .ok (.imul, 1) := by decide +kernel
theorem d_Mod_rows_19 : decode prog_9_method_14_code 19 = .ok (.ireturn, 1) := by decide +kernel
theorem d_Mod_pair_0 : decode prog_9_method_15_code 0 = .ok (.iload_n 1, 1) := by decide +kernel
theorem d_Mod_pair_1 : decode prog_9_method_15_code 1 = .ok (.ifCond .eq 9, 3) := by decide +kernel
theorem d_Mod_pair_4 : decode prog_9_method_15_code 4 = .ok (.iload_n 2, 1) := by decide +kernel
theorem d_Mod_pair_5 : decode prog_9_method_15_code 5 = .ok (.iload_n 3, 1) := by decide +kernel
theorem d_Mod_pair_6 : decode prog_9_method_15_code 6 = .ok (.isub, 1) := by decide +kernel
theorem d_Mod_pair_7 : decode prog_9_method_15_code 7 = .ok (.goto 8, 3) := by decide +kernel
theorem d_Mod_pair_10 : decode prog_9_method_15_code 10 = .ok (.iload_n 2, 1) := by decide +kernel
theorem d_Mod_pair_11 : decode prog_9_method_15_code 11 = .ok (.iconst 1, 1) := by decide +kernel
theorem d_Mod_pair_12 : decode prog_9_method_15_code 12 = .ok (.isub, 1) := by decide +kernel
theorem d_Mod_pair_13 : decode prog_9_method_15_code 13 = .ok (.iload_n 3, 1) := by decide +kernel
theorem d_Mod_pair_14 : decode prog_9_method_15_code 14 = .ok (.isub, 1) := by decide +kernel
theorem d_Mod_pair_15 : decode prog_9_method_15_code 15 = .ok (.istore 5, 2) := by decide +kernel
theorem d_Mod_pair_17 : decode prog_9_method_15_code 17 = .ok (.iload_n 1, 1) := by decide +kernel
theorem d_Mod_pair_18 : decode prog_9_method_15_code 18 = .ok (.ifCond .eq 11, 3) := by decide +kernel
theorem d_Mod_pair_21 : decode prog_9_method_15_code 21 = .ok (.iload_n 2, 1) := by decide +kernel
theorem d_Mod_pair_22 : decode prog_9_method_15_code 22 = .ok (.iconst 1, 1) := by decide +kernel
theorem d_Mod_pair_23 : decode prog_9_method_15_code 23 = .ok (.iadd, 1) := by decide +kernel
theorem d_Mod_pair_24 : decode prog_9_method_15_code 24 = .ok (.iload_n 3, 1) := by decide +kernel
theorem d_Mod_pair_25 : decode prog_9_method_15_code 25 = .ok (.iadd, 1) := by decide +kernel
theorem d_Mod_pair_26 : decode prog_9_method_15_code 26 = .ok (.goto 6, 3) := by decide +kernel
theorem d_Mod_pair_29 : decode prog_9_method_15_code 29 = .ok (.iload_n 2, 1) := by decide +kernel
theorem d_Mod_pair_30 : decode prog_9_method_15_code 30 = .ok (.iload_n 3, 1) := by decide +kernel
theorem d_Mod_pair_31 : decode prog_9_method_15_code 31 = .ok (.iadd, 1) := by decide +kernel
theorem d_Mod_pair_32 : decode prog_9_method_15_code 32 = .ok (.istore 6, 2) := by decide +kernel
theorem d_Mod_pair_34 : decode prog_9_method_15_code 34 = .ok (.iload 5, 2) := by decide +kernel
theorem d_Mod_pair_36 : decode prog_9_method_15_code 36 = .ok (.ifCond .ge 7, 3) := by decide +kernel
theorem d_Mod_pair_39 : decode prog_9_method_15_code 39 = .ok (.iconst 0, 1) := by decide +kernel
theorem d_Mod_pair_40 : decode prog_9_method_15_code 40 = .ok (.goto 19, 3) := by decide +kernel
theorem d_Mod_pair_43 : decode prog_9_method_15_code 43 = .ok (.iload 5, 2) := by decide +kernel
theorem d_Mod_pair_45 : decode prog_9_method_15_code 45 = .ok (.iload 4, 2) := by decide +kernel
theorem d_Mod_pair_47 : decode prog_9_method_15_code 47 = .ok (.if_icmp .lt 10, 3) := by decide +kernel
theorem d_Mod_pair_50 : decode prog_9_method_15_code 50 = .ok (.iload 4, 2) := by decide +kernel
theorem d_Mod_pair_52 : decode prog_9_method_15_code 52 = .ok (.iconst 1, 1) := by decide +kernel
theorem d_Mod_pair_53 : decode prog_9_method_15_code 53 = .ok (.isub, 1) := by decide +kernel
theorem d_Mod_pair_54 : decode prog_9_method_15_code 54 = .ok (.goto 5, 3) := by decide +kernel
theorem d_Mod_pair_57 : decode prog_9_method_15_code 57 = .ok (.iload 5, 2) := by decide +kernel
theorem d_Mod_pair_59 : decode prog_9_method_15_code 59 = .ok (.istore 5, 2) := by decide +kernel
theorem d_Mod_pair_61 : decode prog_9_method_15_code 61 = .ok (.iload 6, 2) := by decide +kernel
theorem d_Mod_pair_63 : decode prog_9_method_15_code 63 = .ok (.ifCond .ge 7, 3) := by decide +kernel
theorem d_Mod_pair_66 : decode prog_9_method_15_code 66 = .ok (.iconst 0, 1) := by decide +kernel
theorem d_Mod_pair_67 : decode prog_9_method_15_code 67 = .ok (.goto 19, 3) := by decide +kernel
theorem d_Mod_pair_70 : decode prog_9_method_15_code 70 = .ok (.iload 6, 2) := by decide +kernel
theorem d_Mod_pair_72 : decode prog_9_method_15_code 72 = .ok (.iload 4, 2) := by decide +kernel
theorem d_Mod_pair_74 : decode prog_9_method_15_code 74 = .ok (.if_icmp .lt 10, 3) := by decide +kernel
theorem d_Mod_pair_77 : decode prog_9_method_15_code 77 = .ok (.iload 4, 2) := by decide +kernel
theorem d_Mod_pair_79 : decode prog_9_method_15_code 79 = .ok (.iconst 1, 1) := by decide +kernel
theorem d_Mod_pair_80 : decode prog_9_method_15_code 80 = .ok (.isub, 1) := by decide +kernel
theorem d_Mod_pair_81 : decode prog_9_method_15_code 81 = .ok (.goto 5, 3) := by decide +kernel
theorem d_Mod_pair_84 : decode prog_9_method_15_code 84 = .ok (.iload 6, 2) := by decide +kernel
theorem d_Mod_pair_86 : decode prog_9_method_15_code 86 = .ok (.istore 6, 2) := by decide +kernel
theorem d_Mod_pair_88 : decode prog_9_method_15_code 88 = .ok (.iload_n 1, 1) := by decide +kernel
theorem d_Mod_pair_89 : decode prog_9_method_15_code 89 = .ok (.ifCond .eq 21, 3) := by decide +kernel
theorem d_Mod_pair_92 : decode prog_9_method_15_code 92 = .ok (.aload_n 0, 1) := by decide +kernel
theorem d_Mod_pair_93 : decode prog_9_method_15_code 93 = .ok (.getfield 49, 3) := by decide +kernel
theorem d_Mod_pair_96 : decode prog_9_method_15_code 96 = .ok (.iload 5, 2) := by decide +kernel
theorem d_Mod_pair_98 : decode prog_9_method_15_code 98 = .ok (.laload, 1) := by decide +kernel
theorem d_Mod_pair_99 : decode prog_9_method_15_code 99 = .ok (.aload_n 0, 1) := by decide +kernel
theorem d_Mod_pair_100 : decode prog_9_method_15_code 100 = .ok (.getfield 49, 3) := by decide +kernel
theorem d_Mod_pair_103 : decode prog_9_method_15_code 103 = .ok (.iload 6, 2) := by decide +kernel
theorem d_Mod_pair_105 : decode prog_9_method_15_code 105 = .ok (.laload, 1) := by decide +kernel
theorem d_Mod_pair_106 : decode prog_9_method_15_code 106 = .ok (.ladd, 1) := by decide +kernel
theorem d_Mod_pair_107 : decode prog_9_method_15_code 107 = .ok (.goto 18, 3) := by decide +kernel
theorem d_Mod_pair_110 : decode prog_9_method_15_code 110 = .ok (.aload_n 0, 1) := by decide +kernel
theorem d_Mod_pair_111 : decode prog_9_method_15_code 111 = .ok (.getfield 52, 3) := by decide +kernel
theorem d_Mod_pair_114 : decode prog_9_method_15_code 114 = .ok (.iload 5, 2) := by decide +kernel
theorem d_Mod_pair_116 : decode prog_9_method_15_code 116 = .ok (.laload, 1) := by decide +kernel
theorem d_Mod_pair_117 : decode prog_9_method_15_code 117 = .ok (.aload_n 0, 1) := by decide +kernel
theorem d_Mod_pair_118 : decode prog_9_method_15_code 118 = .ok (.getfield 52, 3) := by decide +kernel
theorem d_Mod_pair_121 : decode prog_9_method_15_code 121 = .ok (.iload 6, 2) := by decide +kernel
theorem d_Mod_pair_123 : decode prog_9_method_15_code 123 = .ok (.laload, 1) := by decide +kernel
theorem d_Mod_pair_124 : decode prog_9_method_15_code 124 = .ok (.ladd, 1) := by decide +kernel
theorem d_Mod_pair_125 : decode prog_9_method_15_code 125 = .ok (.lreturn, 1) := by decide +kernel
theorem d_Mod_changesOdd_0 : decode prog_9_method_16_code 0 = .ok (.aload_n 0, 1) := by decide +kernel
theorem d_Mod_changesOdd_1 : decode prog_9_method_16_code 1 = .ok (.getfield 89, 3) := by decide +kernel
theorem d_Mod_changesOdd_4 : decode prog_9_method_16_code 4 = .ok (.iconst 5, 1) := by decide +kernel
theorem d_Mod_changesOdd_5 : decode prog_9_method_16_code 5 = .ok (.if_icmp .ne 16, 3) := by decide +kernel
theorem d_Mod_changesOdd_8 : decode prog_9_method_16_code 8 = .ok (.iload_n 1, 1) := by decide +kernel
theorem d_Mod_changesOdd_9 : decode prog_9_method_16_code 9 = .ok (.iconst 1, 1) := by decide +kernel
theorem d_Mod_changesOdd_10 : decode prog_9_method_16_code 10 = .ok (.if_icmp .ne 7, 3) := by decide +kernel
theorem d_Mod_changesOdd_13 : decode prog_9_method_16_code 13 = .ok (.iconst 1, 1) := by decide +kernel
theorem d_Mod_changesOdd_14 : decode prog_9_method_16_code 14 = .ok (.goto 18, 3) := by decide +kernel
theorem d_Mod_changesOdd_17 : decode prog_9_method_16_code 17 = .ok (.iconst 0, 1) := by decide +kernel
theorem d_Mod_changesOdd_18 : decode prog_9_method_16_code 18 = .ok (.goto 14, 3) := by decide +kernel
theorem d_Mod_changesOdd_21 : decode prog_9_method_16_code 21 = .ok (.iload_n 1, 1) := by decide +kernel
theorem d_Mod_changesOdd_22 : decode prog_9_method_16_code 22 = .ok (.iconst 2, 1) := by decide +kernel
theorem d_Mod_changesOdd_23 : decode prog_9_method_16_code 23 = .ok (.irem, 1) := by decide +kernel
theorem d_Mod_changesOdd_24 : decode prog_9_method_16_code 24 = .ok (.ifCond .ne 7, 3) := by decide +kernel
theorem d_Mod_changesOdd_27 : decode prog_9_method_16_code 27 = .ok (.iconst 1, 1) := by decide +kernel
theorem d_Mod_changesOdd_28 : decode prog_9_method_16_code 28 = .ok (.goto 4, 3) := by decide +kernel
theorem d_Mod_changesOdd_31 : decode prog_9_method_16_code 31 = .ok (.iconst 0, 1) := by decide +kernel
theorem d_Mod_changesOdd_32 : decode prog_9_method_16_code 32 = .ok (.ireturn, 1) := by decide +kernel
theorem d_Mod_takesAway_0 : decode prog_9_method_17_code 0 = .ok (.aload_n 0, 1) := by decide +kernel
theorem d_Mod_takesAway_1 : decode prog_9_method_17_code 1 = .ok (.getfield 89, 3) := by decide +kernel
theorem d_Mod_takesAway_4 : decode prog_9_method_17_code 4 = .ok (.iconst 5, 1) := by decide +kernel
theorem d_Mod_takesAway_5 : decode prog_9_method_17_code 5 = .ok (.if_icmp .ne 16, 3) := by decide +kernel
theorem d_Mod_takesAway_8 : decode prog_9_method_17_code 8 = .ok (.iload_n 1, 1) := by decide +kernel
theorem d_Mod_takesAway_9 : decode prog_9_method_17_code 9 = .ok (.iconst 1, 1) := by decide +kernel
theorem d_Mod_takesAway_10 : decode prog_9_method_17_code 10 = .ok (.if_icmp .ne 7, 3) := by decide +kernel
theorem d_Mod_takesAway_13 : decode prog_9_method_17_code 13 = .ok (.iconst 1, 1) := by decide +kernel
theorem d_Mod_takesAway_14 : decode prog_9_method_17_code 14 = .ok (.goto 38, 3) := by decide +kernel
theorem d_Mod_takesAway_17 : decode prog_9_method_17_code 17 = .ok (.iconst 0, 1) := by decide +kernel
theorem d_Mod_takesAway_18 : decode prog_9_method_17_code 18 = .ok (.goto 34, 3) := by decide +kernel
theorem d_Mod_takesAway_21 : decode prog_9_method_17_code 21 = .ok (.aload_n 0, 1) := by decide +kernel
theorem d_Mod_takesAway_22 : decode prog_9_method_17_code 22 = .ok (.getfield 89, 3) := by decide +kernel
theorem d_Mod_takesAway_25 : decode prog_9_method_17_code 25 = .ok (.bipush 6, 2) := by decide +kernel
theorem d_Mod_takesAway_27 : decode prog_9_method_17_code 27 = .ok (.if_icmp .ne 16, 3) := by decide +kernel
theorem d_Mod_takesAway_30 : decode prog_9_method_17_code 30 = .ok (.iload_n 1, 1) := by decide +kernel
theorem d_Mod_takesAway_31 : decode prog_9_method_17_code 31 = .ok (.iconst 2, 1) := by decide +kernel
theorem d_Mod_takesAway_32 : decode prog_9_method_17_code 32 = .ok (.if_icmp .ge 7, 3) := by decide +kernel
theorem d_Mod_takesAway_35 : decode prog_9_method_17_code 35 = .ok (.iconst 1, 1) := by decide +kernel
theorem d_Mod_takesAway_36 : decode prog_9_method_17_code 36 = .ok (.goto 16, 3) := by decide +kernel
theorem d_Mod_takesAway_39 : decode prog_9_method_17_code 39 = .ok (.iconst 0, 1) := by decide +kernel
theorem d_Mod_takesAway_40 : decode prog_9_method_17_code 40 = .ok (.goto 12, 3) := by decide +kernel
theorem d_Mod_takesAway_43 : decode prog_9_method_17_code 43 = .ok (.iload_n 1, 1) := by decide +kernel
theorem d_Mod_takesAway_44 : decode prog_9_method_17_code 44 = .ok (.ifCond .ne 7, 3) := by decide +kernel
theorem d_Mod_takesAway_47 : decode prog_9_method_17_code 47 = .ok (.iconst 1, 1) := by decide +kernel
theorem d_Mod_takesAway_48 : decode prog_9_method_17_code 48 = .ok (.goto 4, 3) := by decide +kernel
theorem d_Mod_takesAway_51 : decode prog_9_method_17_code 51 = .ok (.iconst 0, 1) := by decide +kernel
theorem d_Mod_takesAway_52 : decode prog_9_method_17_code 52 = .ok (.ireturn, 1) := by decide +kernel
theorem d_Mod_amount_0 : decode prog_9_method_18_code 0 = .ok (.aload_n 0, 1) := by decide +kernel
theorem d_Mod_amount_1 : decode prog_9_method_18_code 1 = .ok (.iload_n 1, 1) := by decide +kernel
theorem d_Mod_amount_2 : decode prog_9_method_18_code 2 = .ok (.invokevirtual 105, 3) := by decide +kernel
theorem d_Mod_amount_5 : decode prog_9_method_18_code 5 = .ok (.istore 4, 2) := by decide +kernel
theorem d_Mod_amount_7 : decode prog_9_method_18_code 7 = .ok (.aload_n 0, 1) := by decide +kernel
theorem d_Mod_amount_8 : decode prog_9_method_18_code 8 = .ok (.iload 4, 2) := by decide +kernel
theorem d_Mod_amount_10 : decode prog_9_method_18_code 10 = .ok (.iload_n 2, 1) := by decide +kernel
theorem d_Mod_amount_11 : decode prog_9_method_18_code 11 = .ok (.iconst 0, 1) := by decide +kernel
theorem d_Mod_amount_12 : decode prog_9_method_18_code 12 = .ok (.iload_n 3, 1) := by decide +kernel
theorem d_Mod_amount_13 : decode prog_9_method_18_code 13 = .ok (.invokevirtual 109, 3) := by decide +kernel
theorem d_Mod_amount_16 : decode prog_9_method_18_code 16 = .ok (.lstore 5, 2) := by decide +kernel
theorem d_Mod_amount_18 : decode prog_9_method_18_code 18 = .ok (.aload_n 0, 1) := by decide +kernel
theorem d_Mod_amount_19 : decode prog_9_method_18_code 19 = .ok (.iload 4, 2) := by decide +kernel
theorem d_Mod_amount_21 : decode prog_9_method_18_code 21 = .ok (.iload_n 2, 1) := by decide +kernel
theorem d_Mod_amount_22 : decode prog_9_method_18_code 22 = .ok (.iconst 1, 1) := by decide +kernel
theorem d_Mod_amount_23 : decode prog_9_method_18_code 23 = .ok (.iload_n 3, 1) := by decide +kernel
theorem d_Mod_amount_24 : decode prog_9_method_18_code 24 = .ok (.invokevirtual 109, 3) := by decide +kernel
theorem d_Mod_amount_27 : decode prog_9_method_18_code 27 = .ok (.lstore 7, 2) := by decide +kernel
theorem d_Mod_amount_29 : decode prog_9_method_18_code 29 = .ok (.aload_n 0, 1) := by decide +kernel
theorem d_Mod_amount_30 : decode prog_9_method_18_code 30 = .ok (.iload 4, 2) := by decide +kernel
theorem d_Mod_amount_32 : decode prog_9_method_18_code 32 = .ok (.iload_n 2, 1) := by decide +kernel
theorem d_Mod_amount_33 : decode prog_9_method_18_code 33 = .ok (.iconst 2, 1) := by decide +kernel
theorem d_Mod_amount_34 : decode prog_9_method_18_code 34 = .ok (.iload_n 3, 1) := by decide +kernel
theorem d_Mod_amount_35 : decode prog_9_method_18_code 35 = .ok (.invokevirtual 109, 3) := by decide +kernel
theorem d_Mod_amount_38 : decode prog_9_method_18_code 38 = .ok (.lstore 9, 2) := by decide +kernel
theorem d_Mod_amount_40 : decode prog_9_method_18_code 40 = .ok (.aload_n 0, 1) := by decide +kernel
theorem d_Mod_amount_41 : decode prog_9_method_18_code 41 = .ok (.iload 4, 2) := by decide +kernel
theorem d_Mod_amount_43 : decode prog_9_method_18_code 43 = .ok (.iload_n 2, 1) := by decide +kernel
theorem d_Mod_amount_44 : decode prog_9_method_18_code 44 = .ok (.iconst 3, 1) := by decide +kernel
theorem d_Mod_amount_45 : decode prog_9_method_18_code 45 = .ok (.iload_n 3, 1) := by decide +kernel
theorem d_Mod_amount_46 : decode prog_9_method_18_code 46 = .ok (.invokevirtual 109, 3) := by decide +kernel
theorem d_Mod_amount_49 : decode prog_9_method_18_code 49 = .ok (.lstore 11, 2) := by decide +kernel
theorem d_Mod_amount_51 : decode prog_9_method_18_code 51 = .ok (.aload_n 0, 1) := by decide +kernel
theorem d_Mod_amount_52 : decode prog_9_method_18_code 52 = .ok (.getfield 89, 3) := by decide +kernel
theorem d_Mod_amount_55 : decode prog_9_method_18_code 55 = .ok (.bipush 6, 2) := by decide +kernel
theorem d_Mod_amount_57 : decode prog_9_method_18_code 57 = .ok (.if_icmp .ne 53, 3) := by decide +kernel
theorem d_Mod_amount_60 : decode prog_9_method_18_code 60 = .ok (.iload_n 1, 1) := by decide +kernel
theorem d_Mod_amount_61 : decode prog_9_method_18_code 61 = .ok (.ifCond .ne 9, 3) := by decide +kernel
theorem d_Mod_amount_64 : decode prog_9_method_18_code 64 = .ok (.ldc2_w 113, 3) := by decide +kernel
theorem d_Mod_amount_67 : decode prog_9_method_18_code 67 = .ok (.goto 28, 3) := by decide +kernel
theorem d_Mod_amount_70 : decode prog_9_method_18_code 70 = .ok (.iload_n 1, 1) := by decide +kernel
theorem d_Mod_amount_71 : decode prog_9_method_18_code 71 = .ok (.iconst 1, 1) := by decide +kernel
theorem d_Mod_amount_72 : decode prog_9_method_18_code 72 = .ok (.if_icmp .ne 9, 3) := by decide +kernel
theorem d_Mod_amount_75 : decode prog_9_method_18_code 75 = .ok (.ldc2_w 115, 3) := by decide +kernel
theorem d_Mod_amount_78 : decode prog_9_method_18_code 78 = .ok (.goto 17, 3) := by decide +kernel
theorem d_Mod_amount_81 : decode prog_9_method_18_code 81 = .ok (.iload_n 1, 1) := by decide +kernel
theorem d_Mod_amount_82 : decode prog_9_method_18_code 82 = .ok (.iconst 2, 1) := by decide +kernel
theorem d_Mod_amount_83 : decode prog_9_method_18_code 83 = .ok (.if_icmp .ne 9, 3) := by decide +kernel
theorem d_Mod_amount_86 : decode prog_9_method_18_code 86 = .ok (.ldc2_w 117, 3) := by decide +kernel
theorem d_Mod_amount_89 : decode prog_9_method_18_code 89 = .ok (.goto 6, 3) := by decide +kernel
theorem d_Mod_amount_92 : decode prog_9_method_18_code 92 = .ok (.ldc2_w 119, 3) := by decide +kernel
theorem d_Mod_amount_95 : decode prog_9_method_18_code 95 = .ok (.lstore 13, 2) := by decide +kernel
theorem d_Mod_amount_97 : decode prog_9_method_18_code 97 = .ok (.lload 13, 2) := by decide +kernel
theorem d_Mod_amount_99 : decode prog_9_method_18_code 99 = .ok (.lload 5, 2) := by decide +kernel
theorem d_Mod_amount_101 : decode prog_9_method_18_code 101 = .ok (.lmul, 1) := by decide +kernel
theorem d_Mod_amount_102 : decode prog_9_method_18_code 102 = .ok (.ldc2_w 121, 3) := by decide +kernel
theorem d_Mod_amount_105 : decode prog_9_method_18_code 105 = .ok (.ladd, 1) := by decide +kernel
theorem d_Mod_amount_106 : decode prog_9_method_18_code 106 = .ok (.bipush 12, 2) := by decide +kernel
theorem d_Mod_amount_108 : decode prog_9_method_18_code 108 = .ok (.lshr, 1) := by decide +kernel
theorem d_Mod_amount_109 : decode prog_9_method_18_code 109 = .ok (.lreturn, 1) := by decide +kernel
theorem d_Mod_amount_110 : decode prog_9_method_18_code 110 = .ok (.aload_n 0, 1) := by decide +kernel
theorem d_Mod_amount_111 : decode prog_9_method_18_code 111 = .ok (.getfield 89, 3) := by decide +kernel
theorem d_Mod_amount_114 : decode prog_9_method_18_code 114 = .ok (.iconst 5, 1) := by decide +kernel
theorem d_Mod_amount_115 : decode prog_9_method_18_code 115 = .ok (.if_icmp .ne 79, 3) := by decide +kernel
theorem d_Mod_amount_118 : decode prog_9_method_18_code 118 = .ok (.iload_n 1, 1) := by decide +kernel
theorem d_Mod_amount_119 : decode prog_9_method_18_code 119 = .ok (.ifCond .ne 40, 3) := by decide +kernel
theorem d_Mod_amount_122 : decode prog_9_method_18_code 122 = .ok (.ldc2_w 123, 3) := by decide +kernel
theorem d_Mod_amount_125 : decode prog_9_method_18_code 125 = .ok (.lload 5, 2) := by decide +kernel
theorem d_Mod_amount_127 : decode prog_9_method_18_code 127 = .ok (.lmul, 1) := by decide +kernel
theorem d_Mod_amount_128 : decode prog_9_method_18_code 128 = .ok (.ldc2_w 125, 3) := by decide +kernel
theorem d_Mod_amount_131 : decode prog_9_method_18_code 131 = .ok (.lload 7, 2) := by decide +kernel
theorem d_Mod_amount_133 : decode prog_9_method_18_code 133 = .ok (.lmul, 1) := by decide +kernel
theorem d_Mod_amount_134 : decode prog_9_method_18_code 134 = .ok (.lsub, 1) := by decide +kernel
theorem d_Mod_amount_135 : decode prog_9_method_18_code 135 = .ok (.ldc2_w 127, 3) := by decide +kernel
theorem d_Mod_amount_138 : decode prog_9_method_18_code 138 = .ok (.lload 9, 2) := by decide +kernel
theorem d_Mod_amount_140 : decode prog_9_method_18_code 140 = .ok (.lmul, 1) := by decide +kernel
theorem d_Mod_amount_141 : decode prog_9_method_18_code 141 = .ok (.ladd, 1) := by decide +kernel
theorem d_Mod_amount_142 : decode prog_9_method_18_code 142 = .ok (.ldc2_w 129, 3) := by decide +kernel
theorem d_Mod_amount_145 : decode prog_9_method_18_code 145 = .ok (.lload 11, 2) := by decide +kernel
theorem d_Mod_amount_147 : decode prog_9_method_18_code 147 = .ok (.lmul, 1) := by decide +kernel
theorem d_Mod_amount_148 : decode prog_9_method_18_code 148 = .ok (.lsub, 1) := by decide +kernel
theorem d_Mod_amount_149 : decode prog_9_method_18_code 149 = .ok (.ldc2_w 131, 3) := by decide +kernel
theorem d_Mod_amount_152 : decode prog_9_method_18_code 152 = .ok (.ladd, 1) := by decide +kernel
theorem d_Mod_amount_153 : decode prog_9_method_18_code 153 = .ok (.bipush 8, 2) := by decide +kernel
theorem d_Mod_amount_155 : decode prog_9_method_18_code 155 = .ok (.lshr, 1) := by decide +kernel
theorem d_Mod_amount_156 : decode prog_9_method_18_code 156 = .ok (.goto 37, 3) := by decide +kernel
theorem d_Mod_amount_159 : decode prog_9_method_18_code 159 = .ok (.ldc2_w 133, 3) := by decide +kernel
theorem d_Mod_amount_162 : decode prog_9_method_18_code 162 = .ok (.lload 5, 2) := by decide +kernel
theorem d_Mod_amount_164 : decode prog_9_method_18_code 164 = .ok (.lmul, 1) := by decide +kernel
theorem d_Mod_amount_165 : decode prog_9_method_18_code 165 = .ok (.ldc2_w 135, 3) := by decide +kernel
theorem d_Mod_amount_168 : decode prog_9_method_18_code 168 = .ok (.lload 7, 2) := by decide +kernel
theorem d_Mod_amount_170 : decode prog_9_method_18_code 170 = .ok (.lmul, 1) := by decide +kernel
theorem d_Mod_amount_171 : decode prog_9_method_18_code 171 = .ok (.lsub, 1) := by decide +kernel
theorem d_Mod_amount_172 : decode prog_9_method_18_code 172 = .ok (.ldc2_w 137, 3) := by decide +kernel
theorem d_Mod_amount_175 : decode prog_9_method_18_code 175 = .ok (.lload 9, 2) := by decide +kernel
theorem d_Mod_amount_177 : decode prog_9_method_18_code 177 = .ok (.lmul, 1) := by decide +kernel
theorem d_Mod_amount_178 : decode prog_9_method_18_code 178 = .ok (.ladd, 1) := by decide +kernel
theorem d_Mod_amount_179 : decode prog_9_method_18_code 179 = .ok (.ldc2_w 139, 3) := by decide +kernel
theorem d_Mod_amount_182 : decode prog_9_method_18_code 182 = .ok (.lload 11, 2) := by decide +kernel
theorem d_Mod_amount_184 : decode prog_9_method_18_code 184 = .ok (.lmul, 1) := by decide +kernel
theorem d_Mod_amount_185 : decode prog_9_method_18_code 185 = .ok (.lsub, 1) := by decide +kernel
theorem d_Mod_amount_186 : decode prog_9_method_18_code 186 = .ok (.ldc2_w 131, 3) := by decide +kernel
theorem d_Mod_amount_189 : decode prog_9_method_18_code 189 = .ok (.ladd, 1) := by decide +kernel
theorem d_Mod_amount_190 : decode prog_9_method_18_code 190 = .ok (.bipush 8, 2) := by decide +kernel
theorem d_Mod_amount_192 : decode prog_9_method_18_code 192 = .ok (.lshr, 1) := by decide +kernel
theorem d_Mod_amount_193 : decode prog_9_method_18_code 193 = .ok (.lreturn, 1) := by decide +kernel
theorem d_Mod_amount_194 : decode prog_9_method_18_code 194 = .ok (.aload_n 0, 1) := by decide +kernel
theorem d_Mod_amount_195 : decode prog_9_method_18_code 195 = .ok (.getfield 89, 3) := by decide +kernel
theorem d_Mod_amount_198 : decode prog_9_method_18_code 198 = .ok (.iconst 3, 1) := by decide +kernel
theorem d_Mod_amount_199 : decode prog_9_method_18_code 199 = .ok (.if_icmp .eq 11, 3) := by decide +kernel
theorem d_Mod_amount_202 : decode prog_9_method_18_code 202 = .ok (.aload_n 0, 1) := by decide +kernel
theorem d_Mod_amount_203 : decode prog_9_method_18_code 203 = .ok (.getfield 89, 3) := by decide +kernel
theorem d_Mod_amount_206 : decode prog_9_method_18_code 206 = .ok (.iconst 4, 1) := by decide +kernel
theorem d_Mod_amount_207 : decode prog_9_method_18_code 207 = .ok (.if_icmp .ne 27, 3) := by decide +kernel
theorem d_Mod_amount_210 : decode prog_9_method_18_code 210 = .ok (.iload_n 1, 1) := by decide +kernel
theorem d_Mod_amount_211 : decode prog_9_method_18_code 211 = .ok (.ifCond .ne 12, 3) := by decide +kernel
theorem d_Mod_amount_214 : decode prog_9_method_18_code 214 = .ok (.aload_n 0, 1) := by decide +kernel
theorem d_Mod_amount_215 : decode prog_9_method_18_code 215 = .ok (.getfield 49, 3) := by decide +kernel
theorem d_Mod_amount_218 : decode prog_9_method_18_code 218 = .ok (.iload_n 2, 1) := by decide +kernel
theorem d_Mod_amount_219 : decode prog_9_method_18_code 219 = .ok (.laload, 1) := by decide +kernel
theorem d_Mod_amount_220 : decode prog_9_method_18_code 220 = .ok (.goto 13, 3) := by decide +kernel
theorem d_Mod_amount_223 : decode prog_9_method_18_code 223 = .ok (.aload_n 0, 1) := by decide +kernel
theorem d_Mod_amount_224 : decode prog_9_method_18_code 224 = .ok (.getfield 52, 3) := by decide +kernel
theorem d_Mod_amount_227 : decode prog_9_method_18_code 227 = .ok (.iload_n 2, 1) := by decide +kernel
theorem d_Mod_amount_228 : decode prog_9_method_18_code 228 = .ok (.laload, 1) := by decide +kernel
theorem d_Mod_amount_229 : decode prog_9_method_18_code 229 = .ok (.lconst 1, 1) := by decide +kernel
theorem d_Mod_amount_230 : decode prog_9_method_18_code 230 = .ok (.ladd, 1) := by decide +kernel
theorem d_Mod_amount_231 : decode prog_9_method_18_code 231 = .ok (.iconst 1, 1) := by decide +kernel
theorem d_Mod_amount_232 : decode prog_9_method_18_code 232 = .ok (.lshr, 1) := by decide +kernel
theorem d_Mod_amount_233 : decode prog_9_method_18_code 233 = .ok (.lreturn, 1) := by decide +kernel
theorem d_Mod_amount_234 : decode prog_9_method_18_code 234 = .ok (.iload_n 1, 1) := by decide +kernel
theorem d_Mod_amount_235 : decode prog_9_method_18_code 235 = .ok (.ifCond .ne 35, 3) := by decide +kernel
theorem d_Mod_amount_238 : decode prog_9_method_18_code 238 = .ok (.aload_n 0, 1) := by decide +kernel
theorem d_Mod_amount_239 : decode prog_9_method_18_code 239 = .ok (.getfield 89, 3) := by decide +kernel
theorem d_Mod_amount_242 : decode prog_9_method_18_code 242 = .ok (.ifCond .ne 12, 3) := by decide +kernel
theorem d_Mod_amount_245 : decode prog_9_method_18_code 245 = .ok (.lload 5, 2) := by decide +kernel
theorem d_Mod_amount_247 : decode prog_9_method_18_code 247 = .ok (.lconst 1, 1) := by decide +kernel
theorem d_Mod_amount_248 : decode prog_9_method_18_code 248 = .ok (.ladd, 1) := by decide +kernel
theorem d_Mod_amount_249 : decode prog_9_method_18_code 249 = .ok (.iconst 1, 1) := by decide +kernel
theorem d_Mod_amount_250 : decode prog_9_method_18_code 250 = .ok (.lshr, 1) := by decide +kernel
theorem d_Mod_amount_251 : decode prog_9_method_18_code 251 = .ok (.goto 18, 3) := by decide +kernel
theorem d_Mod_amount_254 : decode prog_9_method_18_code 254 = .ok (.ldc2_w 141, 3) := by decide +kernel
theorem d_Mod_amount_257 : decode prog_9_method_18_code 257 = .ok (.lload 5, 2) := by decide +kernel
theorem d_Mod_amount_259 : decode prog_9_method_18_code 259 = .ok (.lmul, 1) := by decide +kernel
theorem d_Mod_amount_260 : decode prog_9_method_18_code 260 = .ok (.lload 7, 2) := by decide +kernel
theorem d_Mod_amount_262 : decode prog_9_method_18_code 262 = .ok (.lsub, 1) := by decide +kernel
theorem d_Mod_amount_263 : decode prog_9_method_18_code 263 = .ok (.ldc2_w 129, 3) := by decide +kernel
theorem d_Mod_amount_266 : decode prog_9_method_18_code 266 = .ok (.ladd, 1) := by decide +kernel
theorem d_Mod_amount_267 : decode prog_9_method_18_code 267 = .ok (.iconst 4, 1) := by decide +kernel
theorem d_Mod_amount_268 : decode prog_9_method_18_code 268 = .ok (.lshr, 1) := by decide +kernel
theorem d_Mod_amount_269 : decode prog_9_method_18_code 269 = .ok (.lreturn, 1) := by decide +kernel
theorem d_Mod_amount_270 : decode prog_9_method_18_code 270 = .ok (.aload_n 0, 1) := by decide +kernel
theorem d_Mod_amount_271 : decode prog_9_method_18_code 271 = .ok (.getfield 89, 3) := by decide +kernel
theorem d_Mod_amount_274 : decode prog_9_method_18_code 274 = .ok (.iconst 2, 1) := by decide +kernel
theorem d_Mod_amount_275 : decode prog_9_method_18_code 275 = .ok (.if_icmp .ne 21, 3) := by decide +kernel
theorem d_Mod_amount_278 : decode prog_9_method_18_code 278 = .ok (.ldc2_w 141, 3) := by decide +kernel
theorem d_Mod_amount_281 : decode prog_9_method_18_code 281 = .ok (.lload 5, 2) := by decide +kernel
theorem d_Mod_amount_283 : decode prog_9_method_18_code 283 = .ok (.lmul, 1) := by decide +kernel
theorem d_Mod_amount_284 : decode prog_9_method_18_code 284 = .ok (.lload 7, 2) := by decide +kernel
theorem d_Mod_amount_286 : decode prog_9_method_18_code 286 = .ok (.lsub, 1) := by decide +kernel
theorem d_Mod_amount_287 : decode prog_9_method_18_code 287 = .ok (.ldc2_w 143, 3) := by decide +kernel
theorem d_Mod_amount_290 : decode prog_9_method_18_code 290 = .ok (.ladd, 1) := by decide +kernel
theorem d_Mod_amount_291 : decode prog_9_method_18_code 291 = .ok (.iconst 5, 1) := by decide +kernel
theorem d_Mod_amount_292 : decode prog_9_method_18_code 292 = .ok (.lshr, 1) := by decide +kernel
theorem d_Mod_amount_293 : decode prog_9_method_18_code 293 = .ok (.goto 11, 3) := by decide +kernel
theorem d_Mod_amount_296 : decode prog_9_method_18_code 296 = .ok (.lload 5, 2) := by decide +kernel
theorem d_Mod_amount_298 : decode prog_9_method_18_code 298 = .ok (.ldc2_w 139, 3) := by decide +kernel
theorem d_Mod_amount_301 : decode prog_9_method_18_code 301 = .ok (.ladd, 1) := by decide +kernel
theorem d_Mod_amount_302 : decode prog_9_method_18_code 302 = .ok (.iconst 2, 1) := by decide +kernel
theorem d_Mod_amount_303 : decode prog_9_method_18_code 303 = .ok (.lshr, 1) := by decide +kernel
theorem d_Mod_amount_304 : decode prog_9_method_18_code 304 = .ok (.lreturn, 1) := by decide +kernel
abbrev w_Mod_isPlace : List Cond := Cond.code y_Mod_isPlace prog_9_method_2_code 3 (some .boolean) :: wl
abbrev r_Mod_isPlace : Room := { frames := 0, cells := 0, slots := 0, locals := 0 }
set_option maxHeartbeats 4000000 in
set_option maxRecDepth 100000 in
theorem c_Mod_isPlace (l : Launch) (G : k_G) (sz : Nat) (rM rP rk rG rW rK rE rst rev rod rp rb rbl : Nat) (x0 y0 wd ht kd db ew ac dn pr nu de wr rd cn ba sz1 lb rm cu sp nz sl uz : Int) (h_x0 : -2147483648 ≤ x0 ∧ x0 < 2147483648) (h_y0 : -2147483648 ≤ y0 ∧ y0 < 2147483648) (hwd : 1 ≤ wd ∧ wd ≤ 16) (hht : 1 ≤ ht ∧ ht ≤ 16) : Met l y_Mod_isPlace w_Mod_isPlace r_Mod_isPlace (k_P G [.ref rM, .int (iv (x0)), .int (iv (y0))] [o_Mod rM wd ht rP rk rG rW rK kd db ew ac dn pr nu de rE rst wr rd rev rod cn rp rb ba sz1 lb rm cu sp nz rbl sl uz] sz) (vp_Si (fun r : Int32 => r = iv (bI ((0 ≤ x0 ∧ x0 ≤ wd - 1) ∧ 0 ≤ y0 ∧ y0 ≤ ht - 1)))) 0 0 (fun _ => False) := by
  refine k_met (fun _ => vp_Si (fun r : Int32 => r = iv (bI ((0 ≤ x0 ∧ x0 ≤ wd - 1) ∧ 0 ≤ y0 ∧ y0 ≤ ht - 1)))) (fun _ _ => False) (by decide) rfl (Nat.le_of_ble_eq_true rfl) (fun p e s m args below meth c ls A Q S hr hlk hnm hl hsz hP hK hD hS hA hT hQ => ?_)
  obtain ⟨hx, hb, hml, hown, hts⟩ := id S
  have hw : ∀ w ∈ wl, w.before args s = true := fun w h => hts w (List.mem_cons_of_mem _ h)
  have hl : lv_has ls 3 [(0, .ref rM), (1, .int (iv (x0))), (2, .int (iv (y0)))] := hl
  refine lv_iload_n hx hb d_Mod_isPlace_0 rfl (lv_at hl 1 rfl) ?_
  refine k_if_lt (tgt := 28) hx hb d_Mod_isPlace_1 (by decide) (by omega) (fun hc1 => ?_) (fun hc1 => ?_)
  · refine lv_iconst (v := iv (0)) hx hb d_Mod_isPlace_28 rfl ?_
    exact k_zretR hx hb hr hlk (by omega) hQ (by first | rw [bI_t (by omega)] | rw [bI_f (by omega)]) d_Mod_isPlace_29
  · refine lv_iload_n hx hb d_Mod_isPlace_4 rfl (lv_at hl 1 rfl) ?_
    refine lv_aload_n hx hb d_Mod_isPlace_5 rfl (lv_at hl 0 rfl) ?_
    refine va_get (D := gD G) (ci := 7) (v := .int (iv (wd))) (C := R_Mod) (T := F_Mod) (N := 34) hx hb hw in_Mod hown hK hP 0 rfl rfl 0 (by decide) (hw _ m3_124) (fun _ h => h) rfl d_Mod_isPlace_6 ?_
    refine k_icmp_ge (tgt := 28) hx hb d_Mod_isPlace_9 (by decide) (by omega) (by omega) (fun hc9 => ?_) (fun hc9 => ?_)
    · refine lv_iconst (v := iv (0)) hx hb d_Mod_isPlace_28 rfl ?_
      exact k_zretR hx hb hr hlk (by omega) hQ (by first | rw [bI_t (by omega)] | rw [bI_f (by omega)]) d_Mod_isPlace_29
    · refine lv_iload_n hx hb d_Mod_isPlace_12 rfl (lv_at hl 2 rfl) ?_
      refine k_if_lt (tgt := 28) hx hb d_Mod_isPlace_13 (by decide) (by omega) (fun hc13 => ?_) (fun hc13 => ?_)
      · refine lv_iconst (v := iv (0)) hx hb d_Mod_isPlace_28 rfl ?_
        exact k_zretR hx hb hr hlk (by omega) hQ (by first | rw [bI_t (by omega)] | rw [bI_f (by omega)]) d_Mod_isPlace_29
      · refine lv_iload_n hx hb d_Mod_isPlace_16 rfl (lv_at hl 2 rfl) ?_
        refine lv_aload_n hx hb d_Mod_isPlace_17 rfl (lv_at hl 0 rfl) ?_
        refine va_get (D := gD G) (ci := 7) (v := .int (iv (ht))) (C := R_Mod) (T := F_Mod) (N := 34) hx hb hw in_Mod hown hK hP 0 rfl rfl 1 (by decide) (hw _ m3_125) (fun _ h => h) rfl d_Mod_isPlace_18 ?_
        refine k_icmp_ge (tgt := 28) hx hb d_Mod_isPlace_21 (by decide) (by omega) (by omega) (fun hc21 => ?_) (fun hc21 => ?_)
        · refine lv_iconst (v := iv (0)) hx hb d_Mod_isPlace_28 rfl ?_
          exact k_zretR hx hb hr hlk (by omega) hQ (by first | rw [bI_t (by omega)] | rw [bI_f (by omega)]) d_Mod_isPlace_29
        · refine lv_iconst (v := iv (1)) hx hb d_Mod_isPlace_24 rfl ?_
          refine lv_goto (tgt := 29) hx hb d_Mod_isPlace_25 (by decide) ?_
          exact k_zretR hx hb hr hlk (by omega) hQ (by first | rw [bI_t (by omega)] | rw [bI_f (by omega)]) d_Mod_isPlace_29
abbrev w_Mod_clip : List Cond := Cond.code y_Mod_clip prog_9_method_3_code 2 (some .int) :: wl
abbrev r_Mod_clip : Room := { frames := 0, cells := 0, slots := 0, locals := 0 }
set_option maxHeartbeats 4000000 in
set_option maxRecDepth 100000 in
theorem c_Mod_clip (l : Launch) (G : k_G) (sz : Nat) (v : Int64) : Met l y_Mod_clip w_Mod_clip r_Mod_clip (k_P G [.long (v)] [] sz) (vp_Si (fun r : Int32 => r = iv (clp v.toInt))) 0 0 (fun _ => False) := by
  refine k_met (fun _ => vp_Si (fun r : Int32 => r = iv (clp v.toInt))) (fun _ _ => False) (by decide) rfl (Nat.le_of_ble_eq_true rfl) (fun p e s m args below meth c ls A Q S hr hlk hnm hl hsz hP hK hD hS hA hT hQ => ?_)
  obtain ⟨hx, hb, hml, hown, hts⟩ := id S
  have hw : ∀ w ∈ wl, w.before args s = true := fun w h => hts w (List.mem_cons_of_mem _ h)
  have hl : lv_has ls 2 [(0, .long (v))] := hl
  refine lv_lload_n hx hb d_Mod_clip_0 rfl (lv_at hl 0 rfl) ?_
  refine lv_ldc2 (v := -128) hx hb hown (hw _ m4_3) d_Mod_clip_1 ?_
  refine k_lge (tgt := 13) hx hb d_Mod_clip_4 d_Mod_clip_5 (by decide) (fun hc4 => ?_) (fun hc4 => ?_)
  · refine lv_lload_n hx hb d_Mod_clip_13 rfl (lv_at hl 0 rfl) ?_
    refine lv_ldc2 (v := 127) hx hb hown (hw _ m4_4) d_Mod_clip_14 ?_
    refine k_lle (tgt := 26) hx hb d_Mod_clip_17 d_Mod_clip_18 (by decide) (fun hc17 => ?_) (fun hc17 => ?_)
    · refine lv_lload_n hx hb d_Mod_clip_26 rfl (lv_at hl 0 rfl) ?_
      refine k_l2i hx hb d_Mod_clip_27 ?_
      exact k_iretR hx hb hr hlk hQ (by first | rw [clp_1 hc4] | rw [clp_2 hc17] | rw [clp_3 hc4 hc17]) d_Mod_clip_28
    · refine lv_bipush (v := iv (127)) hx hb d_Mod_clip_21 rfl ?_
      refine lv_goto (tgt := 28) hx hb d_Mod_clip_23 (by decide) ?_
      exact k_iretR hx hb hr hlk hQ (by first | rw [clp_1 hc4] | rw [clp_2 hc17] | rw [clp_3 hc4 hc17]) d_Mod_clip_28
  · refine lv_bipush (v := iv (-128)) hx hb d_Mod_clip_8 rfl ?_
    refine lv_goto (tgt := 28) hx hb d_Mod_clip_10 (by decide) ?_
    exact k_iretR hx hb hr hlk hQ (by first | rw [clp_1 hc4] | rw [clp_2 hc17] | rw [clp_3 hc4 hc17]) d_Mod_clip_28
abbrev w_Mod_sample : List Cond := Cond.code y_Mod_sample prog_9_method_6_code 3 (some .int) :: wl
abbrev r_Mod_sample : Room := { frames := 1, cells := 0, slots := 0, locals := 22 }
set_option maxHeartbeats 4000000 in
set_option maxRecDepth 100000 in
theorem c_Mod_sample (l : Launch) (G : k_G) (sz : Nat) (rM rP rk rG rW rK rE rst rev rod rp rb rbl : Nat) (x0 y0 wd ht kd db ew ac dn pr nu de wr rd cn ba sz1 lb rm cu sp nz sl uz : Int) (pic : Int → Int) (h_x0 : -2147483648 ≤ x0 ∧ x0 < 2147483648) (h_y0 : -2147483648 ≤ y0 ∧ y0 < 2147483648) (hwd : 1 ≤ wd ∧ wd ≤ 16) (hht : 1 ≤ ht ∧ ht ≤ 16) : Met l y_Mod_sample w_Mod_sample r_Mod_sample (k_P G [.ref rM, .int (iv (x0)), .int (iv (y0))] [o_Mod rM wd ht rP rk rG rW rK kd db ew ac dn pr nu de rE rst wr rd rev rod cn rp rb ba sz1 lb rm cu sp nz rbl sl uz, (rP, ai (gI G) 256 (pic))] sz) (vp_Si (fun r : Int32 => r = iv (if (0 ≤ x0 ∧ x0 ≤ wd - 1) ∧ 0 ≤ y0 ∧ y0 ≤ ht - 1 then pic (16 * y0 + x0) else -1000))) 0 0 (fun _ => False) := by
  refine k_met (fun _ => vp_Si (fun r : Int32 => r = iv (if (0 ≤ x0 ∧ x0 ≤ wd - 1) ∧ 0 ≤ y0 ∧ y0 ≤ ht - 1 then pic (16 * y0 + x0) else -1000))) (fun _ _ => False) (by decide) rfl (Nat.le_of_ble_eq_true rfl) (fun p e s m args below meth c ls A Q S hr hlk hnm hl hsz hP hK hD hS hA hT hQ => ?_)
  obtain ⟨hx, hb, hml, hown, hts⟩ := id S
  have hw : ∀ w ∈ wl, w.before args s = true := fun w h => hts w (List.mem_cons_of_mem _ h)
  have hl : lv_has ls 3 [(0, .ref rM), (1, .int (iv (x0))), (2, .int (iv (y0)))] := hl
  refine lv_aload_n hx hb d_Mod_sample_0 rfl (lv_at hl 0 rfl) ?_
  refine lv_iload_n hx hb d_Mod_sample_1 rfl (lv_at hl 1 rfl) ?_
  refine lv_iload_n hx hb d_Mod_sample_2 rfl (lv_at hl 2 rfl) ?_
  refine k_ciR (k_rv S (c_Mod_isPlace l G _ rM rP rk rG rW rK rE rst rev rod rp rb rbl x0 y0 wd ht kd db ew ac dn pr nu de wr rd cn ba sz1 lb rm cu sp nz sl uz (by omega) (by omega) (by omega) (by omega)) 2 m3_235 m3_232 m3_234 mp_20 m1_9 (by decide +kernel) (by decide) rfl rfl (k_preV (q0 := 0) hK hP hD hS hA hT rfl rfl [0] (by decide) rfl) rfl hl.1 rfl (Nat.le_of_ble_eq_true rfl) d_Mod_sample_3 ⟨Nat.le_of_ble_eq_true rfl, Nat.le_of_ble_eq_true rfl⟩) (fun r3 h3 => ?_)
  subst h3
  refine k_ifb_eq (tgt := 23) hx hb d_Mod_sample_6 (by decide) (fun hc6 => ?_) (fun hc6 => ?_)
  · refine lv_sipush (v := iv (-1000)) hx hb d_Mod_sample_23 rfl ?_
    exact k_iretR hx hb hr hlk hQ (by first | rw [if_pos (by omega)] | rw [if_neg (by omega)]) d_Mod_sample_26
  · refine lv_aload_n hx hb d_Mod_sample_9 rfl (lv_at hl 0 rfl) ?_
    refine va_get (D := gD G) (ci := 7) (v := .ref rP) (C := R_Mod) (T := F_Mod) (N := 34) hx hb hw in_Mod hown hK hP 0 rfl rfl 2 (by decide) (hw _ m3_126) (fun _ h => h) rfl d_Mod_sample_10 ?_
    refine lv_bipush (v := iv (16)) hx hb d_Mod_sample_13 rfl ?_
    refine lv_iload_n hx hb d_Mod_sample_15 rfl (lv_at hl 2 rfl) ?_
    refine k_imul hx hb d_Mod_sample_16 ?_
    refine lv_iload_n hx hb d_Mod_sample_17 rfl (lv_at hl 1 rfl) ?_
    refine k_iadd hx hb d_Mod_sample_18 ?_
    refine k_ial hx hb hK hP 1 0 rfl rfl (by decide) (by omega) d_Mod_sample_19 ?_
    refine lv_goto (tgt := 26) hx hb d_Mod_sample_20 (by decide) ?_
    exact k_iretR hx hb hr hlk hQ (by first | rw [if_pos (by omega)] | rw [if_neg (by omega)]) d_Mod_sample_26
abbrev w_Mod_forget : List Cond := Cond.code y_Mod_forget prog_9_method_7_code 1 none :: wl
abbrev r_Mod_forget : Room := { frames := 0, cells := 0, slots := 0, locals := 0 }
set_option maxHeartbeats 4000000 in
set_option maxRecDepth 100000 in
theorem c_Mod_forget (l : Launch) (G : k_G) (sz : Nat) (rM rP rk rG rW rK rE rst rev rod rp rb rbl : Nat) (wd ht kd db ew ac dn pr nu de wr rd cn ba sz1 lb rm cu sp nz sl uz : Int) : Met l y_Mod_forget w_Mod_forget r_Mod_forget (k_P G [.ref rM] [o_Mod rM wd ht rP rk rG rW rK kd db ew ac dn pr nu de rE rst wr rd rev rod cn rp rb ba sz1 lb rm cu sp nz rbl sl uz] sz) (qv G (fun u : Int × Int => u = (0, 0)) (fun u : Int × Int => [o_Mod rM wd ht rP rk rG rW rK kd db ew ac dn pr nu de rE rst u.1 u.2 rev rod cn rp rb ba sz1 lb rm cu sp nz rbl sl uz]) (va_A [o_Mod rM wd ht rP rk rG rW rK kd db ew ac dn pr nu de rE rst wr rd rev rod cn rp rb ba sz1 lb rm cu sp nz rbl sl uz] sz)) 0 0 (va_A [o_Mod rM wd ht rP rk rG rW rK kd db ew ac dn pr nu de rE rst wr rd rev rod cn rp rb ba sz1 lb rm cu sp nz rbl sl uz] sz) := by
  refine k_met (fun A => qv G (fun u : Int × Int => u = (0, 0)) (fun u : Int × Int => [o_Mod rM wd ht rP rk rG rW rK kd db ew ac dn pr nu de rE rst u.1 u.2 rev rod cn rp rb ba sz1 lb rm cu sp nz rbl sl uz]) A) (fun A => A) (by decide) rfl (Nat.le_of_ble_eq_true rfl) (fun p e s m args below meth c ls A Q S hr hlk hnm hl hsz hP hK hD hS hA hT hQ => ?_)
  obtain ⟨hx, hb, hml, hown, hts⟩ := id S
  have hw : ∀ w ∈ wl, w.before args s = true := fun w h => hts w (List.mem_cons_of_mem _ h)
  have hl : lv_has ls 1 [(0, .ref rM)] := hl
  refine lv_aload_n hx hb d_Mod_forget_0 rfl (lv_at hl 0 rfl) ?_
  refine lv_iconst (v := iv (0)) hx hb d_Mod_forget_1 rfl ?_
  refine va_put (D := gD G) (ci := 7) (v := .int (iv (0))) (ty := .boolean) (C := R_Mod) (T := F_Mod) (N := 34) hx hb hw in_Mod t_Mod t_Mod_ok n_Mod hown hK hP hD hS 0 rfl rfl 17 (by decide) (hw _ m3_141) (fun _ h => h) rfl (by decide +kernel) (nar_z (by omega)) (fit_z (by omega)) (Nat.le_of_ble_eq_true rfl) d_Mod_forget_2 (fun H locs hP hD hS => ?_)
  have hP : va_P (gD G) classes [o_Mod rM wd ht rP rk rG rW rK kd db ew ac dn pr nu de rE rst 0 rd rev rod cn rp rb ba sz1 lb rm cu sp nz rbl sl uz] H := hP
  have hD : va_D A [o_Mod rM wd ht rP rk rG rW rK kd db ew ac dn pr nu de rE rst 0 rd rev rod cn rp rb ba sz1 lb rm cu sp nz rbl sl uz] := hD
  refine lv_aload_n hx hb d_Mod_forget_5 rfl (lv_at hl 0 rfl) ?_
  refine lv_iconst (v := iv (0)) hx hb d_Mod_forget_6 rfl ?_
  refine va_put (D := gD G) (ci := 7) (v := .int (iv (0))) (ty := .boolean) (C := R_Mod) (T := F_Mod) (N := 34) hx hb hw in_Mod t_Mod t_Mod_ok n_Mod hown hK hP hD hS 0 rfl rfl 18 (by decide) (hw _ m3_142) (fun _ h => h) rfl (by decide +kernel) (nar_z (by omega)) (fit_z (by omega)) (Nat.le_of_ble_eq_true rfl) d_Mod_forget_7 (fun H locs hP hD hS => ?_)
  have hP : va_P (gD G) classes [o_Mod rM wd ht rP rk rG rW rK kd db ew ac dn pr nu de rE rst 0 0 rev rod cn rp rb ba sz1 lb rm cu sp nz rbl sl uz] H := hP
  have hD : va_D A [o_Mod rM wd ht rP rk rG rW rK kd db ew ac dn pr nu de rE rst 0 0 rev rod cn rp rb ba sz1 lb rm cu sp nz rbl sl uz] := hD
  exact k_vret hx hb hr hlk hQ ((0, 0)) (rfl) hP hD hS d_Mod_forget_10
abbrev w_Mod_paint : List Cond := Cond.code y_Mod_paint prog_9_method_4_code 8 (some .boolean) :: wl
abbrev r_Mod_paint : Room := { frames := 1, cells := 0, slots := 0, locals := 22 }
set_option maxHeartbeats 4000000 in
set_option maxRecDepth 100000 in
theorem c_Mod_paint (l : Launch) (G : k_G) (sz : Nat) (rM rP rk rG rW rK rE rst rev rod rp rb rbl : Nat) (x0 y0 w0 h0 v0 wd ht kd db ew ac dn pr nu de wr rd cn ba sz1 lb rm cu sp nz sl uz : Int) (pic : Int → Int) (h_x0 : -2147483648 ≤ x0 ∧ x0 < 2147483648) (h_y0 : -2147483648 ≤ y0 ∧ y0 < 2147483648) (h_w0 : -2147483648 ≤ w0 ∧ w0 < 2147483648) (h_h0 : -2147483648 ≤ h0 ∧ h0 < 2147483648) (h_v0 : -2147483648 ≤ v0 ∧ v0 < 2147483648) (hwd : 1 ≤ wd ∧ wd ≤ 16) (hht : 1 ≤ ht ∧ ht ≤ 16) : Met l y_Mod_paint w_Mod_paint r_Mod_paint (k_P G [.ref rM, .int (iv (x0)), .int (iv (y0)), .int (iv (w0)), .int (iv (h0)), .int (iv (v0))] [o_Mod rM wd ht rP rk rG rW rK kd db ew ac dn pr nu de rE rst wr rd rev rod cn rp rb ba sz1 lb rm cu sp nz rbl sl uz, (rP, ai (gI G) 256 (pic))] sz) (qi G (fun (r : Int32) (u : Int × (Int → Int)) => r = iv (u.1) ∧ (u = if ((0 ≤ x0 ∧ x0 ≤ wd - 1) ∧ 0 ≤ y0 ∧ y0 ≤ ht - 1) ∧ (1 ≤ w0 ∧ w0 ≤ 16) ∧ (1 ≤ h0 ∧ h0 ≤ 16) ∧ -128 ≤ v0 ∧ v0 ≤ 127 then (1, pmA wd ht x0 y0 (x0 + w0) (y0 + h0) v0 pic) else (0, pic))) (fun u : Int × (Int → Int) => [o_Mod rM wd ht rP rk rG rW rK kd db ew ac dn pr nu de rE rst wr rd rev rod cn rp rb ba sz1 lb rm cu sp nz rbl sl uz, (rP, ai (gI G) 256 (u.2))]) (va_A [o_Mod rM wd ht rP rk rG rW rK kd db ew ac dn pr nu de rE rst wr rd rev rod cn rp rb ba sz1 lb rm cu sp nz rbl sl uz, (rP, ai (gI G) 256 (pic))] sz)) 0 0 (va_A [o_Mod rM wd ht rP rk rG rW rK kd db ew ac dn pr nu de rE rst wr rd rev rod cn rp rb ba sz1 lb rm cu sp nz rbl sl uz, (rP, ai (gI G) 256 (pic))] sz) := by
  refine k_met (fun A => qi G (fun (r : Int32) (u : Int × (Int → Int)) => r = iv (u.1) ∧ (u = if ((0 ≤ x0 ∧ x0 ≤ wd - 1) ∧ 0 ≤ y0 ∧ y0 ≤ ht - 1) ∧ (1 ≤ w0 ∧ w0 ≤ 16) ∧ (1 ≤ h0 ∧ h0 ≤ 16) ∧ -128 ≤ v0 ∧ v0 ≤ 127 then (1, pmA wd ht x0 y0 (x0 + w0) (y0 + h0) v0 pic) else (0, pic))) (fun u : Int × (Int → Int) => [o_Mod rM wd ht rP rk rG rW rK kd db ew ac dn pr nu de rE rst wr rd rev rod cn rp rb ba sz1 lb rm cu sp nz rbl sl uz, (rP, ai (gI G) 256 (u.2))]) A) (fun A => A) (by decide) rfl (Nat.le_of_ble_eq_true rfl) (fun p e s m args below meth c ls A Q S hr hlk hnm hl hsz hP hK hD hS hA hT hQ => ?_)
  obtain ⟨hx, hb, hml, hown, hts⟩ := id S
  have hw : ∀ w ∈ wl, w.before args s = true := fun w h => hts w (List.mem_cons_of_mem _ h)
  have hl : lv_has ls 8 [(0, .ref rM), (1, .int (iv (x0))), (2, .int (iv (y0))), (3, .int (iv (w0))), (4, .int (iv (h0))), (5, .int (iv (v0)))] := hl
  refine lv_aload_n hx hb d_Mod_paint_0 rfl (lv_at hl 0 rfl) ?_
  refine lv_iload_n hx hb d_Mod_paint_1 rfl (lv_at hl 1 rfl) ?_
  refine lv_iload_n hx hb d_Mod_paint_2 rfl (lv_at hl 2 rfl) ?_
  refine k_ciR (k_rv S (c_Mod_isPlace l G _ rM rP rk rG rW rK rE rst rev rod rp rb rbl x0 y0 wd ht kd db ew ac dn pr nu de wr rd cn ba sz1 lb rm cu sp nz sl uz (by omega) (by omega) (by omega) (by omega)) 2 m3_235 m3_232 m3_234 mp_20 m1_9 (by decide +kernel) (by decide) rfl rfl (k_preV (q0 := 0) hK hP hD hS hA hT rfl rfl [0] (by decide) rfl) rfl hl.1 rfl (Nat.le_of_ble_eq_true rfl) d_Mod_paint_3 ⟨Nat.le_of_ble_eq_true rfl, Nat.le_of_ble_eq_true rfl⟩) (fun r3 h3 => ?_)
  subst h3
  refine k_ifb_eq (tgt := 47) hx hb d_Mod_paint_6 (by decide) (fun hc6 => ?_) (fun hc6 => ?_)
  · refine lv_iconst (v := iv (0)) hx hb d_Mod_paint_47 rfl ?_
    exact k_zret hx hb hr hlk (by omega) hQ ((0, pic)) (⟨rfl, by rw [if_neg (by omega)]⟩) hP hD hS d_Mod_paint_48
  · refine lv_iload_n hx hb d_Mod_paint_9 rfl (lv_at hl 3 rfl) ?_
    refine lv_iconst (v := iv (1)) hx hb d_Mod_paint_10 rfl ?_
    refine k_icmp_lt (tgt := 47) hx hb d_Mod_paint_11 (by decide) (by omega) (by omega) (fun hc11 => ?_) (fun hc11 => ?_)
    · refine lv_iconst (v := iv (0)) hx hb d_Mod_paint_47 rfl ?_
      exact k_zret hx hb hr hlk (by omega) hQ ((0, pic)) (⟨rfl, by rw [if_neg (by omega)]⟩) hP hD hS d_Mod_paint_48
    · refine lv_iload_n hx hb d_Mod_paint_14 rfl (lv_at hl 3 rfl) ?_
      refine lv_bipush (v := iv (16)) hx hb d_Mod_paint_15 rfl ?_
      refine k_icmp_gt (tgt := 47) hx hb d_Mod_paint_17 (by decide) (by omega) (by omega) (fun hc17 => ?_) (fun hc17 => ?_)
      · refine lv_iconst (v := iv (0)) hx hb d_Mod_paint_47 rfl ?_
        exact k_zret hx hb hr hlk (by omega) hQ ((0, pic)) (⟨rfl, by rw [if_neg (by omega)]⟩) hP hD hS d_Mod_paint_48
      · refine lv_iload hx hb d_Mod_paint_20 (lv_at hl 4 rfl) ?_
        refine lv_iconst (v := iv (1)) hx hb d_Mod_paint_22 rfl ?_
        refine k_icmp_lt (tgt := 47) hx hb d_Mod_paint_23 (by decide) (by omega) (by omega) (fun hc23 => ?_) (fun hc23 => ?_)
        · refine lv_iconst (v := iv (0)) hx hb d_Mod_paint_47 rfl ?_
          exact k_zret hx hb hr hlk (by omega) hQ ((0, pic)) (⟨rfl, by rw [if_neg (by omega)]⟩) hP hD hS d_Mod_paint_48
        · refine lv_iload hx hb d_Mod_paint_26 (lv_at hl 4 rfl) ?_
          refine lv_bipush (v := iv (16)) hx hb d_Mod_paint_28 rfl ?_
          refine k_icmp_gt (tgt := 47) hx hb d_Mod_paint_30 (by decide) (by omega) (by omega) (fun hc30 => ?_) (fun hc30 => ?_)
          · refine lv_iconst (v := iv (0)) hx hb d_Mod_paint_47 rfl ?_
            exact k_zret hx hb hr hlk (by omega) hQ ((0, pic)) (⟨rfl, by rw [if_neg (by omega)]⟩) hP hD hS d_Mod_paint_48
          · refine lv_iload hx hb d_Mod_paint_33 (lv_at hl 5 rfl) ?_
            refine lv_bipush (v := iv (-128)) hx hb d_Mod_paint_35 rfl ?_
            refine k_icmp_lt (tgt := 47) hx hb d_Mod_paint_37 (by decide) (by omega) (by omega) (fun hc37 => ?_) (fun hc37 => ?_)
            · refine lv_iconst (v := iv (0)) hx hb d_Mod_paint_47 rfl ?_
              exact k_zret hx hb hr hlk (by omega) hQ ((0, pic)) (⟨rfl, by rw [if_neg (by omega)]⟩) hP hD hS d_Mod_paint_48
            · refine lv_iload hx hb d_Mod_paint_40 (lv_at hl 5 rfl) ?_
              refine lv_bipush (v := iv (127)) hx hb d_Mod_paint_42 rfl ?_
              refine k_icmp_le (tgt := 49) hx hb d_Mod_paint_44 (by decide) (by omega) (by omega) (fun hc44 => ?_) (fun hc44 => ?_)
              · refine lv_iload_n hx hb d_Mod_paint_49 rfl (lv_at hl 2 rfl) ?_
                refine lv_istore hx hb d_Mod_paint_50 hl (by decide) rfl (fun ls hl => ?_)
                have hl : lv_has ls 8 [(6, .int (iv (y0))), (0, .ref rM), (1, .int (iv (x0))), (2, .int (iv (y0))), (3, .int (iv (w0))), (4, .int (iv (h0))), (5, .int (iv (v0)))] := hl
                refine lo_up (P := fun y => ∀ (ls : Array Slot) (H : Heap) (locs : List Loc) (p1 : Int → Int), lv_has ls 8 [(0, .ref rM), (1, .int (iv (x0))), (2, .int (iv (y0))), (3, .int (iv (w0))), (4, .int (iv (h0))), (5, .int (iv (v0))), (6, .int (iv (y)))] → va_P (gD G) classes [o_Mod rM wd ht rP rk rG rW rK kd db ew ac dn pr nu de rE rst wr rd rev rod cn rp rb ba sz1 lb rm cu sp nz rbl sl uz, (rP, ai (gI G) 256 (p1))] H → va_D A [o_Mod rM wd ht rP rk rG rW rK kd db ew ac dn pr nu de rE rst wr rd rev rod cn rp rb ba sz1 lb rm cu sp nz rbl sl uz, (rP, ai (gI G) 256 (p1))] → va_S A s.heap H locs → (p1 = pmA wd ht x0 y0 (x0 + w0) y v0 pic) → W p l e r_Mod_paint s m args below meth c H locs 0 0 Q (F0 m 52 ls [])) (a := y0) (b := y0 + h0) (fun y hiy hjy ihy => ?_) _ _ _ pic (lv_sub hl [1, 2, 3, 4, 5, 6, 0] rfl) hP hD hS (it_self _ _ _).symm
                intro ls H locs p1 hl hP hD hS hs
                refine lv_iload hx hb d_Mod_paint_52 (lv_at hl 6 rfl) ?_
                refine lv_iload_n hx hb d_Mod_paint_54 rfl (lv_at hl 2 rfl) ?_
                refine lv_iload hx hb d_Mod_paint_55 (lv_at hl 4 rfl) ?_
                refine k_iadd hx hb d_Mod_paint_57 ?_
                refine k_icmp_ge (tgt := 110) hx hb d_Mod_paint_58 (by decide) (by omega) (by omega) (fun hc58 => ?_) (fun hc58 => ?_)
                · refine lv_iconst (v := iv (1)) hx hb d_Mod_paint_110 rfl ?_
                  exact k_zret hx hb hr hlk (by omega) hQ ((1, p1)) (⟨rfl, by rw [if_pos (by omega), show pmA wd ht x0 y0 (x0 + w0) (y0 + h0) v0 pic = p1 from (by rw [hs]; unfold pmA; exact (it_x _ _ hc58 hjy).symm)]⟩) hP hD hS d_Mod_paint_111
                · refine lv_iload_n hx hb d_Mod_paint_61 rfl (lv_at hl 1 rfl) ?_
                  refine lv_istore hx hb d_Mod_paint_62 hl (by decide) rfl (fun ls hl => ?_)
                  have hl : lv_has ls 8 [(7, .int (iv (x0))), (0, .ref rM), (1, .int (iv (x0))), (2, .int (iv (y0))), (3, .int (iv (w0))), (4, .int (iv (h0))), (5, .int (iv (v0))), (6, .int (iv (y)))] := hl
                  refine lo_up (P := fun x => ∀ (ls : Array Slot) (H : Heap) (locs : List Loc) (p2 : Int → Int), lv_has ls 8 [(0, .ref rM), (1, .int (iv (x0))), (2, .int (iv (y0))), (3, .int (iv (w0))), (4, .int (iv (h0))), (5, .int (iv (v0))), (6, .int (iv (y))), (7, .int (iv (x)))] → va_P (gD G) classes [o_Mod rM wd ht rP rk rG rW rK kd db ew ac dn pr nu de rE rst wr rd rev rod cn rp rb ba sz1 lb rm cu sp nz rbl sl uz, (rP, ai (gI G) 256 (p2))] H → va_D A [o_Mod rM wd ht rP rk rG rW rK kd db ew ac dn pr nu de rE rst wr rd rev rod cn rp rb ba sz1 lb rm cu sp nz rbl sl uz, (rP, ai (gI G) 256 (p2))] → va_S A s.heap H locs → (p2 = it (fun x f => if ((0 ≤ x ∧ x ≤ wd - 1) ∧ 0 ≤ y ∧ y ≤ ht - 1) then up f (16 * y + x) v0 else f) x0 x p1) → W p l e r_Mod_paint s m args below meth c H locs 0 0 Q (F0 m 64 ls [])) (a := x0) (b := x0 + w0) (fun x hix hjx ihx => ?_) _ _ _ p1 (lv_sub hl [1, 2, 3, 4, 5, 6, 7, 0] rfl) hP hD hS (it_self _ _ _).symm
                  intro ls H locs p2 hl hP hD hS hs2
                  refine lv_iload hx hb d_Mod_paint_64 (lv_at hl 7 rfl) ?_
                  refine lv_iload_n hx hb d_Mod_paint_66 rfl (lv_at hl 1 rfl) ?_
                  refine lv_iload_n hx hb d_Mod_paint_67 rfl (lv_at hl 3 rfl) ?_
                  refine k_iadd hx hb d_Mod_paint_68 ?_
                  refine k_icmp_ge (tgt := 104) hx hb d_Mod_paint_69 (by decide) (by omega) (by omega) (fun hc69 => ?_) (fun hc69 => ?_)
                  · refine lv_iinc (k := 6) (v := iv (y + 1)) hx hb d_Mod_paint_104 hl rfl (iv_add _ _) (by decide) rfl (fun ls hl => ?_)
                    have hl : lv_has ls 8 [(6, .int (iv (y + 1))), (0, .ref rM), (1, .int (iv (x0))), (2, .int (iv (y0))), (3, .int (iv (w0))), (4, .int (iv (h0))), (5, .int (iv (v0))), (7, .int (iv (x)))] := hl
                    refine lv_goto (tgt := 52) hx hb d_Mod_paint_107 (by decide) ?_
                    exact ihy (by omega) _ _ _ p2 (lv_sub hl [1, 2, 3, 4, 5, 6, 0] rfl) hP hD hS (by unfold pmA; rw [it_s _ _ hiy]; show _ = it (fun x f => if ((0 ≤ x ∧ x ≤ wd - 1) ∧ 0 ≤ y ∧ y ≤ ht - 1) then up f (16 * y + x) v0 else f) x0 (x0 + w0) (pmA wd ht x0 y0 (x0 + w0) y v0 pic); rw [← hs, hs2]; exact it_x _ _ hc69 hjx)
                  · refine lv_aload_n hx hb d_Mod_paint_72 rfl (lv_at hl 0 rfl) ?_
                    refine lv_iload hx hb d_Mod_paint_73 (lv_at hl 7 rfl) ?_
                    refine lv_iload hx hb d_Mod_paint_75 (lv_at hl 6 rfl) ?_
                    refine k_ciR (k_rv S (c_Mod_isPlace l G _ rM rP rk rG rW rK rE rst rev rod rp rb rbl x y wd ht kd db ew ac dn pr nu de wr rd cn ba sz1 lb rm cu sp nz sl uz (by omega) (by omega) (by omega) (by omega)) 2 m3_235 m3_232 m3_234 mp_20 m1_9 (by decide +kernel) (by decide) rfl rfl (k_preV (q0 := 0) hK hP hD hS hA hT rfl rfl [0] (by decide) rfl) rfl hl.1 rfl (Nat.le_of_ble_eq_true rfl) d_Mod_paint_77 ⟨Nat.le_of_ble_eq_true rfl, Nat.le_of_ble_eq_true rfl⟩) (fun r77 h77 => ?_)
                    subst h77
                    refine k_ifb_eq (tgt := 98) hx hb d_Mod_paint_80 (by decide) (fun hc80 => ?_) (fun hc80 => ?_)
                    · refine lv_iinc (k := 7) (v := iv (x + 1)) hx hb d_Mod_paint_98 hl rfl (iv_add _ _) (by decide) rfl (fun ls hl => ?_)
                      have hl : lv_has ls 8 [(7, .int (iv (x + 1))), (0, .ref rM), (1, .int (iv (x0))), (2, .int (iv (y0))), (3, .int (iv (w0))), (4, .int (iv (h0))), (5, .int (iv (v0))), (6, .int (iv (y)))] := hl
                      refine lv_goto (tgt := 64) hx hb d_Mod_paint_101 (by decide) ?_
                      exact ihx (by omega) _ _ _ p2 (lv_sub hl [1, 2, 3, 4, 5, 6, 7, 0] rfl) hP hD hS (by rw [it_s _ _ hix, ← hs2]; first | rw [if_pos (by omega)] | rw [if_neg (by omega)])
                    · refine lv_aload_n hx hb d_Mod_paint_83 rfl (lv_at hl 0 rfl) ?_
                      refine va_get (D := gD G) (ci := 7) (v := .ref rP) (C := R_Mod) (T := F_Mod) (N := 34) hx hb hw in_Mod hown hK hP 0 rfl rfl 2 (by decide) (hw _ m3_126) (fun _ h => h) rfl d_Mod_paint_84 ?_
                      refine lv_bipush (v := iv (16)) hx hb d_Mod_paint_87 rfl ?_
                      refine lv_iload hx hb d_Mod_paint_89 (lv_at hl 6 rfl) ?_
                      refine k_imul hx hb d_Mod_paint_91 ?_
                      refine lv_iload hx hb d_Mod_paint_92 (lv_at hl 7 rfl) ?_
                      refine k_iadd hx hb d_Mod_paint_94 ?_
                      refine lv_iload hx hb d_Mod_paint_95 (lv_at hl 5 rfl) ?_
                      refine k_ias hx hb hK hP hD hS 1 0 rfl rfl (by decide) (by omega) d_Mod_paint_97 (fun H locs hP hD hS => ?_)
                      have hP : va_P (gD G) classes [o_Mod rM wd ht rP rk rG rW rK kd db ew ac dn pr nu de rE rst wr rd rev rod cn rp rb ba sz1 lb rm cu sp nz rbl sl uz, (rP, ai (gI G) 256 (up p2 ((16 * y) + x) v0))] H := hP
                      have hD : va_D A [o_Mod rM wd ht rP rk rG rW rK kd db ew ac dn pr nu de rE rst wr rd rev rod cn rp rb ba sz1 lb rm cu sp nz rbl sl uz, (rP, ai (gI G) 256 (up p2 ((16 * y) + x) v0))] := hD
                      refine lv_iinc (k := 7) (v := iv (x + 1)) hx hb d_Mod_paint_98 hl rfl (iv_add _ _) (by decide) rfl (fun ls hl => ?_)
                      have hl : lv_has ls 8 [(7, .int (iv (x + 1))), (0, .ref rM), (1, .int (iv (x0))), (2, .int (iv (y0))), (3, .int (iv (w0))), (4, .int (iv (h0))), (5, .int (iv (v0))), (6, .int (iv (y)))] := hl
                      refine lv_goto (tgt := 64) hx hb d_Mod_paint_101 (by decide) ?_
                      exact ihx (by omega) _ _ _ (up p2 ((16 * y) + x) v0) (lv_sub hl [1, 2, 3, 4, 5, 6, 7, 0] rfl) hP hD hS (by rw [it_s _ _ hix, ← hs2]; first | rw [if_pos (by omega)] | rw [if_neg (by omega)])
              · refine lv_iconst (v := iv (0)) hx hb d_Mod_paint_47 rfl ?_
                exact k_zret hx hb hr hlk (by omega) hQ ((0, pic)) (⟨rfl, by rw [if_neg (by omega)]⟩) hP hD hS d_Mod_paint_48
abbrev w_Mod_slope : List Cond := Cond.code y_Mod_slope prog_9_method_5_code 5 (some .boolean) :: wl
abbrev r_Mod_slope : Room := { frames := 1, cells := 0, slots := 0, locals := 21 }
set_option maxHeartbeats 4000000 in
set_option maxRecDepth 100000 in
theorem c_Mod_slope (l : Launch) (G : k_G) (sz : Nat) (rM rP rk rG rW rK rE rst rev rod rp rb rbl : Nat) (a1 d1 wd ht kd db ew ac dn pr nu de wr rd cn ba sz1 lb rm cu sp nz sl uz : Int) (pic : Int → Int) (h_a1 : -2147483648 ≤ a1 ∧ a1 < 2147483648) (h_d1 : -2147483648 ≤ d1 ∧ d1 < 2147483648) (hwd : 1 ≤ wd ∧ wd ≤ 16) (hht : 1 ≤ ht ∧ ht ≤ 16) (hpic : ∀ j, -128 ≤ pic j ∧ pic j ≤ 127) : Met l y_Mod_slope w_Mod_slope r_Mod_slope (k_P G [.ref rM, .int (iv (a1)), .int (iv (d1))] [o_Mod rM wd ht rP rk rG rW rK kd db ew ac dn pr nu de rE rst wr rd rev rod cn rp rb ba sz1 lb rm cu sp nz rbl sl uz, (rP, ai (gI G) 256 (pic))] sz) (qi G (fun (r : Int32) (u : Int × (Int → Int)) => r = iv (u.1) ∧ (u = if (-32 ≤ a1 ∧ a1 ≤ 32) ∧ -32 ≤ d1 ∧ d1 ≤ 32 then (1, smA a1 d1 wd ht pic) else (0, pic))) (fun u : Int × (Int → Int) => [o_Mod rM wd ht rP rk rG rW rK kd db ew ac dn pr nu de rE rst wr rd rev rod cn rp rb ba sz1 lb rm cu sp nz rbl sl uz, (rP, ai (gI G) 256 (u.2))]) (va_A [o_Mod rM wd ht rP rk rG rW rK kd db ew ac dn pr nu de rE rst wr rd rev rod cn rp rb ba sz1 lb rm cu sp nz rbl sl uz, (rP, ai (gI G) 256 (pic))] sz)) 0 0 (va_A [o_Mod rM wd ht rP rk rG rW rK kd db ew ac dn pr nu de rE rst wr rd rev rod cn rp rb ba sz1 lb rm cu sp nz rbl sl uz, (rP, ai (gI G) 256 (pic))] sz) := by
  refine k_met (fun A => qi G (fun (r : Int32) (u : Int × (Int → Int)) => r = iv (u.1) ∧ (u = if (-32 ≤ a1 ∧ a1 ≤ 32) ∧ -32 ≤ d1 ∧ d1 ≤ 32 then (1, smA a1 d1 wd ht pic) else (0, pic))) (fun u : Int × (Int → Int) => [o_Mod rM wd ht rP rk rG rW rK kd db ew ac dn pr nu de rE rst wr rd rev rod cn rp rb ba sz1 lb rm cu sp nz rbl sl uz, (rP, ai (gI G) 256 (u.2))]) A) (fun A => A) (by decide) rfl (Nat.le_of_ble_eq_true rfl) (fun p e s m args below meth c ls A Q S hr hlk hnm hl hsz hP hK hD hS hA hT hQ => ?_)
  obtain ⟨hx, hb, hml, hown, hts⟩ := id S
  have hw : ∀ w ∈ wl, w.before args s = true := fun w h => hts w (List.mem_cons_of_mem _ h)
  have hl : lv_has ls 5 [(0, .ref rM), (1, .int (iv (a1))), (2, .int (iv (d1)))] := hl
  refine lv_iload_n hx hb d_Mod_slope_0 rfl (lv_at hl 1 rfl) ?_
  refine lv_bipush (v := iv (-32)) hx hb d_Mod_slope_1 rfl ?_
  refine k_icmp_lt (tgt := 24) hx hb d_Mod_slope_3 (by decide) (by omega) (by omega) (fun hc3 => ?_) (fun hc3 => ?_)
  · refine lv_iconst (v := iv (0)) hx hb d_Mod_slope_24 rfl ?_
    exact k_zret hx hb hr hlk (by omega) hQ ((0, pic)) (⟨rfl, by rw [if_neg (by omega)]⟩) hP hD hS d_Mod_slope_25
  · refine lv_iload_n hx hb d_Mod_slope_6 rfl (lv_at hl 1 rfl) ?_
    refine lv_bipush (v := iv (32)) hx hb d_Mod_slope_7 rfl ?_
    refine k_icmp_gt (tgt := 24) hx hb d_Mod_slope_9 (by decide) (by omega) (by omega) (fun hc9 => ?_) (fun hc9 => ?_)
    · refine lv_iconst (v := iv (0)) hx hb d_Mod_slope_24 rfl ?_
      exact k_zret hx hb hr hlk (by omega) hQ ((0, pic)) (⟨rfl, by rw [if_neg (by omega)]⟩) hP hD hS d_Mod_slope_25
    · refine lv_iload_n hx hb d_Mod_slope_12 rfl (lv_at hl 2 rfl) ?_
      refine lv_bipush (v := iv (-32)) hx hb d_Mod_slope_13 rfl ?_
      refine k_icmp_lt (tgt := 24) hx hb d_Mod_slope_15 (by decide) (by omega) (by omega) (fun hc15 => ?_) (fun hc15 => ?_)
      · refine lv_iconst (v := iv (0)) hx hb d_Mod_slope_24 rfl ?_
        exact k_zret hx hb hr hlk (by omega) hQ ((0, pic)) (⟨rfl, by rw [if_neg (by omega)]⟩) hP hD hS d_Mod_slope_25
      · refine lv_iload_n hx hb d_Mod_slope_18 rfl (lv_at hl 2 rfl) ?_
        refine lv_bipush (v := iv (32)) hx hb d_Mod_slope_19 rfl ?_
        refine k_icmp_le (tgt := 26) hx hb d_Mod_slope_21 (by decide) (by omega) (by omega) (fun hc21 => ?_) (fun hc21 => ?_)
        · refine lv_iconst (v := iv (0)) hx hb d_Mod_slope_26 rfl ?_
          refine lv_istore_n hx hb d_Mod_slope_27 rfl hl (by decide) rfl (fun ls hl => ?_)
          have hl : lv_has ls 5 [(3, .int (iv (0))), (0, .ref rM), (1, .int (iv (a1))), (2, .int (iv (d1)))] := hl
          refine lo_up (P := fun y => ∀ (ls : Array Slot) (H : Heap) (locs : List Loc) (p1 : Int → Int), lv_has ls 5 [(0, .ref rM), (1, .int (iv (a1))), (2, .int (iv (d1))), (3, .int (iv (y)))] → va_P (gD G) classes [o_Mod rM wd ht rP rk rG rW rK kd db ew ac dn pr nu de rE rst wr rd rev rod cn rp rb ba sz1 lb rm cu sp nz rbl sl uz, (rP, ai (gI G) 256 (p1))] H → va_D A [o_Mod rM wd ht rP rk rG rW rK kd db ew ac dn pr nu de rE rst wr rd rev rod cn rp rb ba sz1 lb rm cu sp nz rbl sl uz, (rP, ai (gI G) 256 (p1))] → va_S A s.heap H locs → (p1 = smA a1 d1 wd y pic) → (∀ j, -128 ≤ p1 j ∧ p1 j ≤ 127) → W p l e r_Mod_slope s m args below meth c H locs 0 0 Q (F0 m 28 ls [])) (a := 0) (b := ht) (fun y hiy hjy ihy => ?_) _ _ _ pic (lv_sub hl [1, 2, 3, 0] rfl) hP hD hS (it_self _ _ _).symm hpic
          intro ls H locs p1 hl hP hD hS hs hp1
          refine lv_iload_n hx hb d_Mod_slope_28 rfl (lv_at hl 3 rfl) ?_
          refine lv_aload_n hx hb d_Mod_slope_29 rfl (lv_at hl 0 rfl) ?_
          refine va_get (D := gD G) (ci := 7) (v := .int (iv (ht))) (C := R_Mod) (T := F_Mod) (N := 34) hx hb hw in_Mod hown hK hP 0 rfl rfl 1 (by decide) (hw _ m3_125) (fun _ h => h) rfl d_Mod_slope_30 ?_
          refine k_icmp_ge (tgt := 97) hx hb d_Mod_slope_33 (by decide) (by omega) (by omega) (fun hc33 => ?_) (fun hc33 => ?_)
          · refine lv_iconst (v := iv (1)) hx hb d_Mod_slope_97 rfl ?_
            exact k_zret hx hb hr hlk (by omega) hQ ((1, p1)) (⟨rfl, by rw [if_pos (by omega), show smA a1 d1 wd ht pic = p1 from (by rw [hs]; unfold smA; exact (it_x _ _ hc33 hjy).symm)]⟩) hP hD hS d_Mod_slope_98
          · refine lv_iconst (v := iv (0)) hx hb d_Mod_slope_36 rfl ?_
            refine lv_istore hx hb d_Mod_slope_37 hl (by decide) rfl (fun ls hl => ?_)
            have hl : lv_has ls 5 [(4, .int (iv (0))), (0, .ref rM), (1, .int (iv (a1))), (2, .int (iv (d1))), (3, .int (iv (y)))] := hl
            refine lo_up (P := fun x => ∀ (ls : Array Slot) (H : Heap) (locs : List Loc) (p2 : Int → Int), lv_has ls 5 [(0, .ref rM), (1, .int (iv (a1))), (2, .int (iv (d1))), (3, .int (iv (y))), (4, .int (iv (x)))] → va_P (gD G) classes [o_Mod rM wd ht rP rk rG rW rK kd db ew ac dn pr nu de rE rst wr rd rev rod cn rp rb ba sz1 lb rm cu sp nz rbl sl uz, (rP, ai (gI G) 256 (p2))] H → va_D A [o_Mod rM wd ht rP rk rG rW rK kd db ew ac dn pr nu de rE rst wr rd rev rod cn rp rb ba sz1 lb rm cu sp nz rbl sl uz, (rP, ai (gI G) 256 (p2))] → va_S A s.heap H locs → (p2 = it (fun x f => up f (16 * y + x) (clp (f (16 * y + x) + a1 * x + d1 * y))) 0 x p1) → (∀ j, -128 ≤ p2 j ∧ p2 j ≤ 127) → W p l e r_Mod_slope s m args below meth c H locs 0 0 Q (F0 m 39 ls [])) (a := 0) (b := wd) (fun x hix hjx ihx => ?_) _ _ _ p1 (lv_sub hl [1, 2, 3, 4, 0] rfl) hP hD hS (it_self _ _ _).symm hp1
            intro ls H locs p2 hl hP hD hS hs2 hp2
            refine lv_iload hx hb d_Mod_slope_39 (lv_at hl 4 rfl) ?_
            refine lv_aload_n hx hb d_Mod_slope_41 rfl (lv_at hl 0 rfl) ?_
            refine va_get (D := gD G) (ci := 7) (v := .int (iv (wd))) (C := R_Mod) (T := F_Mod) (N := 34) hx hb hw in_Mod hown hK hP 0 rfl rfl 0 (by decide) (hw _ m3_124) (fun _ h => h) rfl d_Mod_slope_42 ?_
            refine k_icmp_ge (tgt := 91) hx hb d_Mod_slope_45 (by decide) (by omega) (by omega) (fun hc45 => ?_) (fun hc45 => ?_)
            · refine lv_iinc (k := 3) (v := iv (y + 1)) hx hb d_Mod_slope_91 hl rfl (iv_add _ _) (by decide) rfl (fun ls hl => ?_)
              have hl : lv_has ls 5 [(3, .int (iv (y + 1))), (0, .ref rM), (1, .int (iv (a1))), (2, .int (iv (d1))), (4, .int (iv (x)))] := hl
              refine lv_goto (tgt := 28) hx hb d_Mod_slope_94 (by decide) ?_
              exact ihy (by omega) _ _ _ p2 (lv_sub hl [1, 2, 3, 0] rfl) hP hD hS (by unfold smA; rw [it_s _ _ hiy]; show _ = it (fun x f => up f (16 * y + x) (clp (f (16 * y + x) + a1 * x + d1 * y))) 0 wd (smA a1 d1 wd y pic); rw [← hs, hs2]; exact it_x _ _ hc45 hjx) hp2
            · refine lv_aload_n hx hb d_Mod_slope_48 rfl (lv_at hl 0 rfl) ?_
              refine va_get (D := gD G) (ci := 7) (v := .ref rP) (C := R_Mod) (T := F_Mod) (N := 34) hx hb hw in_Mod hown hK hP 0 rfl rfl 2 (by decide) (hw _ m3_126) (fun _ h => h) rfl d_Mod_slope_49 ?_
              refine lv_bipush (v := iv (16)) hx hb d_Mod_slope_52 rfl ?_
              refine lv_iload_n hx hb d_Mod_slope_54 rfl (lv_at hl 3 rfl) ?_
              refine k_imul hx hb d_Mod_slope_55 ?_
              refine lv_iload hx hb d_Mod_slope_56 (lv_at hl 4 rfl) ?_
              refine k_iadd hx hb d_Mod_slope_58 ?_
              refine lv_aload_n hx hb d_Mod_slope_59 rfl (lv_at hl 0 rfl) ?_
              refine va_get (D := gD G) (ci := 7) (v := .ref rP) (C := R_Mod) (T := F_Mod) (N := 34) hx hb hw in_Mod hown hK hP 0 rfl rfl 2 (by decide) (hw _ m3_126) (fun _ h => h) rfl d_Mod_slope_60 ?_
              refine lv_bipush (v := iv (16)) hx hb d_Mod_slope_63 rfl ?_
              refine lv_iload_n hx hb d_Mod_slope_65 rfl (lv_at hl 3 rfl) ?_
              refine k_imul hx hb d_Mod_slope_66 ?_
              refine lv_iload hx hb d_Mod_slope_67 (lv_at hl 4 rfl) ?_
              refine k_iadd hx hb d_Mod_slope_69 ?_
              refine k_ial hx hb hK hP 1 0 rfl rfl (by decide) (by omega) d_Mod_slope_70 ?_
              refine lv_iload_n hx hb d_Mod_slope_71 rfl (lv_at hl 1 rfl) ?_
              refine lv_iload hx hb d_Mod_slope_72 (lv_at hl 4 rfl) ?_
              refine k_imul hx hb d_Mod_slope_74 ?_
              refine k_iadd hx hb d_Mod_slope_75 ?_
              refine lv_iload_n hx hb d_Mod_slope_76 rfl (lv_at hl 2 rfl) ?_
              refine lv_iload_n hx hb d_Mod_slope_77 rfl (lv_at hl 3 rfl) ?_
              refine k_imul hx hb d_Mod_slope_78 ?_
              refine k_iadd hx hb d_Mod_slope_79 ?_
              have b1 := hp2 (16 * y + x)
              have b2 := mul_b (a := a1) (b := x) (by omega) (by omega)
              have b3 := mul_b (a := d1) (b := y) (by omega) (by omega)
              refine k_i2l hx hb d_Mod_slope_80 (by omega) ?_
              refine k_ciR (k_rs S (c_Mod_clip l G _ (lw (((p2 ((16 * y) + x)) + (a1 * x)) + (d1 * y))) ) 1 m4_2 m4_0 m4_1 m1_9 (by decide +kernel) (by decide) rfl rfl (k_preS hK hP hD hS hA hT [] (by decide) rfl) rfl hl.1 rfl (Nat.le_of_ble_eq_true rfl) d_Mod_slope_81 ⟨Nat.le_of_ble_eq_true rfl, Nat.le_of_ble_eq_true rfl⟩) (fun r81 h81 => ?_)
              subst h81
              refine k_eqi (b := clp (p2 (16 * y + x) + a1 * x + d1 * y)) (by rw [lw_toInt ⟨by omega, by omega⟩]) ?_
              refine k_ias hx hb hK hP hD hS 1 0 rfl rfl (by decide) (by omega) d_Mod_slope_84 (fun H locs hP hD hS => ?_)
              have hP : va_P (gD G) classes [o_Mod rM wd ht rP rk rG rW rK kd db ew ac dn pr nu de rE rst wr rd rev rod cn rp rb ba sz1 lb rm cu sp nz rbl sl uz, (rP, ai (gI G) 256 (up p2 ((16 * y) + x) (clp (p2 (16 * y + x) + a1 * x + d1 * y))))] H := hP
              have hD : va_D A [o_Mod rM wd ht rP rk rG rW rK kd db ew ac dn pr nu de rE rst wr rd rev rod cn rp rb ba sz1 lb rm cu sp nz rbl sl uz, (rP, ai (gI G) 256 (up p2 ((16 * y) + x) (clp (p2 (16 * y + x) + a1 * x + d1 * y))))] := hD
              refine lv_iinc (k := 4) (v := iv (x + 1)) hx hb d_Mod_slope_85 hl rfl (iv_add _ _) (by decide) rfl (fun ls hl => ?_)
              have hl : lv_has ls 5 [(4, .int (iv (x + 1))), (0, .ref rM), (1, .int (iv (a1))), (2, .int (iv (d1))), (3, .int (iv (y)))] := hl
              refine lv_goto (tgt := 39) hx hb d_Mod_slope_88 (by decide) ?_
              exact ihx (by omega) _ _ _ (up p2 ((16 * y) + x) (clp (p2 (16 * y + x) + a1 * x + d1 * y))) (lv_sub hl [1, 2, 3, 4, 0] rfl) hP hD hS (by rw [it_s _ _ hix, ← hs2]) (fun j => up_r hp2 (clp_r _) j)
        · refine lv_iconst (v := iv (0)) hx hb d_Mod_slope_24 rfl ?_
          exact k_zret hx hb hr hlk (by omega) hQ ((0, pic)) (⟨rfl, by rw [if_neg (by omega)]⟩) hP hD hS d_Mod_slope_25
abbrev w_Mod_bands : List Cond := Cond.code y_Mod_bands prog_9_method_12_code 1 (some .int) :: wl
abbrev r_Mod_bands : Room := { frames := 0, cells := 0, slots := 0, locals := 0 }
set_option maxHeartbeats 4000000 in
set_option maxRecDepth 100000 in
theorem c_Mod_bands (l : Launch) (G : k_G) (sz : Nat) (rM rP rk rG rW rK rE rst rev rod rp rb rbl : Nat) (wd ht kd db ew ac dn pr nu de wr rd cn ba sz1 lb rm cu sp nz sl uz : Int) : Met l y_Mod_bands w_Mod_bands r_Mod_bands (k_P G [.ref rM] [o_Mod rM wd ht rP rk rG rW rK kd db ew ac dn pr nu de rE rst wr rd rev rod cn rp rb ba sz1 lb rm cu sp nz rbl sl uz] sz) (vp_Si (fun r : Int32 => r = iv (1 + ew + 3 * db))) 0 0 (fun _ => False) := by
  refine k_met (fun _ => vp_Si (fun r : Int32 => r = iv (1 + ew + 3 * db))) (fun _ _ => False) (by decide) rfl (Nat.le_of_ble_eq_true rfl) (fun p e s m args below meth c ls A Q S hr hlk hnm hl hsz hP hK hD hS hA hT hQ => ?_)
  obtain ⟨hx, hb, hml, hown, hts⟩ := id S
  have hw : ∀ w ∈ wl, w.before args s = true := fun w h => hts w (List.mem_cons_of_mem _ h)
  have hl : lv_has ls 1 [(0, .ref rM)] := hl
  refine lv_iconst (v := iv (1)) hx hb d_Mod_bands_0 rfl ?_
  refine lv_aload_n hx hb d_Mod_bands_1 rfl (lv_at hl 0 rfl) ?_
  refine va_get (D := gD G) (ci := 7) (v := .int (iv (ew))) (C := R_Mod) (T := F_Mod) (N := 34) hx hb hw in_Mod hown hK hP 0 rfl rfl 9 (by decide) (hw _ m3_133) (fun _ h => h) rfl d_Mod_bands_2 ?_
  refine k_iadd hx hb d_Mod_bands_5 ?_
  refine lv_iconst (v := iv (3)) hx hb d_Mod_bands_6 rfl ?_
  refine lv_aload_n hx hb d_Mod_bands_7 rfl (lv_at hl 0 rfl) ?_
  refine va_get (D := gD G) (ci := 7) (v := .int (iv (db))) (C := R_Mod) (T := F_Mod) (N := 34) hx hb hw in_Mod hown hK hP 0 rfl rfl 8 (by decide) (hw _ m3_132) (fun _ h => h) rfl d_Mod_bands_8 ?_
  refine k_imul hx hb d_Mod_bands_11 ?_
  refine k_iadd hx hb d_Mod_bands_12 ?_
  exact k_iretR hx hb hr hlk hQ (rfl) d_Mod_bands_13
abbrev w_Mod_filter : List Cond := Cond.code y_Mod_filter prog_9_method_8_code 5 (some .boolean) :: wl
abbrev r_Mod_filter : Room := { frames := 1, cells := 0, slots := 0, locals := 20 }
set_option maxHeartbeats 4000000 in
set_option maxRecDepth 100000 in
theorem c_Mod_filter (l : Launch) (G : k_G) (sz : Nat) (rM rP rk rG rW rK rE rst rev rod rp rb rbl : Nat) (f0 d0 e0 wd ht kd db ew ac dn pr nu de wr rd cn ba sz1 lb rm cu sp nz sl uz : Int) (es : Int → Int) (h_f0 : -2147483648 ≤ f0 ∧ f0 < 2147483648) (h_d0 : -2147483648 ≤ d0 ∧ d0 < 2147483648) (h_e0 : -2147483648 ≤ e0 ∧ e0 < 2147483648) : Met l y_Mod_filter w_Mod_filter r_Mod_filter (k_P G [.ref rM, .int (iv (f0)), .int (iv (d0)), .int (iv (e0))] [o_Mod rM wd ht rP rk rG rW rK kd db ew ac dn pr nu de rE rst wr rd rev rod cn rp rb ba sz1 lb rm cu sp nz rbl sl uz, (rE, ai (gI G) 8 (es))] sz) (qi G (fun (r : Int32) (u : Int × Int × Int × Int × (Int → Int) × Int × Int) => r = iv (u.1) ∧ (u = if (0 ≤ f0 ∧ f0 ≤ 6) ∧ (0 ≤ d0 ∧ d0 ≤ 2) ∧ (0 ≤ e0 ∧ e0 ≤ 2) ∧ d0 + e0 ≤ 3 then (1, f0, d0, e0, it (fun i f => up f i 0) 0 8 es, 0, 0) else (0, kd, db, ew, es, wr, rd))) (fun u : Int × Int × Int × Int × (Int → Int) × Int × Int => [o_Mod rM wd ht rP rk rG rW rK u.2.1 u.2.2.1 u.2.2.2.1 ac dn pr nu de rE rst u.2.2.2.2.2.1 u.2.2.2.2.2.2 rev rod cn rp rb ba sz1 lb rm cu sp nz rbl sl uz, (rE, ai (gI G) 8 (u.2.2.2.2.1))]) (va_A [o_Mod rM wd ht rP rk rG rW rK kd db ew ac dn pr nu de rE rst wr rd rev rod cn rp rb ba sz1 lb rm cu sp nz rbl sl uz, (rE, ai (gI G) 8 (es))] sz)) 0 0 (va_A [o_Mod rM wd ht rP rk rG rW rK kd db ew ac dn pr nu de rE rst wr rd rev rod cn rp rb ba sz1 lb rm cu sp nz rbl sl uz, (rE, ai (gI G) 8 (es))] sz) := by
  refine k_met (fun A => qi G (fun (r : Int32) (u : Int × Int × Int × Int × (Int → Int) × Int × Int) => r = iv (u.1) ∧ (u = if (0 ≤ f0 ∧ f0 ≤ 6) ∧ (0 ≤ d0 ∧ d0 ≤ 2) ∧ (0 ≤ e0 ∧ e0 ≤ 2) ∧ d0 + e0 ≤ 3 then (1, f0, d0, e0, it (fun i f => up f i 0) 0 8 es, 0, 0) else (0, kd, db, ew, es, wr, rd))) (fun u : Int × Int × Int × Int × (Int → Int) × Int × Int => [o_Mod rM wd ht rP rk rG rW rK u.2.1 u.2.2.1 u.2.2.2.1 ac dn pr nu de rE rst u.2.2.2.2.2.1 u.2.2.2.2.2.2 rev rod cn rp rb ba sz1 lb rm cu sp nz rbl sl uz, (rE, ai (gI G) 8 (u.2.2.2.2.1))]) A) (fun A => A) (by decide) rfl (Nat.le_of_ble_eq_true rfl) (fun p e s m args below meth c ls A Q S hr hlk hnm hl hsz hP hK hD hS hA hT hQ => ?_)
  obtain ⟨hx, hb, hml, hown, hts⟩ := id S
  have hw : ∀ w ∈ wl, w.before args s = true := fun w h => hts w (List.mem_cons_of_mem _ h)
  have hl : lv_has ls 5 [(0, .ref rM), (1, .int (iv (f0))), (2, .int (iv (d0))), (3, .int (iv (e0)))] := hl
  refine lv_iload_n hx hb d_Mod_filter_0 rfl (lv_at hl 1 rfl) ?_
  refine k_if_lt (tgt := 35) hx hb d_Mod_filter_1 (by decide) (by omega) (fun hc1 => ?_) (fun hc1 => ?_)
  · refine lv_iconst (v := iv (0)) hx hb d_Mod_filter_35 rfl ?_
    exact k_zret hx hb hr hlk (by omega) hQ ((0, kd, db, ew, es, wr, rd)) (⟨rfl, by rw [if_neg (by omega)]⟩) hP hD hS d_Mod_filter_36
  · refine lv_iload_n hx hb d_Mod_filter_4 rfl (lv_at hl 1 rfl) ?_
    refine lv_bipush (v := iv (6)) hx hb d_Mod_filter_5 rfl ?_
    refine k_icmp_gt (tgt := 35) hx hb d_Mod_filter_7 (by decide) (by omega) (by omega) (fun hc7 => ?_) (fun hc7 => ?_)
    · refine lv_iconst (v := iv (0)) hx hb d_Mod_filter_35 rfl ?_
      exact k_zret hx hb hr hlk (by omega) hQ ((0, kd, db, ew, es, wr, rd)) (⟨rfl, by rw [if_neg (by omega)]⟩) hP hD hS d_Mod_filter_36
    · refine lv_iload_n hx hb d_Mod_filter_10 rfl (lv_at hl 2 rfl) ?_
      refine k_if_lt (tgt := 35) hx hb d_Mod_filter_11 (by decide) (by omega) (fun hc11 => ?_) (fun hc11 => ?_)
      · refine lv_iconst (v := iv (0)) hx hb d_Mod_filter_35 rfl ?_
        exact k_zret hx hb hr hlk (by omega) hQ ((0, kd, db, ew, es, wr, rd)) (⟨rfl, by rw [if_neg (by omega)]⟩) hP hD hS d_Mod_filter_36
      · refine lv_iload_n hx hb d_Mod_filter_14 rfl (lv_at hl 2 rfl) ?_
        refine lv_iconst (v := iv (2)) hx hb d_Mod_filter_15 rfl ?_
        refine k_icmp_gt (tgt := 35) hx hb d_Mod_filter_16 (by decide) (by omega) (by omega) (fun hc16 => ?_) (fun hc16 => ?_)
        · refine lv_iconst (v := iv (0)) hx hb d_Mod_filter_35 rfl ?_
          exact k_zret hx hb hr hlk (by omega) hQ ((0, kd, db, ew, es, wr, rd)) (⟨rfl, by rw [if_neg (by omega)]⟩) hP hD hS d_Mod_filter_36
        · refine lv_iload_n hx hb d_Mod_filter_19 rfl (lv_at hl 3 rfl) ?_
          refine k_if_lt (tgt := 35) hx hb d_Mod_filter_20 (by decide) (by omega) (fun hc20 => ?_) (fun hc20 => ?_)
          · refine lv_iconst (v := iv (0)) hx hb d_Mod_filter_35 rfl ?_
            exact k_zret hx hb hr hlk (by omega) hQ ((0, kd, db, ew, es, wr, rd)) (⟨rfl, by rw [if_neg (by omega)]⟩) hP hD hS d_Mod_filter_36
          · refine lv_iload_n hx hb d_Mod_filter_23 rfl (lv_at hl 3 rfl) ?_
            refine lv_iconst (v := iv (2)) hx hb d_Mod_filter_24 rfl ?_
            refine k_icmp_gt (tgt := 35) hx hb d_Mod_filter_25 (by decide) (by omega) (by omega) (fun hc25 => ?_) (fun hc25 => ?_)
            · refine lv_iconst (v := iv (0)) hx hb d_Mod_filter_35 rfl ?_
              exact k_zret hx hb hr hlk (by omega) hQ ((0, kd, db, ew, es, wr, rd)) (⟨rfl, by rw [if_neg (by omega)]⟩) hP hD hS d_Mod_filter_36
            · refine lv_iload_n hx hb d_Mod_filter_28 rfl (lv_at hl 2 rfl) ?_
              refine lv_iload_n hx hb d_Mod_filter_29 rfl (lv_at hl 3 rfl) ?_
              refine k_iadd hx hb d_Mod_filter_30 ?_
              refine lv_iconst (v := iv (3)) hx hb d_Mod_filter_31 rfl ?_
              refine k_icmp_le (tgt := 37) hx hb d_Mod_filter_32 (by decide) (by omega) (by omega) (fun hc32 => ?_) (fun hc32 => ?_)
              · refine lv_aload_n hx hb d_Mod_filter_37 rfl (lv_at hl 0 rfl) ?_
                refine lv_iload_n hx hb d_Mod_filter_38 rfl (lv_at hl 1 rfl) ?_
                refine va_put (D := gD G) (ci := 7) (v := .int (iv (f0))) (ty := .int) (C := R_Mod) (T := F_Mod) (N := 34) hx hb hw in_Mod t_Mod t_Mod_ok n_Mod hown hK hP hD hS 0 rfl rfl 7 (by decide) (hw _ m3_131) (fun _ h => h) rfl (by decide +kernel) rfl rfl (Nat.le_of_ble_eq_true rfl) d_Mod_filter_39 (fun H locs hP hD hS => ?_)
                have hP : va_P (gD G) classes [o_Mod rM wd ht rP rk rG rW rK f0 db ew ac dn pr nu de rE rst wr rd rev rod cn rp rb ba sz1 lb rm cu sp nz rbl sl uz, (rE, ai (gI G) 8 (es))] H := hP
                have hD : va_D A [o_Mod rM wd ht rP rk rG rW rK f0 db ew ac dn pr nu de rE rst wr rd rev rod cn rp rb ba sz1 lb rm cu sp nz rbl sl uz, (rE, ai (gI G) 8 (es))] := hD
                refine lv_aload_n hx hb d_Mod_filter_42 rfl (lv_at hl 0 rfl) ?_
                refine lv_iload_n hx hb d_Mod_filter_43 rfl (lv_at hl 2 rfl) ?_
                refine va_put (D := gD G) (ci := 7) (v := .int (iv (d0))) (ty := .int) (C := R_Mod) (T := F_Mod) (N := 34) hx hb hw in_Mod t_Mod t_Mod_ok n_Mod hown hK hP hD hS 0 rfl rfl 8 (by decide) (hw _ m3_132) (fun _ h => h) rfl (by decide +kernel) rfl rfl (Nat.le_of_ble_eq_true rfl) d_Mod_filter_44 (fun H locs hP hD hS => ?_)
                have hP : va_P (gD G) classes [o_Mod rM wd ht rP rk rG rW rK f0 d0 ew ac dn pr nu de rE rst wr rd rev rod cn rp rb ba sz1 lb rm cu sp nz rbl sl uz, (rE, ai (gI G) 8 (es))] H := hP
                have hD : va_D A [o_Mod rM wd ht rP rk rG rW rK f0 d0 ew ac dn pr nu de rE rst wr rd rev rod cn rp rb ba sz1 lb rm cu sp nz rbl sl uz, (rE, ai (gI G) 8 (es))] := hD
                refine lv_aload_n hx hb d_Mod_filter_47 rfl (lv_at hl 0 rfl) ?_
                refine lv_iload_n hx hb d_Mod_filter_48 rfl (lv_at hl 3 rfl) ?_
                refine va_put (D := gD G) (ci := 7) (v := .int (iv (e0))) (ty := .int) (C := R_Mod) (T := F_Mod) (N := 34) hx hb hw in_Mod t_Mod t_Mod_ok n_Mod hown hK hP hD hS 0 rfl rfl 9 (by decide) (hw _ m3_133) (fun _ h => h) rfl (by decide +kernel) rfl rfl (Nat.le_of_ble_eq_true rfl) d_Mod_filter_49 (fun H locs hP hD hS => ?_)
                have hP : va_P (gD G) classes [o_Mod rM wd ht rP rk rG rW rK f0 d0 e0 ac dn pr nu de rE rst wr rd rev rod cn rp rb ba sz1 lb rm cu sp nz rbl sl uz, (rE, ai (gI G) 8 (es))] H := hP
                have hD : va_D A [o_Mod rM wd ht rP rk rG rW rK f0 d0 e0 ac dn pr nu de rE rst wr rd rev rod cn rp rb ba sz1 lb rm cu sp nz rbl sl uz, (rE, ai (gI G) 8 (es))] := hD
                refine lv_iconst (v := iv (0)) hx hb d_Mod_filter_52 rfl ?_
                refine lv_istore hx hb d_Mod_filter_53 hl (by decide) rfl (fun ls hl => ?_)
                have hl : lv_has ls 5 [(4, .int (iv (0))), (0, .ref rM), (1, .int (iv (f0))), (2, .int (iv (d0))), (3, .int (iv (e0)))] := hl
                refine lo_up (P := fun i => ∀ (ls : Array Slot) (H : Heap) (locs : List Loc) (e1 : Int → Int), lv_has ls 5 [(0, .ref rM), (1, .int (iv (f0))), (2, .int (iv (d0))), (3, .int (iv (e0))), (4, .int (iv (i)))] → va_P (gD G) classes [o_Mod rM wd ht rP rk rG rW rK f0 d0 e0 ac dn pr nu de rE rst wr rd rev rod cn rp rb ba sz1 lb rm cu sp nz rbl sl uz, (rE, ai (gI G) 8 (e1))] H → va_D A [o_Mod rM wd ht rP rk rG rW rK f0 d0 e0 ac dn pr nu de rE rst wr rd rev rod cn rp rb ba sz1 lb rm cu sp nz rbl sl uz, (rE, ai (gI G) 8 (e1))] → va_S A s.heap H locs → (e1 = it (fun i f => up f i 0) 0 i es) → W p l e r_Mod_filter s m args below meth c H locs 0 0 Q (F0 m 55 ls [])) (a := 0) (b := 8) (fun i hii hji ihi => ?_) _ _ _ es (lv_sub hl [1, 2, 3, 4, 0] rfl) hP hD hS (it_self _ _ _).symm
                intro ls H locs e1 hl hP hD hS hs
                refine lv_iload hx hb d_Mod_filter_55 (lv_at hl 4 rfl) ?_
                refine lv_bipush (v := iv (8)) hx hb d_Mod_filter_57 rfl ?_
                refine k_icmp_ge (tgt := 76) hx hb d_Mod_filter_59 (by decide) (by omega) (by omega) (fun hc59 => ?_) (fun hc59 => ?_)
                · refine lv_aload_n hx hb d_Mod_filter_76 rfl (lv_at hl 0 rfl) ?_
                  refine k_cv (wz := fun u : Int × Int => [o_Mod rM wd ht rP rk rG rW rK f0 d0 e0 ac dn pr nu de rE rst u.1 u.2 rev rod cn rp rb ba sz1 lb rm cu sp nz rbl sl uz, (rE, ai (gI G) 8 (e1))]) (wr := [(rE, ai (gI G) 8 (e1))]) (k_rv S (c_Mod_forget l G _ rM rP rk rG rW rK rE rst rev rod rp rb rbl wd ht f0 d0 e0 ac dn pr nu de wr rd cn ba sz1 lb rm cu sp nz sl uz ) 0 m4_16 m4_13 m4_15 mp_21 m1_9 (by decide +kernel) (by decide) rfl rfl (k_preV (q0 := 0) hK hP hD hS hA hT rfl rfl [0] (by decide) rfl) rfl hl.1 rfl (Nat.le_of_ble_eq_true rfl) d_Mod_filter_77 ⟨Nat.le_of_ble_eq_true rfl, Nat.le_of_ble_eq_true rfl⟩) hP hD hS hA [0] [1] [1, 0] rfl rfl (by decide) (by decide) (by decide) (fun _ => rfl) (fun u77 H locs h77 hP hD hS => ?_)
                  subst h77
                  have hP : va_P (gD G) classes [o_Mod rM wd ht rP rk rG rW rK f0 d0 e0 ac dn pr nu de rE rst 0 0 rev rod cn rp rb ba sz1 lb rm cu sp nz rbl sl uz, (rE, ai (gI G) 8 (e1))] H := hP
                  have hD : va_D A [o_Mod rM wd ht rP rk rG rW rK f0 d0 e0 ac dn pr nu de rE rst 0 0 rev rod cn rp rb ba sz1 lb rm cu sp nz rbl sl uz, (rE, ai (gI G) 8 (e1))] := hD
                  refine lv_iconst (v := iv (1)) hx hb d_Mod_filter_80 rfl ?_
                  exact k_zret hx hb hr hlk (by omega) hQ ((1, f0, d0, e0, e1, 0, 0)) (⟨rfl, by rw [if_pos (by omega), show it (fun i f => up f i 0) 0 8 es = e1 from (by rw [hs]; exact (it_x _ _ hc59 hji).symm)]⟩) hP hD hS d_Mod_filter_81
                · refine lv_aload_n hx hb d_Mod_filter_62 rfl (lv_at hl 0 rfl) ?_
                  refine va_get (D := gD G) (ci := 7) (v := .ref rE) (C := R_Mod) (T := F_Mod) (N := 34) hx hb hw in_Mod hown hK hP 0 rfl rfl 15 (by decide) (hw _ m3_139) (fun _ h => h) rfl d_Mod_filter_63 ?_
                  refine lv_iload hx hb d_Mod_filter_66 (lv_at hl 4 rfl) ?_
                  refine lv_iconst (v := iv (0)) hx hb d_Mod_filter_68 rfl ?_
                  refine k_ias hx hb hK hP hD hS 1 0 rfl rfl (by decide) (by omega) d_Mod_filter_69 (fun H locs hP hD hS => ?_)
                  have hP : va_P (gD G) classes [o_Mod rM wd ht rP rk rG rW rK f0 d0 e0 ac dn pr nu de rE rst wr rd rev rod cn rp rb ba sz1 lb rm cu sp nz rbl sl uz, (rE, ai (gI G) 8 (up e1 i 0))] H := hP
                  have hD : va_D A [o_Mod rM wd ht rP rk rG rW rK f0 d0 e0 ac dn pr nu de rE rst wr rd rev rod cn rp rb ba sz1 lb rm cu sp nz rbl sl uz, (rE, ai (gI G) 8 (up e1 i 0))] := hD
                  refine lv_iinc (k := 4) (v := iv (i + 1)) hx hb d_Mod_filter_70 hl rfl (iv_add _ _) (by decide) rfl (fun ls hl => ?_)
                  have hl : lv_has ls 5 [(4, .int (iv (i + 1))), (0, .ref rM), (1, .int (iv (f0))), (2, .int (iv (d0))), (3, .int (iv (e0)))] := hl
                  refine lv_goto (tgt := 55) hx hb d_Mod_filter_73 (by decide) ?_
                  exact ihi (by omega) _ _ _ (up e1 i 0) (lv_sub hl [1, 2, 3, 4, 0] rfl) hP hD hS (by rw [it_s _ _ hii, ← hs])
              · refine lv_iconst (v := iv (0)) hx hb d_Mod_filter_35 rfl ?_
                exact k_zret hx hb hr hlk (by omega) hQ ((0, kd, db, ew, es, wr, rd)) (⟨rfl, by rw [if_neg (by omega)]⟩) hP hD hS d_Mod_filter_36
abbrev w_Mod_slices : List Cond := Cond.code y_Mod_slices prog_9_method_9_code 4 (some .boolean) :: wl
abbrev r_Mod_slices : Room := { frames := 1, cells := 0, slots := 0, locals := 20 }
set_option maxHeartbeats 4000000 in
set_option maxRecDepth 100000 in
theorem c_Mod_slices (l : Launch) (G : k_G) (sz : Nat) (rM rP rk rG rW rK rE rst rev rod rp rb rbl : Nat) (a1 d1 p1 wd ht kd db ew ac dn pr nu de wr rd cn ba sz1 lb rm cu sp nz sl uz : Int) (h_a1 : -2147483648 ≤ a1 ∧ a1 < 2147483648) (h_d1 : -2147483648 ≤ d1 ∧ d1 < 2147483648) (hp1 : p1 = 0 ∨ p1 = 1) : Met l y_Mod_slices w_Mod_slices r_Mod_slices (k_P G [.ref rM, .int (iv (a1)), .int (iv (d1)), .int (iv (p1))] [o_Mod rM wd ht rP rk rG rW rK kd db ew ac dn pr nu de rE rst wr rd rev rod cn rp rb ba sz1 lb rm cu sp nz rbl sl uz] sz) (qi G (fun (r : Int32) (u : Int × Int × Int × Int × Int × Int) => r = iv (u.1) ∧ (u = if (1 ≤ a1 ∧ a1 ≤ 4) ∧ 1 ≤ d1 ∧ d1 ≤ 4 then (1, a1, d1, p1, 0, 0) else (0, ac, dn, pr, wr, rd))) (fun u : Int × Int × Int × Int × Int × Int => [o_Mod rM wd ht rP rk rG rW rK kd db ew u.2.1 u.2.2.1 u.2.2.2.1 nu de rE rst u.2.2.2.2.1 u.2.2.2.2.2 rev rod cn rp rb ba sz1 lb rm cu sp nz rbl sl uz]) (va_A [o_Mod rM wd ht rP rk rG rW rK kd db ew ac dn pr nu de rE rst wr rd rev rod cn rp rb ba sz1 lb rm cu sp nz rbl sl uz] sz)) 0 0 (va_A [o_Mod rM wd ht rP rk rG rW rK kd db ew ac dn pr nu de rE rst wr rd rev rod cn rp rb ba sz1 lb rm cu sp nz rbl sl uz] sz) := by
  refine k_met (fun A => qi G (fun (r : Int32) (u : Int × Int × Int × Int × Int × Int) => r = iv (u.1) ∧ (u = if (1 ≤ a1 ∧ a1 ≤ 4) ∧ 1 ≤ d1 ∧ d1 ≤ 4 then (1, a1, d1, p1, 0, 0) else (0, ac, dn, pr, wr, rd))) (fun u : Int × Int × Int × Int × Int × Int => [o_Mod rM wd ht rP rk rG rW rK kd db ew u.2.1 u.2.2.1 u.2.2.2.1 nu de rE rst u.2.2.2.2.1 u.2.2.2.2.2 rev rod cn rp rb ba sz1 lb rm cu sp nz rbl sl uz]) A) (fun A => A) (by decide) rfl (Nat.le_of_ble_eq_true rfl) (fun p e s m args below meth c ls A Q S hr hlk hnm hl hsz hP hK hD hS hA hT hQ => ?_)
  obtain ⟨hx, hb, hml, hown, hts⟩ := id S
  have hw : ∀ w ∈ wl, w.before args s = true := fun w h => hts w (List.mem_cons_of_mem _ h)
  have hl : lv_has ls 4 [(0, .ref rM), (1, .int (iv (a1))), (2, .int (iv (d1))), (3, .int (iv (p1)))] := hl
  refine lv_iload_n hx hb d_Mod_slices_0 rfl (lv_at hl 1 rfl) ?_
  refine lv_iconst (v := iv (1)) hx hb d_Mod_slices_1 rfl ?_
  refine k_icmp_lt (tgt := 20) hx hb d_Mod_slices_2 (by decide) (by omega) (by omega) (fun hc2 => ?_) (fun hc2 => ?_)
  · refine lv_iconst (v := iv (0)) hx hb d_Mod_slices_20 rfl ?_
    exact k_zret hx hb hr hlk (by omega) hQ ((0, ac, dn, pr, wr, rd)) (⟨rfl, by first | rw [if_pos (by omega)] | rw [if_neg (by omega)]⟩) hP hD hS d_Mod_slices_21
  · refine lv_iload_n hx hb d_Mod_slices_5 rfl (lv_at hl 1 rfl) ?_
    refine lv_iconst (v := iv (4)) hx hb d_Mod_slices_6 rfl ?_
    refine k_icmp_gt (tgt := 20) hx hb d_Mod_slices_7 (by decide) (by omega) (by omega) (fun hc7 => ?_) (fun hc7 => ?_)
    · refine lv_iconst (v := iv (0)) hx hb d_Mod_slices_20 rfl ?_
      exact k_zret hx hb hr hlk (by omega) hQ ((0, ac, dn, pr, wr, rd)) (⟨rfl, by first | rw [if_pos (by omega)] | rw [if_neg (by omega)]⟩) hP hD hS d_Mod_slices_21
    · refine lv_iload_n hx hb d_Mod_slices_10 rfl (lv_at hl 2 rfl) ?_
      refine lv_iconst (v := iv (1)) hx hb d_Mod_slices_11 rfl ?_
      refine k_icmp_lt (tgt := 20) hx hb d_Mod_slices_12 (by decide) (by omega) (by omega) (fun hc12 => ?_) (fun hc12 => ?_)
      · refine lv_iconst (v := iv (0)) hx hb d_Mod_slices_20 rfl ?_
        exact k_zret hx hb hr hlk (by omega) hQ ((0, ac, dn, pr, wr, rd)) (⟨rfl, by first | rw [if_pos (by omega)] | rw [if_neg (by omega)]⟩) hP hD hS d_Mod_slices_21
      · refine lv_iload_n hx hb d_Mod_slices_15 rfl (lv_at hl 2 rfl) ?_
        refine lv_iconst (v := iv (4)) hx hb d_Mod_slices_16 rfl ?_
        refine k_icmp_le (tgt := 22) hx hb d_Mod_slices_17 (by decide) (by omega) (by omega) (fun hc17 => ?_) (fun hc17 => ?_)
        · refine lv_aload_n hx hb d_Mod_slices_22 rfl (lv_at hl 0 rfl) ?_
          refine lv_iload_n hx hb d_Mod_slices_23 rfl (lv_at hl 1 rfl) ?_
          refine va_put (D := gD G) (ci := 7) (v := .int (iv (a1))) (ty := .int) (C := R_Mod) (T := F_Mod) (N := 34) hx hb hw in_Mod t_Mod t_Mod_ok n_Mod hown hK hP hD hS 0 rfl rfl 10 (by decide) (hw _ m3_134) (fun _ h => h) rfl (by decide +kernel) rfl rfl (Nat.le_of_ble_eq_true rfl) d_Mod_slices_24 (fun H locs hP hD hS => ?_)
          have hP : va_P (gD G) classes [o_Mod rM wd ht rP rk rG rW rK kd db ew a1 dn pr nu de rE rst wr rd rev rod cn rp rb ba sz1 lb rm cu sp nz rbl sl uz] H := hP
          have hD : va_D A [o_Mod rM wd ht rP rk rG rW rK kd db ew a1 dn pr nu de rE rst wr rd rev rod cn rp rb ba sz1 lb rm cu sp nz rbl sl uz] := hD
          refine lv_aload_n hx hb d_Mod_slices_27 rfl (lv_at hl 0 rfl) ?_
          refine lv_iload_n hx hb d_Mod_slices_28 rfl (lv_at hl 2 rfl) ?_
          refine va_put (D := gD G) (ci := 7) (v := .int (iv (d1))) (ty := .int) (C := R_Mod) (T := F_Mod) (N := 34) hx hb hw in_Mod t_Mod t_Mod_ok n_Mod hown hK hP hD hS 0 rfl rfl 11 (by decide) (hw _ m3_135) (fun _ h => h) rfl (by decide +kernel) rfl rfl (Nat.le_of_ble_eq_true rfl) d_Mod_slices_29 (fun H locs hP hD hS => ?_)
          have hP : va_P (gD G) classes [o_Mod rM wd ht rP rk rG rW rK kd db ew a1 d1 pr nu de rE rst wr rd rev rod cn rp rb ba sz1 lb rm cu sp nz rbl sl uz] H := hP
          have hD : va_D A [o_Mod rM wd ht rP rk rG rW rK kd db ew a1 d1 pr nu de rE rst wr rd rev rod cn rp rb ba sz1 lb rm cu sp nz rbl sl uz] := hD
          refine lv_aload_n hx hb d_Mod_slices_32 rfl (lv_at hl 0 rfl) ?_
          refine lv_iload_n hx hb d_Mod_slices_33 rfl (lv_at hl 3 rfl) ?_
          refine va_put (D := gD G) (ci := 7) (v := .int (iv (p1))) (ty := .boolean) (C := R_Mod) (T := F_Mod) (N := 34) hx hb hw in_Mod t_Mod t_Mod_ok n_Mod hown hK hP hD hS 0 rfl rfl 12 (by decide) (hw _ m3_136) (fun _ h => h) rfl (by decide +kernel) (nar_z hp1) (fit_z hp1) (Nat.le_of_ble_eq_true rfl) d_Mod_slices_34 (fun H locs hP hD hS => ?_)
          have hP : va_P (gD G) classes [o_Mod rM wd ht rP rk rG rW rK kd db ew a1 d1 p1 nu de rE rst wr rd rev rod cn rp rb ba sz1 lb rm cu sp nz rbl sl uz] H := hP
          have hD : va_D A [o_Mod rM wd ht rP rk rG rW rK kd db ew a1 d1 p1 nu de rE rst wr rd rev rod cn rp rb ba sz1 lb rm cu sp nz rbl sl uz] := hD
          refine lv_aload_n hx hb d_Mod_slices_37 rfl (lv_at hl 0 rfl) ?_
          refine k_cv (wz := fun u : Int × Int => [o_Mod rM wd ht rP rk rG rW rK kd db ew a1 d1 p1 nu de rE rst u.1 u.2 rev rod cn rp rb ba sz1 lb rm cu sp nz rbl sl uz]) (wr := []) (k_rv S (c_Mod_forget l G _ rM rP rk rG rW rK rE rst rev rod rp rb rbl wd ht kd db ew a1 d1 p1 nu de wr rd cn ba sz1 lb rm cu sp nz sl uz ) 0 m4_16 m4_13 m4_15 mp_21 m1_9 (by decide +kernel) (by decide) rfl rfl (k_preV (q0 := 0) hK hP hD hS hA hT rfl rfl [0] (by decide) rfl) rfl hl.1 rfl (Nat.le_of_ble_eq_true rfl) d_Mod_slices_38 ⟨Nat.le_of_ble_eq_true rfl, Nat.le_of_ble_eq_true rfl⟩) hP hD hS hA [0] [] [0] rfl rfl (by decide) (by decide) (by decide) (fun _ => rfl) (fun u38 H locs h38 hP hD hS => ?_)
          subst h38
          have hP : va_P (gD G) classes [o_Mod rM wd ht rP rk rG rW rK kd db ew a1 d1 p1 nu de rE rst 0 0 rev rod cn rp rb ba sz1 lb rm cu sp nz rbl sl uz] H := hP
          have hD : va_D A [o_Mod rM wd ht rP rk rG rW rK kd db ew a1 d1 p1 nu de rE rst 0 0 rev rod cn rp rb ba sz1 lb rm cu sp nz rbl sl uz] := hD
          refine lv_iconst (v := iv (1)) hx hb d_Mod_slices_41 rfl ?_
          exact k_zret hx hb hr hlk (by omega) hQ ((1, a1, d1, p1, 0, 0)) (⟨rfl, by first | rw [if_pos (by omega)] | rw [if_neg (by omega)]⟩) hP hD hS d_Mod_slices_42
        · refine lv_iconst (v := iv (0)) hx hb d_Mod_slices_20 rfl ?_
          exact k_zret hx hb hr hlk (by omega) hQ ((0, ac, dn, pr, wr, rd)) (⟨rfl, by first | rw [if_pos (by omega)] | rw [if_neg (by omega)]⟩) hP hD hS d_Mod_slices_21
abbrev w_Mod_ease : List Cond := Cond.code y_Mod_ease prog_9_method_10_code 3 (some .boolean) :: wl
abbrev r_Mod_ease : Room := { frames := 1, cells := 0, slots := 0, locals := 20 }
set_option maxHeartbeats 4000000 in
set_option maxRecDepth 100000 in
theorem c_Mod_ease (l : Launch) (G : k_G) (sz : Nat) (rM rP rk rG rW rK rE rst rev rod rp rb rbl : Nat) (b0 m0 wd ht kd db ew ac dn pr nu de wr rd cn ba sz1 lb rm cu sp nz sl uz : Int) (es : Int → Int) (h_b0 : -2147483648 ≤ b0 ∧ b0 < 2147483648) (h_m0 : -2147483648 ≤ m0 ∧ m0 < 2147483648) (hde : 0 ≤ db ∧ db ≤ 2 ∧ 0 ≤ ew ∧ ew ≤ 2 ∧ db + ew ≤ 3) : Met l y_Mod_ease w_Mod_ease r_Mod_ease (k_P G [.ref rM, .int (iv (b0)), .int (iv (m0))] [o_Mod rM wd ht rP rk rG rW rK kd db ew ac dn pr nu de rE rst wr rd rev rod cn rp rb ba sz1 lb rm cu sp nz rbl sl uz, (rE, ai (gI G) 8 (es))] sz) (qi G (fun (r : Int32) (u : Int × (Int → Int) × Int × Int) => r = iv (u.1) ∧ (u = if (0 ≤ b0 ∧ b0 ≤ nBd db ew - 1) ∧ 0 ≤ m0 ∧ m0 ≤ 15 then (1, up es b0 m0, 0, 0) else (0, es, wr, rd))) (fun u : Int × (Int → Int) × Int × Int => [o_Mod rM wd ht rP rk rG rW rK kd db ew ac dn pr nu de rE rst u.2.2.1 u.2.2.2 rev rod cn rp rb ba sz1 lb rm cu sp nz rbl sl uz, (rE, ai (gI G) 8 (u.2.1))]) (va_A [o_Mod rM wd ht rP rk rG rW rK kd db ew ac dn pr nu de rE rst wr rd rev rod cn rp rb ba sz1 lb rm cu sp nz rbl sl uz, (rE, ai (gI G) 8 (es))] sz)) 0 0 (va_A [o_Mod rM wd ht rP rk rG rW rK kd db ew ac dn pr nu de rE rst wr rd rev rod cn rp rb ba sz1 lb rm cu sp nz rbl sl uz, (rE, ai (gI G) 8 (es))] sz) := by
  refine k_met (fun A => qi G (fun (r : Int32) (u : Int × (Int → Int) × Int × Int) => r = iv (u.1) ∧ (u = if (0 ≤ b0 ∧ b0 ≤ nBd db ew - 1) ∧ 0 ≤ m0 ∧ m0 ≤ 15 then (1, up es b0 m0, 0, 0) else (0, es, wr, rd))) (fun u : Int × (Int → Int) × Int × Int => [o_Mod rM wd ht rP rk rG rW rK kd db ew ac dn pr nu de rE rst u.2.2.1 u.2.2.2 rev rod cn rp rb ba sz1 lb rm cu sp nz rbl sl uz, (rE, ai (gI G) 8 (u.2.1))]) A) (fun A => A) (by decide) rfl (Nat.le_of_ble_eq_true rfl) (fun p e s m args below meth c ls A Q S hr hlk hnm hl hsz hP hK hD hS hA hT hQ => ?_)
  obtain ⟨hx, hb, hml, hown, hts⟩ := id S
  have hw : ∀ w ∈ wl, w.before args s = true := fun w h => hts w (List.mem_cons_of_mem _ h)
  have hl : lv_has ls 3 [(0, .ref rM), (1, .int (iv (b0))), (2, .int (iv (m0)))] := hl
  have n1 : nBd db ew = 1 + ew + 3 * db := rfl
  refine lv_iload_n hx hb d_Mod_ease_0 rfl (lv_at hl 1 rfl) ?_
  refine k_if_lt (tgt := 22) hx hb d_Mod_ease_1 (by decide) (by omega) (fun hc1 => ?_) (fun hc1 => ?_)
  · refine lv_iconst (v := iv (0)) hx hb d_Mod_ease_22 rfl ?_
    exact k_zret hx hb hr hlk (by omega) hQ ((0, es, wr, rd)) (⟨rfl, by first | rw [if_pos (by omega)] | rw [if_neg (by omega)]⟩) hP hD hS d_Mod_ease_23
  · refine lv_iload_n hx hb d_Mod_ease_4 rfl (lv_at hl 1 rfl) ?_
    refine lv_aload_n hx hb d_Mod_ease_5 rfl (lv_at hl 0 rfl) ?_
    refine k_ciR (k_rv S (c_Mod_bands l G _ rM rP rk rG rW rK rE rst rev rod rp rb rbl wd ht kd db ew ac dn pr nu de wr rd cn ba sz1 lb rm cu sp nz sl uz ) 0 m4_28 m4_25 m4_26 m4_27 m1_9 (by decide +kernel) (by decide) rfl rfl (k_preV (q0 := 0) hK hP hD hS hA hT rfl rfl [0] (by decide) rfl) rfl hl.1 rfl (Nat.le_of_ble_eq_true rfl) d_Mod_ease_6 ⟨Nat.le_of_ble_eq_true rfl, Nat.le_of_ble_eq_true rfl⟩) (fun r6 h6 => ?_)
    subst h6
    refine k_icmp_ge (tgt := 22) hx hb d_Mod_ease_9 (by decide) (by omega) (by omega) (fun hc9 => ?_) (fun hc9 => ?_)
    · refine lv_iconst (v := iv (0)) hx hb d_Mod_ease_22 rfl ?_
      exact k_zret hx hb hr hlk (by omega) hQ ((0, es, wr, rd)) (⟨rfl, by first | rw [if_pos (by omega)] | rw [if_neg (by omega)]⟩) hP hD hS d_Mod_ease_23
    · refine lv_iload_n hx hb d_Mod_ease_12 rfl (lv_at hl 2 rfl) ?_
      refine k_if_lt (tgt := 22) hx hb d_Mod_ease_13 (by decide) (by omega) (fun hc13 => ?_) (fun hc13 => ?_)
      · refine lv_iconst (v := iv (0)) hx hb d_Mod_ease_22 rfl ?_
        exact k_zret hx hb hr hlk (by omega) hQ ((0, es, wr, rd)) (⟨rfl, by first | rw [if_pos (by omega)] | rw [if_neg (by omega)]⟩) hP hD hS d_Mod_ease_23
      · refine lv_iload_n hx hb d_Mod_ease_16 rfl (lv_at hl 2 rfl) ?_
        refine lv_bipush (v := iv (15)) hx hb d_Mod_ease_17 rfl ?_
        refine k_icmp_le (tgt := 24) hx hb d_Mod_ease_19 (by decide) (by omega) (by omega) (fun hc19 => ?_) (fun hc19 => ?_)
        · refine lv_aload_n hx hb d_Mod_ease_24 rfl (lv_at hl 0 rfl) ?_
          refine va_get (D := gD G) (ci := 7) (v := .ref rE) (C := R_Mod) (T := F_Mod) (N := 34) hx hb hw in_Mod hown hK hP 0 rfl rfl 15 (by decide) (hw _ m3_139) (fun _ h => h) rfl d_Mod_ease_25 ?_
          refine lv_iload_n hx hb d_Mod_ease_28 rfl (lv_at hl 1 rfl) ?_
          refine lv_iload_n hx hb d_Mod_ease_29 rfl (lv_at hl 2 rfl) ?_
          refine k_ias hx hb hK hP hD hS 1 0 rfl rfl (by decide) (by omega) d_Mod_ease_30 (fun H locs hP hD hS => ?_)
          have hP : va_P (gD G) classes [o_Mod rM wd ht rP rk rG rW rK kd db ew ac dn pr nu de rE rst wr rd rev rod cn rp rb ba sz1 lb rm cu sp nz rbl sl uz, (rE, ai (gI G) 8 (up es b0 m0))] H := hP
          have hD : va_D A [o_Mod rM wd ht rP rk rG rW rK kd db ew ac dn pr nu de rE rst wr rd rev rod cn rp rb ba sz1 lb rm cu sp nz rbl sl uz, (rE, ai (gI G) 8 (up es b0 m0))] := hD
          refine lv_aload_n hx hb d_Mod_ease_31 rfl (lv_at hl 0 rfl) ?_
          refine k_cv (wz := fun u : Int × Int => [o_Mod rM wd ht rP rk rG rW rK kd db ew ac dn pr nu de rE rst u.1 u.2 rev rod cn rp rb ba sz1 lb rm cu sp nz rbl sl uz, (rE, ai (gI G) 8 (up es b0 m0))]) (wr := [(rE, ai (gI G) 8 (up es b0 m0))]) (k_rv S (c_Mod_forget l G _ rM rP rk rG rW rK rE rst rev rod rp rb rbl wd ht kd db ew ac dn pr nu de wr rd cn ba sz1 lb rm cu sp nz sl uz ) 0 m4_16 m4_13 m4_15 mp_21 m1_9 (by decide +kernel) (by decide) rfl rfl (k_preV (q0 := 0) hK hP hD hS hA hT rfl rfl [0] (by decide) rfl) rfl hl.1 rfl (Nat.le_of_ble_eq_true rfl) d_Mod_ease_32 ⟨Nat.le_of_ble_eq_true rfl, Nat.le_of_ble_eq_true rfl⟩) hP hD hS hA [0] [1] [1, 0] rfl rfl (by decide) (by decide) (by decide) (fun _ => rfl) (fun u32 H locs h32 hP hD hS => ?_)
          subst h32
          have hP : va_P (gD G) classes [o_Mod rM wd ht rP rk rG rW rK kd db ew ac dn pr nu de rE rst 0 0 rev rod cn rp rb ba sz1 lb rm cu sp nz rbl sl uz, (rE, ai (gI G) 8 (up es b0 m0))] H := hP
          have hD : va_D A [o_Mod rM wd ht rP rk rG rW rK kd db ew ac dn pr nu de rE rst 0 0 rev rod cn rp rb ba sz1 lb rm cu sp nz rbl sl uz, (rE, ai (gI G) 8 (up es b0 m0))] := hD
          refine lv_iconst (v := iv (1)) hx hb d_Mod_ease_35 rfl ?_
          exact k_zret hx hb hr hlk (by omega) hQ ((1, up es b0 m0, 0, 0)) (⟨rfl, by first | rw [if_pos (by omega)] | rw [if_neg (by omega)]⟩) hP hD hS d_Mod_ease_36
        · refine lv_iconst (v := iv (0)) hx hb d_Mod_ease_22 rfl ?_
          exact k_zret hx hb hr hlk (by omega) hQ ((0, es, wr, rd)) (⟨rfl, by first | rw [if_pos (by omega)] | rw [if_neg (by omega)]⟩) hP hD hS d_Mod_ease_23
abbrev w_Mod_rate : List Cond := Cond.code y_Mod_rate prog_9_method_11_code 3 (some .boolean) :: wl
abbrev r_Mod_rate : Room := { frames := 1, cells := 0, slots := 0, locals := 20 }
set_option maxHeartbeats 4000000 in
set_option maxRecDepth 100000 in
theorem c_Mod_rate (l : Launch) (G : k_G) (sz : Nat) (rM rP rk rG rW rK rE rst rev rod rp rb rbl : Nat) (n1 d1 wd ht kd db ew ac dn pr nu de wr rd cn ba sz1 lb rm cu sp nz sl uz : Int) (h_n1 : -2147483648 ≤ n1 ∧ n1 < 2147483648) (h_d1 : -2147483648 ≤ d1 ∧ d1 < 2147483648) : Met l y_Mod_rate w_Mod_rate r_Mod_rate (k_P G [.ref rM, .int (iv (n1)), .int (iv (d1))] [o_Mod rM wd ht rP rk rG rW rK kd db ew ac dn pr nu de rE rst wr rd rev rod cn rp rb ba sz1 lb rm cu sp nz rbl sl uz] sz) (qi G (fun (r : Int32) (u : Int × Int × Int × Int × Int) => r = iv (u.1) ∧ (u = if (1 ≤ d1 ∧ d1 ≤ 64) ∧ 2 * d1 ≤ n1 ∧ n1 ≤ 128 * d1 then (1, n1, d1, 0, 0) else (0, nu, de, wr, rd))) (fun u : Int × Int × Int × Int × Int => [o_Mod rM wd ht rP rk rG rW rK kd db ew ac dn pr u.2.1 u.2.2.1 rE rst u.2.2.2.1 u.2.2.2.2 rev rod cn rp rb ba sz1 lb rm cu sp nz rbl sl uz]) (va_A [o_Mod rM wd ht rP rk rG rW rK kd db ew ac dn pr nu de rE rst wr rd rev rod cn rp rb ba sz1 lb rm cu sp nz rbl sl uz] sz)) 0 0 (va_A [o_Mod rM wd ht rP rk rG rW rK kd db ew ac dn pr nu de rE rst wr rd rev rod cn rp rb ba sz1 lb rm cu sp nz rbl sl uz] sz) := by
  refine k_met (fun A => qi G (fun (r : Int32) (u : Int × Int × Int × Int × Int) => r = iv (u.1) ∧ (u = if (1 ≤ d1 ∧ d1 ≤ 64) ∧ 2 * d1 ≤ n1 ∧ n1 ≤ 128 * d1 then (1, n1, d1, 0, 0) else (0, nu, de, wr, rd))) (fun u : Int × Int × Int × Int × Int => [o_Mod rM wd ht rP rk rG rW rK kd db ew ac dn pr u.2.1 u.2.2.1 rE rst u.2.2.2.1 u.2.2.2.2 rev rod cn rp rb ba sz1 lb rm cu sp nz rbl sl uz]) A) (fun A => A) (by decide) rfl (Nat.le_of_ble_eq_true rfl) (fun p e s m args below meth c ls A Q S hr hlk hnm hl hsz hP hK hD hS hA hT hQ => ?_)
  obtain ⟨hx, hb, hml, hown, hts⟩ := id S
  have hw : ∀ w ∈ wl, w.before args s = true := fun w h => hts w (List.mem_cons_of_mem _ h)
  have hl : lv_has ls 3 [(0, .ref rM), (1, .int (iv (n1))), (2, .int (iv (d1)))] := hl
  refine lv_iload_n hx hb d_Mod_rate_0 rfl (lv_at hl 2 rfl) ?_
  refine lv_iconst (v := iv (1)) hx hb d_Mod_rate_1 rfl ?_
  refine k_icmp_lt (tgt := 27) hx hb d_Mod_rate_2 (by decide) (by omega) (by omega) (fun hc2 => ?_) (fun hc2 => ?_)
  · refine lv_iconst (v := iv (0)) hx hb d_Mod_rate_27 rfl ?_
    exact k_zret hx hb hr hlk (by omega) hQ ((0, nu, de, wr, rd)) (⟨rfl, by first | rw [if_pos (by omega)] | rw [if_neg (by omega)]⟩) hP hD hS d_Mod_rate_28
  · refine lv_iload_n hx hb d_Mod_rate_5 rfl (lv_at hl 2 rfl) ?_
    refine lv_bipush (v := iv (64)) hx hb d_Mod_rate_6 rfl ?_
    refine k_icmp_gt (tgt := 27) hx hb d_Mod_rate_8 (by decide) (by omega) (by omega) (fun hc8 => ?_) (fun hc8 => ?_)
    · refine lv_iconst (v := iv (0)) hx hb d_Mod_rate_27 rfl ?_
      exact k_zret hx hb hr hlk (by omega) hQ ((0, nu, de, wr, rd)) (⟨rfl, by first | rw [if_pos (by omega)] | rw [if_neg (by omega)]⟩) hP hD hS d_Mod_rate_28
    · refine lv_iload_n hx hb d_Mod_rate_11 rfl (lv_at hl 1 rfl) ?_
      refine lv_iconst (v := iv (2)) hx hb d_Mod_rate_12 rfl ?_
      refine lv_iload_n hx hb d_Mod_rate_13 rfl (lv_at hl 2 rfl) ?_
      refine k_imul hx hb d_Mod_rate_14 ?_
      refine k_icmp_lt (tgt := 27) hx hb d_Mod_rate_15 (by decide) (by omega) (by omega) (fun hc15 => ?_) (fun hc15 => ?_)
      · refine lv_iconst (v := iv (0)) hx hb d_Mod_rate_27 rfl ?_
        exact k_zret hx hb hr hlk (by omega) hQ ((0, nu, de, wr, rd)) (⟨rfl, by first | rw [if_pos (by omega)] | rw [if_neg (by omega)]⟩) hP hD hS d_Mod_rate_28
      · refine lv_iload_n hx hb d_Mod_rate_18 rfl (lv_at hl 1 rfl) ?_
        refine lv_sipush (v := iv (128)) hx hb d_Mod_rate_19 rfl ?_
        refine lv_iload_n hx hb d_Mod_rate_22 rfl (lv_at hl 2 rfl) ?_
        refine k_imul hx hb d_Mod_rate_23 ?_
        refine k_icmp_le (tgt := 29) hx hb d_Mod_rate_24 (by decide) (by omega) (by omega) (fun hc24 => ?_) (fun hc24 => ?_)
        · refine lv_aload_n hx hb d_Mod_rate_29 rfl (lv_at hl 0 rfl) ?_
          refine lv_iload_n hx hb d_Mod_rate_30 rfl (lv_at hl 1 rfl) ?_
          refine va_put (D := gD G) (ci := 7) (v := .int (iv (n1))) (ty := .int) (C := R_Mod) (T := F_Mod) (N := 34) hx hb hw in_Mod t_Mod t_Mod_ok n_Mod hown hK hP hD hS 0 rfl rfl 13 (by decide) (hw _ m3_137) (fun _ h => h) rfl (by decide +kernel) rfl rfl (Nat.le_of_ble_eq_true rfl) d_Mod_rate_31 (fun H locs hP hD hS => ?_)
          have hP : va_P (gD G) classes [o_Mod rM wd ht rP rk rG rW rK kd db ew ac dn pr n1 de rE rst wr rd rev rod cn rp rb ba sz1 lb rm cu sp nz rbl sl uz] H := hP
          have hD : va_D A [o_Mod rM wd ht rP rk rG rW rK kd db ew ac dn pr n1 de rE rst wr rd rev rod cn rp rb ba sz1 lb rm cu sp nz rbl sl uz] := hD
          refine lv_aload_n hx hb d_Mod_rate_34 rfl (lv_at hl 0 rfl) ?_
          refine lv_iload_n hx hb d_Mod_rate_35 rfl (lv_at hl 2 rfl) ?_
          refine va_put (D := gD G) (ci := 7) (v := .int (iv (d1))) (ty := .int) (C := R_Mod) (T := F_Mod) (N := 34) hx hb hw in_Mod t_Mod t_Mod_ok n_Mod hown hK hP hD hS 0 rfl rfl 14 (by decide) (hw _ m3_138) (fun _ h => h) rfl (by decide +kernel) rfl rfl (Nat.le_of_ble_eq_true rfl) d_Mod_rate_36 (fun H locs hP hD hS => ?_)
          have hP : va_P (gD G) classes [o_Mod rM wd ht rP rk rG rW rK kd db ew ac dn pr n1 d1 rE rst wr rd rev rod cn rp rb ba sz1 lb rm cu sp nz rbl sl uz] H := hP
          have hD : va_D A [o_Mod rM wd ht rP rk rG rW rK kd db ew ac dn pr n1 d1 rE rst wr rd rev rod cn rp rb ba sz1 lb rm cu sp nz rbl sl uz] := hD
          refine lv_aload_n hx hb d_Mod_rate_39 rfl (lv_at hl 0 rfl) ?_
          refine k_cv (wz := fun u : Int × Int => [o_Mod rM wd ht rP rk rG rW rK kd db ew ac dn pr n1 d1 rE rst u.1 u.2 rev rod cn rp rb ba sz1 lb rm cu sp nz rbl sl uz]) (wr := []) (k_rv S (c_Mod_forget l G _ rM rP rk rG rW rK rE rst rev rod rp rb rbl wd ht kd db ew ac dn pr n1 d1 wr rd cn ba sz1 lb rm cu sp nz sl uz ) 0 m4_16 m4_13 m4_15 mp_21 m1_9 (by decide +kernel) (by decide) rfl rfl (k_preV (q0 := 0) hK hP hD hS hA hT rfl rfl [0] (by decide) rfl) rfl hl.1 rfl (Nat.le_of_ble_eq_true rfl) d_Mod_rate_40 ⟨Nat.le_of_ble_eq_true rfl, Nat.le_of_ble_eq_true rfl⟩) hP hD hS hA [0] [] [0] rfl rfl (by decide) (by decide) (by decide) (fun _ => rfl) (fun u40 H locs h40 hP hD hS => ?_)
          subst h40
          have hP : va_P (gD G) classes [o_Mod rM wd ht rP rk rG rW rK kd db ew ac dn pr n1 d1 rE rst 0 0 rev rod cn rp rb ba sz1 lb rm cu sp nz rbl sl uz] H := hP
          have hD : va_D A [o_Mod rM wd ht rP rk rG rW rK kd db ew ac dn pr n1 d1 rE rst 0 0 rev rod cn rp rb ba sz1 lb rm cu sp nz rbl sl uz] := hD
          refine lv_iconst (v := iv (1)) hx hb d_Mod_rate_43 rfl ?_
          exact k_zret hx hb hr hlk (by omega) hQ ((1, n1, d1, 0, 0)) (⟨rfl, by first | rw [if_pos (by omega)] | rw [if_neg (by omega)]⟩) hP hD hS d_Mod_rate_44
        · refine lv_iconst (v := iv (0)) hx hb d_Mod_rate_27 rfl ?_
          exact k_zret hx hb hr hlk (by omega) hQ ((0, nu, de, wr, rd)) (⟨rfl, by first | rw [if_pos (by omega)] | rw [if_neg (by omega)]⟩) hP hD hS d_Mod_rate_28
abbrev w_Mod_columns : List Cond := Cond.code y_Mod_columns prog_9_method_13_code 2 (some .int) :: wl
abbrev r_Mod_columns : Room := { frames := 0, cells := 0, slots := 0, locals := 0 }
set_option maxHeartbeats 4000000 in
set_option maxRecDepth 100000 in
theorem c_Mod_columns (l : Launch) (G : k_G) (sz : Nat) (rM rP rk rG rW rK rE rst rev rod rp rb rbl : Nat) (wd ht kd db ew ac dn pr nu de wr rd cn ba sz1 lb rm cu sp nz sl uz : Int) (hde : 0 ≤ db ∧ db ≤ 2 ∧ 0 ≤ ew ∧ ew ≤ 2 ∧ db + ew ≤ 3) (hwd : 1 ≤ wd ∧ wd ≤ 16) (hht : 1 ≤ ht ∧ ht ≤ 16) : Met l y_Mod_columns w_Mod_columns r_Mod_columns (k_P G [.ref rM] [o_Mod rM wd ht rP rk rG rW rK kd db ew ac dn pr nu de rE rst wr rd rev rod cn rp rb ba sz1 lb rm cu sp nz rbl sl uz] sz) (vp_Si (fun r : Int32 => r = iv (lmI wd (2 ^ (db + ew).toNat)))) 0 0 (fun _ => False) := by
  refine k_met (fun _ => vp_Si (fun r : Int32 => r = iv (lmI wd (2 ^ (db + ew).toNat)))) (fun _ _ => False) (by decide) rfl (Nat.le_of_ble_eq_true rfl) (fun p e s m args below meth c ls A Q S hr hlk hnm hl hsz hP hK hD hS hA hT hQ => ?_)
  obtain ⟨hx, hb, hml, hown, hts⟩ := id S
  have hw : ∀ w ∈ wl, w.before args s = true := fun w h => hts w (List.mem_cons_of_mem _ h)
  have hl : lv_has ls 2 [(0, .ref rM)] := hl
  have e1 := p2_8 (k := db + ew) (by omega)
  have e2 := p2_8 (k := db) (by omega)
  rw [← Int.one_mul (2 ^ (db + ew).toNat)] at e1
  refine lv_iconst (v := iv (1)) hx hb d_Mod_columns_0 rfl ?_
  refine lv_aload_n hx hb d_Mod_columns_1 rfl (lv_at hl 0 rfl) ?_
  refine va_get (D := gD G) (ci := 7) (v := .int (iv (db))) (C := R_Mod) (T := F_Mod) (N := 34) hx hb hw in_Mod hown hK hP 0 rfl rfl 8 (by decide) (hw _ m3_132) (fun _ h => h) rfl d_Mod_columns_2 ?_
  refine lv_aload_n hx hb d_Mod_columns_5 rfl (lv_at hl 0 rfl) ?_
  refine va_get (D := gD G) (ci := 7) (v := .int (iv (ew))) (C := R_Mod) (T := F_Mod) (N := 34) hx hb hw in_Mod hown hK hP 0 rfl rfl 9 (by decide) (hw _ m3_133) (fun _ h => h) rfl d_Mod_columns_6 ?_
  refine k_iadd hx hb d_Mod_columns_9 ?_
  refine k_ishl hx hb d_Mod_columns_10 (by omega) ?_
  refine lv_istore_n hx hb d_Mod_columns_11 rfl hl (by decide) rfl (fun ls hl => ?_)
  have hl : lv_has ls 2 [(1, .int (iv (1 * 2 ^ (db + ew).toNat))), (0, .ref rM)] := hl
  refine lv_aload_n hx hb d_Mod_columns_12 rfl (lv_at hl 1 rfl) ?_
  refine va_get (D := gD G) (ci := 7) (v := .int (iv (wd))) (C := R_Mod) (T := F_Mod) (N := 34) hx hb hw in_Mod hown hK hP 0 rfl rfl 0 (by decide) (hw _ m3_124) (fun _ h => h) rfl d_Mod_columns_13 ?_
  refine lv_iload_n hx hb d_Mod_columns_16 rfl (lv_at hl 0 rfl) ?_
  refine k_iadd hx hb d_Mod_columns_17 ?_
  refine lv_iconst (v := iv (1)) hx hb d_Mod_columns_18 rfl ?_
  refine k_isub hx hb d_Mod_columns_19 ?_
  refine lv_iload_n hx hb d_Mod_columns_20 rfl (lv_at hl 0 rfl) ?_
  refine k_idiv hx hb d_Mod_columns_21 (by omega) (by omega) ?_
  refine lv_iload_n hx hb d_Mod_columns_22 rfl (lv_at hl 0 rfl) ?_
  refine k_imul hx hb d_Mod_columns_23 ?_
  exact k_iretR hx hb hr hlk hQ (by rw [Int.one_mul]; rfl) d_Mod_columns_24
abbrev w_Mod_rows : List Cond := Cond.code y_Mod_rows prog_9_method_14_code 2 (some .int) :: wl
abbrev r_Mod_rows : Room := { frames := 0, cells := 0, slots := 0, locals := 0 }
set_option maxHeartbeats 4000000 in
set_option maxRecDepth 100000 in
theorem c_Mod_rows (l : Launch) (G : k_G) (sz : Nat) (rM rP rk rG rW rK rE rst rev rod rp rb rbl : Nat) (wd ht kd db ew ac dn pr nu de wr rd cn ba sz1 lb rm cu sp nz sl uz : Int) (hde : 0 ≤ db ∧ db ≤ 2 ∧ 0 ≤ ew ∧ ew ≤ 2 ∧ db + ew ≤ 3) (hwd : 1 ≤ wd ∧ wd ≤ 16) (hht : 1 ≤ ht ∧ ht ≤ 16) : Met l y_Mod_rows w_Mod_rows r_Mod_rows (k_P G [.ref rM] [o_Mod rM wd ht rP rk rG rW rK kd db ew ac dn pr nu de rE rst wr rd rev rod cn rp rb ba sz1 lb rm cu sp nz rbl sl uz] sz) (vp_Si (fun r : Int32 => r = iv (lmI ht (2 ^ db.toNat)))) 0 0 (fun _ => False) := by
  refine k_met (fun _ => vp_Si (fun r : Int32 => r = iv (lmI ht (2 ^ db.toNat)))) (fun _ _ => False) (by decide) rfl (Nat.le_of_ble_eq_true rfl) (fun p e s m args below meth c ls A Q S hr hlk hnm hl hsz hP hK hD hS hA hT hQ => ?_)
  obtain ⟨hx, hb, hml, hown, hts⟩ := id S
  have hw : ∀ w ∈ wl, w.before args s = true := fun w h => hts w (List.mem_cons_of_mem _ h)
  have hl : lv_has ls 2 [(0, .ref rM)] := hl
  have e1 := p2_8 (k := db + ew) (by omega)
  have e2 := p2_8 (k := db) (by omega)
  rw [← Int.one_mul (2 ^ db.toNat)] at e2
  refine lv_iconst (v := iv (1)) hx hb d_Mod_rows_0 rfl ?_
  refine lv_aload_n hx hb d_Mod_rows_1 rfl (lv_at hl 0 rfl) ?_
  refine va_get (D := gD G) (ci := 7) (v := .int (iv (db))) (C := R_Mod) (T := F_Mod) (N := 34) hx hb hw in_Mod hown hK hP 0 rfl rfl 8 (by decide) (hw _ m3_132) (fun _ h => h) rfl d_Mod_rows_2 ?_
  refine k_ishl hx hb d_Mod_rows_5 (by omega) ?_
  refine lv_istore_n hx hb d_Mod_rows_6 rfl hl (by decide) rfl (fun ls hl => ?_)
  have hl : lv_has ls 2 [(1, .int (iv (1 * 2 ^ (db).toNat))), (0, .ref rM)] := hl
  refine lv_aload_n hx hb d_Mod_rows_7 rfl (lv_at hl 1 rfl) ?_
  refine va_get (D := gD G) (ci := 7) (v := .int (iv (ht))) (C := R_Mod) (T := F_Mod) (N := 34) hx hb hw in_Mod hown hK hP 0 rfl rfl 1 (by decide) (hw _ m3_125) (fun _ h => h) rfl d_Mod_rows_8 ?_
  refine lv_iload_n hx hb d_Mod_rows_11 rfl (lv_at hl 0 rfl) ?_
  refine k_iadd hx hb d_Mod_rows_12 ?_
  refine lv_iconst (v := iv (1)) hx hb d_Mod_rows_13 rfl ?_
  refine k_isub hx hb d_Mod_rows_14 ?_
  refine lv_iload_n hx hb d_Mod_rows_15 rfl (lv_at hl 0 rfl) ?_
  refine k_idiv hx hb d_Mod_rows_16 (by omega) (by omega) ?_
  refine lv_iload_n hx hb d_Mod_rows_17 rfl (lv_at hl 0 rfl) ?_
  refine k_imul hx hb d_Mod_rows_18 ?_
  exact k_iretR hx hb hr hlk hQ (by rw [Int.one_mul]; rfl) d_Mod_rows_19
abbrev w_Mod_pair : List Cond := Cond.code y_Mod_pair prog_9_method_15_code 7 (some .long) :: wl
abbrev r_Mod_pair : Room := { frames := 0, cells := 0, slots := 0, locals := 0 }
set_option maxHeartbeats 4000000 in
set_option maxRecDepth 100000 in
theorem c_Mod_pair (l : Launch) (G : k_G) (sz : Nat) (rM rP rk rG rW rK rE rst rev rod rp rb rbl : Nat) (to k0 j0 n0 wd ht kd db ew ac dn pr nu de wr rd cn ba sz1 lb rm cu sp nz sl uz : Int) (ge go : Int → Int64) (hto : to = 0 ∨ to = 1) (hk0 : 0 ≤ k0 ∧ k0 < 8) (hj0 : 0 ≤ j0 ∧ j0 ≤ 3) (hn0 : 1 ≤ n0 ∧ n0 ≤ 8) : Met l y_Mod_pair w_Mod_pair r_Mod_pair (k_P G [.ref rM, .int (iv (to)), .int (iv (k0)), .int (iv (j0)), .int (iv (n0))] [o_Mod rM wd ht rP rk rG rW rK kd db ew ac dn pr nu de rE rst wr rd rev rod cn rp rb ba sz1 lb rm cu sp nz rbl sl uz, (rev, al (gL G) 8 (ge)), (rod, al (gL G) 8 (go))] sz) (vp_Sl (fun r : Int64 => r = prI ge go to k0 j0 n0)) 0 0 (fun _ => False) := by
  refine k_met (fun _ => vp_Sl (fun r : Int64 => r = prI ge go to k0 j0 n0)) (fun _ _ => False) (by decide) rfl (Nat.le_of_ble_eq_true rfl) (fun p e s m args below meth c ls A Q S hr hlk hnm hl hsz hP hK hD hS hA hT hQ => ?_)
  obtain ⟨hx, hb, hml, hown, hts⟩ := id S
  have hw : ∀ w ∈ wl, w.before args s = true := fun w h => hts w (List.mem_cons_of_mem _ h)
  have hl : lv_has ls 7 [(0, .ref rM), (1, .int (iv (to))), (2, .int (iv (k0))), (3, .int (iv (j0))), (4, .int (iv (n0)))] := hl
  refine lv_iload_n hx hb d_Mod_pair_0 rfl (lv_at hl 1 rfl) ?_
  refine k_if_eq (tgt := 10) hx hb d_Mod_pair_1 (by decide) (by omega) (fun hc1 => ?_) (fun hc1 => ?_)
  · refine lv_iload_n hx hb d_Mod_pair_10 rfl (lv_at hl 2 rfl) ?_
    refine lv_iconst (v := iv (1)) hx hb d_Mod_pair_11 rfl ?_
    refine k_isub hx hb d_Mod_pair_12 ?_
    refine lv_iload_n hx hb d_Mod_pair_13 rfl (lv_at hl 3 rfl) ?_
    refine k_isub hx hb d_Mod_pair_14 ?_
    refine lv_istore hx hb d_Mod_pair_15 hl (by decide) rfl (fun ls hl => ?_)
    have hl : lv_has ls 7 [(5, .int (iv ((k0 - 1) - j0))), (0, .ref rM), (1, .int (iv (to))), (2, .int (iv (k0))), (3, .int (iv (j0))), (4, .int (iv (n0)))] := hl
    refine lv_iload_n hx hb d_Mod_pair_17 rfl (lv_at hl 2 rfl) ?_
    refine k_if_eq (tgt := 29) hx hb d_Mod_pair_18 (by decide) (by omega) (fun hc18 => ?_) (fun hc18 => absurd hc18 (by omega))
    refine lv_iload_n hx hb d_Mod_pair_29 rfl (lv_at hl 3 rfl) ?_
    refine lv_iload_n hx hb d_Mod_pair_30 rfl (lv_at hl 4 rfl) ?_
    refine k_iadd hx hb d_Mod_pair_31 ?_
    refine lv_istore hx hb d_Mod_pair_32 hl (by decide) rfl (fun ls hl => ?_)
    have hl : lv_has ls 7 [(6, .int (iv (k0 + j0))), (5, .int (iv ((k0 - 1) - j0))), (0, .ref rM), (1, .int (iv (to))), (2, .int (iv (k0))), (3, .int (iv (j0))), (4, .int (iv (n0)))] := hl
    refine lv_iload hx hb d_Mod_pair_34 (lv_at hl 1 rfl) ?_
    refine k_if_ge (tgt := 43) hx hb d_Mod_pair_36 (by decide) (by omega) (fun hc36 => ?_) (fun hc36 => ?_)
    · refine lv_iload hx hb d_Mod_pair_43 (lv_at hl 1 rfl) ?_
      refine lv_iload hx hb d_Mod_pair_45 (lv_at hl 6 rfl) ?_
      refine k_icmp_lt (tgt := 57) hx hb d_Mod_pair_47 (by decide) (by omega) (by omega) (fun hc47 => ?_) (fun hc47 => ?_)
      · refine lv_iload hx hb d_Mod_pair_57 (lv_at hl 1 rfl) ?_
        refine lv_istore hx hb d_Mod_pair_59 hl (by decide) rfl (fun ls hl => ?_)
        have hl : lv_has ls 7 [(5, .int (iv ((k0 - 1) - j0))), (6, .int (iv (k0 + j0))), (0, .ref rM), (1, .int (iv (to))), (2, .int (iv (k0))), (3, .int (iv (j0))), (4, .int (iv (n0)))] := hl
        refine lv_iload hx hb d_Mod_pair_61 (lv_at hl 1 rfl) ?_
        refine k_if_ge (tgt := 70) hx hb d_Mod_pair_63 (by decide) (by omega) (fun hc63 => ?_) (fun hc63 => ?_)
        · refine lv_iload hx hb d_Mod_pair_70 (lv_at hl 1 rfl) ?_
          refine lv_iload hx hb d_Mod_pair_72 (lv_at hl 6 rfl) ?_
          refine k_icmp_lt (tgt := 84) hx hb d_Mod_pair_74 (by decide) (by omega) (by omega) (fun hc74 => ?_) (fun hc74 => ?_)
          · refine lv_iload hx hb d_Mod_pair_84 (lv_at hl 1 rfl) ?_
            refine lv_istore hx hb d_Mod_pair_86 hl (by decide) rfl (fun ls hl => ?_)
            have hl : lv_has ls 7 [(6, .int (iv (k0 + j0))), (5, .int (iv ((k0 - 1) - j0))), (0, .ref rM), (1, .int (iv (to))), (2, .int (iv (k0))), (3, .int (iv (j0))), (4, .int (iv (n0)))] := hl
            refine lv_iload_n hx hb d_Mod_pair_88 rfl (lv_at hl 3 rfl) ?_
            refine k_if_eq (tgt := 110) hx hb d_Mod_pair_89 (by decide) (by omega) (fun hc89 => ?_) (fun hc89 => absurd hc89 (by omega))
            refine lv_aload_n hx hb d_Mod_pair_110 rfl (lv_at hl 2 rfl) ?_
            refine va_get (D := gD G) (ci := 7) (v := .ref rod) (C := R_Mod) (T := F_Mod) (N := 34) hx hb hw in_Mod hown hK hP 0 rfl rfl 20 (by decide) (hw _ m3_144) (fun _ h => h) rfl d_Mod_pair_111 ?_
            refine lv_iload hx hb d_Mod_pair_114 (lv_at hl 1 rfl) ?_
            refine k_lal hx hb hK hP 2 1 rfl rfl (by decide) (by omega) d_Mod_pair_116 ?_
            refine lv_aload_n hx hb d_Mod_pair_117 rfl (lv_at hl 2 rfl) ?_
            refine va_get (D := gD G) (ci := 7) (v := .ref rod) (C := R_Mod) (T := F_Mod) (N := 34) hx hb hw in_Mod hown hK hP 0 rfl rfl 20 (by decide) (hw _ m3_144) (fun _ h => h) rfl d_Mod_pair_118 ?_
            refine lv_iload hx hb d_Mod_pair_121 (lv_at hl 0 rfl) ?_
            refine k_lal hx hb hK hP 2 1 rfl rfl (by decide) (by omega) d_Mod_pair_123 ?_
            refine lv_ladd hx hb d_Mod_pair_124 ?_
            exact k_lretR hx hb hr hlk hQ (by unfold prI; first | (rw [if_pos (by omega)]; congr 2 <;> (unfold clI; (repeat' split) <;> omega)) | (rw [if_neg (by omega)]; congr 2 <;> (unfold clI; (repeat' split) <;> omega))) d_Mod_pair_125
          · refine lv_iload hx hb d_Mod_pair_77 (lv_at hl 6 rfl) ?_
            refine lv_iconst (v := iv (1)) hx hb d_Mod_pair_79 rfl ?_
            refine k_isub hx hb d_Mod_pair_80 ?_
            refine lv_goto (tgt := 86) hx hb d_Mod_pair_81 (by decide) ?_
            refine lv_istore hx hb d_Mod_pair_86 hl (by decide) rfl (fun ls hl => ?_)
            have hl : lv_has ls 7 [(6, .int (iv (n0 - 1))), (5, .int (iv ((k0 - 1) - j0))), (0, .ref rM), (1, .int (iv (to))), (2, .int (iv (k0))), (3, .int (iv (j0))), (4, .int (iv (n0)))] := hl
            refine lv_iload_n hx hb d_Mod_pair_88 rfl (lv_at hl 3 rfl) ?_
            refine k_if_eq (tgt := 110) hx hb d_Mod_pair_89 (by decide) (by omega) (fun hc89 => ?_) (fun hc89 => absurd hc89 (by omega))
            refine lv_aload_n hx hb d_Mod_pair_110 rfl (lv_at hl 2 rfl) ?_
            refine va_get (D := gD G) (ci := 7) (v := .ref rod) (C := R_Mod) (T := F_Mod) (N := 34) hx hb hw in_Mod hown hK hP 0 rfl rfl 20 (by decide) (hw _ m3_144) (fun _ h => h) rfl d_Mod_pair_111 ?_
            refine lv_iload hx hb d_Mod_pair_114 (lv_at hl 1 rfl) ?_
            refine k_lal hx hb hK hP 2 1 rfl rfl (by decide) (by omega) d_Mod_pair_116 ?_
            refine lv_aload_n hx hb d_Mod_pair_117 rfl (lv_at hl 2 rfl) ?_
            refine va_get (D := gD G) (ci := 7) (v := .ref rod) (C := R_Mod) (T := F_Mod) (N := 34) hx hb hw in_Mod hown hK hP 0 rfl rfl 20 (by decide) (hw _ m3_144) (fun _ h => h) rfl d_Mod_pair_118 ?_
            refine lv_iload hx hb d_Mod_pair_121 (lv_at hl 0 rfl) ?_
            refine k_lal hx hb hK hP 2 1 rfl rfl (by decide) (by omega) d_Mod_pair_123 ?_
            refine lv_ladd hx hb d_Mod_pair_124 ?_
            exact k_lretR hx hb hr hlk hQ (by unfold prI; first | (rw [if_pos (by omega)]; congr 2 <;> (unfold clI; (repeat' split) <;> omega)) | (rw [if_neg (by omega)]; congr 2 <;> (unfold clI; (repeat' split) <;> omega))) d_Mod_pair_125
        · refine lv_iconst (v := iv (0)) hx hb d_Mod_pair_66 rfl ?_
          refine lv_goto (tgt := 86) hx hb d_Mod_pair_67 (by decide) ?_
          refine lv_istore hx hb d_Mod_pair_86 hl (by decide) rfl (fun ls hl => ?_)
          have hl : lv_has ls 7 [(6, .int (iv (0))), (5, .int (iv ((k0 - 1) - j0))), (0, .ref rM), (1, .int (iv (to))), (2, .int (iv (k0))), (3, .int (iv (j0))), (4, .int (iv (n0)))] := hl
          refine lv_iload_n hx hb d_Mod_pair_88 rfl (lv_at hl 3 rfl) ?_
          refine k_if_eq (tgt := 110) hx hb d_Mod_pair_89 (by decide) (by omega) (fun hc89 => ?_) (fun hc89 => absurd hc89 (by omega))
          refine lv_aload_n hx hb d_Mod_pair_110 rfl (lv_at hl 2 rfl) ?_
          refine va_get (D := gD G) (ci := 7) (v := .ref rod) (C := R_Mod) (T := F_Mod) (N := 34) hx hb hw in_Mod hown hK hP 0 rfl rfl 20 (by decide) (hw _ m3_144) (fun _ h => h) rfl d_Mod_pair_111 ?_
          refine lv_iload hx hb d_Mod_pair_114 (lv_at hl 1 rfl) ?_
          refine k_lal hx hb hK hP 2 1 rfl rfl (by decide) (by omega) d_Mod_pair_116 ?_
          refine lv_aload_n hx hb d_Mod_pair_117 rfl (lv_at hl 2 rfl) ?_
          refine va_get (D := gD G) (ci := 7) (v := .ref rod) (C := R_Mod) (T := F_Mod) (N := 34) hx hb hw in_Mod hown hK hP 0 rfl rfl 20 (by decide) (hw _ m3_144) (fun _ h => h) rfl d_Mod_pair_118 ?_
          refine lv_iload hx hb d_Mod_pair_121 (lv_at hl 0 rfl) ?_
          refine k_lal hx hb hK hP 2 1 rfl rfl (by decide) (by omega) d_Mod_pair_123 ?_
          refine lv_ladd hx hb d_Mod_pair_124 ?_
          exact k_lretR hx hb hr hlk hQ (by unfold prI; first | (rw [if_pos (by omega)]; congr 2 <;> (unfold clI; (repeat' split) <;> omega)) | (rw [if_neg (by omega)]; congr 2 <;> (unfold clI; (repeat' split) <;> omega))) d_Mod_pair_125
      · refine lv_iload hx hb d_Mod_pair_50 (lv_at hl 6 rfl) ?_
        refine lv_iconst (v := iv (1)) hx hb d_Mod_pair_52 rfl ?_
        refine k_isub hx hb d_Mod_pair_53 ?_
        refine lv_goto (tgt := 59) hx hb d_Mod_pair_54 (by decide) ?_
        refine lv_istore hx hb d_Mod_pair_59 hl (by decide) rfl (fun ls hl => ?_)
        have hl : lv_has ls 7 [(5, .int (iv (n0 - 1))), (6, .int (iv (k0 + j0))), (0, .ref rM), (1, .int (iv (to))), (2, .int (iv (k0))), (3, .int (iv (j0))), (4, .int (iv (n0)))] := hl
        refine lv_iload hx hb d_Mod_pair_61 (lv_at hl 1 rfl) ?_
        refine k_if_ge (tgt := 70) hx hb d_Mod_pair_63 (by decide) (by omega) (fun hc63 => ?_) (fun hc63 => ?_)
        · refine lv_iload hx hb d_Mod_pair_70 (lv_at hl 1 rfl) ?_
          refine lv_iload hx hb d_Mod_pair_72 (lv_at hl 6 rfl) ?_
          refine k_icmp_lt (tgt := 84) hx hb d_Mod_pair_74 (by decide) (by omega) (by omega) (fun hc74 => ?_) (fun hc74 => ?_)
          · refine lv_iload hx hb d_Mod_pair_84 (lv_at hl 1 rfl) ?_
            refine lv_istore hx hb d_Mod_pair_86 hl (by decide) rfl (fun ls hl => ?_)
            have hl : lv_has ls 7 [(6, .int (iv (k0 + j0))), (5, .int (iv (n0 - 1))), (0, .ref rM), (1, .int (iv (to))), (2, .int (iv (k0))), (3, .int (iv (j0))), (4, .int (iv (n0)))] := hl
            refine lv_iload_n hx hb d_Mod_pair_88 rfl (lv_at hl 3 rfl) ?_
            refine k_if_eq (tgt := 110) hx hb d_Mod_pair_89 (by decide) (by omega) (fun hc89 => ?_) (fun hc89 => absurd hc89 (by omega))
            refine lv_aload_n hx hb d_Mod_pair_110 rfl (lv_at hl 2 rfl) ?_
            refine va_get (D := gD G) (ci := 7) (v := .ref rod) (C := R_Mod) (T := F_Mod) (N := 34) hx hb hw in_Mod hown hK hP 0 rfl rfl 20 (by decide) (hw _ m3_144) (fun _ h => h) rfl d_Mod_pair_111 ?_
            refine lv_iload hx hb d_Mod_pair_114 (lv_at hl 1 rfl) ?_
            refine k_lal hx hb hK hP 2 1 rfl rfl (by decide) (by omega) d_Mod_pair_116 ?_
            refine lv_aload_n hx hb d_Mod_pair_117 rfl (lv_at hl 2 rfl) ?_
            refine va_get (D := gD G) (ci := 7) (v := .ref rod) (C := R_Mod) (T := F_Mod) (N := 34) hx hb hw in_Mod hown hK hP 0 rfl rfl 20 (by decide) (hw _ m3_144) (fun _ h => h) rfl d_Mod_pair_118 ?_
            refine lv_iload hx hb d_Mod_pair_121 (lv_at hl 0 rfl) ?_
            refine k_lal hx hb hK hP 2 1 rfl rfl (by decide) (by omega) d_Mod_pair_123 ?_
            refine lv_ladd hx hb d_Mod_pair_124 ?_
            exact k_lretR hx hb hr hlk hQ (by unfold prI; first | (rw [if_pos (by omega)]; congr 2 <;> (unfold clI; (repeat' split) <;> omega)) | (rw [if_neg (by omega)]; congr 2 <;> (unfold clI; (repeat' split) <;> omega))) d_Mod_pair_125
          · refine lv_iload hx hb d_Mod_pair_77 (lv_at hl 6 rfl) ?_
            refine lv_iconst (v := iv (1)) hx hb d_Mod_pair_79 rfl ?_
            refine k_isub hx hb d_Mod_pair_80 ?_
            refine lv_goto (tgt := 86) hx hb d_Mod_pair_81 (by decide) ?_
            refine lv_istore hx hb d_Mod_pair_86 hl (by decide) rfl (fun ls hl => ?_)
            have hl : lv_has ls 7 [(6, .int (iv (n0 - 1))), (5, .int (iv (n0 - 1))), (0, .ref rM), (1, .int (iv (to))), (2, .int (iv (k0))), (3, .int (iv (j0))), (4, .int (iv (n0)))] := hl
            refine lv_iload_n hx hb d_Mod_pair_88 rfl (lv_at hl 3 rfl) ?_
            refine k_if_eq (tgt := 110) hx hb d_Mod_pair_89 (by decide) (by omega) (fun hc89 => ?_) (fun hc89 => absurd hc89 (by omega))
            refine lv_aload_n hx hb d_Mod_pair_110 rfl (lv_at hl 2 rfl) ?_
            refine va_get (D := gD G) (ci := 7) (v := .ref rod) (C := R_Mod) (T := F_Mod) (N := 34) hx hb hw in_Mod hown hK hP 0 rfl rfl 20 (by decide) (hw _ m3_144) (fun _ h => h) rfl d_Mod_pair_111 ?_
            refine lv_iload hx hb d_Mod_pair_114 (lv_at hl 1 rfl) ?_
            refine k_lal hx hb hK hP 2 1 rfl rfl (by decide) (by omega) d_Mod_pair_116 ?_
            refine lv_aload_n hx hb d_Mod_pair_117 rfl (lv_at hl 2 rfl) ?_
            refine va_get (D := gD G) (ci := 7) (v := .ref rod) (C := R_Mod) (T := F_Mod) (N := 34) hx hb hw in_Mod hown hK hP 0 rfl rfl 20 (by decide) (hw _ m3_144) (fun _ h => h) rfl d_Mod_pair_118 ?_
            refine lv_iload hx hb d_Mod_pair_121 (lv_at hl 0 rfl) ?_
            refine k_lal hx hb hK hP 2 1 rfl rfl (by decide) (by omega) d_Mod_pair_123 ?_
            refine lv_ladd hx hb d_Mod_pair_124 ?_
            exact k_lretR hx hb hr hlk hQ (by unfold prI; first | (rw [if_pos (by omega)]; congr 2 <;> (unfold clI; (repeat' split) <;> omega)) | (rw [if_neg (by omega)]; congr 2 <;> (unfold clI; (repeat' split) <;> omega))) d_Mod_pair_125
        · refine lv_iconst (v := iv (0)) hx hb d_Mod_pair_66 rfl ?_
          refine lv_goto (tgt := 86) hx hb d_Mod_pair_67 (by decide) ?_
          refine lv_istore hx hb d_Mod_pair_86 hl (by decide) rfl (fun ls hl => ?_)
          have hl : lv_has ls 7 [(6, .int (iv (0))), (5, .int (iv (n0 - 1))), (0, .ref rM), (1, .int (iv (to))), (2, .int (iv (k0))), (3, .int (iv (j0))), (4, .int (iv (n0)))] := hl
          refine lv_iload_n hx hb d_Mod_pair_88 rfl (lv_at hl 3 rfl) ?_
          refine k_if_eq (tgt := 110) hx hb d_Mod_pair_89 (by decide) (by omega) (fun hc89 => ?_) (fun hc89 => absurd hc89 (by omega))
          refine lv_aload_n hx hb d_Mod_pair_110 rfl (lv_at hl 2 rfl) ?_
          refine va_get (D := gD G) (ci := 7) (v := .ref rod) (C := R_Mod) (T := F_Mod) (N := 34) hx hb hw in_Mod hown hK hP 0 rfl rfl 20 (by decide) (hw _ m3_144) (fun _ h => h) rfl d_Mod_pair_111 ?_
          refine lv_iload hx hb d_Mod_pair_114 (lv_at hl 1 rfl) ?_
          refine k_lal hx hb hK hP 2 1 rfl rfl (by decide) (by omega) d_Mod_pair_116 ?_
          refine lv_aload_n hx hb d_Mod_pair_117 rfl (lv_at hl 2 rfl) ?_
          refine va_get (D := gD G) (ci := 7) (v := .ref rod) (C := R_Mod) (T := F_Mod) (N := 34) hx hb hw in_Mod hown hK hP 0 rfl rfl 20 (by decide) (hw _ m3_144) (fun _ h => h) rfl d_Mod_pair_118 ?_
          refine lv_iload hx hb d_Mod_pair_121 (lv_at hl 0 rfl) ?_
          refine k_lal hx hb hK hP 2 1 rfl rfl (by decide) (by omega) d_Mod_pair_123 ?_
          refine lv_ladd hx hb d_Mod_pair_124 ?_
          exact k_lretR hx hb hr hlk hQ (by unfold prI; first | (rw [if_pos (by omega)]; congr 2 <;> (unfold clI; (repeat' split) <;> omega)) | (rw [if_neg (by omega)]; congr 2 <;> (unfold clI; (repeat' split) <;> omega))) d_Mod_pair_125
    · refine lv_iconst (v := iv (0)) hx hb d_Mod_pair_39 rfl ?_
      refine lv_goto (tgt := 59) hx hb d_Mod_pair_40 (by decide) ?_
      refine lv_istore hx hb d_Mod_pair_59 hl (by decide) rfl (fun ls hl => ?_)
      have hl : lv_has ls 7 [(5, .int (iv (0))), (6, .int (iv (k0 + j0))), (0, .ref rM), (1, .int (iv (to))), (2, .int (iv (k0))), (3, .int (iv (j0))), (4, .int (iv (n0)))] := hl
      refine lv_iload hx hb d_Mod_pair_61 (lv_at hl 1 rfl) ?_
      refine k_if_ge (tgt := 70) hx hb d_Mod_pair_63 (by decide) (by omega) (fun hc63 => ?_) (fun hc63 => ?_)
      · refine lv_iload hx hb d_Mod_pair_70 (lv_at hl 1 rfl) ?_
        refine lv_iload hx hb d_Mod_pair_72 (lv_at hl 6 rfl) ?_
        refine k_icmp_lt (tgt := 84) hx hb d_Mod_pair_74 (by decide) (by omega) (by omega) (fun hc74 => ?_) (fun hc74 => ?_)
        · refine lv_iload hx hb d_Mod_pair_84 (lv_at hl 1 rfl) ?_
          refine lv_istore hx hb d_Mod_pair_86 hl (by decide) rfl (fun ls hl => ?_)
          have hl : lv_has ls 7 [(6, .int (iv (k0 + j0))), (5, .int (iv (0))), (0, .ref rM), (1, .int (iv (to))), (2, .int (iv (k0))), (3, .int (iv (j0))), (4, .int (iv (n0)))] := hl
          refine lv_iload_n hx hb d_Mod_pair_88 rfl (lv_at hl 3 rfl) ?_
          refine k_if_eq (tgt := 110) hx hb d_Mod_pair_89 (by decide) (by omega) (fun hc89 => ?_) (fun hc89 => absurd hc89 (by omega))
          refine lv_aload_n hx hb d_Mod_pair_110 rfl (lv_at hl 2 rfl) ?_
          refine va_get (D := gD G) (ci := 7) (v := .ref rod) (C := R_Mod) (T := F_Mod) (N := 34) hx hb hw in_Mod hown hK hP 0 rfl rfl 20 (by decide) (hw _ m3_144) (fun _ h => h) rfl d_Mod_pair_111 ?_
          refine lv_iload hx hb d_Mod_pair_114 (lv_at hl 1 rfl) ?_
          refine k_lal hx hb hK hP 2 1 rfl rfl (by decide) (by omega) d_Mod_pair_116 ?_
          refine lv_aload_n hx hb d_Mod_pair_117 rfl (lv_at hl 2 rfl) ?_
          refine va_get (D := gD G) (ci := 7) (v := .ref rod) (C := R_Mod) (T := F_Mod) (N := 34) hx hb hw in_Mod hown hK hP 0 rfl rfl 20 (by decide) (hw _ m3_144) (fun _ h => h) rfl d_Mod_pair_118 ?_
          refine lv_iload hx hb d_Mod_pair_121 (lv_at hl 0 rfl) ?_
          refine k_lal hx hb hK hP 2 1 rfl rfl (by decide) (by omega) d_Mod_pair_123 ?_
          refine lv_ladd hx hb d_Mod_pair_124 ?_
          exact k_lretR hx hb hr hlk hQ (by unfold prI; first | (rw [if_pos (by omega)]; congr 2 <;> (unfold clI; (repeat' split) <;> omega)) | (rw [if_neg (by omega)]; congr 2 <;> (unfold clI; (repeat' split) <;> omega))) d_Mod_pair_125
        · refine lv_iload hx hb d_Mod_pair_77 (lv_at hl 6 rfl) ?_
          refine lv_iconst (v := iv (1)) hx hb d_Mod_pair_79 rfl ?_
          refine k_isub hx hb d_Mod_pair_80 ?_
          refine lv_goto (tgt := 86) hx hb d_Mod_pair_81 (by decide) ?_
          refine lv_istore hx hb d_Mod_pair_86 hl (by decide) rfl (fun ls hl => ?_)
          have hl : lv_has ls 7 [(6, .int (iv (n0 - 1))), (5, .int (iv (0))), (0, .ref rM), (1, .int (iv (to))), (2, .int (iv (k0))), (3, .int (iv (j0))), (4, .int (iv (n0)))] := hl
          refine lv_iload_n hx hb d_Mod_pair_88 rfl (lv_at hl 3 rfl) ?_
          refine k_if_eq (tgt := 110) hx hb d_Mod_pair_89 (by decide) (by omega) (fun hc89 => ?_) (fun hc89 => absurd hc89 (by omega))
          refine lv_aload_n hx hb d_Mod_pair_110 rfl (lv_at hl 2 rfl) ?_
          refine va_get (D := gD G) (ci := 7) (v := .ref rod) (C := R_Mod) (T := F_Mod) (N := 34) hx hb hw in_Mod hown hK hP 0 rfl rfl 20 (by decide) (hw _ m3_144) (fun _ h => h) rfl d_Mod_pair_111 ?_
          refine lv_iload hx hb d_Mod_pair_114 (lv_at hl 1 rfl) ?_
          refine k_lal hx hb hK hP 2 1 rfl rfl (by decide) (by omega) d_Mod_pair_116 ?_
          refine lv_aload_n hx hb d_Mod_pair_117 rfl (lv_at hl 2 rfl) ?_
          refine va_get (D := gD G) (ci := 7) (v := .ref rod) (C := R_Mod) (T := F_Mod) (N := 34) hx hb hw in_Mod hown hK hP 0 rfl rfl 20 (by decide) (hw _ m3_144) (fun _ h => h) rfl d_Mod_pair_118 ?_
          refine lv_iload hx hb d_Mod_pair_121 (lv_at hl 0 rfl) ?_
          refine k_lal hx hb hK hP 2 1 rfl rfl (by decide) (by omega) d_Mod_pair_123 ?_
          refine lv_ladd hx hb d_Mod_pair_124 ?_
          exact k_lretR hx hb hr hlk hQ (by unfold prI; first | (rw [if_pos (by omega)]; congr 2 <;> (unfold clI; (repeat' split) <;> omega)) | (rw [if_neg (by omega)]; congr 2 <;> (unfold clI; (repeat' split) <;> omega))) d_Mod_pair_125
      · refine lv_iconst (v := iv (0)) hx hb d_Mod_pair_66 rfl ?_
        refine lv_goto (tgt := 86) hx hb d_Mod_pair_67 (by decide) ?_
        refine lv_istore hx hb d_Mod_pair_86 hl (by decide) rfl (fun ls hl => ?_)
        have hl : lv_has ls 7 [(6, .int (iv (0))), (5, .int (iv (0))), (0, .ref rM), (1, .int (iv (to))), (2, .int (iv (k0))), (3, .int (iv (j0))), (4, .int (iv (n0)))] := hl
        refine lv_iload_n hx hb d_Mod_pair_88 rfl (lv_at hl 3 rfl) ?_
        refine k_if_eq (tgt := 110) hx hb d_Mod_pair_89 (by decide) (by omega) (fun hc89 => ?_) (fun hc89 => absurd hc89 (by omega))
        refine lv_aload_n hx hb d_Mod_pair_110 rfl (lv_at hl 2 rfl) ?_
        refine va_get (D := gD G) (ci := 7) (v := .ref rod) (C := R_Mod) (T := F_Mod) (N := 34) hx hb hw in_Mod hown hK hP 0 rfl rfl 20 (by decide) (hw _ m3_144) (fun _ h => h) rfl d_Mod_pair_111 ?_
        refine lv_iload hx hb d_Mod_pair_114 (lv_at hl 1 rfl) ?_
        refine k_lal hx hb hK hP 2 1 rfl rfl (by decide) (by omega) d_Mod_pair_116 ?_
        refine lv_aload_n hx hb d_Mod_pair_117 rfl (lv_at hl 2 rfl) ?_
        refine va_get (D := gD G) (ci := 7) (v := .ref rod) (C := R_Mod) (T := F_Mod) (N := 34) hx hb hw in_Mod hown hK hP 0 rfl rfl 20 (by decide) (hw _ m3_144) (fun _ h => h) rfl d_Mod_pair_118 ?_
        refine lv_iload hx hb d_Mod_pair_121 (lv_at hl 0 rfl) ?_
        refine k_lal hx hb hK hP 2 1 rfl rfl (by decide) (by omega) d_Mod_pair_123 ?_
        refine lv_ladd hx hb d_Mod_pair_124 ?_
        exact k_lretR hx hb hr hlk hQ (by unfold prI; first | (rw [if_pos (by omega)]; congr 2 <;> (unfold clI; (repeat' split) <;> omega)) | (rw [if_neg (by omega)]; congr 2 <;> (unfold clI; (repeat' split) <;> omega))) d_Mod_pair_125
  · refine lv_iload_n hx hb d_Mod_pair_4 rfl (lv_at hl 2 rfl) ?_
    refine lv_iload_n hx hb d_Mod_pair_5 rfl (lv_at hl 3 rfl) ?_
    refine k_isub hx hb d_Mod_pair_6 ?_
    refine lv_goto (tgt := 15) hx hb d_Mod_pair_7 (by decide) ?_
    refine lv_istore hx hb d_Mod_pair_15 hl (by decide) rfl (fun ls hl => ?_)
    have hl : lv_has ls 7 [(5, .int (iv (k0 - j0))), (0, .ref rM), (1, .int (iv (to))), (2, .int (iv (k0))), (3, .int (iv (j0))), (4, .int (iv (n0)))] := hl
    refine lv_iload_n hx hb d_Mod_pair_17 rfl (lv_at hl 2 rfl) ?_
    refine k_if_eq (tgt := 29) hx hb d_Mod_pair_18 (by decide) (by omega) (fun hc18 => absurd hc18 (by omega)) (fun hc18 => ?_)
    refine lv_iload_n hx hb d_Mod_pair_21 rfl (lv_at hl 3 rfl) ?_
    refine lv_iconst (v := iv (1)) hx hb d_Mod_pair_22 rfl ?_
    refine k_iadd hx hb d_Mod_pair_23 ?_
    refine lv_iload_n hx hb d_Mod_pair_24 rfl (lv_at hl 4 rfl) ?_
    refine k_iadd hx hb d_Mod_pair_25 ?_
    refine lv_goto (tgt := 32) hx hb d_Mod_pair_26 (by decide) ?_
    refine lv_istore hx hb d_Mod_pair_32 hl (by decide) rfl (fun ls hl => ?_)
    have hl : lv_has ls 7 [(6, .int (iv ((k0 + 1) + j0))), (5, .int (iv (k0 - j0))), (0, .ref rM), (1, .int (iv (to))), (2, .int (iv (k0))), (3, .int (iv (j0))), (4, .int (iv (n0)))] := hl
    refine lv_iload hx hb d_Mod_pair_34 (lv_at hl 1 rfl) ?_
    refine k_if_ge (tgt := 43) hx hb d_Mod_pair_36 (by decide) (by omega) (fun hc36 => ?_) (fun hc36 => ?_)
    · refine lv_iload hx hb d_Mod_pair_43 (lv_at hl 1 rfl) ?_
      refine lv_iload hx hb d_Mod_pair_45 (lv_at hl 6 rfl) ?_
      refine k_icmp_lt (tgt := 57) hx hb d_Mod_pair_47 (by decide) (by omega) (by omega) (fun hc47 => ?_) (fun hc47 => ?_)
      · refine lv_iload hx hb d_Mod_pair_57 (lv_at hl 1 rfl) ?_
        refine lv_istore hx hb d_Mod_pair_59 hl (by decide) rfl (fun ls hl => ?_)
        have hl : lv_has ls 7 [(5, .int (iv (k0 - j0))), (6, .int (iv ((k0 + 1) + j0))), (0, .ref rM), (1, .int (iv (to))), (2, .int (iv (k0))), (3, .int (iv (j0))), (4, .int (iv (n0)))] := hl
        refine lv_iload hx hb d_Mod_pair_61 (lv_at hl 1 rfl) ?_
        refine k_if_ge (tgt := 70) hx hb d_Mod_pair_63 (by decide) (by omega) (fun hc63 => ?_) (fun hc63 => ?_)
        · refine lv_iload hx hb d_Mod_pair_70 (lv_at hl 1 rfl) ?_
          refine lv_iload hx hb d_Mod_pair_72 (lv_at hl 6 rfl) ?_
          refine k_icmp_lt (tgt := 84) hx hb d_Mod_pair_74 (by decide) (by omega) (by omega) (fun hc74 => ?_) (fun hc74 => ?_)
          · refine lv_iload hx hb d_Mod_pair_84 (lv_at hl 1 rfl) ?_
            refine lv_istore hx hb d_Mod_pair_86 hl (by decide) rfl (fun ls hl => ?_)
            have hl : lv_has ls 7 [(6, .int (iv ((k0 + 1) + j0))), (5, .int (iv (k0 - j0))), (0, .ref rM), (1, .int (iv (to))), (2, .int (iv (k0))), (3, .int (iv (j0))), (4, .int (iv (n0)))] := hl
            refine lv_iload_n hx hb d_Mod_pair_88 rfl (lv_at hl 3 rfl) ?_
            refine k_if_eq (tgt := 110) hx hb d_Mod_pair_89 (by decide) (by omega) (fun hc89 => absurd hc89 (by omega)) (fun hc89 => ?_)
            refine lv_aload_n hx hb d_Mod_pair_92 rfl (lv_at hl 2 rfl) ?_
            refine va_get (D := gD G) (ci := 7) (v := .ref rev) (C := R_Mod) (T := F_Mod) (N := 34) hx hb hw in_Mod hown hK hP 0 rfl rfl 19 (by decide) (hw _ m3_143) (fun _ h => h) rfl d_Mod_pair_93 ?_
            refine lv_iload hx hb d_Mod_pair_96 (lv_at hl 1 rfl) ?_
            refine k_lal hx hb hK hP 1 1 rfl rfl (by decide) (by omega) d_Mod_pair_98 ?_
            refine lv_aload_n hx hb d_Mod_pair_99 rfl (lv_at hl 2 rfl) ?_
            refine va_get (D := gD G) (ci := 7) (v := .ref rev) (C := R_Mod) (T := F_Mod) (N := 34) hx hb hw in_Mod hown hK hP 0 rfl rfl 19 (by decide) (hw _ m3_143) (fun _ h => h) rfl d_Mod_pair_100 ?_
            refine lv_iload hx hb d_Mod_pair_103 (lv_at hl 0 rfl) ?_
            refine k_lal hx hb hK hP 1 1 rfl rfl (by decide) (by omega) d_Mod_pair_105 ?_
            refine lv_ladd hx hb d_Mod_pair_106 ?_
            refine lv_goto (tgt := 125) hx hb d_Mod_pair_107 (by decide) ?_
            exact k_lretR hx hb hr hlk hQ (by unfold prI; first | (rw [if_pos (by omega)]; congr 2 <;> (unfold clI; (repeat' split) <;> omega)) | (rw [if_neg (by omega)]; congr 2 <;> (unfold clI; (repeat' split) <;> omega))) d_Mod_pair_125
          · refine lv_iload hx hb d_Mod_pair_77 (lv_at hl 6 rfl) ?_
            refine lv_iconst (v := iv (1)) hx hb d_Mod_pair_79 rfl ?_
            refine k_isub hx hb d_Mod_pair_80 ?_
            refine lv_goto (tgt := 86) hx hb d_Mod_pair_81 (by decide) ?_
            refine lv_istore hx hb d_Mod_pair_86 hl (by decide) rfl (fun ls hl => ?_)
            have hl : lv_has ls 7 [(6, .int (iv (n0 - 1))), (5, .int (iv (k0 - j0))), (0, .ref rM), (1, .int (iv (to))), (2, .int (iv (k0))), (3, .int (iv (j0))), (4, .int (iv (n0)))] := hl
            refine lv_iload_n hx hb d_Mod_pair_88 rfl (lv_at hl 3 rfl) ?_
            refine k_if_eq (tgt := 110) hx hb d_Mod_pair_89 (by decide) (by omega) (fun hc89 => absurd hc89 (by omega)) (fun hc89 => ?_)
            refine lv_aload_n hx hb d_Mod_pair_92 rfl (lv_at hl 2 rfl) ?_
            refine va_get (D := gD G) (ci := 7) (v := .ref rev) (C := R_Mod) (T := F_Mod) (N := 34) hx hb hw in_Mod hown hK hP 0 rfl rfl 19 (by decide) (hw _ m3_143) (fun _ h => h) rfl d_Mod_pair_93 ?_
            refine lv_iload hx hb d_Mod_pair_96 (lv_at hl 1 rfl) ?_
            refine k_lal hx hb hK hP 1 1 rfl rfl (by decide) (by omega) d_Mod_pair_98 ?_
            refine lv_aload_n hx hb d_Mod_pair_99 rfl (lv_at hl 2 rfl) ?_
            refine va_get (D := gD G) (ci := 7) (v := .ref rev) (C := R_Mod) (T := F_Mod) (N := 34) hx hb hw in_Mod hown hK hP 0 rfl rfl 19 (by decide) (hw _ m3_143) (fun _ h => h) rfl d_Mod_pair_100 ?_
            refine lv_iload hx hb d_Mod_pair_103 (lv_at hl 0 rfl) ?_
            refine k_lal hx hb hK hP 1 1 rfl rfl (by decide) (by omega) d_Mod_pair_105 ?_
            refine lv_ladd hx hb d_Mod_pair_106 ?_
            refine lv_goto (tgt := 125) hx hb d_Mod_pair_107 (by decide) ?_
            exact k_lretR hx hb hr hlk hQ (by unfold prI; first | (rw [if_pos (by omega)]; congr 2 <;> (unfold clI; (repeat' split) <;> omega)) | (rw [if_neg (by omega)]; congr 2 <;> (unfold clI; (repeat' split) <;> omega))) d_Mod_pair_125
        · refine lv_iconst (v := iv (0)) hx hb d_Mod_pair_66 rfl ?_
          refine lv_goto (tgt := 86) hx hb d_Mod_pair_67 (by decide) ?_
          refine lv_istore hx hb d_Mod_pair_86 hl (by decide) rfl (fun ls hl => ?_)
          have hl : lv_has ls 7 [(6, .int (iv (0))), (5, .int (iv (k0 - j0))), (0, .ref rM), (1, .int (iv (to))), (2, .int (iv (k0))), (3, .int (iv (j0))), (4, .int (iv (n0)))] := hl
          refine lv_iload_n hx hb d_Mod_pair_88 rfl (lv_at hl 3 rfl) ?_
          refine k_if_eq (tgt := 110) hx hb d_Mod_pair_89 (by decide) (by omega) (fun hc89 => absurd hc89 (by omega)) (fun hc89 => ?_)
          refine lv_aload_n hx hb d_Mod_pair_92 rfl (lv_at hl 2 rfl) ?_
          refine va_get (D := gD G) (ci := 7) (v := .ref rev) (C := R_Mod) (T := F_Mod) (N := 34) hx hb hw in_Mod hown hK hP 0 rfl rfl 19 (by decide) (hw _ m3_143) (fun _ h => h) rfl d_Mod_pair_93 ?_
          refine lv_iload hx hb d_Mod_pair_96 (lv_at hl 1 rfl) ?_
          refine k_lal hx hb hK hP 1 1 rfl rfl (by decide) (by omega) d_Mod_pair_98 ?_
          refine lv_aload_n hx hb d_Mod_pair_99 rfl (lv_at hl 2 rfl) ?_
          refine va_get (D := gD G) (ci := 7) (v := .ref rev) (C := R_Mod) (T := F_Mod) (N := 34) hx hb hw in_Mod hown hK hP 0 rfl rfl 19 (by decide) (hw _ m3_143) (fun _ h => h) rfl d_Mod_pair_100 ?_
          refine lv_iload hx hb d_Mod_pair_103 (lv_at hl 0 rfl) ?_
          refine k_lal hx hb hK hP 1 1 rfl rfl (by decide) (by omega) d_Mod_pair_105 ?_
          refine lv_ladd hx hb d_Mod_pair_106 ?_
          refine lv_goto (tgt := 125) hx hb d_Mod_pair_107 (by decide) ?_
          exact k_lretR hx hb hr hlk hQ (by unfold prI; first | (rw [if_pos (by omega)]; congr 2 <;> (unfold clI; (repeat' split) <;> omega)) | (rw [if_neg (by omega)]; congr 2 <;> (unfold clI; (repeat' split) <;> omega))) d_Mod_pair_125
      · refine lv_iload hx hb d_Mod_pair_50 (lv_at hl 6 rfl) ?_
        refine lv_iconst (v := iv (1)) hx hb d_Mod_pair_52 rfl ?_
        refine k_isub hx hb d_Mod_pair_53 ?_
        refine lv_goto (tgt := 59) hx hb d_Mod_pair_54 (by decide) ?_
        refine lv_istore hx hb d_Mod_pair_59 hl (by decide) rfl (fun ls hl => ?_)
        have hl : lv_has ls 7 [(5, .int (iv (n0 - 1))), (6, .int (iv ((k0 + 1) + j0))), (0, .ref rM), (1, .int (iv (to))), (2, .int (iv (k0))), (3, .int (iv (j0))), (4, .int (iv (n0)))] := hl
        refine lv_iload hx hb d_Mod_pair_61 (lv_at hl 1 rfl) ?_
        refine k_if_ge (tgt := 70) hx hb d_Mod_pair_63 (by decide) (by omega) (fun hc63 => ?_) (fun hc63 => ?_)
        · refine lv_iload hx hb d_Mod_pair_70 (lv_at hl 1 rfl) ?_
          refine lv_iload hx hb d_Mod_pair_72 (lv_at hl 6 rfl) ?_
          refine k_icmp_lt (tgt := 84) hx hb d_Mod_pair_74 (by decide) (by omega) (by omega) (fun hc74 => ?_) (fun hc74 => ?_)
          · refine lv_iload hx hb d_Mod_pair_84 (lv_at hl 1 rfl) ?_
            refine lv_istore hx hb d_Mod_pair_86 hl (by decide) rfl (fun ls hl => ?_)
            have hl : lv_has ls 7 [(6, .int (iv ((k0 + 1) + j0))), (5, .int (iv (n0 - 1))), (0, .ref rM), (1, .int (iv (to))), (2, .int (iv (k0))), (3, .int (iv (j0))), (4, .int (iv (n0)))] := hl
            refine lv_iload_n hx hb d_Mod_pair_88 rfl (lv_at hl 3 rfl) ?_
            refine k_if_eq (tgt := 110) hx hb d_Mod_pair_89 (by decide) (by omega) (fun hc89 => absurd hc89 (by omega)) (fun hc89 => ?_)
            refine lv_aload_n hx hb d_Mod_pair_92 rfl (lv_at hl 2 rfl) ?_
            refine va_get (D := gD G) (ci := 7) (v := .ref rev) (C := R_Mod) (T := F_Mod) (N := 34) hx hb hw in_Mod hown hK hP 0 rfl rfl 19 (by decide) (hw _ m3_143) (fun _ h => h) rfl d_Mod_pair_93 ?_
            refine lv_iload hx hb d_Mod_pair_96 (lv_at hl 1 rfl) ?_
            refine k_lal hx hb hK hP 1 1 rfl rfl (by decide) (by omega) d_Mod_pair_98 ?_
            refine lv_aload_n hx hb d_Mod_pair_99 rfl (lv_at hl 2 rfl) ?_
            refine va_get (D := gD G) (ci := 7) (v := .ref rev) (C := R_Mod) (T := F_Mod) (N := 34) hx hb hw in_Mod hown hK hP 0 rfl rfl 19 (by decide) (hw _ m3_143) (fun _ h => h) rfl d_Mod_pair_100 ?_
            refine lv_iload hx hb d_Mod_pair_103 (lv_at hl 0 rfl) ?_
            refine k_lal hx hb hK hP 1 1 rfl rfl (by decide) (by omega) d_Mod_pair_105 ?_
            refine lv_ladd hx hb d_Mod_pair_106 ?_
            refine lv_goto (tgt := 125) hx hb d_Mod_pair_107 (by decide) ?_
            exact k_lretR hx hb hr hlk hQ (by unfold prI; first | (rw [if_pos (by omega)]; congr 2 <;> (unfold clI; (repeat' split) <;> omega)) | (rw [if_neg (by omega)]; congr 2 <;> (unfold clI; (repeat' split) <;> omega))) d_Mod_pair_125
          · refine lv_iload hx hb d_Mod_pair_77 (lv_at hl 6 rfl) ?_
            refine lv_iconst (v := iv (1)) hx hb d_Mod_pair_79 rfl ?_
            refine k_isub hx hb d_Mod_pair_80 ?_
            refine lv_goto (tgt := 86) hx hb d_Mod_pair_81 (by decide) ?_
            refine lv_istore hx hb d_Mod_pair_86 hl (by decide) rfl (fun ls hl => ?_)
            have hl : lv_has ls 7 [(6, .int (iv (n0 - 1))), (5, .int (iv (n0 - 1))), (0, .ref rM), (1, .int (iv (to))), (2, .int (iv (k0))), (3, .int (iv (j0))), (4, .int (iv (n0)))] := hl
            refine lv_iload_n hx hb d_Mod_pair_88 rfl (lv_at hl 3 rfl) ?_
            refine k_if_eq (tgt := 110) hx hb d_Mod_pair_89 (by decide) (by omega) (fun hc89 => absurd hc89 (by omega)) (fun hc89 => ?_)
            refine lv_aload_n hx hb d_Mod_pair_92 rfl (lv_at hl 2 rfl) ?_
            refine va_get (D := gD G) (ci := 7) (v := .ref rev) (C := R_Mod) (T := F_Mod) (N := 34) hx hb hw in_Mod hown hK hP 0 rfl rfl 19 (by decide) (hw _ m3_143) (fun _ h => h) rfl d_Mod_pair_93 ?_
            refine lv_iload hx hb d_Mod_pair_96 (lv_at hl 1 rfl) ?_
            refine k_lal hx hb hK hP 1 1 rfl rfl (by decide) (by omega) d_Mod_pair_98 ?_
            refine lv_aload_n hx hb d_Mod_pair_99 rfl (lv_at hl 2 rfl) ?_
            refine va_get (D := gD G) (ci := 7) (v := .ref rev) (C := R_Mod) (T := F_Mod) (N := 34) hx hb hw in_Mod hown hK hP 0 rfl rfl 19 (by decide) (hw _ m3_143) (fun _ h => h) rfl d_Mod_pair_100 ?_
            refine lv_iload hx hb d_Mod_pair_103 (lv_at hl 0 rfl) ?_
            refine k_lal hx hb hK hP 1 1 rfl rfl (by decide) (by omega) d_Mod_pair_105 ?_
            refine lv_ladd hx hb d_Mod_pair_106 ?_
            refine lv_goto (tgt := 125) hx hb d_Mod_pair_107 (by decide) ?_
            exact k_lretR hx hb hr hlk hQ (by unfold prI; first | (rw [if_pos (by omega)]; congr 2 <;> (unfold clI; (repeat' split) <;> omega)) | (rw [if_neg (by omega)]; congr 2 <;> (unfold clI; (repeat' split) <;> omega))) d_Mod_pair_125
        · refine lv_iconst (v := iv (0)) hx hb d_Mod_pair_66 rfl ?_
          refine lv_goto (tgt := 86) hx hb d_Mod_pair_67 (by decide) ?_
          refine lv_istore hx hb d_Mod_pair_86 hl (by decide) rfl (fun ls hl => ?_)
          have hl : lv_has ls 7 [(6, .int (iv (0))), (5, .int (iv (n0 - 1))), (0, .ref rM), (1, .int (iv (to))), (2, .int (iv (k0))), (3, .int (iv (j0))), (4, .int (iv (n0)))] := hl
          refine lv_iload_n hx hb d_Mod_pair_88 rfl (lv_at hl 3 rfl) ?_
          refine k_if_eq (tgt := 110) hx hb d_Mod_pair_89 (by decide) (by omega) (fun hc89 => absurd hc89 (by omega)) (fun hc89 => ?_)
          refine lv_aload_n hx hb d_Mod_pair_92 rfl (lv_at hl 2 rfl) ?_
          refine va_get (D := gD G) (ci := 7) (v := .ref rev) (C := R_Mod) (T := F_Mod) (N := 34) hx hb hw in_Mod hown hK hP 0 rfl rfl 19 (by decide) (hw _ m3_143) (fun _ h => h) rfl d_Mod_pair_93 ?_
          refine lv_iload hx hb d_Mod_pair_96 (lv_at hl 1 rfl) ?_
          refine k_lal hx hb hK hP 1 1 rfl rfl (by decide) (by omega) d_Mod_pair_98 ?_
          refine lv_aload_n hx hb d_Mod_pair_99 rfl (lv_at hl 2 rfl) ?_
          refine va_get (D := gD G) (ci := 7) (v := .ref rev) (C := R_Mod) (T := F_Mod) (N := 34) hx hb hw in_Mod hown hK hP 0 rfl rfl 19 (by decide) (hw _ m3_143) (fun _ h => h) rfl d_Mod_pair_100 ?_
          refine lv_iload hx hb d_Mod_pair_103 (lv_at hl 0 rfl) ?_
          refine k_lal hx hb hK hP 1 1 rfl rfl (by decide) (by omega) d_Mod_pair_105 ?_
          refine lv_ladd hx hb d_Mod_pair_106 ?_
          refine lv_goto (tgt := 125) hx hb d_Mod_pair_107 (by decide) ?_
          exact k_lretR hx hb hr hlk hQ (by unfold prI; first | (rw [if_pos (by omega)]; congr 2 <;> (unfold clI; (repeat' split) <;> omega)) | (rw [if_neg (by omega)]; congr 2 <;> (unfold clI; (repeat' split) <;> omega))) d_Mod_pair_125
    · refine lv_iconst (v := iv (0)) hx hb d_Mod_pair_39 rfl ?_
      refine lv_goto (tgt := 59) hx hb d_Mod_pair_40 (by decide) ?_
      refine lv_istore hx hb d_Mod_pair_59 hl (by decide) rfl (fun ls hl => ?_)
      have hl : lv_has ls 7 [(5, .int (iv (0))), (6, .int (iv ((k0 + 1) + j0))), (0, .ref rM), (1, .int (iv (to))), (2, .int (iv (k0))), (3, .int (iv (j0))), (4, .int (iv (n0)))] := hl
      refine lv_iload hx hb d_Mod_pair_61 (lv_at hl 1 rfl) ?_
      refine k_if_ge (tgt := 70) hx hb d_Mod_pair_63 (by decide) (by omega) (fun hc63 => ?_) (fun hc63 => ?_)
      · refine lv_iload hx hb d_Mod_pair_70 (lv_at hl 1 rfl) ?_
        refine lv_iload hx hb d_Mod_pair_72 (lv_at hl 6 rfl) ?_
        refine k_icmp_lt (tgt := 84) hx hb d_Mod_pair_74 (by decide) (by omega) (by omega) (fun hc74 => ?_) (fun hc74 => ?_)
        · refine lv_iload hx hb d_Mod_pair_84 (lv_at hl 1 rfl) ?_
          refine lv_istore hx hb d_Mod_pair_86 hl (by decide) rfl (fun ls hl => ?_)
          have hl : lv_has ls 7 [(6, .int (iv ((k0 + 1) + j0))), (5, .int (iv (0))), (0, .ref rM), (1, .int (iv (to))), (2, .int (iv (k0))), (3, .int (iv (j0))), (4, .int (iv (n0)))] := hl
          refine lv_iload_n hx hb d_Mod_pair_88 rfl (lv_at hl 3 rfl) ?_
          refine k_if_eq (tgt := 110) hx hb d_Mod_pair_89 (by decide) (by omega) (fun hc89 => absurd hc89 (by omega)) (fun hc89 => ?_)
          refine lv_aload_n hx hb d_Mod_pair_92 rfl (lv_at hl 2 rfl) ?_
          refine va_get (D := gD G) (ci := 7) (v := .ref rev) (C := R_Mod) (T := F_Mod) (N := 34) hx hb hw in_Mod hown hK hP 0 rfl rfl 19 (by decide) (hw _ m3_143) (fun _ h => h) rfl d_Mod_pair_93 ?_
          refine lv_iload hx hb d_Mod_pair_96 (lv_at hl 1 rfl) ?_
          refine k_lal hx hb hK hP 1 1 rfl rfl (by decide) (by omega) d_Mod_pair_98 ?_
          refine lv_aload_n hx hb d_Mod_pair_99 rfl (lv_at hl 2 rfl) ?_
          refine va_get (D := gD G) (ci := 7) (v := .ref rev) (C := R_Mod) (T := F_Mod) (N := 34) hx hb hw in_Mod hown hK hP 0 rfl rfl 19 (by decide) (hw _ m3_143) (fun _ h => h) rfl d_Mod_pair_100 ?_
          refine lv_iload hx hb d_Mod_pair_103 (lv_at hl 0 rfl) ?_
          refine k_lal hx hb hK hP 1 1 rfl rfl (by decide) (by omega) d_Mod_pair_105 ?_
          refine lv_ladd hx hb d_Mod_pair_106 ?_
          refine lv_goto (tgt := 125) hx hb d_Mod_pair_107 (by decide) ?_
          exact k_lretR hx hb hr hlk hQ (by unfold prI; first | (rw [if_pos (by omega)]; congr 2 <;> (unfold clI; (repeat' split) <;> omega)) | (rw [if_neg (by omega)]; congr 2 <;> (unfold clI; (repeat' split) <;> omega))) d_Mod_pair_125
        · refine lv_iload hx hb d_Mod_pair_77 (lv_at hl 6 rfl) ?_
          refine lv_iconst (v := iv (1)) hx hb d_Mod_pair_79 rfl ?_
          refine k_isub hx hb d_Mod_pair_80 ?_
          refine lv_goto (tgt := 86) hx hb d_Mod_pair_81 (by decide) ?_
          refine lv_istore hx hb d_Mod_pair_86 hl (by decide) rfl (fun ls hl => ?_)
          have hl : lv_has ls 7 [(6, .int (iv (n0 - 1))), (5, .int (iv (0))), (0, .ref rM), (1, .int (iv (to))), (2, .int (iv (k0))), (3, .int (iv (j0))), (4, .int (iv (n0)))] := hl
          refine lv_iload_n hx hb d_Mod_pair_88 rfl (lv_at hl 3 rfl) ?_
          refine k_if_eq (tgt := 110) hx hb d_Mod_pair_89 (by decide) (by omega) (fun hc89 => absurd hc89 (by omega)) (fun hc89 => ?_)
          refine lv_aload_n hx hb d_Mod_pair_92 rfl (lv_at hl 2 rfl) ?_
          refine va_get (D := gD G) (ci := 7) (v := .ref rev) (C := R_Mod) (T := F_Mod) (N := 34) hx hb hw in_Mod hown hK hP 0 rfl rfl 19 (by decide) (hw _ m3_143) (fun _ h => h) rfl d_Mod_pair_93 ?_
          refine lv_iload hx hb d_Mod_pair_96 (lv_at hl 1 rfl) ?_
          refine k_lal hx hb hK hP 1 1 rfl rfl (by decide) (by omega) d_Mod_pair_98 ?_
          refine lv_aload_n hx hb d_Mod_pair_99 rfl (lv_at hl 2 rfl) ?_
          refine va_get (D := gD G) (ci := 7) (v := .ref rev) (C := R_Mod) (T := F_Mod) (N := 34) hx hb hw in_Mod hown hK hP 0 rfl rfl 19 (by decide) (hw _ m3_143) (fun _ h => h) rfl d_Mod_pair_100 ?_
          refine lv_iload hx hb d_Mod_pair_103 (lv_at hl 0 rfl) ?_
          refine k_lal hx hb hK hP 1 1 rfl rfl (by decide) (by omega) d_Mod_pair_105 ?_
          refine lv_ladd hx hb d_Mod_pair_106 ?_
          refine lv_goto (tgt := 125) hx hb d_Mod_pair_107 (by decide) ?_
          exact k_lretR hx hb hr hlk hQ (by unfold prI; first | (rw [if_pos (by omega)]; congr 2 <;> (unfold clI; (repeat' split) <;> omega)) | (rw [if_neg (by omega)]; congr 2 <;> (unfold clI; (repeat' split) <;> omega))) d_Mod_pair_125
      · refine lv_iconst (v := iv (0)) hx hb d_Mod_pair_66 rfl ?_
        refine lv_goto (tgt := 86) hx hb d_Mod_pair_67 (by decide) ?_
        refine lv_istore hx hb d_Mod_pair_86 hl (by decide) rfl (fun ls hl => ?_)
        have hl : lv_has ls 7 [(6, .int (iv (0))), (5, .int (iv (0))), (0, .ref rM), (1, .int (iv (to))), (2, .int (iv (k0))), (3, .int (iv (j0))), (4, .int (iv (n0)))] := hl
        refine lv_iload_n hx hb d_Mod_pair_88 rfl (lv_at hl 3 rfl) ?_
        refine k_if_eq (tgt := 110) hx hb d_Mod_pair_89 (by decide) (by omega) (fun hc89 => absurd hc89 (by omega)) (fun hc89 => ?_)
        refine lv_aload_n hx hb d_Mod_pair_92 rfl (lv_at hl 2 rfl) ?_
        refine va_get (D := gD G) (ci := 7) (v := .ref rev) (C := R_Mod) (T := F_Mod) (N := 34) hx hb hw in_Mod hown hK hP 0 rfl rfl 19 (by decide) (hw _ m3_143) (fun _ h => h) rfl d_Mod_pair_93 ?_
        refine lv_iload hx hb d_Mod_pair_96 (lv_at hl 1 rfl) ?_
        refine k_lal hx hb hK hP 1 1 rfl rfl (by decide) (by omega) d_Mod_pair_98 ?_
        refine lv_aload_n hx hb d_Mod_pair_99 rfl (lv_at hl 2 rfl) ?_
        refine va_get (D := gD G) (ci := 7) (v := .ref rev) (C := R_Mod) (T := F_Mod) (N := 34) hx hb hw in_Mod hown hK hP 0 rfl rfl 19 (by decide) (hw _ m3_143) (fun _ h => h) rfl d_Mod_pair_100 ?_
        refine lv_iload hx hb d_Mod_pair_103 (lv_at hl 0 rfl) ?_
        refine k_lal hx hb hK hP 1 1 rfl rfl (by decide) (by omega) d_Mod_pair_105 ?_
        refine lv_ladd hx hb d_Mod_pair_106 ?_
        refine lv_goto (tgt := 125) hx hb d_Mod_pair_107 (by decide) ?_
        exact k_lretR hx hb hr hlk hQ (by unfold prI; first | (rw [if_pos (by omega)]; congr 2 <;> (unfold clI; (repeat' split) <;> omega)) | (rw [if_neg (by omega)]; congr 2 <;> (unfold clI; (repeat' split) <;> omega))) d_Mod_pair_125
abbrev w_Mod_changesOdd : List Cond := Cond.code y_Mod_changesOdd prog_9_method_16_code 2 (some .boolean) :: wl
abbrev r_Mod_changesOdd : Room := { frames := 0, cells := 0, slots := 0, locals := 0 }
set_option maxHeartbeats 4000000 in
set_option maxRecDepth 100000 in
theorem c_Mod_changesOdd (l : Launch) (G : k_G) (sz : Nat) (rM rP rk rG rW rK rE rst rev rod rp rb rbl : Nat) (st0 wd ht kd db ew ac dn pr nu de wr rd cn ba sz1 lb rm cu sp nz sl uz : Int) (hst : 0 ≤ st0 ∧ st0 ≤ 3) (hkd : 0 ≤ kd ∧ kd ≤ 6) : Met l y_Mod_changesOdd w_Mod_changesOdd r_Mod_changesOdd (k_P G [.ref rM, .int (iv (st0))] [o_Mod rM wd ht rP rk rG rW rK kd db ew ac dn pr nu de rE rst wr rd rev rod cn rp rb ba sz1 lb rm cu sp nz rbl sl uz] sz) (vp_Si (fun r : Int32 => r = iv (bI (cOd kd st0)))) 0 0 (fun _ => False) := by
  refine k_met (fun _ => vp_Si (fun r : Int32 => r = iv (bI (cOd kd st0)))) (fun _ _ => False) (by decide) rfl (Nat.le_of_ble_eq_true rfl) (fun p e s m args below meth c ls A Q S hr hlk hnm hl hsz hP hK hD hS hA hT hQ => ?_)
  obtain ⟨hx, hb, hml, hown, hts⟩ := id S
  have hw : ∀ w ∈ wl, w.before args s = true := fun w h => hts w (List.mem_cons_of_mem _ h)
  have hl : lv_has ls 2 [(0, .ref rM), (1, .int (iv (st0)))] := hl
  refine lv_aload_n hx hb d_Mod_changesOdd_0 rfl (lv_at hl 0 rfl) ?_
  refine va_get (D := gD G) (ci := 7) (v := .int (iv (kd))) (C := R_Mod) (T := F_Mod) (N := 34) hx hb hw in_Mod hown hK hP 0 rfl rfl 7 (by decide) (hw _ m3_131) (fun _ h => h) rfl d_Mod_changesOdd_1 ?_
  refine lv_iconst (v := iv (5)) hx hb d_Mod_changesOdd_4 rfl ?_
  refine k_icmp_ne (tgt := 21) hx hb d_Mod_changesOdd_5 (by decide) (by omega) (by omega) (fun hc5 => ?_) (fun hc5 => ?_)
  · refine lv_iload_n hx hb d_Mod_changesOdd_21 rfl (lv_at hl 1 rfl) ?_
    refine lv_iconst (v := iv (2)) hx hb d_Mod_changesOdd_22 rfl ?_
    refine k_irem hx hb d_Mod_changesOdd_23 (by omega) (by omega) ?_
    refine k_if_ne (tgt := 31) hx hb d_Mod_changesOdd_24 (by decide) (by omega) (fun hc24 => ?_) (fun hc24 => ?_)
    · refine lv_iconst (v := iv (0)) hx hb d_Mod_changesOdd_31 rfl ?_
      exact k_zretR hx hb hr hlk (by omega) hQ (by unfold cOd; first | rw [bI_t (by omega)] | rw [bI_f (by omega)]) d_Mod_changesOdd_32
    · refine lv_iconst (v := iv (1)) hx hb d_Mod_changesOdd_27 rfl ?_
      refine lv_goto (tgt := 32) hx hb d_Mod_changesOdd_28 (by decide) ?_
      exact k_zretR hx hb hr hlk (by omega) hQ (by unfold cOd; first | rw [bI_t (by omega)] | rw [bI_f (by omega)]) d_Mod_changesOdd_32
  · refine lv_iload_n hx hb d_Mod_changesOdd_8 rfl (lv_at hl 1 rfl) ?_
    refine lv_iconst (v := iv (1)) hx hb d_Mod_changesOdd_9 rfl ?_
    refine k_icmp_ne (tgt := 17) hx hb d_Mod_changesOdd_10 (by decide) (by omega) (by omega) (fun hc10 => ?_) (fun hc10 => ?_)
    · refine lv_iconst (v := iv (0)) hx hb d_Mod_changesOdd_17 rfl ?_
      refine lv_goto (tgt := 32) hx hb d_Mod_changesOdd_18 (by decide) ?_
      exact k_zretR hx hb hr hlk (by omega) hQ (by unfold cOd; first | rw [bI_t (by omega)] | rw [bI_f (by omega)]) d_Mod_changesOdd_32
    · refine lv_iconst (v := iv (1)) hx hb d_Mod_changesOdd_13 rfl ?_
      refine lv_goto (tgt := 32) hx hb d_Mod_changesOdd_14 (by decide) ?_
      exact k_zretR hx hb hr hlk (by omega) hQ (by unfold cOd; first | rw [bI_t (by omega)] | rw [bI_f (by omega)]) d_Mod_changesOdd_32
abbrev w_Mod_takesAway : List Cond := Cond.code y_Mod_takesAway prog_9_method_17_code 2 (some .boolean) :: wl
abbrev r_Mod_takesAway : Room := { frames := 0, cells := 0, slots := 0, locals := 0 }
set_option maxHeartbeats 4000000 in
set_option maxRecDepth 100000 in
theorem c_Mod_takesAway (l : Launch) (G : k_G) (sz : Nat) (rM rP rk rG rW rK rE rst rev rod rp rb rbl : Nat) (st0 wd ht kd db ew ac dn pr nu de wr rd cn ba sz1 lb rm cu sp nz sl uz : Int) (hst : 0 ≤ st0 ∧ st0 ≤ 3) (hkd : 0 ≤ kd ∧ kd ≤ 6) : Met l y_Mod_takesAway w_Mod_takesAway r_Mod_takesAway (k_P G [.ref rM, .int (iv (st0))] [o_Mod rM wd ht rP rk rG rW rK kd db ew ac dn pr nu de rE rst wr rd rev rod cn rp rb ba sz1 lb rm cu sp nz rbl sl uz] sz) (vp_Si (fun r : Int32 => r = iv (bI (tAw kd st0)))) 0 0 (fun _ => False) := by
  refine k_met (fun _ => vp_Si (fun r : Int32 => r = iv (bI (tAw kd st0)))) (fun _ _ => False) (by decide) rfl (Nat.le_of_ble_eq_true rfl) (fun p e s m args below meth c ls A Q S hr hlk hnm hl hsz hP hK hD hS hA hT hQ => ?_)
  obtain ⟨hx, hb, hml, hown, hts⟩ := id S
  have hw : ∀ w ∈ wl, w.before args s = true := fun w h => hts w (List.mem_cons_of_mem _ h)
  have hl : lv_has ls 2 [(0, .ref rM), (1, .int (iv (st0)))] := hl
  refine lv_aload_n hx hb d_Mod_takesAway_0 rfl (lv_at hl 0 rfl) ?_
  refine va_get (D := gD G) (ci := 7) (v := .int (iv (kd))) (C := R_Mod) (T := F_Mod) (N := 34) hx hb hw in_Mod hown hK hP 0 rfl rfl 7 (by decide) (hw _ m3_131) (fun _ h => h) rfl d_Mod_takesAway_1 ?_
  refine lv_iconst (v := iv (5)) hx hb d_Mod_takesAway_4 rfl ?_
  refine k_icmp_ne (tgt := 21) hx hb d_Mod_takesAway_5 (by decide) (by omega) (by omega) (fun hc5 => ?_) (fun hc5 => ?_)
  · refine lv_aload_n hx hb d_Mod_takesAway_21 rfl (lv_at hl 0 rfl) ?_
    refine va_get (D := gD G) (ci := 7) (v := .int (iv (kd))) (C := R_Mod) (T := F_Mod) (N := 34) hx hb hw in_Mod hown hK hP 0 rfl rfl 7 (by decide) (hw _ m3_131) (fun _ h => h) rfl d_Mod_takesAway_22 ?_
    refine lv_bipush (v := iv (6)) hx hb d_Mod_takesAway_25 rfl ?_
    refine k_icmp_ne (tgt := 43) hx hb d_Mod_takesAway_27 (by decide) (by omega) (by omega) (fun hc27 => ?_) (fun hc27 => ?_)
    · refine lv_iload_n hx hb d_Mod_takesAway_43 rfl (lv_at hl 1 rfl) ?_
      refine k_if_ne (tgt := 51) hx hb d_Mod_takesAway_44 (by decide) (by omega) (fun hc44 => ?_) (fun hc44 => ?_)
      · refine lv_iconst (v := iv (0)) hx hb d_Mod_takesAway_51 rfl ?_
        exact k_zretR hx hb hr hlk (by omega) hQ (by unfold tAw; first | rw [bI_t (by omega)] | rw [bI_f (by omega)]) d_Mod_takesAway_52
      · refine lv_iconst (v := iv (1)) hx hb d_Mod_takesAway_47 rfl ?_
        refine lv_goto (tgt := 52) hx hb d_Mod_takesAway_48 (by decide) ?_
        exact k_zretR hx hb hr hlk (by omega) hQ (by unfold tAw; first | rw [bI_t (by omega)] | rw [bI_f (by omega)]) d_Mod_takesAway_52
    · refine lv_iload_n hx hb d_Mod_takesAway_30 rfl (lv_at hl 1 rfl) ?_
      refine lv_iconst (v := iv (2)) hx hb d_Mod_takesAway_31 rfl ?_
      refine k_icmp_ge (tgt := 39) hx hb d_Mod_takesAway_32 (by decide) (by omega) (by omega) (fun hc32 => ?_) (fun hc32 => ?_)
      · refine lv_iconst (v := iv (0)) hx hb d_Mod_takesAway_39 rfl ?_
        refine lv_goto (tgt := 52) hx hb d_Mod_takesAway_40 (by decide) ?_
        exact k_zretR hx hb hr hlk (by omega) hQ (by unfold tAw; first | rw [bI_t (by omega)] | rw [bI_f (by omega)]) d_Mod_takesAway_52
      · refine lv_iconst (v := iv (1)) hx hb d_Mod_takesAway_35 rfl ?_
        refine lv_goto (tgt := 52) hx hb d_Mod_takesAway_36 (by decide) ?_
        exact k_zretR hx hb hr hlk (by omega) hQ (by unfold tAw; first | rw [bI_t (by omega)] | rw [bI_f (by omega)]) d_Mod_takesAway_52
  · refine lv_iload_n hx hb d_Mod_takesAway_8 rfl (lv_at hl 1 rfl) ?_
    refine lv_iconst (v := iv (1)) hx hb d_Mod_takesAway_9 rfl ?_
    refine k_icmp_ne (tgt := 17) hx hb d_Mod_takesAway_10 (by decide) (by omega) (by omega) (fun hc10 => ?_) (fun hc10 => ?_)
    · refine lv_iconst (v := iv (0)) hx hb d_Mod_takesAway_17 rfl ?_
      refine lv_goto (tgt := 52) hx hb d_Mod_takesAway_18 (by decide) ?_
      exact k_zretR hx hb hr hlk (by omega) hQ (by unfold tAw; first | rw [bI_t (by omega)] | rw [bI_f (by omega)]) d_Mod_takesAway_52
    · refine lv_iconst (v := iv (1)) hx hb d_Mod_takesAway_13 rfl ?_
      refine lv_goto (tgt := 52) hx hb d_Mod_takesAway_14 (by decide) ?_
      exact k_zretR hx hb hr hlk (by omega) hQ (by unfold tAw; first | rw [bI_t (by omega)] | rw [bI_f (by omega)]) d_Mod_takesAway_52
abbrev w_Mod_amount : List Cond := Cond.code y_Mod_amount prog_9_method_18_code 15 (some .long) :: wl
abbrev r_Mod_amount : Room := { frames := 1, cells := 0, slots := 0, locals := 26 }
set_option maxHeartbeats 4000000 in
set_option maxRecDepth 100000 in
theorem c_Mod_amount (l : Launch) (G : k_G) (sz : Nat) (rM rP rk rG rW rK rE rst rev rod rp rb rbl : Nat) (st0 k0 n0 wd ht kd db ew ac dn pr nu de wr rd cn ba sz1 lb rm cu sp nz sl uz : Int) (ge go : Int → Int64) (hst : 0 ≤ st0 ∧ st0 ≤ 3) (hkd : 0 ≤ kd ∧ kd ≤ 6) (hk0 : 0 ≤ k0 ∧ k0 < n0) (hn0 : 1 ≤ n0 ∧ n0 ≤ 8) : Met l y_Mod_amount w_Mod_amount r_Mod_amount (k_P G [.ref rM, .int (iv (st0)), .int (iv (k0)), .int (iv (n0))] [o_Mod rM wd ht rP rk rG rW rK kd db ew ac dn pr nu de rE rst wr rd rev rod cn rp rb ba sz1 lb rm cu sp nz rbl sl uz, (rev, al (gL G) 8 (ge)), (rod, al (gL G) 8 (go))] sz) (vp_Sl (fun r : Int64 => r = amL kd st0 ge go k0 n0)) 0 0 (fun _ => False) := by
  refine k_met (fun _ => vp_Sl (fun r : Int64 => r = amL kd st0 ge go k0 n0)) (fun _ _ => False) (by decide) rfl (Nat.le_of_ble_eq_true rfl) (fun p e s m args below meth c ls A Q S hr hlk hnm hl hsz hP hK hD hS hA hT hQ => ?_)
  obtain ⟨hx, hb, hml, hown, hts⟩ := id S
  have hw : ∀ w ∈ wl, w.before args s = true := fun w h => hts w (List.mem_cons_of_mem _ h)
  have hl : lv_has ls 15 [(0, .ref rM), (1, .int (iv (st0))), (2, .int (iv (k0))), (3, .int (iv (n0)))] := hl
  refine lv_aload_n hx hb d_Mod_amount_0 rfl (lv_at hl 0 rfl) ?_
  refine lv_iload_n hx hb d_Mod_amount_1 rfl (lv_at hl 1 rfl) ?_
  refine k_ciR (k_rv S (c_Mod_changesOdd l G _ rM rP rk rG rW rK rE rst rev rod rp rb rbl st0 wd ht kd db ew ac dn pr nu de wr rd cn ba sz1 lb rm cu sp nz sl uz (by omega) (by omega)) 1 m4_70 m4_67 m4_69 mp_29 m1_9 (by decide +kernel) (by decide) rfl rfl (k_preV (q0 := 0) hK hP hD hS hA hT rfl rfl [0] (by decide) rfl) rfl hl.1 rfl (Nat.le_of_ble_eq_true rfl) d_Mod_amount_2 ⟨Nat.le_of_ble_eq_true rfl, Nat.le_of_ble_eq_true rfl⟩) (fun r2 h2 => ?_)
  subst h2
  refine lv_istore hx hb d_Mod_amount_5 hl (by decide) rfl (fun ls hl => ?_)
  have hl : lv_has ls 15 [(4, .int (iv (bI (cOd kd st0)))), (0, .ref rM), (1, .int (iv (st0))), (2, .int (iv (k0))), (3, .int (iv (n0)))] := hl
  refine lv_aload_n hx hb d_Mod_amount_7 rfl (lv_at hl 1 rfl) ?_
  refine lv_iload hx hb d_Mod_amount_8 (lv_at hl 0 rfl) ?_
  refine lv_iload_n hx hb d_Mod_amount_10 rfl (lv_at hl 3 rfl) ?_
  refine lv_iconst (v := iv (0)) hx hb d_Mod_amount_11 rfl ?_
  refine lv_iload_n hx hb d_Mod_amount_12 rfl (lv_at hl 4 rfl) ?_
  refine k_clR (k_rv S (c_Mod_pair l G _ rM rP rk rG rW rK rE rst rev rod rp rb rbl (bI (cOd kd st0)) k0 0 n0 wd ht kd db ew ac dn pr nu de wr rd cn ba sz1 lb rm cu sp nz sl uz ge go (bI_z _) (by omega) (by omega) (by omega)) 4 m4_82 m4_79 m4_81 mp_32 m1_9 (by decide +kernel) (by decide) rfl rfl (k_preV (q0 := 0) hK hP hD hS hA hT rfl rfl [0, 1, 2] (by decide) rfl) rfl hl.1 rfl (Nat.le_of_ble_eq_true rfl) d_Mod_amount_13 ⟨Nat.le_of_ble_eq_true rfl, Nat.le_of_ble_eq_true rfl⟩) (fun r13 h13 => ?_)
  subst h13
  refine lv_lstore hx hb d_Mod_amount_16 hl (by decide) rfl (fun ls hl => ?_)
  have hl : lv_has ls 15 [(5, .long (prI ge go (bI (cOd kd st0)) k0 0 n0)), (4, .int (iv (bI (cOd kd st0)))), (0, .ref rM), (1, .int (iv (st0))), (2, .int (iv (k0))), (3, .int (iv (n0)))] := hl
  refine lv_aload_n hx hb d_Mod_amount_18 rfl (lv_at hl 2 rfl) ?_
  refine lv_iload hx hb d_Mod_amount_19 (lv_at hl 1 rfl) ?_
  refine lv_iload_n hx hb d_Mod_amount_21 rfl (lv_at hl 4 rfl) ?_
  refine lv_iconst (v := iv (1)) hx hb d_Mod_amount_22 rfl ?_
  refine lv_iload_n hx hb d_Mod_amount_23 rfl (lv_at hl 5 rfl) ?_
  refine k_clR (k_rv S (c_Mod_pair l G _ rM rP rk rG rW rK rE rst rev rod rp rb rbl (bI (cOd kd st0)) k0 1 n0 wd ht kd db ew ac dn pr nu de wr rd cn ba sz1 lb rm cu sp nz sl uz ge go (bI_z _) (by omega) (by omega) (by omega)) 4 m4_82 m4_79 m4_81 mp_32 m1_9 (by decide +kernel) (by decide) rfl rfl (k_preV (q0 := 0) hK hP hD hS hA hT rfl rfl [0, 1, 2] (by decide) rfl) rfl hl.1 rfl (Nat.le_of_ble_eq_true rfl) d_Mod_amount_24 ⟨Nat.le_of_ble_eq_true rfl, Nat.le_of_ble_eq_true rfl⟩) (fun r24 h24 => ?_)
  subst h24
  refine lv_lstore hx hb d_Mod_amount_27 hl (by decide) rfl (fun ls hl => ?_)
  have hl : lv_has ls 15 [(7, .long (prI ge go (bI (cOd kd st0)) k0 1 n0)), (5, .long (prI ge go (bI (cOd kd st0)) k0 0 n0)), (4, .int (iv (bI (cOd kd st0)))), (0, .ref rM), (1, .int (iv (st0))), (2, .int (iv (k0))), (3, .int (iv (n0)))] := hl
  refine lv_aload_n hx hb d_Mod_amount_29 rfl (lv_at hl 3 rfl) ?_
  refine lv_iload hx hb d_Mod_amount_30 (lv_at hl 2 rfl) ?_
  refine lv_iload_n hx hb d_Mod_amount_32 rfl (lv_at hl 5 rfl) ?_
  refine lv_iconst (v := iv (2)) hx hb d_Mod_amount_33 rfl ?_
  refine lv_iload_n hx hb d_Mod_amount_34 rfl (lv_at hl 6 rfl) ?_
  refine k_clR (k_rv S (c_Mod_pair l G _ rM rP rk rG rW rK rE rst rev rod rp rb rbl (bI (cOd kd st0)) k0 2 n0 wd ht kd db ew ac dn pr nu de wr rd cn ba sz1 lb rm cu sp nz sl uz ge go (bI_z _) (by omega) (by omega) (by omega)) 4 m4_82 m4_79 m4_81 mp_32 m1_9 (by decide +kernel) (by decide) rfl rfl (k_preV (q0 := 0) hK hP hD hS hA hT rfl rfl [0, 1, 2] (by decide) rfl) rfl hl.1 rfl (Nat.le_of_ble_eq_true rfl) d_Mod_amount_35 ⟨Nat.le_of_ble_eq_true rfl, Nat.le_of_ble_eq_true rfl⟩) (fun r35 h35 => ?_)
  subst h35
  refine lv_lstore hx hb d_Mod_amount_38 hl (by decide) rfl (fun ls hl => ?_)
  have hl : lv_has ls 15 [(9, .long (prI ge go (bI (cOd kd st0)) k0 2 n0)), (7, .long (prI ge go (bI (cOd kd st0)) k0 1 n0)), (5, .long (prI ge go (bI (cOd kd st0)) k0 0 n0)), (4, .int (iv (bI (cOd kd st0)))), (0, .ref rM), (1, .int (iv (st0))), (2, .int (iv (k0))), (3, .int (iv (n0)))] := hl
  refine lv_aload_n hx hb d_Mod_amount_40 rfl (lv_at hl 4 rfl) ?_
  refine lv_iload hx hb d_Mod_amount_41 (lv_at hl 3 rfl) ?_
  refine lv_iload_n hx hb d_Mod_amount_43 rfl (lv_at hl 6 rfl) ?_
  refine lv_iconst (v := iv (3)) hx hb d_Mod_amount_44 rfl ?_
  refine lv_iload_n hx hb d_Mod_amount_45 rfl (lv_at hl 7 rfl) ?_
  refine k_clR (k_rv S (c_Mod_pair l G _ rM rP rk rG rW rK rE rst rev rod rp rb rbl (bI (cOd kd st0)) k0 3 n0 wd ht kd db ew ac dn pr nu de wr rd cn ba sz1 lb rm cu sp nz sl uz ge go (bI_z _) (by omega) (by omega) (by omega)) 4 m4_82 m4_79 m4_81 mp_32 m1_9 (by decide +kernel) (by decide) rfl rfl (k_preV (q0 := 0) hK hP hD hS hA hT rfl rfl [0, 1, 2] (by decide) rfl) rfl hl.1 rfl (Nat.le_of_ble_eq_true rfl) d_Mod_amount_46 ⟨Nat.le_of_ble_eq_true rfl, Nat.le_of_ble_eq_true rfl⟩) (fun r46 h46 => ?_)
  subst h46
  refine lv_lstore hx hb d_Mod_amount_49 hl (by decide) rfl (fun ls hl => ?_)
  have hl : lv_has ls 15 [(11, .long (prI ge go (bI (cOd kd st0)) k0 3 n0)), (9, .long (prI ge go (bI (cOd kd st0)) k0 2 n0)), (7, .long (prI ge go (bI (cOd kd st0)) k0 1 n0)), (5, .long (prI ge go (bI (cOd kd st0)) k0 0 n0)), (4, .int (iv (bI (cOd kd st0)))), (0, .ref rM), (1, .int (iv (st0))), (2, .int (iv (k0))), (3, .int (iv (n0)))] := hl
  refine lv_aload_n hx hb d_Mod_amount_51 rfl (lv_at hl 5 rfl) ?_
  refine va_get (D := gD G) (ci := 7) (v := .int (iv (kd))) (C := R_Mod) (T := F_Mod) (N := 34) hx hb hw in_Mod hown hK hP 0 rfl rfl 7 (by decide) (hw _ m3_131) (fun _ h => h) rfl d_Mod_amount_52 ?_
  refine lv_bipush (v := iv (6)) hx hb d_Mod_amount_55 rfl ?_
  refine k_icmp_ne (tgt := 110) hx hb d_Mod_amount_57 (by decide) (by omega) (by omega) (fun hc57 => ?_) (fun hc57 => ?_)
  · refine lv_aload_n hx hb d_Mod_amount_110 rfl (lv_at hl 5 rfl) ?_
    refine va_get (D := gD G) (ci := 7) (v := .int (iv (kd))) (C := R_Mod) (T := F_Mod) (N := 34) hx hb hw in_Mod hown hK hP 0 rfl rfl 7 (by decide) (hw _ m3_131) (fun _ h => h) rfl d_Mod_amount_111 ?_
    refine lv_iconst (v := iv (5)) hx hb d_Mod_amount_114 rfl ?_
    refine k_icmp_ne (tgt := 194) hx hb d_Mod_amount_115 (by decide) (by omega) (by omega) (fun hc115 => ?_) (fun hc115 => ?_)
    · refine lv_aload_n hx hb d_Mod_amount_194 rfl (lv_at hl 5 rfl) ?_
      refine va_get (D := gD G) (ci := 7) (v := .int (iv (kd))) (C := R_Mod) (T := F_Mod) (N := 34) hx hb hw in_Mod hown hK hP 0 rfl rfl 7 (by decide) (hw _ m3_131) (fun _ h => h) rfl d_Mod_amount_195 ?_
      refine lv_iconst (v := iv (3)) hx hb d_Mod_amount_198 rfl ?_
      refine k_icmp_eq (tgt := 210) hx hb d_Mod_amount_199 (by decide) (by omega) (by omega) (fun hc199 => ?_) (fun hc199 => ?_)
      · refine lv_iload_n hx hb d_Mod_amount_210 rfl (lv_at hl 6 rfl) ?_
        refine k_if_ne (tgt := 223) hx hb d_Mod_amount_211 (by decide) (by omega) (fun hc211 => ?_) (fun hc211 => ?_)
        · refine lv_aload_n hx hb d_Mod_amount_223 rfl (lv_at hl 5 rfl) ?_
          refine va_get (D := gD G) (ci := 7) (v := .ref rod) (C := R_Mod) (T := F_Mod) (N := 34) hx hb hw in_Mod hown hK hP 0 rfl rfl 20 (by decide) (hw _ m3_144) (fun _ h => h) rfl d_Mod_amount_224 ?_
          refine lv_iload_n hx hb d_Mod_amount_227 rfl (lv_at hl 7 rfl) ?_
          refine k_lal hx hb hK hP 2 1 rfl rfl (by decide) (by omega) d_Mod_amount_228 ?_
          refine lv_lconst (v := 1) hx hb d_Mod_amount_229 rfl ?_
          refine lv_ladd hx hb d_Mod_amount_230 ?_
          refine lv_iconst (v := iv (1)) hx hb d_Mod_amount_231 rfl ?_
          refine k_lshr hx hb d_Mod_amount_232 ?_
          exact k_lretR hx hb hr hlk hQ (by unfold amL; repeat (first | rw [if_pos (by omega)] | rw [if_neg (by omega)])) d_Mod_amount_233
        · refine lv_aload_n hx hb d_Mod_amount_214 rfl (lv_at hl 5 rfl) ?_
          refine va_get (D := gD G) (ci := 7) (v := .ref rev) (C := R_Mod) (T := F_Mod) (N := 34) hx hb hw in_Mod hown hK hP 0 rfl rfl 19 (by decide) (hw _ m3_143) (fun _ h => h) rfl d_Mod_amount_215 ?_
          refine lv_iload_n hx hb d_Mod_amount_218 rfl (lv_at hl 7 rfl) ?_
          refine k_lal hx hb hK hP 1 1 rfl rfl (by decide) (by omega) d_Mod_amount_219 ?_
          refine lv_goto (tgt := 233) hx hb d_Mod_amount_220 (by decide) ?_
          exact k_lretR hx hb hr hlk hQ (by unfold amL; repeat (first | rw [if_pos (by omega)] | rw [if_neg (by omega)])) d_Mod_amount_233
      · refine lv_aload_n hx hb d_Mod_amount_202 rfl (lv_at hl 5 rfl) ?_
        refine va_get (D := gD G) (ci := 7) (v := .int (iv (kd))) (C := R_Mod) (T := F_Mod) (N := 34) hx hb hw in_Mod hown hK hP 0 rfl rfl 7 (by decide) (hw _ m3_131) (fun _ h => h) rfl d_Mod_amount_203 ?_
        refine lv_iconst (v := iv (4)) hx hb d_Mod_amount_206 rfl ?_
        refine k_icmp_ne (tgt := 234) hx hb d_Mod_amount_207 (by decide) (by omega) (by omega) (fun hc207 => ?_) (fun hc207 => ?_)
        · refine lv_iload_n hx hb d_Mod_amount_234 rfl (lv_at hl 6 rfl) ?_
          refine k_if_ne (tgt := 270) hx hb d_Mod_amount_235 (by decide) (by omega) (fun hc235 => ?_) (fun hc235 => ?_)
          · refine lv_aload_n hx hb d_Mod_amount_270 rfl (lv_at hl 5 rfl) ?_
            refine va_get (D := gD G) (ci := 7) (v := .int (iv (kd))) (C := R_Mod) (T := F_Mod) (N := 34) hx hb hw in_Mod hown hK hP 0 rfl rfl 7 (by decide) (hw _ m3_131) (fun _ h => h) rfl d_Mod_amount_271 ?_
            refine lv_iconst (v := iv (2)) hx hb d_Mod_amount_274 rfl ?_
            refine k_icmp_ne (tgt := 296) hx hb d_Mod_amount_275 (by decide) (by omega) (by omega) (fun hc275 => ?_) (fun hc275 => ?_)
            · refine lv_lload hx hb d_Mod_amount_296 (lv_at hl 3 rfl) ?_
              refine lv_ldc2 (v := 2) hx hb hown (hw _ m4_58) d_Mod_amount_298 ?_
              refine lv_ladd hx hb d_Mod_amount_301 ?_
              refine lv_iconst (v := iv (2)) hx hb d_Mod_amount_302 rfl ?_
              refine k_lshr hx hb d_Mod_amount_303 ?_
              exact k_lretR hx hb hr hlk hQ (by unfold amL; repeat (first | rw [if_pos (by omega)] | rw [if_neg (by omega)])) d_Mod_amount_304
            · refine lv_ldc2 (v := 9) hx hb hown (hw _ m4_96) d_Mod_amount_278 ?_
              refine lv_lload hx hb d_Mod_amount_281 (lv_at hl 3 rfl) ?_
              refine lv_lmul hx hb d_Mod_amount_283 ?_
              refine lv_lload hx hb d_Mod_amount_284 (lv_at hl 2 rfl) ?_
              refine lv_lsub hx hb d_Mod_amount_286 ?_
              refine lv_ldc2 (v := 16) hx hb hown (hw _ m4_97) d_Mod_amount_287 ?_
              refine lv_ladd hx hb d_Mod_amount_290 ?_
              refine lv_iconst (v := iv (5)) hx hb d_Mod_amount_291 rfl ?_
              refine k_lshr hx hb d_Mod_amount_292 ?_
              refine lv_goto (tgt := 304) hx hb d_Mod_amount_293 (by decide) ?_
              exact k_lretR hx hb hr hlk hQ (by unfold amL; repeat (first | rw [if_pos (by omega)] | rw [if_neg (by omega)])) d_Mod_amount_304
          · refine lv_aload_n hx hb d_Mod_amount_238 rfl (lv_at hl 5 rfl) ?_
            refine va_get (D := gD G) (ci := 7) (v := .int (iv (kd))) (C := R_Mod) (T := F_Mod) (N := 34) hx hb hw in_Mod hown hK hP 0 rfl rfl 7 (by decide) (hw _ m3_131) (fun _ h => h) rfl d_Mod_amount_239 ?_
            refine k_if_ne (tgt := 254) hx hb d_Mod_amount_242 (by decide) (by omega) (fun hc242 => ?_) (fun hc242 => ?_)
            · refine lv_ldc2 (v := 9) hx hb hown (hw _ m4_96) d_Mod_amount_254 ?_
              refine lv_lload hx hb d_Mod_amount_257 (lv_at hl 3 rfl) ?_
              refine lv_lmul hx hb d_Mod_amount_259 ?_
              refine lv_lload hx hb d_Mod_amount_260 (lv_at hl 2 rfl) ?_
              refine lv_lsub hx hb d_Mod_amount_262 ?_
              refine lv_ldc2 (v := 8) hx hb hown (hw _ m4_91) d_Mod_amount_263 ?_
              refine lv_ladd hx hb d_Mod_amount_266 ?_
              refine lv_iconst (v := iv (4)) hx hb d_Mod_amount_267 rfl ?_
              refine k_lshr hx hb d_Mod_amount_268 ?_
              exact k_lretR hx hb hr hlk hQ (by unfold amL; repeat (first | rw [if_pos (by omega)] | rw [if_neg (by omega)])) d_Mod_amount_269
            · refine lv_lload hx hb d_Mod_amount_245 (lv_at hl 3 rfl) ?_
              refine lv_lconst (v := 1) hx hb d_Mod_amount_247 rfl ?_
              refine lv_ladd hx hb d_Mod_amount_248 ?_
              refine lv_iconst (v := iv (1)) hx hb d_Mod_amount_249 rfl ?_
              refine k_lshr hx hb d_Mod_amount_250 ?_
              refine lv_goto (tgt := 269) hx hb d_Mod_amount_251 (by decide) ?_
              exact k_lretR hx hb hr hlk hQ (by unfold amL; repeat (first | rw [if_pos (by omega)] | rw [if_neg (by omega)])) d_Mod_amount_269
        · refine lv_iload_n hx hb d_Mod_amount_210 rfl (lv_at hl 6 rfl) ?_
          refine k_if_ne (tgt := 223) hx hb d_Mod_amount_211 (by decide) (by omega) (fun hc211 => ?_) (fun hc211 => ?_)
          · refine lv_aload_n hx hb d_Mod_amount_223 rfl (lv_at hl 5 rfl) ?_
            refine va_get (D := gD G) (ci := 7) (v := .ref rod) (C := R_Mod) (T := F_Mod) (N := 34) hx hb hw in_Mod hown hK hP 0 rfl rfl 20 (by decide) (hw _ m3_144) (fun _ h => h) rfl d_Mod_amount_224 ?_
            refine lv_iload_n hx hb d_Mod_amount_227 rfl (lv_at hl 7 rfl) ?_
            refine k_lal hx hb hK hP 2 1 rfl rfl (by decide) (by omega) d_Mod_amount_228 ?_
            refine lv_lconst (v := 1) hx hb d_Mod_amount_229 rfl ?_
            refine lv_ladd hx hb d_Mod_amount_230 ?_
            refine lv_iconst (v := iv (1)) hx hb d_Mod_amount_231 rfl ?_
            refine k_lshr hx hb d_Mod_amount_232 ?_
            exact k_lretR hx hb hr hlk hQ (by unfold amL; repeat (first | rw [if_pos (by omega)] | rw [if_neg (by omega)])) d_Mod_amount_233
          · refine lv_aload_n hx hb d_Mod_amount_214 rfl (lv_at hl 5 rfl) ?_
            refine va_get (D := gD G) (ci := 7) (v := .ref rev) (C := R_Mod) (T := F_Mod) (N := 34) hx hb hw in_Mod hown hK hP 0 rfl rfl 19 (by decide) (hw _ m3_143) (fun _ h => h) rfl d_Mod_amount_215 ?_
            refine lv_iload_n hx hb d_Mod_amount_218 rfl (lv_at hl 7 rfl) ?_
            refine k_lal hx hb hK hP 1 1 rfl rfl (by decide) (by omega) d_Mod_amount_219 ?_
            refine lv_goto (tgt := 233) hx hb d_Mod_amount_220 (by decide) ?_
            exact k_lretR hx hb hr hlk hQ (by unfold amL; repeat (first | rw [if_pos (by omega)] | rw [if_neg (by omega)])) d_Mod_amount_233
    · refine lv_iload_n hx hb d_Mod_amount_118 rfl (lv_at hl 6 rfl) ?_
      refine k_if_ne (tgt := 159) hx hb d_Mod_amount_119 (by decide) (by omega) (fun hc119 => ?_) (fun hc119 => ?_)
      · refine lv_ldc2 (v := 81) hx hb hown (hw _ m4_93) d_Mod_amount_159 ?_
        refine lv_lload hx hb d_Mod_amount_162 (lv_at hl 3 rfl) ?_
        refine lv_lmul hx hb d_Mod_amount_164 ?_
        refine lv_ldc2 (v := 25) hx hb hown (hw _ m4_94) d_Mod_amount_165 ?_
        refine lv_lload hx hb d_Mod_amount_168 (lv_at hl 2 rfl) ?_
        refine lv_lmul hx hb d_Mod_amount_170 ?_
        refine lv_lsub hx hb d_Mod_amount_171 ?_
        refine lv_ldc2 (v := 10) hx hb hown (hw _ m4_95) d_Mod_amount_172 ?_
        refine lv_lload hx hb d_Mod_amount_175 (lv_at hl 1 rfl) ?_
        refine lv_lmul hx hb d_Mod_amount_177 ?_
        refine lv_ladd hx hb d_Mod_amount_178 ?_
        refine lv_ldc2 (v := 2) hx hb hown (hw _ m4_58) d_Mod_amount_179 ?_
        refine lv_lload hx hb d_Mod_amount_182 (lv_at hl 0 rfl) ?_
        refine lv_lmul hx hb d_Mod_amount_184 ?_
        refine lv_lsub hx hb d_Mod_amount_185 ?_
        refine lv_ldc2 (v := 128) hx hb hown (hw _ m4_92) d_Mod_amount_186 ?_
        refine lv_ladd hx hb d_Mod_amount_189 ?_
        refine lv_bipush (v := iv (8)) hx hb d_Mod_amount_190 rfl ?_
        refine k_lshr hx hb d_Mod_amount_192 ?_
        exact k_lretR hx hb hr hlk hQ (by unfold amL; repeat (first | rw [if_pos (by omega)] | rw [if_neg (by omega)])) d_Mod_amount_193
      · refine lv_ldc2 (v := 161) hx hb hown (hw _ m4_88) d_Mod_amount_122 ?_
        refine lv_lload hx hb d_Mod_amount_125 (lv_at hl 3 rfl) ?_
        refine lv_lmul hx hb d_Mod_amount_127 ?_
        refine lv_ldc2 (v := 46) hx hb hown (hw _ m4_89) d_Mod_amount_128 ?_
        refine lv_lload hx hb d_Mod_amount_131 (lv_at hl 2 rfl) ?_
        refine lv_lmul hx hb d_Mod_amount_133 ?_
        refine lv_lsub hx hb d_Mod_amount_134 ?_
        refine lv_ldc2 (v := 21) hx hb hown (hw _ m4_90) d_Mod_amount_135 ?_
        refine lv_lload hx hb d_Mod_amount_138 (lv_at hl 1 rfl) ?_
        refine lv_lmul hx hb d_Mod_amount_140 ?_
        refine lv_ladd hx hb d_Mod_amount_141 ?_
        refine lv_ldc2 (v := 8) hx hb hown (hw _ m4_91) d_Mod_amount_142 ?_
        refine lv_lload hx hb d_Mod_amount_145 (lv_at hl 0 rfl) ?_
        refine lv_lmul hx hb d_Mod_amount_147 ?_
        refine lv_lsub hx hb d_Mod_amount_148 ?_
        refine lv_ldc2 (v := 128) hx hb hown (hw _ m4_92) d_Mod_amount_149 ?_
        refine lv_ladd hx hb d_Mod_amount_152 ?_
        refine lv_bipush (v := iv (8)) hx hb d_Mod_amount_153 rfl ?_
        refine k_lshr hx hb d_Mod_amount_155 ?_
        refine lv_goto (tgt := 193) hx hb d_Mod_amount_156 (by decide) ?_
        exact k_lretR hx hb hr hlk hQ (by unfold amL; repeat (first | rw [if_pos (by omega)] | rw [if_neg (by omega)])) d_Mod_amount_193
  · refine lv_iload_n hx hb d_Mod_amount_60 rfl (lv_at hl 6 rfl) ?_
    refine k_if_ne (tgt := 70) hx hb d_Mod_amount_61 (by decide) (by omega) (fun hc61 => ?_) (fun hc61 => ?_)
    · refine lv_iload_n hx hb d_Mod_amount_70 rfl (lv_at hl 6 rfl) ?_
      refine lv_iconst (v := iv (1)) hx hb d_Mod_amount_71 rfl ?_
      refine k_icmp_ne (tgt := 81) hx hb d_Mod_amount_72 (by decide) (by omega) (by omega) (fun hc72 => ?_) (fun hc72 => ?_)
      · refine lv_iload_n hx hb d_Mod_amount_81 rfl (lv_at hl 6 rfl) ?_
        refine lv_iconst (v := iv (2)) hx hb d_Mod_amount_82 rfl ?_
        refine k_icmp_ne (tgt := 92) hx hb d_Mod_amount_83 (by decide) (by omega) (by omega) (fun hc83 => ?_) (fun hc83 => ?_)
        · refine lv_ldc2 (v := 1817) hx hb hown (hw _ m4_86) d_Mod_amount_92 ?_
          refine lv_lstore hx hb d_Mod_amount_95 hl (by decide) rfl (fun ls hl => ?_)
          have hl : lv_has ls 15 [(13, .long ((1817 : Int64))), (11, .long (prI ge go (bI (cOd kd st0)) k0 3 n0)), (9, .long (prI ge go (bI (cOd kd st0)) k0 2 n0)), (7, .long (prI ge go (bI (cOd kd st0)) k0 1 n0)), (5, .long (prI ge go (bI (cOd kd st0)) k0 0 n0)), (4, .int (iv (bI (cOd kd st0)))), (0, .ref rM), (1, .int (iv (st0))), (2, .int (iv (k0))), (3, .int (iv (n0)))] := hl
          refine lv_lload hx hb d_Mod_amount_97 (lv_at hl 0 rfl) ?_
          refine lv_lload hx hb d_Mod_amount_99 (lv_at hl 4 rfl) ?_
          refine lv_lmul hx hb d_Mod_amount_101 ?_
          refine lv_ldc2 (v := 2048) hx hb hown (hw _ m4_87) d_Mod_amount_102 ?_
          refine lv_ladd hx hb d_Mod_amount_105 ?_
          refine lv_bipush (v := iv (12)) hx hb d_Mod_amount_106 rfl ?_
          refine k_lshr hx hb d_Mod_amount_108 ?_
          exact k_lretR hx hb hr hlk hQ (by unfold amL; repeat (first | rw [if_pos (by omega)] | rw [if_neg (by omega)])) d_Mod_amount_109
        · refine lv_ldc2 (v := 3616) hx hb hown (hw _ m4_85) d_Mod_amount_86 ?_
          refine lv_goto (tgt := 95) hx hb d_Mod_amount_89 (by decide) ?_
          refine lv_lstore hx hb d_Mod_amount_95 hl (by decide) rfl (fun ls hl => ?_)
          have hl : lv_has ls 15 [(13, .long ((3616 : Int64))), (11, .long (prI ge go (bI (cOd kd st0)) k0 3 n0)), (9, .long (prI ge go (bI (cOd kd st0)) k0 2 n0)), (7, .long (prI ge go (bI (cOd kd st0)) k0 1 n0)), (5, .long (prI ge go (bI (cOd kd st0)) k0 0 n0)), (4, .int (iv (bI (cOd kd st0)))), (0, .ref rM), (1, .int (iv (st0))), (2, .int (iv (k0))), (3, .int (iv (n0)))] := hl
          refine lv_lload hx hb d_Mod_amount_97 (lv_at hl 0 rfl) ?_
          refine lv_lload hx hb d_Mod_amount_99 (lv_at hl 4 rfl) ?_
          refine lv_lmul hx hb d_Mod_amount_101 ?_
          refine lv_ldc2 (v := 2048) hx hb hown (hw _ m4_87) d_Mod_amount_102 ?_
          refine lv_ladd hx hb d_Mod_amount_105 ?_
          refine lv_bipush (v := iv (12)) hx hb d_Mod_amount_106 rfl ?_
          refine k_lshr hx hb d_Mod_amount_108 ?_
          exact k_lretR hx hb hr hlk hQ (by unfold amL; repeat (first | rw [if_pos (by omega)] | rw [if_neg (by omega)])) d_Mod_amount_109
      · refine lv_ldc2 (v := 217) hx hb hown (hw _ m4_84) d_Mod_amount_75 ?_
        refine lv_goto (tgt := 95) hx hb d_Mod_amount_78 (by decide) ?_
        refine lv_lstore hx hb d_Mod_amount_95 hl (by decide) rfl (fun ls hl => ?_)
        have hl : lv_has ls 15 [(13, .long ((217 : Int64))), (11, .long (prI ge go (bI (cOd kd st0)) k0 3 n0)), (9, .long (prI ge go (bI (cOd kd st0)) k0 2 n0)), (7, .long (prI ge go (bI (cOd kd st0)) k0 1 n0)), (5, .long (prI ge go (bI (cOd kd st0)) k0 0 n0)), (4, .int (iv (bI (cOd kd st0)))), (0, .ref rM), (1, .int (iv (st0))), (2, .int (iv (k0))), (3, .int (iv (n0)))] := hl
        refine lv_lload hx hb d_Mod_amount_97 (lv_at hl 0 rfl) ?_
        refine lv_lload hx hb d_Mod_amount_99 (lv_at hl 4 rfl) ?_
        refine lv_lmul hx hb d_Mod_amount_101 ?_
        refine lv_ldc2 (v := 2048) hx hb hown (hw _ m4_87) d_Mod_amount_102 ?_
        refine lv_ladd hx hb d_Mod_amount_105 ?_
        refine lv_bipush (v := iv (12)) hx hb d_Mod_amount_106 rfl ?_
        refine k_lshr hx hb d_Mod_amount_108 ?_
        exact k_lretR hx hb hr hlk hQ (by unfold amL; repeat (first | rw [if_pos (by omega)] | rw [if_neg (by omega)])) d_Mod_amount_109
    · refine lv_ldc2 (v := 6497) hx hb hown (hw _ m4_83) d_Mod_amount_64 ?_
      refine lv_goto (tgt := 95) hx hb d_Mod_amount_67 (by decide) ?_
      refine lv_lstore hx hb d_Mod_amount_95 hl (by decide) rfl (fun ls hl => ?_)
      have hl : lv_has ls 15 [(13, .long ((6497 : Int64))), (11, .long (prI ge go (bI (cOd kd st0)) k0 3 n0)), (9, .long (prI ge go (bI (cOd kd st0)) k0 2 n0)), (7, .long (prI ge go (bI (cOd kd st0)) k0 1 n0)), (5, .long (prI ge go (bI (cOd kd st0)) k0 0 n0)), (4, .int (iv (bI (cOd kd st0)))), (0, .ref rM), (1, .int (iv (st0))), (2, .int (iv (k0))), (3, .int (iv (n0)))] := hl
      refine lv_lload hx hb d_Mod_amount_97 (lv_at hl 0 rfl) ?_
      refine lv_lload hx hb d_Mod_amount_99 (lv_at hl 4 rfl) ?_
      refine lv_lmul hx hb d_Mod_amount_101 ?_
      refine lv_ldc2 (v := 2048) hx hb hown (hw _ m4_87) d_Mod_amount_102 ?_
      refine lv_ladd hx hb d_Mod_amount_105 ?_
      refine lv_bipush (v := iv (12)) hx hb d_Mod_amount_106 rfl ?_
      refine k_lshr hx hb d_Mod_amount_108 ?_
      exact k_lretR hx hb hr hlk hQ (by unfold amL; repeat (first | rw [if_pos (by omega)] | rw [if_neg (by omega)])) d_Mod_amount_109
