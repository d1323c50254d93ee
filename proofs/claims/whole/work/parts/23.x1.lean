/-! the picture -/
def clp (z : Int) : Int := max (-128) (min 127 z)
theorem clp_r (z : Int) : -128 ≤ clp z ∧ clp z ≤ 127 := by unfold clp; omega
theorem clp_L (x : Int64) : (mxL (-128) (mnL 127 x)).toInt = clp x.toInt := by
  unfold mxL mnL clp
  have e1 : (-128 : Int64).toInt = -128 := by decide
  have e2 : (127 : Int64).toInt = 127 := by decide
  by_cases h1 : x < 127
  · rw [if_pos h1]
    rw [Int64.lt_iff_toInt_lt, e2] at h1
    by_cases h2 : x < -128
    · rw [if_pos h2, e1]
      rw [Int64.lt_iff_toInt_lt, e1] at h2
      omega
    · rw [if_neg h2]
      rw [Int64.lt_iff_toInt_lt, e1] at h2
      omega
  · rw [if_neg h1, if_neg (by decide), e2]
    rw [Int64.lt_iff_toInt_lt, e2] at h1
    omega
theorem clp_l {z : Int} (h : -2147483648 ≤ z ∧ z < 2147483648) : (mxL (-128) (mnL 127 (lw z))).toInt = clp z := by
  rw [clp_L, lw_toInt ⟨by omega, by omega⟩]
theorem mul_b {a b : Int} (ha : -32 ≤ a ∧ a ≤ 32) (hb : 0 ≤ b ∧ b ≤ 16) : -512 ≤ a * b ∧ a * b ≤ 512 := by
  have h1 : a * b ≤ 32 * b := Int.mul_le_mul_of_nonneg_right ha.2 hb.1
  have h2 : -32 * b ≤ a * b := Int.mul_le_mul_of_nonneg_right ha.1 hb.1
  omega
theorem up_r {g : Int → Int} {k v A B : Int} (hg : ∀ j, A ≤ g j ∧ g j ≤ B) (hv : A ≤ v ∧ v ≤ B) (j : Int) : A ≤ up g k v j ∧ up g k v j ≤ B := by
  unfold up
  split
  · exact hv
  · exact hg j
def paA (x0 y0 x1 y1 v : Int) (f : Int → Int) : Int → Int := it (fun y f => it (fun x f => up f (y * 16 + x) v) x0 x1 f) y0 y1 f
def soA (a d w h : Int) (f : Int → Int) : Int → Int := it (fun y f => it (fun x f => up f (y * 16 + x) (clp (f (y * 16 + x) + a * x + d * y))) 0 w f) 0 h f
def ccA (k p : Int → Int) (w h : Int) : Int := it (fun y c => it (fun x c => if k (y * 16 + x) = p (y * 16 + x) then c else c + 1) 0 w c) 0 h 0
def erA (k p : Int → Int) (w h : Int) : Int := it (fun y c => it (fun x c => c + (k (y * 16 + x) - p (y * 16 + x)) * (k (y * 16 + x) - p (y * 16 + x))) 0 w c) 0 h 0
theorem m2_112 : Cond.code y_Layout_has prog_3_method_2_code 3 (some .boolean) ∈ wl := wl_2 112 (by decide +kernel) (by decide +kernel)
theorem m2_96 : Cond.code y_Setup_bandCount prog_5_method_3_code 1 (some .int) ∈ wl := wl_2 96 (by decide +kernel) (by decide +kernel)
theorem m2_61 : Cond.code y_X_asSample prog_1_method_22_code 2 (some .long) ∈ wl := wl_2 61 (by decide +kernel) (by decide +kernel)
theorem m3_49 : Cond.code y_X_hasByte prog_1_method_25_code 2 (some .boolean) ∈ wl := wl_3 49 (by decide +kernel) (by decide +kernel)
theorem m2_51 : Cond.code y_X_inPicture prog_1_method_23_code 3 (some .boolean) ∈ wl := wl_2 51 (by decide +kernel) (by decide +kernel)
theorem m3_40 : Cond.code y_X_streamSize prog_1_method_24_code 1 (some .int) ∈ wl := wl_3 40 (by decide +kernel) (by decide +kernel)
theorem m1_177 : Cond.fieldLink "WaveletSlices" 162 "WaveletSlices$SliceCoder" "stream" "[I" ∈ wl := wl_1 177 (by decide +kernel) (by decide +kernel)
theorem m2_10 : Cond.fieldLink "WaveletSlices" 39 "WaveletSlices" "coder" "LWaveletSlices$SliceCoder;" ∈ wl := wl_2 10 (by decide +kernel) (by decide +kernel)
theorem m2_5 : Cond.fieldLink "WaveletSlices" 76 "WaveletSlices" "height" "I" ∈ wl := wl_2 5 (by decide +kernel) (by decide +kernel)
theorem m2_8 : Cond.fieldLink "WaveletSlices" 23 "WaveletSlices" "layout" "LWaveletSlices$Layout;" ∈ wl := wl_2 8 (by decide +kernel) (by decide +kernel)
theorem m2_6 : Cond.fieldLink "WaveletSlices" 9 "WaveletSlices" "picture" "[I" ∈ wl := wl_2 6 (by decide +kernel) (by decide +kernel)
theorem m2_15 : Cond.fieldLink "WaveletSlices" 57 "WaveletSlices" "readCoefficients" "[J" ∈ wl := wl_2 15 (by decide +kernel) (by decide +kernel)
theorem m2_16 : Cond.fieldLink "WaveletSlices" 60 "WaveletSlices" "readPicture" "[I" ∈ wl := wl_2 16 (by decide +kernel) (by decide +kernel)
theorem m2_14 : Cond.fieldLink "WaveletSlices" 54 "WaveletSlices" "readThere" "Z" ∈ wl := wl_2 14 (by decide +kernel) (by decide +kernel)
theorem m2_7 : Cond.fieldLink "WaveletSlices" 16 "WaveletSlices" "setup" "LWaveletSlices$Setup;" ∈ wl := wl_2 7 (by decide +kernel) (by decide +kernel)
theorem m2_13 : Cond.fieldLink "WaveletSlices" 50 "WaveletSlices" "streamThere" "Z" ∈ wl := wl_2 13 (by decide +kernel) (by decide +kernel)
theorem m2_4 : Cond.fieldLink "WaveletSlices" 72 "WaveletSlices" "width" "I" ∈ wl := wl_2 4 (by decide +kernel) (by decide +kernel)
theorem m2_110 : Cond.instanceMethod y_Layout_has ∈ wl := wl_2 110 (by decide +kernel) (by decide +kernel)
theorem m2_94 : Cond.instanceMethod y_Setup_bandCount ∈ wl := wl_2 94 (by decide +kernel) (by decide +kernel)
theorem m3_48 : Cond.instanceMethod y_X_hasByte ∈ wl := wl_3 48 (by decide +kernel) (by decide +kernel)
theorem m2_50 : Cond.instanceMethod y_X_inPicture ∈ wl := wl_2 50 (by decide +kernel) (by decide +kernel)
theorem m3_39 : Cond.instanceMethod y_X_streamSize ∈ wl := wl_3 39 (by decide +kernel) (by decide +kernel)
theorem m2_109 : Cond.methodLink "WaveletSlices" 139 y_Layout_has ∈ wl := wl_2 109 (by decide +kernel) (by decide +kernel)
theorem m2_93 : Cond.methodLink "WaveletSlices" 129 y_Setup_bandCount ∈ wl := wl_2 93 (by decide +kernel) (by decide +kernel)
theorem m3_41 : Cond.methodLink "WaveletSlices" 197 y_Setup_firstByte ∈ wl := wl_3 41 (by decide +kernel) (by decide +kernel)
theorem m2_156 : Cond.methodLink "WaveletSlices" 148 y_Setup_sliceCount ∈ wl := wl_2 156 (by decide +kernel) (by decide +kernel)
theorem m2_59 : Cond.methodLink "WaveletSlices" 95 y_X_asSample ∈ wl := wl_2 59 (by decide +kernel) (by decide +kernel)
theorem m3_46 : Cond.methodLink "WaveletSlices" 158 y_X_hasByte ∈ wl := wl_3 46 (by decide +kernel) (by decide +kernel)
theorem m2_48 : Cond.methodLink "WaveletSlices" 87 y_X_inPicture ∈ wl := wl_2 48 (by decide +kernel) (by decide +kernel)
theorem m3_37 : Cond.methodLink "WaveletSlices" 155 y_X_streamSize ∈ wl := wl_3 37 (by decide +kernel) (by decide +kernel)
theorem m2_52 : Cond.methodLink "WaveletSlices" 91 y_X_within ∈ wl := wl_2 52 (by decide +kernel) (by decide +kernel)
theorem m1_211 : Cond.methodLink "WaveletSlices" 63 y_Jmath_min_III ∈ wl := wl_1 211 (by decide +kernel) (by decide +kernel)
theorem m2_111 : Cond.selects "WaveletSlices$Layout" y_Layout_has y_Layout_has ∈ wl := wl_2 111 (by decide +kernel) (by decide +kernel)
theorem m2_95 : Cond.selects "WaveletSlices$Setup" y_Setup_bandCount y_Setup_bandCount ∈ wl := wl_2 95 (by decide +kernel) (by decide +kernel)
theorem mp_15 : Cond.selects "WaveletSlices" y_X_hasByte y_X_hasByte ∈ wl := wl_p 15 (by decide +kernel) (by decide +kernel)
theorem mp_2 : Cond.selects "WaveletSlices" y_X_inPicture y_X_inPicture ∈ wl := wl_p 2 (by decide +kernel) (by decide +kernel)
theorem mp_14 : Cond.selects "WaveletSlices" y_X_streamSize y_X_streamSize ∈ wl := wl_p 14 (by decide +kernel) (by decide +kernel)
theorem m2_60 : Cond.static y_X_asSample ∈ wl := wl_2 60 (by decide +kernel) (by decide +kernel)
theorem d_X_inPicture_0 : decode prog_1_method_23_code 0 = .ok (.iload_n 1, 1) := by decide +kernel
theorem d_X_inPicture_1 : decode prog_1_method_23_code 1 = .ok (.iconst 0, 1) := by decide +kernel
theorem d_X_inPicture_2 : decode prog_1_method_23_code 2 = .ok (.aload_n 0, 1) := by decide +kernel
theorem d_X_inPicture_3 : decode prog_1_method_23_code 3 = .ok (.getfield 72, 3) := by decide +kernel
theorem d_X_inPicture_6 : decode prog_1_method_23_code 6 = .ok (.iconst 1, 1) := by decide +kernel
theorem d_X_inPicture_7 : decode prog_1_method_23_code 7 = .ok (.isub, 1) := by decide +kernel
theorem d_X_inPicture_8 : decode prog_1_method_23_code 8 = .ok (.invokestatic 91, 3) := by decide +kernel
theorem d_X_inPicture_11 : decode prog_1_method_23_code 11 = .ok (.ifCond .eq 21, 3) := by decide +kernel
theorem d_X_inPicture_14 : decode prog_1_method_23_code 14 = .ok (.iload_n 2, 1) := by decide +kernel
theorem d_X_inPicture_15 : decode prog_1_method_23_code 15 = .ok (.iconst 0, 1) := by decide +kernel
theorem d_X_inPicture_16 : decode prog_1_method_23_code 16 = .ok (.aload_n 0, 1) := by decide +kernel
theorem d_X_inPicture_17 : decode prog_1_method_23_code 17 = .ok (.getfield 76, 3) := by decide +kernel
theorem d_X_inPicture_20 : decode prog_1_method_23_code 20 = .ok (.iconst 1, 1) := by decide +kernel
theorem d_X_inPicture_21 : decode prog_1_method_23_code 21 = .ok (.isub, 1) := by decide +kernel
theorem d_X_inPicture_22 : decode prog_1_method_23_code 22 = .ok (.invokestatic 91, 3) := by decide +kernel
theorem d_X_inPicture_25 : decode prog_1_method_23_code 25 = .ok (.ifCond .eq 7, 3) := by decide +kernel
theorem d_X_inPicture_28 : decode prog_1_method_23_code 28 = .ok (.iconst 1, 1) := by decide +kernel
theorem d_X_inPicture_29 : decode prog_1_method_23_code 29 = .ok (.goto 4, 3) := by decide +kernel
theorem d_X_inPicture_32 : decode prog_1_method_23_code 32 = .ok (.iconst 0, 1) := by decide +kernel
theorem d_X_inPicture_33 : decode prog_1_method_23_code 33 = .ok (.ireturn, 1) := by decide +kernel
theorem d_X_sample_0 : decode prog_1_method_4_code 0 = .ok (.aload_n 0, 1) := by decide +kernel
theorem d_X_sample_1 : decode prog_1_method_4_code 1 = .ok (.iload_n 1, 1) := by decide +kernel
theorem d_X_sample_2 : decode prog_1_method_4_code 2 = .ok (.iload_n 2, 1) := by decide +kernel
theorem d_X_sample_3 : decode prog_1_method_4_code 3 = .ok (.invokevirtual 87, 3) := by decide +kernel
theorem d_X_sample_6 : decode prog_1_method_4_code 6 = .ok (.ifCond .eq 17, 3) := by decide +kernel
theorem d_X_sample_9 : decode prog_1_method_4_code 9 = .ok (.aload_n 0, 1) := by decide +kernel
theorem d_X_sample_10 : decode prog_1_method_4_code 10 = .ok (.getfield 9, 3) := by decide +kernel
theorem d_X_sample_13 : decode prog_1_method_4_code 13 = .ok (.iload_n 2, 1) := by decide +kernel
theorem d_X_sample_14 : decode prog_1_method_4_code 14 = .ok (.bipush 16, 2) := by decide +kernel
theorem d_X_sample_16 : decode prog_1_method_4_code 16 = .ok (.imul, 1) := by decide +kernel
theorem d_X_sample_17 : decode prog_1_method_4_code 17 = .ok (.iload_n 1, 1) := by decide +kernel
theorem d_X_sample_18 : decode prog_1_method_4_code 18 = .ok (.iadd, 1) := by decide +kernel
theorem d_X_sample_19 : decode prog_1_method_4_code 19 = .ok (.iaload, 1) := by decide +kernel
theorem d_X_sample_20 : decode prog_1_method_4_code 20 = .ok (.goto 6, 3) := by decide +kernel
theorem d_X_sample_23 : decode prog_1_method_4_code 23 = .ok (.sipush (-1000), 3) := by decide +kernel
theorem d_X_sample_26 : decode prog_1_method_4_code 26 = .ok (.ireturn, 1) := by decide +kernel
theorem d_X_streamSize_0 : decode prog_1_method_24_code 0 = .ok (.aload_n 0, 1) := by decide +kernel
theorem d_X_streamSize_1 : decode prog_1_method_24_code 1 = .ok (.getfield 16, 3) := by decide +kernel
theorem d_X_streamSize_4 : decode prog_1_method_24_code 4 = .ok (.aload_n 0, 1) := by decide +kernel
theorem d_X_streamSize_5 : decode prog_1_method_24_code 5 = .ok (.getfield 16, 3) := by decide +kernel
theorem d_X_streamSize_8 : decode prog_1_method_24_code 8 = .ok (.invokevirtual 148, 3) := by decide +kernel
theorem d_X_streamSize_11 : decode prog_1_method_24_code 11 = .ok (.invokevirtual 197, 3) := by decide +kernel
theorem d_X_streamSize_14 : decode prog_1_method_24_code 14 = .ok (.ireturn, 1) := by decide +kernel
theorem d_X_hasByte_0 : decode prog_1_method_25_code 0 = .ok (.aload_n 0, 1) := by decide +kernel
theorem d_X_hasByte_1 : decode prog_1_method_25_code 1 = .ok (.getfield 50, 3) := by decide +kernel
theorem d_X_hasByte_4 : decode prog_1_method_25_code 4 = .ok (.ifCond .eq 21, 3) := by decide +kernel
theorem d_X_hasByte_7 : decode prog_1_method_25_code 7 = .ok (.iload_n 1, 1) := by decide +kernel
theorem d_X_hasByte_8 : decode prog_1_method_25_code 8 = .ok (.iconst 0, 1) := by decide +kernel
theorem d_X_hasByte_9 : decode prog_1_method_25_code 9 = .ok (.aload_n 0, 1) := by decide +kernel
theorem d_X_hasByte_10 : decode prog_1_method_25_code 10 = .ok (.invokevirtual 155, 3) := by decide +kernel
theorem d_X_hasByte_13 : decode prog_1_method_25_code 13 = .ok (.iconst 1, 1) := by decide +kernel
theorem d_X_hasByte_14 : decode prog_1_method_25_code 14 = .ok (.isub, 1) := by decide +kernel
theorem d_X_hasByte_15 : decode prog_1_method_25_code 15 = .ok (.invokestatic 91, 3) := by decide +kernel
theorem d_X_hasByte_18 : decode prog_1_method_25_code 18 = .ok (.ifCond .eq 7, 3) := by decide +kernel
theorem d_X_hasByte_21 : decode prog_1_method_25_code 21 = .ok (.iconst 1, 1) := by decide +kernel
theorem d_X_hasByte_22 : decode prog_1_method_25_code 22 = .ok (.goto 4, 3) := by decide +kernel
theorem d_X_hasByte_25 : decode prog_1_method_25_code 25 = .ok (.iconst 0, 1) := by decide +kernel
theorem d_X_hasByte_26 : decode prog_1_method_25_code 26 = .ok (.ireturn, 1) := by decide +kernel
theorem d_X_hasSlice_0 : decode prog_1_method_26_code 0 = .ok (.aload_n 0, 1) := by decide +kernel
theorem d_X_hasSlice_1 : decode prog_1_method_26_code 1 = .ok (.getfield 50, 3) := by decide +kernel
theorem d_X_hasSlice_4 : decode prog_1_method_26_code 4 = .ok (.ifCond .eq 24, 3) := by decide +kernel
theorem d_X_hasSlice_7 : decode prog_1_method_26_code 7 = .ok (.iload_n 1, 1) := by decide +kernel
theorem d_X_hasSlice_8 : decode prog_1_method_26_code 8 = .ok (.iconst 0, 1) := by decide +kernel
theorem d_X_hasSlice_9 : decode prog_1_method_26_code 9 = .ok (.aload_n 0, 1) := by decide +kernel
theorem d_X_hasSlice_10 : decode prog_1_method_26_code 10 = .ok (.getfield 16, 3) := by decide +kernel
theorem d_X_hasSlice_13 : decode prog_1_method_26_code 13 = .ok (.invokevirtual 148, 3) := by decide +kernel
theorem d_X_hasSlice_16 : decode prog_1_method_26_code 16 = .ok (.iconst 1, 1) := by decide +kernel
theorem d_X_hasSlice_17 : decode prog_1_method_26_code 17 = .ok (.isub, 1) := by decide +kernel
theorem d_X_hasSlice_18 : decode prog_1_method_26_code 18 = .ok (.invokestatic 91, 3) := by decide +kernel
theorem d_X_hasSlice_21 : decode prog_1_method_26_code 21 = .ok (.ifCond .eq 7, 3) := by decide +kernel
theorem d_X_hasSlice_24 : decode prog_1_method_26_code 24 = .ok (.iconst 1, 1) := by decide +kernel
theorem d_X_hasSlice_25 : decode prog_1_method_26_code 25 = .ok (.goto 4, 3) := by decide +kernel
theorem d_X_hasSlice_28 : decode prog_1_method_26_code 28 = .ok (.iconst 0, 1) := by decide +kernel
theorem d_X_hasSlice_29 : decode prog_1_method_26_code 29 = .ok (.ireturn, 1) := by decide +kernel
theorem d_X_bands_0 : decode prog_1_method_9_code 0 = .ok (.aload_n 0, 1) := by decide +kernel
theorem d_X_bands_1 : decode prog_1_method_9_code 1 = .ok (.getfield 16, 3) := by decide +kernel
theorem d_X_bands_4 : decode prog_1_method_9_code 4 = .ok (.invokevirtual 129, 3) := by decide +kernel
theorem d_X_bands_7 : decode prog_1_method_9_code 7 = .ok (.ireturn, 1) := by decide +kernel
theorem d_X_forget_0 : decode prog_1_method_27_code 0 = .ok (.aload_n 0, 1) := by decide +kernel
theorem d_X_forget_1 : decode prog_1_method_27_code 1 = .ok (.iconst 0, 1) := by decide +kernel
theorem d_X_forget_2 : decode prog_1_method_27_code 2 = .ok (.putfield 50, 3) := by decide +kernel
theorem d_X_forget_5 : decode prog_1_method_27_code 5 = .ok (.aload_n 0, 1) := by decide +kernel
theorem d_X_forget_6 : decode prog_1_method_27_code 6 = .ok (.iconst 0, 1) := by decide +kernel
theorem d_X_forget_7 : decode prog_1_method_27_code 7 = .ok (.putfield 54, 3) := by decide +kernel
theorem d_X_forget_10 : decode prog_1_method_27_code 10 = .ok (.return_, 1) := by decide +kernel
theorem d_X_byteAt_0 : decode prog_1_method_12_code 0 = .ok (.aload_n 0, 1) := by decide +kernel
theorem d_X_byteAt_1 : decode prog_1_method_12_code 1 = .ok (.iload_n 1, 1) := by decide +kernel
theorem d_X_byteAt_2 : decode prog_1_method_12_code 2 = .ok (.invokevirtual 158, 3) := by decide +kernel
theorem d_X_byteAt_5 : decode prog_1_method_12_code 5 = .ok (.ifCond .eq 15, 3) := by decide +kernel
theorem d_X_byteAt_8 : decode prog_1_method_12_code 8 = .ok (.aload_n 0, 1) := by decide +kernel
theorem d_X_byteAt_9 : decode prog_1_method_12_code 9 = .ok (.getfield 39, 3) := by decide +kernel
theorem d_X_byteAt_12 : decode prog_1_method_12_code 12 = .ok (.getfield 162, 3) := by decide +kernel
theorem d_X_byteAt_15 : decode prog_1_method_12_code 15 = .ok (.iload_n 1, 1) := by decide +kernel
theorem d_X_byteAt_16 : decode prog_1_method_12_code 16 = .ok (.iaload, 1) := by decide +kernel
theorem d_X_byteAt_17 : decode prog_1_method_12_code 17 = .ok (.goto 4, 3) := by decide +kernel
theorem d_X_byteAt_20 : decode prog_1_method_12_code 20 = .ok (.iconst (-1), 1) := by decide +kernel
theorem d_X_byteAt_21 : decode prog_1_method_12_code 21 = .ok (.ireturn, 1) := by decide +kernel
theorem d_X_poke_0 : decode prog_1_method_13_code 0 = .ok (.aload_n 0, 1) := by decide +kernel
theorem d_X_poke_1 : decode prog_1_method_13_code 1 = .ok (.iload_n 1, 1) := by decide +kernel
theorem d_X_poke_2 : decode prog_1_method_13_code 2 = .ok (.invokevirtual 158, 3) := by decide +kernel
theorem d_X_poke_5 : decode prog_1_method_13_code 5 = .ok (.ifCond .eq 14, 3) := by decide +kernel
theorem d_X_poke_8 : decode prog_1_method_13_code 8 = .ok (.iload_n 2, 1) := by decide +kernel
theorem d_X_poke_9 : decode prog_1_method_13_code 9 = .ok (.iconst 0, 1) := by decide +kernel
theorem d_X_poke_10 : decode prog_1_method_13_code 10 = .ok (.sipush 255, 3) := by decide +kernel
theorem d_X_poke_13 : decode prog_1_method_13_code 13 = .ok (.invokestatic 91, 3) := by decide +kernel
theorem d_X_poke_16 : decode prog_1_method_13_code 16 = .ok (.ifCond .ne 5, 3) := by decide +kernel
theorem d_X_poke_19 : decode prog_1_method_13_code 19 = .ok (.iconst 0, 1) := by decide +kernel
theorem d_X_poke_20 : decode prog_1_method_13_code 20 = .ok (.ireturn, 1) := by decide +kernel
theorem d_X_poke_21 : decode prog_1_method_13_code 21 = .ok (.aload_n 0, 1) := by decide +kernel
theorem d_X_poke_22 : decode prog_1_method_13_code 22 = .ok (.getfield 39, 3) := by decide +kernel
theorem d_X_poke_25 : decode prog_1_method_13_code 25 = .ok (.getfield 162, 3) := by decide +kernel
theorem d_X_poke_28 : decode prog_1_method_13_code 28 = .ok (.iload_n 1, 1) := by decide +kernel
theorem d_X_poke_29 : decode prog_1_method_13_code 29 = .ok (.iload_n 2, 1) := by decide +kernel
theorem d_X_poke_30 : decode prog_1_method_13_code 30 = .ok (.iastore, 1) := by decide +kernel
theorem d_X_poke_31 : decode prog_1_method_13_code 31 = .ok (.iconst 1, 1) := by decide +kernel
theorem d_X_poke_32 : decode prog_1_method_13_code 32 = .ok (.ireturn, 1) := by decide +kernel
theorem d_X_decoded_0 : decode prog_1_method_18_code 0 = .ok (.aload_n 0, 1) := by decide +kernel
theorem d_X_decoded_1 : decode prog_1_method_18_code 1 = .ok (.getfield 54, 3) := by decide +kernel
theorem d_X_decoded_4 : decode prog_1_method_18_code 4 = .ok (.ifCond .eq 26, 3) := by decide +kernel
theorem d_X_decoded_7 : decode prog_1_method_18_code 7 = .ok (.aload_n 0, 1) := by decide +kernel
theorem d_X_decoded_8 : decode prog_1_method_18_code 8 = .ok (.iload_n 1, 1) := by decide +kernel
theorem d_X_decoded_9 : decode prog_1_method_18_code 9 = .ok (.iload_n 2, 1) := by decide +kernel
theorem d_X_decoded_10 : decode prog_1_method_18_code 10 = .ok (.invokevirtual 87, 3) := by decide +kernel
theorem d_X_decoded_13 : decode prog_1_method_18_code 13 = .ok (.ifCond .eq 17, 3) := by decide +kernel
theorem d_X_decoded_16 : decode prog_1_method_18_code 16 = .ok (.aload_n 0, 1) := by decide +kernel
theorem d_X_decoded_17 : decode prog_1_method_18_code 17 = .ok (.getfield 60, 3) := by decide +kernel
theorem d_X_decoded_20 : decode prog_1_method_18_code 20 = .ok (.iload_n 2, 1) := by decide +kernel
theorem d_X_decoded_21 : decode prog_1_method_18_code 21 = .ok (.bipush 16, 2) := by decide +kernel
theorem d_X_decoded_23 : decode prog_1_method_18_code 23 = .ok (.imul, 1) := by decide +kernel
theorem d_X_decoded_24 : decode prog_1_method_18_code 24 = .ok (.iload_n 1, 1) := by decide +kernel
theorem d_X_decoded_25 : decode prog_1_method_18_code 25 = .ok (.iadd, 1) := by decide +kernel
theorem d_X_decoded_26 : decode prog_1_method_18_code 26 = .ok (.iaload, 1) := by decide +kernel
theorem d_X_decoded_27 : decode prog_1_method_18_code 27 = .ok (.goto 6, 3) := by decide +kernel
theorem d_X_decoded_30 : decode prog_1_method_18_code 30 = .ok (.sipush (-1000), 3) := by decide +kernel
theorem d_X_decoded_33 : decode prog_1_method_18_code 33 = .ok (.ireturn, 1) := by decide +kernel
theorem d_X_rebuilt_0 : decode prog_1_method_19_code 0 = .ok (.aload_n 0, 1) := by decide +kernel
theorem d_X_rebuilt_1 : decode prog_1_method_19_code 1 = .ok (.getfield 54, 3) := by decide +kernel
theorem d_X_rebuilt_4 : decode prog_1_method_19_code 4 = .ok (.ifCond .eq 29, 3) := by decide +kernel
theorem d_X_rebuilt_7 : decode prog_1_method_19_code 7 = .ok (.aload_n 0, 1) := by decide +kernel
theorem d_X_rebuilt_8 : decode prog_1_method_19_code 8 = .ok (.getfield 23, 3) := by decide +kernel
theorem d_X_rebuilt_11 : decode prog_1_method_19_code 11 = .ok (.iload_n 1, 1) := by decide +kernel
theorem d_X_rebuilt_12 : decode prog_1_method_19_code 12 = .ok (.iload_n 2, 1) := by decide +kernel
theorem d_X_rebuilt_13 : decode prog_1_method_19_code 13 = .ok (.invokevirtual 139, 3) := by decide +kernel
theorem d_X_rebuilt_16 : decode prog_1_method_19_code 16 = .ok (.ifCond .eq 17, 3) := by decide +kernel
theorem d_X_rebuilt_19 : decode prog_1_method_19_code 19 = .ok (.aload_n 0, 1) := by decide +kernel
theorem d_X_rebuilt_20 : decode prog_1_method_19_code 20 = .ok (.getfield 57, 3) := by decide +kernel
theorem d_X_rebuilt_23 : decode prog_1_method_19_code 23 = .ok (.iload_n 2, 1) := by decide +kernel
theorem d_X_rebuilt_24 : decode prog_1_method_19_code 24 = .ok (.bipush 16, 2) := by decide +kernel
theorem d_X_rebuilt_26 : decode prog_1_method_19_code 26 = .ok (.imul, 1) := by decide +kernel
theorem d_X_rebuilt_27 : decode prog_1_method_19_code 27 = .ok (.iload_n 1, 1) := by decide +kernel
theorem d_X_rebuilt_28 : decode prog_1_method_19_code 28 = .ok (.iadd, 1) := by decide +kernel
theorem d_X_rebuilt_29 : decode prog_1_method_19_code 29 = .ok (.laload, 1) := by decide +kernel
theorem d_X_rebuilt_30 : decode prog_1_method_19_code 30 = .ok (.goto 4, 3) := by decide +kernel
theorem d_X_rebuilt_33 : decode prog_1_method_19_code 33 = .ok (.lconst 0, 1) := by decide +kernel
theorem d_X_rebuilt_34 : decode prog_1_method_19_code 34 = .ok (.lreturn, 1) := by decide +kernel
theorem d_X_paint_0 : decode prog_1_method_2_code 0 = .ok (.aload_n 0, 1) := by decide +kernel
theorem d_X_paint_1 : decode prog_1_method_2_code 1 = .ok (.iload_n 1, 1) := by decide +kernel
theorem d_X_paint_2 : decode prog_1_method_2_code 2 = .ok (.iload_n 2, 1) := by decide +kernel
theorem d_X_paint_3 : decode prog_1_method_2_code 3 = .ok (.invokevirtual 87, 3) := by decide +kernel
theorem d_X_paint_6 : decode prog_1_method_2_code 6 = .ok (.ifCond .eq 36, 3) := by decide +kernel
theorem d_X_paint_9 : decode prog_1_method_2_code 9 = .ok (.iload_n 3, 1) := by decide +kernel
theorem d_X_paint_10 : decode prog_1_method_2_code 10 = .ok (.iconst 1, 1) := by decide +kernel
theorem d_X_paint_11 : decode prog_1_method_2_code 11 = .ok (.bipush 16, 2) := by decide +kernel
theorem d_X_paint_13 : decode prog_1_method_2_code 13 = .ok (.invokestatic 91, 3) := by decide +kernel
theorem d_X_paint_16 : decode prog_1_method_2_code 16 = .ok (.ifCond .eq 26, 3) := by decide +kernel
theorem d_X_paint_19 : decode prog_1_method_2_code 19 = .ok (.iload 4, 2) := by decide +kernel
theorem d_X_paint_21 : decode prog_1_method_2_code 21 = .ok (.iconst 1, 1) := by decide +kernel
theorem d_X_paint_22 : decode prog_1_method_2_code 22 = .ok (.bipush 16, 2) := by decide +kernel
theorem d_X_paint_24 : decode prog_1_method_2_code 24 = .ok (.invokestatic 91, 3) := by decide +kernel
theorem d_X_paint_27 : decode prog_1_method_2_code 27 = .ok (.ifCond .eq 15, 3) := by decide +kernel
theorem d_X_paint_30 : decode prog_1_method_2_code 30 = .ok (.iload 5, 2) := by decide +kernel
theorem d_X_paint_32 : decode prog_1_method_2_code 32 = .ok (.bipush (-128), 2) := by decide +kernel
theorem d_X_paint_34 : decode prog_1_method_2_code 34 = .ok (.bipush 127, 2) := by decide +kernel
theorem d_X_paint_36 : decode prog_1_method_2_code 36 = .ok (.invokestatic 91, 3) := by decide +kernel
theorem d_X_paint_39 : decode prog_1_method_2_code 39 = .ok (.ifCond .ne 5, 3) := by decide +kernel
theorem d_X_paint_42 : decode prog_1_method_2_code 42 = .ok (.iconst 0, 1) := by decide +kernel
theorem d_X_paint_43 : decode prog_1_method_2_code 43 = .ok (.ireturn, 1) := by decide +kernel
theorem d_X_paint_44 : decode prog_1_method_2_code 44 = .ok (.aload_n 0, 1) := by decide +kernel
theorem d_X_paint_45 : decode prog_1_method_2_code 45 = .ok (.getfield 72, 3) := by decide +kernel
theorem d_X_paint_48 : decode prog_1_method_2_code 48 = .ok (.iload_n 1, 1) := by decide +kernel
theorem d_X_paint_49 : decode prog_1_method_2_code 49 = .ok (.iload_n 3, 1) := by decide +kernel
theorem d_X_paint_50 : decode prog_1_method_2_code 50 = .ok (.iadd, 1) := by decide +kernel
theorem d_X_paint_51 : decode prog_1_method_2_code 51 = .ok (.invokestatic 63, 3) := by decide +kernel
theorem d_X_paint_54 : decode prog_1_method_2_code 54 = .ok (.istore 6, 2) := by decide +kernel
theorem d_X_paint_56 : decode prog_1_method_2_code 56 = .ok (.aload_n 0, 1) := by decide +kernel
theorem d_X_paint_57 : decode prog_1_method_2_code 57 = .ok (.getfield 76, 3) := by decide +kernel
theorem d_X_paint_60 : decode prog_1_method_2_code 60 = .ok (.iload_n 2, 1) := by decide +kernel
theorem d_X_paint_61 : decode prog_1_method_2_code 61 = .ok (.iload 4, 2) := by decide +kernel
theorem d_X_paint_63 : decode prog_1_method_2_code 63 = .ok (.iadd, 1) := by decide +kernel
theorem d_X_paint_64 : decode prog_1_method_2_code 64 = .ok (.invokestatic 63, 3) := by decide +kernel
theorem d_X_paint_67 : decode prog_1_method_2_code 67 = .ok (.istore 7, 2) := by decide +kernel
theorem d_X_paint_69 : decode prog_1_method_2_code 69 = .ok (.iload_n 2, 1) := by decide +kernel
theorem d_X_paint_70 : decode prog_1_method_2_code 70 = .ok (.istore 8, 2) := by decide +kernel
theorem d_X_paint_72 : decode prog_1_method_2_code 72 = .ok (.iload 8, 2) := by decide +kernel
theorem d_X_paint_74 : decode prog_1_method_2_code 74 = .ok (.iload 7, 2) := by decide +kernel
theorem d_X_paint_76 : decode prog_1_method_2_code 76 = .ok (.if_icmp .ge 40, 3) := by decide +kernel
theorem d_X_paint_79 : decode prog_1_method_2_code 79 = .ok (.iload_n 1, 1) := by decide +kernel
theorem d_X_paint_80 : decode prog_1_method_2_code 80 = .ok (.istore 9, 2) := by decide +kernel
theorem d_X_paint_82 : decode prog_1_method_2_code 82 = .ok (.iload 9, 2) := by decide +kernel
theorem d_X_paint_84 : decode prog_1_method_2_code 84 = .ok (.iload 6, 2) := by decide +kernel
theorem d_X_paint_86 : decode prog_1_method_2_code 86 = .ok (.if_icmp .ge 24, 3) := by decide +kernel
theorem d_X_paint_89 : decode prog_1_method_2_code 89 = .ok (.aload_n 0, 1) := by decide +kernel
theorem d_X_paint_90 : decode prog_1_method_2_code 90 = .ok (.getfield 9, 3) := by decide +kernel
theorem d_X_paint_93 : decode prog_1_method_2_code 93 = .ok (.iload 8, 2) := by decide +kernel
theorem d_X_paint_95 : decode prog_1_method_2_code 95 = .ok (.bipush 16, 2) := by decide +kernel
theorem d_X_paint_97 : decode prog_1_method_2_code 97 = .ok (.imul, 1) := by decide +kernel
theorem d_X_paint_98 : decode prog_1_method_2_code 98 = .ok (.iload 9, 2) := by decide +kernel
theorem d_X_paint_100 : decode prog_1_method_2_code 100 = .ok (.iadd, 1) := by decide +kernel
theorem d_X_paint_101 : decode prog_1_method_2_code 101 = .ok (.iload 5, 2) := by decide +kernel
theorem d_X_paint_103 : decode prog_1_method_2_code 103 = .ok (.iastore, 1) := by decide +kernel
theorem d_X_paint_104 : decode prog_1_method_2_code 104 = .ok (.iinc 9 1, 3) := by decide +kernel
theorem d_X_paint_107 : decode prog_1_method_2_code 107 = .ok (.goto (-25), 3) := by decide +kernel
theorem d_X_paint_110 : decode prog_1_method_2_code 110 = .ok (.iinc 8 1, 3) := by decide +kernel
theorem d_X_paint_113 : decode prog_1_method_2_code 113 = .ok (.goto (-41), 3) := by decide +kernel
theorem d_X_paint_116 : decode prog_1_method_2_code 116 = .ok (.iconst 1, 1) := by decide +kernel
theorem d_X_paint_117 : decode prog_1_method_2_code 117 = .ok (.ireturn, 1) := by decide +kernel
theorem d_X_slope_0 : decode prog_1_method_3_code 0 = .ok (.iload_n 1, 1) := by decide +kernel
theorem d_X_slope_1 : decode prog_1_method_3_code 1 = .ok (.bipush (-32), 2) := by decide +kernel
theorem d_X_slope_3 : decode prog_1_method_3_code 3 = .ok (.bipush 32, 2) := by decide +kernel
theorem d_X_slope_5 : decode prog_1_method_3_code 5 = .ok (.invokestatic 91, 3) := by decide +kernel
theorem d_X_slope_8 : decode prog_1_method_3_code 8 = .ok (.ifCond .eq 14, 3) := by decide +kernel
theorem d_X_slope_11 : decode prog_1_method_3_code 11 = .ok (.iload_n 2, 1) := by decide +kernel
theorem d_X_slope_12 : decode prog_1_method_3_code 12 = .ok (.bipush (-32), 2) := by decide +kernel
theorem d_X_slope_14 : decode prog_1_method_3_code 14 = .ok (.bipush 32, 2) := by decide +kernel
theorem d_X_slope_16 : decode prog_1_method_3_code 16 = .ok (.invokestatic 91, 3) := by decide +kernel
theorem d_X_slope_19 : decode prog_1_method_3_code 19 = .ok (.ifCond .ne 5, 3) := by decide +kernel
theorem d_X_slope_22 : decode prog_1_method_3_code 22 = .ok (.iconst 0, 1) := by decide +kernel
theorem d_X_slope_23 : decode prog_1_method_3_code 23 = .ok (.ireturn, 1) := by decide +kernel
theorem d_X_slope_24 : decode prog_1_method_3_code 24 = .ok (.iconst 0, 1) := by decide +kernel
theorem d_X_slope_25 : decode prog_1_method_3_code 25 = .ok (.istore_n 3, 1) := by decide +kernel
theorem d_X_slope_26 : decode prog_1_method_3_code 26 = .ok (.iload_n 3, 1) := by decide +kernel
theorem d_X_slope_27 : decode prog_1_method_3_code 27 = .ok (.aload_n 0, 1) := by decide +kernel
theorem d_X_slope_28 : decode prog_1_method_3_code 28 = .ok (.getfield 76, 3) := by decide +kernel
theorem d_X_slope_31 : decode prog_1_method_3_code 31 = .ok (.if_icmp .ge 64, 3) := by decide +kernel
theorem d_X_slope_34 : decode prog_1_method_3_code 34 = .ok (.iconst 0, 1) := by decide +kernel
theorem d_X_slope_35 : decode prog_1_method_3_code 35 = .ok (.istore 4, 2) := by decide +kernel
theorem d_X_slope_37 : decode prog_1_method_3_code 37 = .ok (.iload 4, 2) := by decide +kernel
theorem d_X_slope_39 : decode prog_1_method_3_code 39 = .ok (.aload_n 0, 1) := by decide +kernel
theorem d_X_slope_40 : decode prog_1_method_3_code 40 = .ok (.getfield 72, 3) := by decide +kernel
theorem d_X_slope_43 : decode prog_1_method_3_code 43 = .ok (.if_icmp .ge 46, 3) := by decide +kernel
theorem d_X_slope_46 : decode prog_1_method_3_code 46 = .ok (.iload_n 3, 1) := by decide +kernel
theorem d_X_slope_47 : decode prog_1_method_3_code 47 = .ok (.bipush 16, 2) := by decide +kernel
theorem d_X_slope_49 : decode prog_1_method_3_code 49 = .ok (.imul, 1) := by decide +kernel
theorem d_X_slope_50 : decode prog_1_method_3_code 50 = .ok (.iload 4, 2) := by decide +kernel
theorem d_X_slope_52 : decode prog_1_method_3_code 52 = .ok (.iadd, 1) := by decide +kernel
theorem d_X_slope_53 : decode prog_1_method_3_code 53 = .ok (.istore 5, 2) := by decide +kernel
theorem d_X_slope_55 : decode prog_1_method_3_code 55 = .ok (.aload_n 0, 1) := by decide +kernel
theorem d_X_slope_56 : decode prog_1_method_3_code 56 = .ok (.getfield 9, 3) := by decide +kernel
theorem d_X_slope_59 : decode prog_1_method_3_code 59 = .ok (.iload 5, 2) := by decide +kernel
theorem d_X_slope_61 : decode prog_1_method_3_code 61 = .ok (.aload_n 0, 1) := by decide +kernel
theorem d_X_slope_62 : decode prog_1_method_3_code 62 = .ok (.getfield 9, 3) := by decide +kernel
theorem d_X_slope_65 : decode prog_1_method_3_code 65 = .ok (.iload 5, 2) := by decide +kernel
theorem d_X_slope_67 : decode prog_1_method_3_code 67 = .ok (.iaload, 1) := by decide +kernel
theorem d_X_slope_68 : decode prog_1_method_3_code 68 = .ok (.iload_n 1, 1) := by decide +kernel
theorem d_X_slope_69 : decode prog_1_method_3_code 69 = .ok (.iload 4, 2) := by decide +kernel
theorem d_X_slope_71 : decode prog_1_method_3_code 71 = .ok (.imul, 1) := by decide +kernel
theorem d_X_slope_72 : decode prog_1_method_3_code 72 = .ok (.iadd, 1) := by decide +kernel
theorem d_X_slope_73 : decode prog_1_method_3_code 73 = .ok (.iload_n 2, 1) := by decide +kernel
theorem d_X_slope_74 : decode prog_1_method_3_code 74 = .ok (.iload_n 3, 1) := by decide +kernel
theorem d_X_slope_75 : decode prog_1_method_3_code 75 = .ok (.imul, 1) := by decide +kernel
theorem d_X_slope_76 : decode prog_1_method_3_code 76 = .ok (.iadd, 1) := by decide +kernel
theorem d_X_slope_77 : decode prog_1_method_3_code 77 = .ok (.i2l, 1) := by decide +kernel
theorem d_X_slope_78 : decode prog_1_method_3_code 78 = .ok (.invokestatic 95, 3) := by decide +kernel
theorem d_X_slope_81 : decode prog_1_method_3_code 81 = .ok (.l2i, 1) := by decide +kernel
theorem d_X_slope_82 : decode prog_1_method_3_code 82 = .ok (.iastore, 1) := by decide +kernel
theorem d_X_slope_83 : decode prog_1_method_3_code 83 = .ok (.iinc 4 1, 3) := by decide +kernel
theorem d_X_slope_86 : decode prog_1_method_3_code 86 = .ok (.goto (-49), 3) := by decide +kernel
theorem d_X_slope_89 : decode prog_1_method_3_code 89 = .ok (.iinc 3 1, 3) := by decide +kernel
theorem d_X_slope_92 : decode prog_1_method_3_code 92 = .ok (.goto (-66), 3) := by decide +kernel
theorem d_X_slope_95 : decode prog_1_method_3_code 95 = .ok (.iconst 1, 1) := by decide +kernel
theorem d_X_slope_96 : decode prog_1_method_3_code 96 = .ok (.ireturn, 1) := by decide +kernel
theorem d_X_countChanged_0 : decode prog_1_method_30_code 0 = .ok (.iconst 0, 1) := by decide +kernel
theorem d_X_countChanged_1 : decode prog_1_method_30_code 1 = .ok (.istore_n 1, 1) := by decide +kernel
theorem d_X_countChanged_2 : decode prog_1_method_30_code 2 = .ok (.iconst 0, 1) := by decide +kernel
theorem d_X_countChanged_3 : decode prog_1_method_30_code 3 = .ok (.istore_n 2, 1) := by decide +kernel
theorem d_X_countChanged_4 : decode prog_1_method_30_code 4 = .ok (.iload_n 2, 1) := by decide +kernel
theorem d_X_countChanged_5 : decode prog_1_method_30_code 5 = .ok (.aload_n 0, 1) := by decide +kernel
theorem d_X_countChanged_6 : decode prog_1_method_30_code 6 = .ok (.getfield 76, 3) := by decide +kernel
theorem d_X_countChanged_9 : decode prog_1_method_30_code 9 = .ok (.if_icmp .ge 53, 3) := by decide +kernel
theorem d_X_countChanged_12 : decode prog_1_method_30_code 12 = .ok (.iconst 0, 1) := by decide +kernel
theorem d_X_countChanged_13 : decode prog_1_method_30_code 13 = .ok (.istore_n 3, 1) := by decide +kernel
theorem d_X_countChanged_14 : decode prog_1_method_30_code 14 = .ok (.iload_n 3, 1) := by decide +kernel
theorem d_X_countChanged_15 : decode prog_1_method_30_code 15 = .ok (.aload_n 0, 1) := by decide +kernel
theorem d_X_countChanged_16 : decode prog_1_method_30_code 16 = .ok (.getfield 72, 3) := by decide +kernel
theorem d_X_countChanged_19 : decode prog_1_method_30_code 19 = .ok (.if_icmp .ge 37, 3) := by decide +kernel
theorem d_X_countChanged_22 : decode prog_1_method_30_code 22 = .ok (.aload_n 0, 1) := by decide +kernel
theorem d_X_countChanged_23 : decode prog_1_method_30_code 23 = .ok (.getfield 60, 3) := by decide +kernel
theorem d_X_countChanged_26 : decode prog_1_method_30_code 26 = .ok (.iload_n 2, 1) := by decide +kernel
theorem d_X_countChanged_27 : decode prog_1_method_30_code 27 = .ok (.bipush 16, 2) := by decide +kernel
theorem d_X_countChanged_29 : decode prog_1_method_30_code 29 = .ok (.imul, 1) := by decide +kernel
theorem d_X_countChanged_30 : decode prog_1_method_30_code 30 = .ok (.iload_n 3, 1) := by decide +kernel
theorem d_X_countChanged_31 : decode prog_1_method_30_code 31 = .ok (.iadd, 1) := by decide +kernel
theorem d_X_countChanged_32 : decode prog_1_method_30_code 32 = .ok (.iaload, 1) := by decide +kernel
theorem d_X_countChanged_33 : decode prog_1_method_30_code 33 = .ok (.aload_n 0, 1) := by decide +kernel
theorem d_X_countChanged_34 : decode prog_1_method_30_code 34 = .ok (.getfield 9, 3) := by decide +kernel
theorem d_X_countChanged_37 : decode prog_1_method_30_code 37 = .ok (.iload_n 2, 1) := by decide +kernel
theorem d_X_countChanged_38 : decode prog_1_method_30_code 38 = .ok (.bipush 16, 2) := by decide +kernel
theorem d_X_countChanged_40 : decode prog_1_method_30_code 40 = .ok (.imul, 1) := by decide +kernel
theorem d_X_countChanged_41 : decode prog_1_method_30_code 41 = .ok (.iload_n 3, 1) := by decide +kernel
theorem d_X_countChanged_42 : decode prog_1_method_30_code 42 = .ok (.iadd, 1) := by decide +kernel
theorem d_X_countChanged_43 : decode prog_1_method_30_code 43 = .ok (.iaload, 1) := by decide +kernel
theorem d_X_countChanged_44 : decode prog_1_method_30_code 44 = .ok (.if_icmp .eq 6, 3) := by decide +kernel
theorem d_X_countChanged_47 : decode prog_1_method_30_code 47 = .ok (.iinc 1 1, 3) := by decide +kernel
theorem d_X_countChanged_50 : decode prog_1_method_30_code 50 = .ok (.iinc 3 1, 3) := by decide +kernel
theorem d_X_countChanged_53 : decode prog_1_method_30_code 53 = .ok (.goto (-39), 3) := by decide +kernel
theorem d_X_countChanged_56 : decode prog_1_method_30_code 56 = .ok (.iinc 2 1, 3) := by decide +kernel
theorem d_X_countChanged_59 : decode prog_1_method_30_code 59 = .ok (.goto (-55), 3) := by decide +kernel
theorem d_X_countChanged_62 : decode prog_1_method_30_code 62 = .ok (.iload_n 1, 1) := by decide +kernel
theorem d_X_countChanged_63 : decode prog_1_method_30_code 63 = .ok (.ireturn, 1) := by decide +kernel
theorem d_X_error_0 : decode prog_1_method_20_code 0 = .ok (.aload_n 0, 1) := by decide +kernel
theorem d_X_error_1 : decode prog_1_method_20_code 1 = .ok (.getfield 54, 3) := by decide +kernel
theorem d_X_error_4 : decode prog_1_method_20_code 4 = .ok (.ifCond .ne 5, 3) := by decide +kernel
theorem d_X_error_7 : decode prog_1_method_20_code 7 = .ok (.iconst (-1), 1) := by decide +kernel
theorem d_X_error_8 : decode prog_1_method_20_code 8 = .ok (.ireturn, 1) := by decide +kernel
theorem d_X_error_9 : decode prog_1_method_20_code 9 = .ok (.iconst 0, 1) := by decide +kernel
theorem d_X_error_10 : decode prog_1_method_20_code 10 = .ok (.istore_n 1, 1) := by decide +kernel
theorem d_X_error_11 : decode prog_1_method_20_code 11 = .ok (.iconst 0, 1) := by decide +kernel
theorem d_X_error_12 : decode prog_1_method_20_code 12 = .ok (.istore_n 2, 1) := by decide +kernel
theorem d_X_error_13 : decode prog_1_method_20_code 13 = .ok (.iload_n 2, 1) := by decide +kernel
theorem d_X_error_14 : decode prog_1_method_20_code 14 = .ok (.aload_n 0, 1) := by decide +kernel
theorem d_X_error_15 : decode prog_1_method_20_code 15 = .ok (.getfield 76, 3) := by decide +kernel
theorem d_X_error_18 : decode prog_1_method_20_code 18 = .ok (.if_icmp .ge 58, 3) := by decide +kernel
theorem d_X_error_21 : decode prog_1_method_20_code 21 = .ok (.iconst 0, 1) := by decide +kernel
theorem d_X_error_22 : decode prog_1_method_20_code 22 = .ok (.istore_n 3, 1) := by decide +kernel
theorem d_X_error_23 : decode prog_1_method_20_code 23 = .ok (.iload_n 3, 1) := by decide +kernel
theorem d_X_error_24 : decode prog_1_method_20_code 24 = .ok (.aload_n 0, 1) := by decide +kernel
theorem d_X_error_25 : decode prog_1_method_20_code 25 = .ok (.getfield 72, 3) := by decide +kernel
theorem d_X_error_28 : decode prog_1_method_20_code 28 = .ok (.if_icmp .ge 42, 3) := by decide +kernel
theorem d_X_error_31 : decode prog_1_method_20_code 31 = .ok (.aload_n 0, 1) := by decide +kernel
theorem d_X_error_32 : decode prog_1_method_20_code 32 = .ok (.getfield 60, 3) := by decide +kernel
theorem d_X_error_35 : decode prog_1_method_20_code 35 = .ok (.iload_n 2, 1) := by decide +kernel
theorem d_X_error_36 : decode prog_1_method_20_code 36 = .ok (.bipush 16, 2) := by decide +kernel
theorem d_X_error_38 : decode prog_1_method_20_code 38 = .ok (.imul, 1) := by decide +kernel
theorem d_X_error_39 : decode prog_1_method_20_code 39 = .ok (.iload_n 3, 1) := by decide +kernel
theorem d_X_error_40 : decode prog_1_method_20_code 40 = .ok (.iadd, 1) := by decide +kernel
theorem d_X_error_41 : decode prog_1_method_20_code 41 = .ok (.iaload, 1) := by decide +kernel
theorem d_X_error_42 : decode prog_1_method_20_code 42 = .ok (.aload_n 0, 1) := by decide +kernel
theorem d_X_error_43 : decode prog_1_method_20_code 43 = .ok (.getfield 9, 3) := by decide +kernel
theorem d_X_error_46 : decode prog_1_method_20_code 46 = .ok (.iload_n 2, 1) := by decide +kernel
theorem d_X_error_47 : decode prog_1_method_20_code 47 = .ok (.bipush 16, 2) := by decide +kernel
theorem d_X_error_49 : decode prog_1_method_20_code 49 = .ok (.imul, 1) := by decide +kernel
theorem d_X_error_50 : decode prog_1_method_20_code 50 = .ok (.iload_n 3, 1) := by decide +kernel
theorem d_X_error_51 : decode prog_1_method_20_code 51 = .ok (.iadd, 1) := by decide +kernel
theorem d_X_error_52 : decode prog_1_method_20_code 52 = .ok (.iaload, 1) := by decide +kernel
theorem d_X_error_53 : decode prog_1_method_20_code 53 = .ok (.isub, 1) := by decide +kernel
theorem d_X_error_54 : decode prog_1_method_20_code 54 = .ok (.istore 4, 2) := by decide +kernel
theorem d_X_error_56 : decode prog_1_method_20_code 56 = .ok (.iload_n 1, 1) := by decide +kernel
theorem d_X_error_57 : decode prog_1_method_20_code 57 = .ok (.iload 4, 2) := by decide +kernel
theorem d_X_error_59 : decode prog_1_method_20_code 59 = .ok (.iload 4, 2) := by decide +kernel
theorem d_X_error_61 : decode prog_1_method_20_code 61 = .ok (.imul, 1) := by decide +kernel
theorem d_X_error_62 : decode prog_1_method_20_code 62 = .ok (.iadd, 1) := by decide +kernel
theorem d_X_error_63 : decode prog_1_method_20_code 63 = .ok (.istore_n 1, 1) := by decide +kernel
theorem d_X_error_64 : decode prog_1_method_20_code 64 = .ok (.iinc 3 1, 3) := by decide +kernel
theorem d_X_error_67 : decode prog_1_method_20_code 67 = .ok (.goto (-44), 3) := by decide +kernel
theorem d_X_error_70 : decode prog_1_method_20_code 70 = .ok (.iinc 2 1, 3) := by decide +kernel
theorem d_X_error_73 : decode prog_1_method_20_code 73 = .ok (.goto (-60), 3) := by decide +kernel
theorem d_X_error_76 : decode prog_1_method_20_code 76 = .ok (.iload_n 1, 1) := by decide +kernel
theorem d_X_error_77 : decode prog_1_method_20_code 77 = .ok (.ireturn, 1) := by decide +kernel
abbrev w_X_inPicture : List Cond := Cond.code y_X_inPicture prog_1_method_23_code 3 (some .boolean) :: wl
abbrev r_X_inPicture : Room := { frames := 1, cells := 0, slots := 0, locals := 22 }
set_option maxHeartbeats 4000000 in
set_option maxRecDepth 100000 in
theorem c_X_inPicture (l : Launch) (G : k_G) (sz : Nat) (rX rP rS rL rT rC ra rv rRC rRP : Nat) (x0 y0 wd ht sth rth : Int) (h_x0 : -2147483648 ≤ x0 ∧ x0 < 2147483648) (h_y0 : -2147483648 ≤ y0 ∧ y0 < 2147483648) (hwd : 1 ≤ wd ∧ wd ≤ 16) (hht : 1 ≤ ht ∧ ht ≤ 16) : Met l y_X_inPicture w_X_inPicture r_X_inPicture (k_P G [.ref rX, .int (iv (x0)), .int (iv (y0))] [(rX, .inr (6, [.int (iv (wd)), .int (iv (ht)), .ref rP, .ref rS, .ref rL, .ref rT, .ref rC, .ref ra, .ref rv, .int (iv (sth)), .int (iv (rth)), .ref rRC, .ref rRP]))] sz) (vp_Si (fun r : Int32 => r = iv (bI ((0 ≤ x0 ∧ x0 ≤ wd - 1) ∧ 0 ≤ y0 ∧ y0 ≤ ht - 1)))) 0 0 (fun _ => False) := by
  refine k_met (fun _ => vp_Si (fun r : Int32 => r = iv (bI ((0 ≤ x0 ∧ x0 ≤ wd - 1) ∧ 0 ≤ y0 ∧ y0 ≤ ht - 1)))) (fun _ _ => False) (by decide) rfl (Nat.le_of_ble_eq_true rfl) (fun p e s m args below meth c ls A Q S hr hlk hnm hl hsz hP hK hD hS hA hT hQ => ?_)
  obtain ⟨hx, hb, hml, hown, hts⟩ := id S
  have hw : ∀ w ∈ wl, w.before args s = true := fun w h => hts w (List.mem_cons_of_mem _ h)
  have hl : lv_has ls 3 [(0, .ref rX), (1, .int (iv (x0))), (2, .int (iv (y0)))] := hl
  refine lv_iload_n hx hb d_X_inPicture_0 rfl (lv_at hl 1 rfl) ?_
  refine lv_iconst (v := iv (0)) hx hb d_X_inPicture_1 rfl ?_
  refine lv_aload_n hx hb d_X_inPicture_2 rfl (lv_at hl 0 rfl) ?_
  refine va_get (D := gD G) (ci := 6) (v := .int (iv (wd))) (C := R_X) (T := F_X) (N := 13) hx hb hw in_X hown hK hP 0 rfl rfl 0 (by decide) (hw _ m2_4) (fun _ h => h) rfl d_X_inPicture_3 ?_
  refine lv_iconst (v := iv (1)) hx hb d_X_inPicture_6 rfl ?_
  refine k_isub hx hb d_X_inPicture_7 ?_
  refine k_ciR (k_rs S (c_X_within l G _ x0 0 (wd - 1) (by omega) (by omega) (by omega)) 3 m2_54 m2_52 m2_53 m1_1 (by decide +kernel) (by decide) rfl rfl (k_preS hK hP hD hS hA hT [] (by decide) rfl) rfl hl.1 rfl (Nat.le_of_ble_eq_true rfl) d_X_inPicture_8 ⟨Nat.le_of_ble_eq_true rfl, Nat.le_of_ble_eq_true rfl⟩) (fun r8 h8 => ?_)
  subst h8
  refine k_ifb_eq (tgt := 32) hx hb d_X_inPicture_11 (by decide) (fun hc11 => ?_) (fun hc11 => ?_)
  · refine lv_iconst (v := iv (0)) hx hb d_X_inPicture_32 rfl ?_
    exact k_zretR hx hb hr hlk (by omega) hQ (by first | rw [bI_t (by omega)] | rw [bI_f (by omega)]) d_X_inPicture_33
  · refine lv_iload_n hx hb d_X_inPicture_14 rfl (lv_at hl 2 rfl) ?_
    refine lv_iconst (v := iv (0)) hx hb d_X_inPicture_15 rfl ?_
    refine lv_aload_n hx hb d_X_inPicture_16 rfl (lv_at hl 0 rfl) ?_
    refine va_get (D := gD G) (ci := 6) (v := .int (iv (ht))) (C := R_X) (T := F_X) (N := 13) hx hb hw in_X hown hK hP 0 rfl rfl 1 (by decide) (hw _ m2_5) (fun _ h => h) rfl d_X_inPicture_17 ?_
    refine lv_iconst (v := iv (1)) hx hb d_X_inPicture_20 rfl ?_
    refine k_isub hx hb d_X_inPicture_21 ?_
    refine k_ciR (k_rs S (c_X_within l G _ y0 0 (ht - 1) (by omega) (by omega) (by omega)) 3 m2_54 m2_52 m2_53 m1_1 (by decide +kernel) (by decide) rfl rfl (k_preS hK hP hD hS hA hT [] (by decide) rfl) rfl hl.1 rfl (Nat.le_of_ble_eq_true rfl) d_X_inPicture_22 ⟨Nat.le_of_ble_eq_true rfl, Nat.le_of_ble_eq_true rfl⟩) (fun r22 h22 => ?_)
    subst h22
    refine k_ifb_eq (tgt := 32) hx hb d_X_inPicture_25 (by decide) (fun hc25 => ?_) (fun hc25 => ?_)
    · refine lv_iconst (v := iv (0)) hx hb d_X_inPicture_32 rfl ?_
      exact k_zretR hx hb hr hlk (by omega) hQ (by first | rw [bI_t (by omega)] | rw [bI_f (by omega)]) d_X_inPicture_33
    · refine lv_iconst (v := iv (1)) hx hb d_X_inPicture_28 rfl ?_
      refine lv_goto (tgt := 33) hx hb d_X_inPicture_29 (by decide) ?_
      exact k_zretR hx hb hr hlk (by omega) hQ (by first | rw [bI_t (by omega)] | rw [bI_f (by omega)]) d_X_inPicture_33
abbrev w_X_sample : List Cond := Cond.code y_X_sample prog_1_method_4_code 3 (some .int) :: wl
abbrev r_X_sample : Room := { frames := 2, cells := 0, slots := 0, locals := 44 }
set_option maxHeartbeats 4000000 in
set_option maxRecDepth 100000 in
theorem c_X_sample (l : Launch) (G : k_G) (sz : Nat) (rX rP rS rL rT rC ra rv rRC rRP : Nat) (x0 y0 wd ht sth rth : Int) (pic : Int → Int) (h_x0 : -2147483648 ≤ x0 ∧ x0 < 2147483648) (h_y0 : -2147483648 ≤ y0 ∧ y0 < 2147483648) (hwd : 1 ≤ wd ∧ wd ≤ 16) (hht : 1 ≤ ht ∧ ht ≤ 16) : Met l y_X_sample w_X_sample r_X_sample (k_P G [.ref rX, .int (iv (x0)), .int (iv (y0))] [(rX, .inr (6, [.int (iv (wd)), .int (iv (ht)), .ref rP, .ref rS, .ref rL, .ref rT, .ref rC, .ref ra, .ref rv, .int (iv (sth)), .int (iv (rth)), .ref rRC, .ref rRP])), (rP, ai (gI G) 256 (pic))] sz) (vp_Si (fun r : Int32 => r = iv (if (0 ≤ x0 ∧ x0 ≤ wd - 1) ∧ 0 ≤ y0 ∧ y0 ≤ ht - 1 then pic (y0 * 16 + x0) else -1000))) 0 0 (fun _ => False) := by
  refine k_met (fun _ => vp_Si (fun r : Int32 => r = iv (if (0 ≤ x0 ∧ x0 ≤ wd - 1) ∧ 0 ≤ y0 ∧ y0 ≤ ht - 1 then pic (y0 * 16 + x0) else -1000))) (fun _ _ => False) (by decide) rfl (Nat.le_of_ble_eq_true rfl) (fun p e s m args below meth c ls A Q S hr hlk hnm hl hsz hP hK hD hS hA hT hQ => ?_)
  obtain ⟨hx, hb, hml, hown, hts⟩ := id S
  have hw : ∀ w ∈ wl, w.before args s = true := fun w h => hts w (List.mem_cons_of_mem _ h)
  have hl : lv_has ls 3 [(0, .ref rX), (1, .int (iv (x0))), (2, .int (iv (y0)))] := hl
  refine lv_aload_n hx hb d_X_sample_0 rfl (lv_at hl 0 rfl) ?_
  refine lv_iload_n hx hb d_X_sample_1 rfl (lv_at hl 1 rfl) ?_
  refine lv_iload_n hx hb d_X_sample_2 rfl (lv_at hl 2 rfl) ?_
  refine k_ciR (k_rv S (c_X_inPicture l G _ rX rP rS rL rT rC ra rv rRC rRP x0 y0 wd ht sth rth (by omega) (by omega) (by omega) (by omega)) 2 m2_51 m2_48 m2_50 mp_2 m1_1 (by decide +kernel) (by decide) rfl rfl (k_preV (q0 := 0) hK hP hD hS hA hT rfl rfl [0] (by decide) rfl) rfl hl.1 rfl (Nat.le_of_ble_eq_true rfl) d_X_sample_3 ⟨Nat.le_of_ble_eq_true rfl, Nat.le_of_ble_eq_true rfl⟩) (fun r3 h3 => ?_)
  subst h3
  refine k_ifb_eq (tgt := 23) hx hb d_X_sample_6 (by decide) (fun hc6 => ?_) (fun hc6 => ?_)
  · refine lv_sipush (v := iv (-1000)) hx hb d_X_sample_23 rfl ?_
    exact k_iretR hx hb hr hlk hQ (by first | rw [if_pos (by omega)] | rw [if_neg (by omega)]) d_X_sample_26
  · refine lv_aload_n hx hb d_X_sample_9 rfl (lv_at hl 0 rfl) ?_
    refine va_get (D := gD G) (ci := 6) (v := .ref rP) (C := R_X) (T := F_X) (N := 13) hx hb hw in_X hown hK hP 0 rfl rfl 2 (by decide) (hw _ m2_6) (fun _ h => h) rfl d_X_sample_10 ?_
    refine lv_iload_n hx hb d_X_sample_13 rfl (lv_at hl 2 rfl) ?_
    refine lv_bipush (v := iv (16)) hx hb d_X_sample_14 rfl ?_
    refine k_imul hx hb d_X_sample_16 ?_
    refine lv_iload_n hx hb d_X_sample_17 rfl (lv_at hl 1 rfl) ?_
    refine k_iadd hx hb d_X_sample_18 ?_
    refine k_ial hx hb hK hP 1 0 rfl rfl (by decide) (by omega) d_X_sample_19 ?_
    refine lv_goto (tgt := 26) hx hb d_X_sample_20 (by decide) ?_
    exact k_iretR hx hb hr hlk hQ (by first | rw [if_pos (by omega)] | rw [if_neg (by omega)]) d_X_sample_26
abbrev w_X_streamSize : List Cond := Cond.code y_X_streamSize prog_1_method_24_code 1 (some .int) :: wl
abbrev r_X_streamSize : Room := { frames := 1, cells := 0, slots := 0, locals := 21 }
set_option maxHeartbeats 4000000 in
set_option maxRecDepth 100000 in
theorem c_X_streamSize (l : Launch) (G : k_G) (sz : Nat) (rX rP rS rL rT rC ra rv rRC rRP rE : Nat) (wd ht sth rth kd db ew ac dn pr nu de : Int) (hok : okR nu de) (hac : 1 ≤ ac ∧ ac ≤ 4) (hdn : 1 ≤ dn ∧ dn ≤ 4) : Met l y_X_streamSize w_X_streamSize r_X_streamSize (k_P G [.ref rX] [(rX, .inr (6, [.int (iv (wd)), .int (iv (ht)), .ref rP, .ref rS, .ref rL, .ref rT, .ref rC, .ref ra, .ref rv, .int (iv (sth)), .int (iv (rth)), .ref rRC, .ref rRP])), (rS, .inr (3, [.int (iv (kd)), .int (iv (db)), .int (iv (ew)), .int (iv (ac)), .int (iv (dn)), .int (iv (pr)), .ref rE, .int (iv (nu)), .int (iv (de))]))] sz) (vp_Si (fun r : Int32 => r = iv (sBy nu de (ac * dn)))) 0 0 (fun _ => False) := by
  refine k_met (fun _ => vp_Si (fun r : Int32 => r = iv (sBy nu de (ac * dn)))) (fun _ _ => False) (by decide) rfl (Nat.le_of_ble_eq_true rfl) (fun p e s m args below meth c ls A Q S hr hlk hnm hl hsz hP hK hD hS hA hT hQ => ?_)
  obtain ⟨hx, hb, hml, hown, hts⟩ := id S
  have hw : ∀ w ∈ wl, w.before args s = true := fun w h => hts w (List.mem_cons_of_mem _ h)
  have hl : lv_has ls 1 [(0, .ref rX)] := hl
  have n1 := mul_r (a := ac) (b := dn) (A := 4) (B := 4) (by omega) (by omega)
  have n2 : 1 ≤ ac * dn := Int.mul_pos (by omega) (by omega)
  have n3 := sBy_r hok (s := ac * dn) (by omega)
  have n4 := hok.1
  have n5 := hok.2.1
  have n6 : ac * dn * nu / de = sBy nu de (ac * dn) := rfl
  refine lv_aload_n hx hb d_X_streamSize_0 rfl (lv_at hl 0 rfl) ?_
  refine va_get (D := gD G) (ci := 6) (v := .ref rS) (C := R_X) (T := F_X) (N := 13) hx hb hw in_X hown hK hP 0 rfl rfl 3 (by decide) (hw _ m2_7) (fun _ h => h) rfl d_X_streamSize_1 ?_
  refine lv_aload_n hx hb d_X_streamSize_4 rfl (lv_at hl 0 rfl) ?_
  refine va_get (D := gD G) (ci := 6) (v := .ref rS) (C := R_X) (T := F_X) (N := 13) hx hb hw in_X hown hK hP 0 rfl rfl 3 (by decide) (hw _ m2_7) (fun _ h => h) rfl d_X_streamSize_5 ?_
  refine k_ciR (k_rv S (c_Setup_sliceCount l G _ rS rE kd db ew ac dn pr nu de ) 0 m1_239 m2_156 m1_237 m1_238 m1_2 (by decide +kernel) (by decide) rfl rfl (k_preV (q0 := 1) hK hP hD hS hA hT rfl rfl [1] (by decide) rfl) rfl hl.1 rfl (Nat.le_of_ble_eq_true rfl) d_X_streamSize_8 ⟨Nat.le_of_ble_eq_true rfl, Nat.le_of_ble_eq_true rfl⟩) (fun r8 h8 => ?_)
  subst h8
  refine k_ciR (k_rv S (c_Setup_firstByte l G _ rS rE (ac * dn) kd db ew ac dn pr nu de (by omega) (by omega)) 1 m2_168 m3_41 m2_166 m2_167 m1_2 (by decide +kernel) (by decide) rfl rfl (k_preV (q0 := 1) hK hP hD hS hA hT rfl rfl [1] (by decide) rfl) rfl hl.1 rfl (Nat.le_of_ble_eq_true rfl) d_X_streamSize_11 ⟨Nat.le_of_ble_eq_true rfl, Nat.le_of_ble_eq_true rfl⟩) (fun r11 h11 => ?_)
  subst h11
  exact k_iretR hx hb hr hlk hQ (rfl) d_X_streamSize_14
abbrev w_X_hasByte : List Cond := Cond.code y_X_hasByte prog_1_method_25_code 2 (some .boolean) :: wl
abbrev r_X_hasByte : Room := { frames := 2, cells := 0, slots := 0, locals := 41 }
set_option maxHeartbeats 4000000 in
set_option maxRecDepth 100000 in
theorem c_X_hasByte (l : Launch) (G : k_G) (sz : Nat) (rX rP rS rL rT rC ra rv rRC rRP rE : Nat) (k0 wd ht sth rth kd db ew ac dn pr nu de : Int) (hok : okR nu de) (hac : 1 ≤ ac ∧ ac ≤ 4) (hdn : 1 ≤ dn ∧ dn ≤ 4) (hst : sth = 0 ∨ sth = 1) (h_k0 : -2147483648 ≤ k0 ∧ k0 < 2147483648) : Met l y_X_hasByte w_X_hasByte r_X_hasByte (k_P G [.ref rX, .int (iv (k0))] [(rX, .inr (6, [.int (iv (wd)), .int (iv (ht)), .ref rP, .ref rS, .ref rL, .ref rT, .ref rC, .ref ra, .ref rv, .int (iv (sth)), .int (iv (rth)), .ref rRC, .ref rRP])), (rS, .inr (3, [.int (iv (kd)), .int (iv (db)), .int (iv (ew)), .int (iv (ac)), .int (iv (dn)), .int (iv (pr)), .ref rE, .int (iv (nu)), .int (iv (de))]))] sz) (vp_Si (fun r : Int32 => r = iv (bI (sth = 1 ∧ 0 ≤ k0 ∧ k0 ≤ sBy nu de (ac * dn) - 1)))) 0 0 (fun _ => False) := by
  refine k_met (fun _ => vp_Si (fun r : Int32 => r = iv (bI (sth = 1 ∧ 0 ≤ k0 ∧ k0 ≤ sBy nu de (ac * dn) - 1)))) (fun _ _ => False) (by decide) rfl (Nat.le_of_ble_eq_true rfl) (fun p e s m args below meth c ls A Q S hr hlk hnm hl hsz hP hK hD hS hA hT hQ => ?_)
  obtain ⟨hx, hb, hml, hown, hts⟩ := id S
  have hw : ∀ w ∈ wl, w.before args s = true := fun w h => hts w (List.mem_cons_of_mem _ h)
  have hl : lv_has ls 2 [(0, .ref rX), (1, .int (iv (k0)))] := hl
  have n1 := mul_r (a := ac) (b := dn) (A := 4) (B := 4) (by omega) (by omega)
  have n2 : 1 ≤ ac * dn := Int.mul_pos (by omega) (by omega)
  have n3 := sBy_r hok (s := ac * dn) (by omega)
  have n4 := hok.1
  have n5 := hok.2.1
  have n6 : ac * dn * nu / de = sBy nu de (ac * dn) := rfl
  refine lv_aload_n hx hb d_X_hasByte_0 rfl (lv_at hl 0 rfl) ?_
  refine va_get (D := gD G) (ci := 6) (v := .int (iv (sth))) (C := R_X) (T := F_X) (N := 13) hx hb hw in_X hown hK hP 0 rfl rfl 9 (by decide) (hw _ m2_13) (fun _ h => h) rfl d_X_hasByte_1 ?_
  refine k_if_eq (tgt := 25) hx hb d_X_hasByte_4 (by decide) (by omega) (fun hc4 => ?_) (fun hc4 => ?_)
  · refine lv_iconst (v := iv (0)) hx hb d_X_hasByte_25 rfl ?_
    exact k_zretR hx hb hr hlk (by omega) hQ (by first | rw [bI_t (by omega)] | rw [bI_f (by omega)]) d_X_hasByte_26
  · refine lv_iload_n hx hb d_X_hasByte_7 rfl (lv_at hl 1 rfl) ?_
    refine lv_iconst (v := iv (0)) hx hb d_X_hasByte_8 rfl ?_
    refine lv_aload_n hx hb d_X_hasByte_9 rfl (lv_at hl 0 rfl) ?_
    refine k_ciR (k_rv S (c_X_streamSize l G _ rX rP rS rL rT rC ra rv rRC rRP rE wd ht sth rth kd db ew ac dn pr nu de hok (by omega) (by omega)) 0 m3_40 m3_37 m3_39 mp_14 m1_1 (by decide +kernel) (by decide) rfl rfl (k_preV (q0 := 0) hK hP hD hS hA hT rfl rfl [0, 1] (by decide) rfl) rfl hl.1 rfl (Nat.le_of_ble_eq_true rfl) d_X_hasByte_10 ⟨Nat.le_of_ble_eq_true rfl, Nat.le_of_ble_eq_true rfl⟩) (fun r10 h10 => ?_)
    subst h10
    refine lv_iconst (v := iv (1)) hx hb d_X_hasByte_13 rfl ?_
    refine k_isub hx hb d_X_hasByte_14 ?_
    refine k_ciR (k_rs S (c_X_within l G _ k0 0 ((sBy nu de (ac * dn)) - 1) (by omega) (by omega) (by omega)) 3 m2_54 m2_52 m2_53 m1_1 (by decide +kernel) (by decide) rfl rfl (k_preS hK hP hD hS hA hT [] (by decide) rfl) rfl hl.1 rfl (Nat.le_of_ble_eq_true rfl) d_X_hasByte_15 ⟨Nat.le_of_ble_eq_true rfl, Nat.le_of_ble_eq_true rfl⟩) (fun r15 h15 => ?_)
    subst h15
    refine k_ifb_eq (tgt := 25) hx hb d_X_hasByte_18 (by decide) (fun hc18 => ?_) (fun hc18 => ?_)
    · refine lv_iconst (v := iv (0)) hx hb d_X_hasByte_25 rfl ?_
      exact k_zretR hx hb hr hlk (by omega) hQ (by first | rw [bI_t (by omega)] | rw [bI_f (by omega)]) d_X_hasByte_26
    · refine lv_iconst (v := iv (1)) hx hb d_X_hasByte_21 rfl ?_
      refine lv_goto (tgt := 26) hx hb d_X_hasByte_22 (by decide) ?_
      exact k_zretR hx hb hr hlk (by omega) hQ (by first | rw [bI_t (by omega)] | rw [bI_f (by omega)]) d_X_hasByte_26
abbrev w_X_hasSlice : List Cond := Cond.code y_X_hasSlice prog_1_method_26_code 2 (some .boolean) :: wl
abbrev r_X_hasSlice : Room := { frames := 1, cells := 0, slots := 0, locals := 22 }
set_option maxHeartbeats 4000000 in
set_option maxRecDepth 100000 in
theorem c_X_hasSlice (l : Launch) (G : k_G) (sz : Nat) (rX rP rS rL rT rC ra rv rRC rRP rE : Nat) (k0 wd ht sth rth kd db ew ac dn pr nu de : Int) (hac : 1 ≤ ac ∧ ac ≤ 4) (hdn : 1 ≤ dn ∧ dn ≤ 4) (hst : sth = 0 ∨ sth = 1) (h_k0 : -2147483648 ≤ k0 ∧ k0 < 2147483648) : Met l y_X_hasSlice w_X_hasSlice r_X_hasSlice (k_P G [.ref rX, .int (iv (k0))] [(rX, .inr (6, [.int (iv (wd)), .int (iv (ht)), .ref rP, .ref rS, .ref rL, .ref rT, .ref rC, .ref ra, .ref rv, .int (iv (sth)), .int (iv (rth)), .ref rRC, .ref rRP])), (rS, .inr (3, [.int (iv (kd)), .int (iv (db)), .int (iv (ew)), .int (iv (ac)), .int (iv (dn)), .int (iv (pr)), .ref rE, .int (iv (nu)), .int (iv (de))]))] sz) (vp_Si (fun r : Int32 => r = iv (bI (sth = 1 ∧ 0 ≤ k0 ∧ k0 ≤ ac * dn - 1)))) 0 0 (fun _ => False) := by
  refine k_met (fun _ => vp_Si (fun r : Int32 => r = iv (bI (sth = 1 ∧ 0 ≤ k0 ∧ k0 ≤ ac * dn - 1)))) (fun _ _ => False) (by decide) rfl (Nat.le_of_ble_eq_true rfl) (fun p e s m args below meth c ls A Q S hr hlk hnm hl hsz hP hK hD hS hA hT hQ => ?_)
  obtain ⟨hx, hb, hml, hown, hts⟩ := id S
  have hw : ∀ w ∈ wl, w.before args s = true := fun w h => hts w (List.mem_cons_of_mem _ h)
  have hl : lv_has ls 2 [(0, .ref rX), (1, .int (iv (k0)))] := hl
  have n1 := mul_r (a := ac) (b := dn) (A := 4) (B := 4) (by omega) (by omega)
  have n2 : 1 ≤ ac * dn := Int.mul_pos (by omega) (by omega)
  refine lv_aload_n hx hb d_X_hasSlice_0 rfl (lv_at hl 0 rfl) ?_
  refine va_get (D := gD G) (ci := 6) (v := .int (iv (sth))) (C := R_X) (T := F_X) (N := 13) hx hb hw in_X hown hK hP 0 rfl rfl 9 (by decide) (hw _ m2_13) (fun _ h => h) rfl d_X_hasSlice_1 ?_
  refine k_if_eq (tgt := 28) hx hb d_X_hasSlice_4 (by decide) (by omega) (fun hc4 => ?_) (fun hc4 => ?_)
  · refine lv_iconst (v := iv (0)) hx hb d_X_hasSlice_28 rfl ?_
    exact k_zretR hx hb hr hlk (by omega) hQ (by first | rw [bI_t (by omega)] | rw [bI_f (by omega)]) d_X_hasSlice_29
  · refine lv_iload_n hx hb d_X_hasSlice_7 rfl (lv_at hl 1 rfl) ?_
    refine lv_iconst (v := iv (0)) hx hb d_X_hasSlice_8 rfl ?_
    refine lv_aload_n hx hb d_X_hasSlice_9 rfl (lv_at hl 0 rfl) ?_
    refine va_get (D := gD G) (ci := 6) (v := .ref rS) (C := R_X) (T := F_X) (N := 13) hx hb hw in_X hown hK hP 0 rfl rfl 3 (by decide) (hw _ m2_7) (fun _ h => h) rfl d_X_hasSlice_10 ?_
    refine k_ciR (k_rv S (c_Setup_sliceCount l G _ rS rE kd db ew ac dn pr nu de ) 0 m1_239 m2_156 m1_237 m1_238 m1_2 (by decide +kernel) (by decide) rfl rfl (k_preV (q0 := 1) hK hP hD hS hA hT rfl rfl [1] (by decide) rfl) rfl hl.1 rfl (Nat.le_of_ble_eq_true rfl) d_X_hasSlice_13 ⟨Nat.le_of_ble_eq_true rfl, Nat.le_of_ble_eq_true rfl⟩) (fun r13 h13 => ?_)
    subst h13
    refine lv_iconst (v := iv (1)) hx hb d_X_hasSlice_16 rfl ?_
    refine k_isub hx hb d_X_hasSlice_17 ?_
    refine k_ciR (k_rs S (c_X_within l G _ k0 0 ((ac * dn) - 1) (by omega) (by omega) (by omega)) 3 m2_54 m2_52 m2_53 m1_1 (by decide +kernel) (by decide) rfl rfl (k_preS hK hP hD hS hA hT [] (by decide) rfl) rfl hl.1 rfl (Nat.le_of_ble_eq_true rfl) d_X_hasSlice_18 ⟨Nat.le_of_ble_eq_true rfl, Nat.le_of_ble_eq_true rfl⟩) (fun r18 h18 => ?_)
    subst h18
    refine k_ifb_eq (tgt := 28) hx hb d_X_hasSlice_21 (by decide) (fun hc21 => ?_) (fun hc21 => ?_)
    · refine lv_iconst (v := iv (0)) hx hb d_X_hasSlice_28 rfl ?_
      exact k_zretR hx hb hr hlk (by omega) hQ (by first | rw [bI_t (by omega)] | rw [bI_f (by omega)]) d_X_hasSlice_29
    · refine lv_iconst (v := iv (1)) hx hb d_X_hasSlice_24 rfl ?_
      refine lv_goto (tgt := 29) hx hb d_X_hasSlice_25 (by decide) ?_
      exact k_zretR hx hb hr hlk (by omega) hQ (by first | rw [bI_t (by omega)] | rw [bI_f (by omega)]) d_X_hasSlice_29
abbrev w_X_bands : List Cond := Cond.code y_X_bands prog_1_method_9_code 1 (some .int) :: wl
abbrev r_X_bands : Room := { frames := 1, cells := 0, slots := 0, locals := 20 }
set_option maxHeartbeats 4000000 in
set_option maxRecDepth 100000 in
theorem c_X_bands (l : Launch) (G : k_G) (sz : Nat) (rX rP rS rL rT rC ra rv rRC rRP rE : Nat) (wd ht sth rth kd db ew ac dn pr nu de : Int) : Met l y_X_bands w_X_bands r_X_bands (k_P G [.ref rX] [(rX, .inr (6, [.int (iv (wd)), .int (iv (ht)), .ref rP, .ref rS, .ref rL, .ref rT, .ref rC, .ref ra, .ref rv, .int (iv (sth)), .int (iv (rth)), .ref rRC, .ref rRP])), (rS, .inr (3, [.int (iv (kd)), .int (iv (db)), .int (iv (ew)), .int (iv (ac)), .int (iv (dn)), .int (iv (pr)), .ref rE, .int (iv (nu)), .int (iv (de))]))] sz) (vp_Si (fun r : Int32 => r = iv (1 + ew + 3 * db))) 0 0 (fun _ => False) := by
  refine k_met (fun _ => vp_Si (fun r : Int32 => r = iv (1 + ew + 3 * db))) (fun _ _ => False) (by decide) rfl (Nat.le_of_ble_eq_true rfl) (fun p e s m args below meth c ls A Q S hr hlk hnm hl hsz hP hK hD hS hA hT hQ => ?_)
  obtain ⟨hx, hb, hml, hown, hts⟩ := id S
  have hw : ∀ w ∈ wl, w.before args s = true := fun w h => hts w (List.mem_cons_of_mem _ h)
  have hl : lv_has ls 1 [(0, .ref rX)] := hl
  refine lv_aload_n hx hb d_X_bands_0 rfl (lv_at hl 0 rfl) ?_
  refine va_get (D := gD G) (ci := 6) (v := .ref rS) (C := R_X) (T := F_X) (N := 13) hx hb hw in_X hown hK hP 0 rfl rfl 3 (by decide) (hw _ m2_7) (fun _ h => h) rfl d_X_bands_1 ?_
  refine k_ciR (k_rv S (c_Setup_bandCount l G _ rS rE kd db ew ac dn pr nu de ) 0 m2_96 m2_93 m2_94 m2_95 m1_2 (by decide +kernel) (by decide) rfl rfl (k_preV (q0 := 1) hK hP hD hS hA hT rfl rfl [1] (by decide) rfl) rfl hl.1 rfl (Nat.le_of_ble_eq_true rfl) d_X_bands_4 ⟨Nat.le_of_ble_eq_true rfl, Nat.le_of_ble_eq_true rfl⟩) (fun r4 h4 => ?_)
  subst h4
  exact k_iretR hx hb hr hlk hQ (rfl) d_X_bands_7
abbrev w_X_forget : List Cond := Cond.code y_X_forget prog_1_method_27_code 1 none :: wl
abbrev r_X_forget : Room := { frames := 0, cells := 0, slots := 0, locals := 0 }
set_option maxHeartbeats 4000000 in
set_option maxRecDepth 100000 in
theorem c_X_forget (l : Launch) (G : k_G) (sz : Nat) (rX rP rS rL rT rC ra rv rRC rRP : Nat) (wd ht sth rth : Int) : Met l y_X_forget w_X_forget r_X_forget (k_P G [.ref rX] [(rX, .inr (6, [.int (iv (wd)), .int (iv (ht)), .ref rP, .ref rS, .ref rL, .ref rT, .ref rC, .ref ra, .ref rv, .int (iv (sth)), .int (iv (rth)), .ref rRC, .ref rRP]))] sz) (qv G (fun u : Int × Int => u = (0, 0)) (fun u : Int × Int => [(rX, .inr (6, [.int (iv (wd)), .int (iv (ht)), .ref rP, .ref rS, .ref rL, .ref rT, .ref rC, .ref ra, .ref rv, .int (iv (u.1)), .int (iv (u.2)), .ref rRC, .ref rRP]))]) (va_A [(rX, .inr (6, [.int (iv (wd)), .int (iv (ht)), .ref rP, .ref rS, .ref rL, .ref rT, .ref rC, .ref ra, .ref rv, .int (iv (sth)), .int (iv (rth)), .ref rRC, .ref rRP]))] sz)) 0 0 (va_A [(rX, .inr (6, [.int (iv (wd)), .int (iv (ht)), .ref rP, .ref rS, .ref rL, .ref rT, .ref rC, .ref ra, .ref rv, .int (iv (sth)), .int (iv (rth)), .ref rRC, .ref rRP]))] sz) := by
  refine k_met (fun A => qv G (fun u : Int × Int => u = (0, 0)) (fun u : Int × Int => [(rX, .inr (6, [.int (iv (wd)), .int (iv (ht)), .ref rP, .ref rS, .ref rL, .ref rT, .ref rC, .ref ra, .ref rv, .int (iv (u.1)), .int (iv (u.2)), .ref rRC, .ref rRP]))]) A) (fun A => A) (by decide) rfl (Nat.le_of_ble_eq_true rfl) (fun p e s m args below meth c ls A Q S hr hlk hnm hl hsz hP hK hD hS hA hT hQ => ?_)
  obtain ⟨hx, hb, hml, hown, hts⟩ := id S
  have hw : ∀ w ∈ wl, w.before args s = true := fun w h => hts w (List.mem_cons_of_mem _ h)
  have hl : lv_has ls 1 [(0, .ref rX)] := hl
  refine lv_aload_n hx hb d_X_forget_0 rfl (lv_at hl 0 rfl) ?_
  refine lv_iconst (v := iv (0)) hx hb d_X_forget_1 rfl ?_
  refine va_put (D := gD G) (ci := 6) (v := .int (iv (0))) (ty := .boolean) (C := R_X) (T := F_X) (N := 13) hx hb hw in_X t_X t_X_ok n_X hown hK hP hD hS 0 rfl rfl 9 (by decide) (hw _ m2_13) (fun _ h => h) rfl (by decide +kernel) (nar_z (by omega)) (fit_z (by omega)) (Nat.le_of_ble_eq_true rfl) d_X_forget_2 (fun H locs hP hD hS => ?_)
  have hP : va_P (gD G) classes [(rX, .inr (6, [.int (iv (wd)), .int (iv (ht)), .ref rP, .ref rS, .ref rL, .ref rT, .ref rC, .ref ra, .ref rv, .int (iv (0)), .int (iv (rth)), .ref rRC, .ref rRP]))] H := hP
  have hD : va_D A [(rX, .inr (6, [.int (iv (wd)), .int (iv (ht)), .ref rP, .ref rS, .ref rL, .ref rT, .ref rC, .ref ra, .ref rv, .int (iv (0)), .int (iv (rth)), .ref rRC, .ref rRP]))] := hD
  refine lv_aload_n hx hb d_X_forget_5 rfl (lv_at hl 0 rfl) ?_
  refine lv_iconst (v := iv (0)) hx hb d_X_forget_6 rfl ?_
  refine va_put (D := gD G) (ci := 6) (v := .int (iv (0))) (ty := .boolean) (C := R_X) (T := F_X) (N := 13) hx hb hw in_X t_X t_X_ok n_X hown hK hP hD hS 0 rfl rfl 10 (by decide) (hw _ m2_14) (fun _ h => h) rfl (by decide +kernel) (nar_z (by omega)) (fit_z (by omega)) (Nat.le_of_ble_eq_true rfl) d_X_forget_7 (fun H locs hP hD hS => ?_)
  have hP : va_P (gD G) classes [(rX, .inr (6, [.int (iv (wd)), .int (iv (ht)), .ref rP, .ref rS, .ref rL, .ref rT, .ref rC, .ref ra, .ref rv, .int (iv (0)), .int (iv (0)), .ref rRC, .ref rRP]))] H := hP
  have hD : va_D A [(rX, .inr (6, [.int (iv (wd)), .int (iv (ht)), .ref rP, .ref rS, .ref rL, .ref rT, .ref rC, .ref ra, .ref rv, .int (iv (0)), .int (iv (0)), .ref rRC, .ref rRP]))] := hD
  exact k_vret hx hb hr hlk hQ ((0, 0)) (rfl) hP hD hS d_X_forget_10
abbrev w_X_byteAt : List Cond := Cond.code y_X_byteAt prog_1_method_12_code 2 (some .int) :: wl
abbrev r_X_byteAt : Room := { frames := 3, cells := 0, slots := 0, locals := 62 }
set_option maxHeartbeats 4000000 in
set_option maxRecDepth 100000 in
theorem c_X_byteAt (l : Launch) (G : k_G) (sz : Nat) (rX rP rS rL rT rC ra rv rRC rRP rE rst rQ rB rN : Nat) (k0 wd ht sth rth kd db ew ac dn pr nu de fr tt fb ld ro : Int) (g : Int → Int) (hok : okR nu de) (hac : 1 ≤ ac ∧ ac ≤ 4) (hdn : 1 ≤ dn ∧ dn ≤ 4) (hst : sth = 0 ∨ sth = 1) (h_k0 : -2147483648 ≤ k0 ∧ k0 < 2147483648) : Met l y_X_byteAt w_X_byteAt r_X_byteAt (k_P G [.ref rX, .int (iv (k0))] [(rX, .inr (6, [.int (iv (wd)), .int (iv (ht)), .ref rP, .ref rS, .ref rL, .ref rT, .ref rC, .ref ra, .ref rv, .int (iv (sth)), .int (iv (rth)), .ref rRC, .ref rRP])), (rS, .inr (3, [.int (iv (kd)), .int (iv (db)), .int (iv (ew)), .int (iv (ac)), .int (iv (dn)), .int (iv (pr)), .ref rE, .int (iv (nu)), .int (iv (de))])), (rC, .inr (4, [.ref rst, .ref rS, .ref rL, .ref rQ, .ref rB, .ref rN, .int (iv (fr)), .int (iv (tt)), .int (iv (fb)), .int (iv (ld)), .int (iv (ro))])), (rst, ai (gI G) 2048 (g))] sz) (vp_Si (fun r : Int32 => r = iv (if sth = 1 ∧ 0 ≤ k0 ∧ k0 ≤ sBy nu de (ac * dn) - 1 then g k0 else -1))) 0 0 (fun _ => False) := by
  refine k_met (fun _ => vp_Si (fun r : Int32 => r = iv (if sth = 1 ∧ 0 ≤ k0 ∧ k0 ≤ sBy nu de (ac * dn) - 1 then g k0 else -1))) (fun _ _ => False) (by decide) rfl (Nat.le_of_ble_eq_true rfl) (fun p e s m args below meth c ls A Q S hr hlk hnm hl hsz hP hK hD hS hA hT hQ => ?_)
  obtain ⟨hx, hb, hml, hown, hts⟩ := id S
  have hw : ∀ w ∈ wl, w.before args s = true := fun w h => hts w (List.mem_cons_of_mem _ h)
  have hl : lv_has ls 2 [(0, .ref rX), (1, .int (iv (k0)))] := hl
  have n1 := mul_r (a := ac) (b := dn) (A := 4) (B := 4) (by omega) (by omega)
  have n2 : 1 ≤ ac * dn := Int.mul_pos (by omega) (by omega)
  have n3 := sBy_r hok (s := ac * dn) (by omega)
  have n4 := hok.1
  have n5 := hok.2.1
  have n6 : ac * dn * nu / de = sBy nu de (ac * dn) := rfl
  refine lv_aload_n hx hb d_X_byteAt_0 rfl (lv_at hl 0 rfl) ?_
  refine lv_iload_n hx hb d_X_byteAt_1 rfl (lv_at hl 1 rfl) ?_
  refine k_ciR (k_rv S (c_X_hasByte l G _ rX rP rS rL rT rC ra rv rRC rRP rE k0 wd ht sth rth kd db ew ac dn pr nu de hok (by omega) (by omega) hst (by omega)) 1 m3_49 m3_46 m3_48 mp_15 m1_1 (by decide +kernel) (by decide) rfl rfl (k_preV (q0 := 0) hK hP hD hS hA hT rfl rfl [0, 1] (by decide) rfl) rfl hl.1 rfl (Nat.le_of_ble_eq_true rfl) d_X_byteAt_2 ⟨Nat.le_of_ble_eq_true rfl, Nat.le_of_ble_eq_true rfl⟩) (fun r2 h2 => ?_)
  subst h2
  refine k_ifb_eq (tgt := 20) hx hb d_X_byteAt_5 (by decide) (fun hc5 => ?_) (fun hc5 => ?_)
  · refine lv_iconst (v := iv (-1)) hx hb d_X_byteAt_20 rfl ?_
    exact k_iretR hx hb hr hlk hQ (by first | rw [if_pos (by omega)] | rw [if_neg (by omega)]) d_X_byteAt_21
  · refine lv_aload_n hx hb d_X_byteAt_8 rfl (lv_at hl 0 rfl) ?_
    refine va_get (D := gD G) (ci := 6) (v := .ref rC) (C := R_X) (T := F_X) (N := 13) hx hb hw in_X hown hK hP 0 rfl rfl 6 (by decide) (hw _ m2_10) (fun _ h => h) rfl d_X_byteAt_9 ?_
    refine va_get (D := gD G) (ci := 4) (v := .ref rst) (C := R_Coder) (T := F_Coder) (N := 11) hx hb hw in_Coder hown hK hP 2 rfl rfl 0 (by decide) (hw _ m1_177) (fun _ h => h) rfl d_X_byteAt_12 ?_
    refine lv_iload_n hx hb d_X_byteAt_15 rfl (lv_at hl 1 rfl) ?_
    refine k_ial hx hb hK hP 3 0 rfl rfl (by decide) (by omega) d_X_byteAt_16 ?_
    refine lv_goto (tgt := 21) hx hb d_X_byteAt_17 (by decide) ?_
    exact k_iretR hx hb hr hlk hQ (by first | rw [if_pos (by omega)] | rw [if_neg (by omega)]) d_X_byteAt_21
abbrev w_X_poke : List Cond := Cond.code y_X_poke prog_1_method_13_code 3 (some .boolean) :: wl
abbrev r_X_poke : Room := { frames := 3, cells := 0, slots := 0, locals := 62 }
set_option maxHeartbeats 4000000 in
set_option maxRecDepth 100000 in
theorem c_X_poke (l : Launch) (G : k_G) (sz : Nat) (rX rP rS rL rT rC ra rv rRC rRP rE rst rQ rB rN : Nat) (k0 b0 wd ht sth rth kd db ew ac dn pr nu de fr tt fb ld ro : Int) (g : Int → Int) (hok : okR nu de) (hac : 1 ≤ ac ∧ ac ≤ 4) (hdn : 1 ≤ dn ∧ dn ≤ 4) (hst : sth = 0 ∨ sth = 1) (h_k0 : -2147483648 ≤ k0 ∧ k0 < 2147483648) (h_b0 : -2147483648 ≤ b0 ∧ b0 < 2147483648) : Met l y_X_poke w_X_poke r_X_poke (k_P G [.ref rX, .int (iv (k0)), .int (iv (b0))] [(rX, .inr (6, [.int (iv (wd)), .int (iv (ht)), .ref rP, .ref rS, .ref rL, .ref rT, .ref rC, .ref ra, .ref rv, .int (iv (sth)), .int (iv (rth)), .ref rRC, .ref rRP])), (rS, .inr (3, [.int (iv (kd)), .int (iv (db)), .int (iv (ew)), .int (iv (ac)), .int (iv (dn)), .int (iv (pr)), .ref rE, .int (iv (nu)), .int (iv (de))])), (rC, .inr (4, [.ref rst, .ref rS, .ref rL, .ref rQ, .ref rB, .ref rN, .int (iv (fr)), .int (iv (tt)), .int (iv (fb)), .int (iv (ld)), .int (iv (ro))])), (rst, ai (gI G) 2048 (g))] sz) (qi G (fun (r : Int32) (u : Int × (Int → Int)) => r = iv (u.1) ∧ (u = if (sth = 1 ∧ 0 ≤ k0 ∧ k0 ≤ sBy nu de (ac * dn) - 1) ∧ 0 ≤ b0 ∧ b0 ≤ 255 then (1, up g k0 b0) else (0, g))) (fun u : Int × (Int → Int) => [(rX, .inr (6, [.int (iv (wd)), .int (iv (ht)), .ref rP, .ref rS, .ref rL, .ref rT, .ref rC, .ref ra, .ref rv, .int (iv (sth)), .int (iv (rth)), .ref rRC, .ref rRP])), (rS, .inr (3, [.int (iv (kd)), .int (iv (db)), .int (iv (ew)), .int (iv (ac)), .int (iv (dn)), .int (iv (pr)), .ref rE, .int (iv (nu)), .int (iv (de))])), (rC, .inr (4, [.ref rst, .ref rS, .ref rL, .ref rQ, .ref rB, .ref rN, .int (iv (fr)), .int (iv (tt)), .int (iv (fb)), .int (iv (ld)), .int (iv (ro))])), (rst, ai (gI G) 2048 (u.2))]) (va_A [(rX, .inr (6, [.int (iv (wd)), .int (iv (ht)), .ref rP, .ref rS, .ref rL, .ref rT, .ref rC, .ref ra, .ref rv, .int (iv (sth)), .int (iv (rth)), .ref rRC, .ref rRP])), (rS, .inr (3, [.int (iv (kd)), .int (iv (db)), .int (iv (ew)), .int (iv (ac)), .int (iv (dn)), .int (iv (pr)), .ref rE, .int (iv (nu)), .int (iv (de))])), (rC, .inr (4, [.ref rst, .ref rS, .ref rL, .ref rQ, .ref rB, .ref rN, .int (iv (fr)), .int (iv (tt)), .int (iv (fb)), .int (iv (ld)), .int (iv (ro))])), (rst, ai (gI G) 2048 (g))] sz)) 0 0 (va_A [(rX, .inr (6, [.int (iv (wd)), .int (iv (ht)), .ref rP, .ref rS, .ref rL, .ref rT, .ref rC, .ref ra, .ref rv, .int (iv (sth)), .int (iv (rth)), .ref rRC, .ref rRP])), (rS, .inr (3, [.int (iv (kd)), .int (iv (db)), .int (iv (ew)), .int (iv (ac)), .int (iv (dn)), .int (iv (pr)), .ref rE, .int (iv (nu)), .int (iv (de))])), (rC, .inr (4, [.ref rst, .ref rS, .ref rL, .ref rQ, .ref rB, .ref rN, .int (iv (fr)), .int (iv (tt)), .int (iv (fb)), .int (iv (ld)), .int (iv (ro))])), (rst, ai (gI G) 2048 (g))] sz) := by
  refine k_met (fun A => qi G (fun (r : Int32) (u : Int × (Int → Int)) => r = iv (u.1) ∧ (u = if (sth = 1 ∧ 0 ≤ k0 ∧ k0 ≤ sBy nu de (ac * dn) - 1) ∧ 0 ≤ b0 ∧ b0 ≤ 255 then (1, up g k0 b0) else (0, g))) (fun u : Int × (Int → Int) => [(rX, .inr (6, [.int (iv (wd)), .int (iv (ht)), .ref rP, .ref rS, .ref rL, .ref rT, .ref rC, .ref ra, .ref rv, .int (iv (sth)), .int (iv (rth)), .ref rRC, .ref rRP])), (rS, .inr (3, [.int (iv (kd)), .int (iv (db)), .int (iv (ew)), .int (iv (ac)), .int (iv (dn)), .int (iv (pr)), .ref rE, .int (iv (nu)), .int (iv (de))])), (rC, .inr (4, [.ref rst, .ref rS, .ref rL, .ref rQ, .ref rB, .ref rN, .int (iv (fr)), .int (iv (tt)), .int (iv (fb)), .int (iv (ld)), .int (iv (ro))])), (rst, ai (gI G) 2048 (u.2))]) A) (fun A => A) (by decide) rfl (Nat.le_of_ble_eq_true rfl) (fun p e s m args below meth c ls A Q S hr hlk hnm hl hsz hP hK hD hS hA hT hQ => ?_)
  obtain ⟨hx, hb, hml, hown, hts⟩ := id S
  have hw : ∀ w ∈ wl, w.before args s = true := fun w h => hts w (List.mem_cons_of_mem _ h)
  have hl : lv_has ls 3 [(0, .ref rX), (1, .int (iv (k0))), (2, .int (iv (b0)))] := hl
  have n1 := mul_r (a := ac) (b := dn) (A := 4) (B := 4) (by omega) (by omega)
  have n2 : 1 ≤ ac * dn := Int.mul_pos (by omega) (by omega)
  have n3 := sBy_r hok (s := ac * dn) (by omega)
  have n4 := hok.1
  have n5 := hok.2.1
  have n6 : ac * dn * nu / de = sBy nu de (ac * dn) := rfl
  refine lv_aload_n hx hb d_X_poke_0 rfl (lv_at hl 0 rfl) ?_
  refine lv_iload_n hx hb d_X_poke_1 rfl (lv_at hl 1 rfl) ?_
  refine k_ciR (k_rv S (c_X_hasByte l G _ rX rP rS rL rT rC ra rv rRC rRP rE k0 wd ht sth rth kd db ew ac dn pr nu de hok (by omega) (by omega) hst (by omega)) 1 m3_49 m3_46 m3_48 mp_15 m1_1 (by decide +kernel) (by decide) rfl rfl (k_preV (q0 := 0) hK hP hD hS hA hT rfl rfl [0, 1] (by decide) rfl) rfl hl.1 rfl (Nat.le_of_ble_eq_true rfl) d_X_poke_2 ⟨Nat.le_of_ble_eq_true rfl, Nat.le_of_ble_eq_true rfl⟩) (fun r2 h2 => ?_)
  subst h2
  refine k_ifb_eq (tgt := 19) hx hb d_X_poke_5 (by decide) (fun hc5 => ?_) (fun hc5 => ?_)
  · refine lv_iconst (v := iv (0)) hx hb d_X_poke_19 rfl ?_
    exact k_zret hx hb hr hlk (by omega) hQ ((0, g)) (⟨rfl, by first | rw [if_pos (by omega)] | rw [if_neg (by omega)]⟩) hP hD hS d_X_poke_20
  · refine lv_iload_n hx hb d_X_poke_8 rfl (lv_at hl 2 rfl) ?_
    refine lv_iconst (v := iv (0)) hx hb d_X_poke_9 rfl ?_
    refine lv_sipush (v := iv (255)) hx hb d_X_poke_10 rfl ?_
    refine k_ciR (k_rs S (c_X_within l G _ b0 0 255 (by omega) (by omega) (by omega)) 3 m2_54 m2_52 m2_53 m1_1 (by decide +kernel) (by decide) rfl rfl (k_preS hK hP hD hS hA hT [] (by decide) rfl) rfl hl.1 rfl (Nat.le_of_ble_eq_true rfl) d_X_poke_13 ⟨Nat.le_of_ble_eq_true rfl, Nat.le_of_ble_eq_true rfl⟩) (fun r13 h13 => ?_)
    subst h13
    refine k_ifb_ne (tgt := 21) hx hb d_X_poke_16 (by decide) (fun hc16 => ?_) (fun hc16 => ?_)
    · refine lv_aload_n hx hb d_X_poke_21 rfl (lv_at hl 0 rfl) ?_
      refine va_get (D := gD G) (ci := 6) (v := .ref rC) (C := R_X) (T := F_X) (N := 13) hx hb hw in_X hown hK hP 0 rfl rfl 6 (by decide) (hw _ m2_10) (fun _ h => h) rfl d_X_poke_22 ?_
      refine va_get (D := gD G) (ci := 4) (v := .ref rst) (C := R_Coder) (T := F_Coder) (N := 11) hx hb hw in_Coder hown hK hP 2 rfl rfl 0 (by decide) (hw _ m1_177) (fun _ h => h) rfl d_X_poke_25 ?_
      refine lv_iload_n hx hb d_X_poke_28 rfl (lv_at hl 1 rfl) ?_
      refine lv_iload_n hx hb d_X_poke_29 rfl (lv_at hl 2 rfl) ?_
      refine k_ias hx hb hK hP hD hS 3 0 rfl rfl (by decide) (by omega) d_X_poke_30 (fun H locs hP hD hS => ?_)
      have hP : va_P (gD G) classes [(rX, .inr (6, [.int (iv (wd)), .int (iv (ht)), .ref rP, .ref rS, .ref rL, .ref rT, .ref rC, .ref ra, .ref rv, .int (iv (sth)), .int (iv (rth)), .ref rRC, .ref rRP])), (rS, .inr (3, [.int (iv (kd)), .int (iv (db)), .int (iv (ew)), .int (iv (ac)), .int (iv (dn)), .int (iv (pr)), .ref rE, .int (iv (nu)), .int (iv (de))])), (rC, .inr (4, [.ref rst, .ref rS, .ref rL, .ref rQ, .ref rB, .ref rN, .int (iv (fr)), .int (iv (tt)), .int (iv (fb)), .int (iv (ld)), .int (iv (ro))])), (rst, ai (gI G) 2048 (up g k0 b0))] H := hP
      have hD : va_D A [(rX, .inr (6, [.int (iv (wd)), .int (iv (ht)), .ref rP, .ref rS, .ref rL, .ref rT, .ref rC, .ref ra, .ref rv, .int (iv (sth)), .int (iv (rth)), .ref rRC, .ref rRP])), (rS, .inr (3, [.int (iv (kd)), .int (iv (db)), .int (iv (ew)), .int (iv (ac)), .int (iv (dn)), .int (iv (pr)), .ref rE, .int (iv (nu)), .int (iv (de))])), (rC, .inr (4, [.ref rst, .ref rS, .ref rL, .ref rQ, .ref rB, .ref rN, .int (iv (fr)), .int (iv (tt)), .int (iv (fb)), .int (iv (ld)), .int (iv (ro))])), (rst, ai (gI G) 2048 (up g k0 b0))] := hD
      refine lv_iconst (v := iv (1)) hx hb d_X_poke_31 rfl ?_
      exact k_zret hx hb hr hlk (by omega) hQ ((1, up g k0 b0)) (⟨rfl, by first | rw [if_pos (by omega)] | rw [if_neg (by omega)]⟩) hP hD hS d_X_poke_32
    · refine lv_iconst (v := iv (0)) hx hb d_X_poke_19 rfl ?_
      exact k_zret hx hb hr hlk (by omega) hQ ((0, g)) (⟨rfl, by first | rw [if_pos (by omega)] | rw [if_neg (by omega)]⟩) hP hD hS d_X_poke_20
abbrev w_X_decoded : List Cond := Cond.code y_X_decoded prog_1_method_18_code 3 (some .int) :: wl
abbrev r_X_decoded : Room := { frames := 2, cells := 0, slots := 0, locals := 44 }
set_option maxHeartbeats 4000000 in
set_option maxRecDepth 100000 in
theorem c_X_decoded (l : Launch) (G : k_G) (sz : Nat) (rX rP rS rL rT rC ra rv rRC rRP : Nat) (x0 y0 wd ht sth rth : Int) (krp : Int → Int) (h_x0 : -2147483648 ≤ x0 ∧ x0 < 2147483648) (h_y0 : -2147483648 ≤ y0 ∧ y0 < 2147483648) (hwd : 1 ≤ wd ∧ wd ≤ 16) (hht : 1 ≤ ht ∧ ht ≤ 16) (hrt : rth = 0 ∨ rth = 1) : Met l y_X_decoded w_X_decoded r_X_decoded (k_P G [.ref rX, .int (iv (x0)), .int (iv (y0))] [(rX, .inr (6, [.int (iv (wd)), .int (iv (ht)), .ref rP, .ref rS, .ref rL, .ref rT, .ref rC, .ref ra, .ref rv, .int (iv (sth)), .int (iv (rth)), .ref rRC, .ref rRP])), (rRP, ai (gI G) 256 (krp))] sz) (vp_Si (fun r : Int32 => r = iv (if rth = 1 ∧ (0 ≤ x0 ∧ x0 ≤ wd - 1) ∧ 0 ≤ y0 ∧ y0 ≤ ht - 1 then krp (y0 * 16 + x0) else -1000))) 0 0 (fun _ => False) := by
  refine k_met (fun _ => vp_Si (fun r : Int32 => r = iv (if rth = 1 ∧ (0 ≤ x0 ∧ x0 ≤ wd - 1) ∧ 0 ≤ y0 ∧ y0 ≤ ht - 1 then krp (y0 * 16 + x0) else -1000))) (fun _ _ => False) (by decide) rfl (Nat.le_of_ble_eq_true rfl) (fun p e s m args below meth c ls A Q S hr hlk hnm hl hsz hP hK hD hS hA hT hQ => ?_)
  obtain ⟨hx, hb, hml, hown, hts⟩ := id S
  have hw : ∀ w ∈ wl, w.before args s = true := fun w h => hts w (List.mem_cons_of_mem _ h)
  have hl : lv_has ls 3 [(0, .ref rX), (1, .int (iv (x0))), (2, .int (iv (y0)))] := hl
  refine lv_aload_n hx hb d_X_decoded_0 rfl (lv_at hl 0 rfl) ?_
  refine va_get (D := gD G) (ci := 6) (v := .int (iv (rth))) (C := R_X) (T := F_X) (N := 13) hx hb hw in_X hown hK hP 0 rfl rfl 10 (by decide) (hw _ m2_14) (fun _ h => h) rfl d_X_decoded_1 ?_
  refine k_if_eq (tgt := 30) hx hb d_X_decoded_4 (by decide) (by omega) (fun hc4 => ?_) (fun hc4 => ?_)
  · refine lv_sipush (v := iv (-1000)) hx hb d_X_decoded_30 rfl ?_
    exact k_iretR hx hb hr hlk hQ (by first | rw [if_pos (by omega)] | rw [if_neg (by omega)]) d_X_decoded_33
  · refine lv_aload_n hx hb d_X_decoded_7 rfl (lv_at hl 0 rfl) ?_
    refine lv_iload_n hx hb d_X_decoded_8 rfl (lv_at hl 1 rfl) ?_
    refine lv_iload_n hx hb d_X_decoded_9 rfl (lv_at hl 2 rfl) ?_
    refine k_ciR (k_rv S (c_X_inPicture l G _ rX rP rS rL rT rC ra rv rRC rRP x0 y0 wd ht sth rth (by omega) (by omega) (by omega) (by omega)) 2 m2_51 m2_48 m2_50 mp_2 m1_1 (by decide +kernel) (by decide) rfl rfl (k_preV (q0 := 0) hK hP hD hS hA hT rfl rfl [0] (by decide) rfl) rfl hl.1 rfl (Nat.le_of_ble_eq_true rfl) d_X_decoded_10 ⟨Nat.le_of_ble_eq_true rfl, Nat.le_of_ble_eq_true rfl⟩) (fun r10 h10 => ?_)
    subst h10
    refine k_ifb_eq (tgt := 30) hx hb d_X_decoded_13 (by decide) (fun hc13 => ?_) (fun hc13 => ?_)
    · refine lv_sipush (v := iv (-1000)) hx hb d_X_decoded_30 rfl ?_
      exact k_iretR hx hb hr hlk hQ (by first | rw [if_pos (by omega)] | rw [if_neg (by omega)]) d_X_decoded_33
    · refine lv_aload_n hx hb d_X_decoded_16 rfl (lv_at hl 0 rfl) ?_
      refine va_get (D := gD G) (ci := 6) (v := .ref rRP) (C := R_X) (T := F_X) (N := 13) hx hb hw in_X hown hK hP 0 rfl rfl 12 (by decide) (hw _ m2_16) (fun _ h => h) rfl d_X_decoded_17 ?_
      refine lv_iload_n hx hb d_X_decoded_20 rfl (lv_at hl 2 rfl) ?_
      refine lv_bipush (v := iv (16)) hx hb d_X_decoded_21 rfl ?_
      refine k_imul hx hb d_X_decoded_23 ?_
      refine lv_iload_n hx hb d_X_decoded_24 rfl (lv_at hl 1 rfl) ?_
      refine k_iadd hx hb d_X_decoded_25 ?_
      refine k_ial hx hb hK hP 1 0 rfl rfl (by decide) (by omega) d_X_decoded_26 ?_
      refine lv_goto (tgt := 33) hx hb d_X_decoded_27 (by decide) ?_
      exact k_iretR hx hb hr hlk hQ (by first | rw [if_pos (by omega)] | rw [if_neg (by omega)]) d_X_decoded_33
abbrev w_X_rebuilt : List Cond := Cond.code y_X_rebuilt prog_1_method_19_code 3 (some .long) :: wl
abbrev r_X_rebuilt : Room := { frames := 2, cells := 0, slots := 0, locals := 44 }
set_option maxHeartbeats 4000000 in
set_option maxRecDepth 100000 in
theorem c_X_rebuilt (l : Launch) (G : k_G) (sz : Nat) (rX rP rS rL rT rC ra rv rRC rRP rl rt rw rh rf rp rb : Nat) (x0 y0 wd ht sth rth cP cQ nb : Int) (krc : Int → Int64) (h_x0 : -2147483648 ≤ x0 ∧ x0 < 2147483648) (h_y0 : -2147483648 ≤ y0 ∧ y0 < 2147483648) (hcP : 0 ≤ cP ∧ cP ≤ 16) (hcQ : 0 ≤ cQ ∧ cQ ≤ 16) (hrt : rth = 0 ∨ rth = 1) : Met l y_X_rebuilt w_X_rebuilt r_X_rebuilt (k_P G [.ref rX, .int (iv (x0)), .int (iv (y0))] [(rX, .inr (6, [.int (iv (wd)), .int (iv (ht)), .ref rP, .ref rS, .ref rL, .ref rT, .ref rC, .ref ra, .ref rv, .int (iv (sth)), .int (iv (rth)), .ref rRC, .ref rRP])), (rL, .inr (1, [.int (iv (cP)), .int (iv (cQ)), .int (iv (nb)), .ref rl, .ref rt, .ref rw, .ref rh, .ref rf, .ref rp, .ref rb])), (rRC, al (gL G) 256 (krc))] sz) (vp_Sl (fun r : Int64 => r = if rth = 1 ∧ (0 ≤ x0 ∧ x0 ≤ cP - 1) ∧ 0 ≤ y0 ∧ y0 ≤ cQ - 1 then krc (y0 * 16 + x0) else 0)) 0 0 (fun _ => False) := by
  refine k_met (fun _ => vp_Sl (fun r : Int64 => r = if rth = 1 ∧ (0 ≤ x0 ∧ x0 ≤ cP - 1) ∧ 0 ≤ y0 ∧ y0 ≤ cQ - 1 then krc (y0 * 16 + x0) else 0)) (fun _ _ => False) (by decide) rfl (Nat.le_of_ble_eq_true rfl) (fun p e s m args below meth c ls A Q S hr hlk hnm hl hsz hP hK hD hS hA hT hQ => ?_)
  obtain ⟨hx, hb, hml, hown, hts⟩ := id S
  have hw : ∀ w ∈ wl, w.before args s = true := fun w h => hts w (List.mem_cons_of_mem _ h)
  have hl : lv_has ls 3 [(0, .ref rX), (1, .int (iv (x0))), (2, .int (iv (y0)))] := hl
  refine lv_aload_n hx hb d_X_rebuilt_0 rfl (lv_at hl 0 rfl) ?_
  refine va_get (D := gD G) (ci := 6) (v := .int (iv (rth))) (C := R_X) (T := F_X) (N := 13) hx hb hw in_X hown hK hP 0 rfl rfl 10 (by decide) (hw _ m2_14) (fun _ h => h) rfl d_X_rebuilt_1 ?_
  refine k_if_eq (tgt := 33) hx hb d_X_rebuilt_4 (by decide) (by omega) (fun hc4 => ?_) (fun hc4 => ?_)
  · refine lv_lconst (v := 0) hx hb d_X_rebuilt_33 rfl ?_
    exact k_lretR hx hb hr hlk hQ (by first | rw [if_pos (by omega)] | rw [if_neg (by omega)]) d_X_rebuilt_34
  · refine lv_aload_n hx hb d_X_rebuilt_7 rfl (lv_at hl 0 rfl) ?_
    refine va_get (D := gD G) (ci := 6) (v := .ref rL) (C := R_X) (T := F_X) (N := 13) hx hb hw in_X hown hK hP 0 rfl rfl 4 (by decide) (hw _ m2_8) (fun _ h => h) rfl d_X_rebuilt_8 ?_
    refine lv_iload_n hx hb d_X_rebuilt_11 rfl (lv_at hl 1 rfl) ?_
    refine lv_iload_n hx hb d_X_rebuilt_12 rfl (lv_at hl 2 rfl) ?_
    refine k_ciR (k_rv S (c_Layout_has l G _ rL rl rt rw rh rf rp rb x0 y0 cP cQ nb (by omega) (by omega) (by omega) (by omega)) 2 m2_112 m2_109 m2_110 m2_111 m1_3 (by decide +kernel) (by decide) rfl rfl (k_preV (q0 := 1) hK hP hD hS hA hT rfl rfl [1] (by decide) rfl) rfl hl.1 rfl (Nat.le_of_ble_eq_true rfl) d_X_rebuilt_13 ⟨Nat.le_of_ble_eq_true rfl, Nat.le_of_ble_eq_true rfl⟩) (fun r13 h13 => ?_)
    subst h13
    refine k_ifb_eq (tgt := 33) hx hb d_X_rebuilt_16 (by decide) (fun hc16 => ?_) (fun hc16 => ?_)
    · refine lv_lconst (v := 0) hx hb d_X_rebuilt_33 rfl ?_
      exact k_lretR hx hb hr hlk hQ (by first | rw [if_pos (by omega)] | rw [if_neg (by omega)]) d_X_rebuilt_34
    · refine lv_aload_n hx hb d_X_rebuilt_19 rfl (lv_at hl 0 rfl) ?_
      refine va_get (D := gD G) (ci := 6) (v := .ref rRC) (C := R_X) (T := F_X) (N := 13) hx hb hw in_X hown hK hP 0 rfl rfl 11 (by decide) (hw _ m2_15) (fun _ h => h) rfl d_X_rebuilt_20 ?_
      refine lv_iload_n hx hb d_X_rebuilt_23 rfl (lv_at hl 2 rfl) ?_
      refine lv_bipush (v := iv (16)) hx hb d_X_rebuilt_24 rfl ?_
      refine k_imul hx hb d_X_rebuilt_26 ?_
      refine lv_iload_n hx hb d_X_rebuilt_27 rfl (lv_at hl 1 rfl) ?_
      refine k_iadd hx hb d_X_rebuilt_28 ?_
      refine k_lal hx hb hK hP 2 1 rfl rfl (by decide) (by omega) d_X_rebuilt_29 ?_
      refine lv_goto (tgt := 34) hx hb d_X_rebuilt_30 (by decide) ?_
      exact k_lretR hx hb hr hlk hQ (by first | rw [if_pos (by omega)] | rw [if_neg (by omega)]) d_X_rebuilt_34
abbrev w_X_paint : List Cond := Cond.code y_X_paint prog_1_method_2_code 10 (some .boolean) :: wl
abbrev r_X_paint : Room := { frames := 2, cells := 0, slots := 0, locals := 44 }
set_option maxHeartbeats 4000000 in
set_option maxRecDepth 100000 in
theorem c_X_paint (l : Launch) (G : k_G) (sz : Nat) (rX rP rS rL rT rC ra rv rRC rRP : Nat) (x0 y0 w0 h0 v0 wd ht sth rth : Int) (pic : Int → Int) (h_x0 : -2147483648 ≤ x0 ∧ x0 < 2147483648) (h_y0 : -2147483648 ≤ y0 ∧ y0 < 2147483648) (h_w0 : -2147483648 ≤ w0 ∧ w0 < 2147483648) (h_h0 : -2147483648 ≤ h0 ∧ h0 < 2147483648) (h_v0 : -2147483648 ≤ v0 ∧ v0 < 2147483648) (hwd : 1 ≤ wd ∧ wd ≤ 16) (hht : 1 ≤ ht ∧ ht ≤ 16) : Met l y_X_paint w_X_paint r_X_paint (k_P G [.ref rX, .int (iv (x0)), .int (iv (y0)), .int (iv (w0)), .int (iv (h0)), .int (iv (v0))] [(rX, .inr (6, [.int (iv (wd)), .int (iv (ht)), .ref rP, .ref rS, .ref rL, .ref rT, .ref rC, .ref ra, .ref rv, .int (iv (sth)), .int (iv (rth)), .ref rRC, .ref rRP])), (rP, ai (gI G) 256 (pic))] sz) (qi G (fun (r : Int32) (u : Int × (Int → Int)) => r = iv (u.1) ∧ (u = if ((0 ≤ x0 ∧ x0 ≤ wd - 1) ∧ 0 ≤ y0 ∧ y0 ≤ ht - 1) ∧ (1 ≤ w0 ∧ w0 ≤ 16) ∧ (1 ≤ h0 ∧ h0 ≤ 16) ∧ -128 ≤ v0 ∧ v0 ≤ 127 then (1, paA x0 y0 (min wd (x0 + w0)) (min ht (y0 + h0)) v0 pic) else (0, pic))) (fun u : Int × (Int → Int) => [(rX, .inr (6, [.int (iv (wd)), .int (iv (ht)), .ref rP, .ref rS, .ref rL, .ref rT, .ref rC, .ref ra, .ref rv, .int (iv (sth)), .int (iv (rth)), .ref rRC, .ref rRP])), (rP, ai (gI G) 256 (u.2))]) (va_A [(rX, .inr (6, [.int (iv (wd)), .int (iv (ht)), .ref rP, .ref rS, .ref rL, .ref rT, .ref rC, .ref ra, .ref rv, .int (iv (sth)), .int (iv (rth)), .ref rRC, .ref rRP])), (rP, ai (gI G) 256 (pic))] sz)) 0 0 (va_A [(rX, .inr (6, [.int (iv (wd)), .int (iv (ht)), .ref rP, .ref rS, .ref rL, .ref rT, .ref rC, .ref ra, .ref rv, .int (iv (sth)), .int (iv (rth)), .ref rRC, .ref rRP])), (rP, ai (gI G) 256 (pic))] sz) := by
  refine k_met (fun A => qi G (fun (r : Int32) (u : Int × (Int → Int)) => r = iv (u.1) ∧ (u = if ((0 ≤ x0 ∧ x0 ≤ wd - 1) ∧ 0 ≤ y0 ∧ y0 ≤ ht - 1) ∧ (1 ≤ w0 ∧ w0 ≤ 16) ∧ (1 ≤ h0 ∧ h0 ≤ 16) ∧ -128 ≤ v0 ∧ v0 ≤ 127 then (1, paA x0 y0 (min wd (x0 + w0)) (min ht (y0 + h0)) v0 pic) else (0, pic))) (fun u : Int × (Int → Int) => [(rX, .inr (6, [.int (iv (wd)), .int (iv (ht)), .ref rP, .ref rS, .ref rL, .ref rT, .ref rC, .ref ra, .ref rv, .int (iv (sth)), .int (iv (rth)), .ref rRC, .ref rRP])), (rP, ai (gI G) 256 (u.2))]) A) (fun A => A) (by decide) rfl (Nat.le_of_ble_eq_true rfl) (fun p e s m args below meth c ls A Q S hr hlk hnm hl hsz hP hK hD hS hA hT hQ => ?_)
  obtain ⟨hx, hb, hml, hown, hts⟩ := id S
  have hw : ∀ w ∈ wl, w.before args s = true := fun w h => hts w (List.mem_cons_of_mem _ h)
  have hl : lv_has ls 10 [(0, .ref rX), (1, .int (iv (x0))), (2, .int (iv (y0))), (3, .int (iv (w0))), (4, .int (iv (h0))), (5, .int (iv (v0)))] := hl
  refine lv_aload_n hx hb d_X_paint_0 rfl (lv_at hl 0 rfl) ?_
  refine lv_iload_n hx hb d_X_paint_1 rfl (lv_at hl 1 rfl) ?_
  refine lv_iload_n hx hb d_X_paint_2 rfl (lv_at hl 2 rfl) ?_
  refine k_ciR (k_rv S (c_X_inPicture l G _ rX rP rS rL rT rC ra rv rRC rRP x0 y0 wd ht sth rth (by omega) (by omega) (by omega) (by omega)) 2 m2_51 m2_48 m2_50 mp_2 m1_1 (by decide +kernel) (by decide) rfl rfl (k_preV (q0 := 0) hK hP hD hS hA hT rfl rfl [0] (by decide) rfl) rfl hl.1 rfl (Nat.le_of_ble_eq_true rfl) d_X_paint_3 ⟨Nat.le_of_ble_eq_true rfl, Nat.le_of_ble_eq_true rfl⟩) (fun r3 h3 => ?_)
  subst h3
  refine k_ifb_eq (tgt := 42) hx hb d_X_paint_6 (by decide) (fun hc6 => ?_) (fun hc6 => ?_)
  · refine lv_iconst (v := iv (0)) hx hb d_X_paint_42 rfl ?_
    exact k_zret hx hb hr hlk (by omega) hQ ((0, pic)) (⟨rfl, by rw [if_neg (by omega)]⟩) hP hD hS d_X_paint_43
  · refine lv_iload_n hx hb d_X_paint_9 rfl (lv_at hl 3 rfl) ?_
    refine lv_iconst (v := iv (1)) hx hb d_X_paint_10 rfl ?_
    refine lv_bipush (v := iv (16)) hx hb d_X_paint_11 rfl ?_
    refine k_ciR (k_rs S (c_X_within l G _ w0 1 16 (by omega) (by omega) (by omega)) 3 m2_54 m2_52 m2_53 m1_1 (by decide +kernel) (by decide) rfl rfl (k_preS hK hP hD hS hA hT [] (by decide) rfl) rfl hl.1 rfl (Nat.le_of_ble_eq_true rfl) d_X_paint_13 ⟨Nat.le_of_ble_eq_true rfl, Nat.le_of_ble_eq_true rfl⟩) (fun r13 h13 => ?_)
    subst h13
    refine k_ifb_eq (tgt := 42) hx hb d_X_paint_16 (by decide) (fun hc16 => ?_) (fun hc16 => ?_)
    · refine lv_iconst (v := iv (0)) hx hb d_X_paint_42 rfl ?_
      exact k_zret hx hb hr hlk (by omega) hQ ((0, pic)) (⟨rfl, by rw [if_neg (by omega)]⟩) hP hD hS d_X_paint_43
    · refine lv_iload hx hb d_X_paint_19 (lv_at hl 4 rfl) ?_
      refine lv_iconst (v := iv (1)) hx hb d_X_paint_21 rfl ?_
      refine lv_bipush (v := iv (16)) hx hb d_X_paint_22 rfl ?_
      refine k_ciR (k_rs S (c_X_within l G _ h0 1 16 (by omega) (by omega) (by omega)) 3 m2_54 m2_52 m2_53 m1_1 (by decide +kernel) (by decide) rfl rfl (k_preS hK hP hD hS hA hT [] (by decide) rfl) rfl hl.1 rfl (Nat.le_of_ble_eq_true rfl) d_X_paint_24 ⟨Nat.le_of_ble_eq_true rfl, Nat.le_of_ble_eq_true rfl⟩) (fun r24 h24 => ?_)
      subst h24
      refine k_ifb_eq (tgt := 42) hx hb d_X_paint_27 (by decide) (fun hc27 => ?_) (fun hc27 => ?_)
      · refine lv_iconst (v := iv (0)) hx hb d_X_paint_42 rfl ?_
        exact k_zret hx hb hr hlk (by omega) hQ ((0, pic)) (⟨rfl, by rw [if_neg (by omega)]⟩) hP hD hS d_X_paint_43
      · refine lv_iload hx hb d_X_paint_30 (lv_at hl 5 rfl) ?_
        refine lv_bipush (v := iv (-128)) hx hb d_X_paint_32 rfl ?_
        refine lv_bipush (v := iv (127)) hx hb d_X_paint_34 rfl ?_
        refine k_ciR (k_rs S (c_X_within l G _ v0 ((-128)) 127 (by omega) (by omega) (by omega)) 3 m2_54 m2_52 m2_53 m1_1 (by decide +kernel) (by decide) rfl rfl (k_preS hK hP hD hS hA hT [] (by decide) rfl) rfl hl.1 rfl (Nat.le_of_ble_eq_true rfl) d_X_paint_36 ⟨Nat.le_of_ble_eq_true rfl, Nat.le_of_ble_eq_true rfl⟩) (fun r36 h36 => ?_)
        subst h36
        refine k_ifb_ne (tgt := 44) hx hb d_X_paint_39 (by decide) (fun hc39 => ?_) (fun hc39 => ?_)
        · refine lv_aload_n hx hb d_X_paint_44 rfl (lv_at hl 0 rfl) ?_
          refine va_get (D := gD G) (ci := 6) (v := .int (iv (wd))) (C := R_X) (T := F_X) (N := 13) hx hb hw in_X hown hK hP 0 rfl rfl 0 (by decide) (hw _ m2_4) (fun _ h => h) rfl d_X_paint_45 ?_
          refine lv_iload_n hx hb d_X_paint_48 rfl (lv_at hl 1 rfl) ?_
          refine lv_iload_n hx hb d_X_paint_49 rfl (lv_at hl 3 rfl) ?_
          refine k_iadd hx hb d_X_paint_50 ?_
          refine k_mmin hx hb (by rw [hml]; exact hl.1.symm) hown (hw _ m1_211) (hw _ m1_212) (hw _ m1_8) (hw _ m1_213) (by decide) (Nat.le_of_ble_eq_true rfl) (by decide) (by decide) (by omega) (by omega) d_X_paint_51 ?_
          refine lv_istore hx hb d_X_paint_54 hl (by decide) rfl (fun ls hl => ?_)
          have hl : lv_has ls 10 [(6, .int (iv (min wd (x0 + w0)))), (0, .ref rX), (1, .int (iv (x0))), (2, .int (iv (y0))), (3, .int (iv (w0))), (4, .int (iv (h0))), (5, .int (iv (v0)))] := hl
          refine lv_aload_n hx hb d_X_paint_56 rfl (lv_at hl 1 rfl) ?_
          refine va_get (D := gD G) (ci := 6) (v := .int (iv (ht))) (C := R_X) (T := F_X) (N := 13) hx hb hw in_X hown hK hP 0 rfl rfl 1 (by decide) (hw _ m2_5) (fun _ h => h) rfl d_X_paint_57 ?_
          refine lv_iload_n hx hb d_X_paint_60 rfl (lv_at hl 3 rfl) ?_
          refine lv_iload hx hb d_X_paint_61 (lv_at hl 5 rfl) ?_
          refine k_iadd hx hb d_X_paint_63 ?_
          refine k_mmin hx hb (by rw [hml]; exact hl.1.symm) hown (hw _ m1_211) (hw _ m1_212) (hw _ m1_8) (hw _ m1_213) (by decide) (Nat.le_of_ble_eq_true rfl) (by decide) (by decide) (by omega) (by omega) d_X_paint_64 ?_
          refine lv_istore hx hb d_X_paint_67 hl (by decide) rfl (fun ls hl => ?_)
          have hl : lv_has ls 10 [(7, .int (iv (min ht (y0 + h0)))), (6, .int (iv (min wd (x0 + w0)))), (0, .ref rX), (1, .int (iv (x0))), (2, .int (iv (y0))), (3, .int (iv (w0))), (4, .int (iv (h0))), (5, .int (iv (v0)))] := hl
          refine lv_iload_n hx hb d_X_paint_69 rfl (lv_at hl 4 rfl) ?_
          refine lv_istore hx hb d_X_paint_70 hl (by decide) rfl (fun ls hl => ?_)
          have hl : lv_has ls 10 [(8, .int (iv (y0))), (7, .int (iv (min ht (y0 + h0)))), (6, .int (iv (min wd (x0 + w0)))), (0, .ref rX), (1, .int (iv (x0))), (2, .int (iv (y0))), (3, .int (iv (w0))), (4, .int (iv (h0))), (5, .int (iv (v0)))] := hl
          refine lo_up (P := fun y => ∀ (ls : Array Slot) (H : Heap) (locs : List Loc) (p1 : Int → Int), lv_has ls 10 [(0, .ref rX), (1, .int (iv (x0))), (2, .int (iv (y0))), (3, .int (iv (w0))), (4, .int (iv (h0))), (5, .int (iv (v0))), (6, .int (iv (min wd (x0 + w0)))), (7, .int (iv (min ht (y0 + h0)))), (8, .int (iv (y)))] → va_P (gD G) classes [(rX, .inr (6, [.int (iv (wd)), .int (iv (ht)), .ref rP, .ref rS, .ref rL, .ref rT, .ref rC, .ref ra, .ref rv, .int (iv (sth)), .int (iv (rth)), .ref rRC, .ref rRP])), (rP, ai (gI G) 256 (p1))] H → va_D A [(rX, .inr (6, [.int (iv (wd)), .int (iv (ht)), .ref rP, .ref rS, .ref rL, .ref rT, .ref rC, .ref ra, .ref rv, .int (iv (sth)), .int (iv (rth)), .ref rRC, .ref rRP])), (rP, ai (gI G) 256 (p1))] → va_S A s.heap H locs → (p1 = paA x0 y0 (min wd (x0 + w0)) y v0 pic) → W p l e r_X_paint s m args below meth c H locs 0 0 Q (F0 m 72 ls [])) (a := y0) (b := min ht (y0 + h0)) (fun y hiy hjy ihy => ?_) _ _ _ pic (lv_sub hl [3, 4, 5, 6, 7, 8, 2, 1, 0] rfl) hP hD hS (it_self _ _ _).symm
          intro ls H locs p1 hl hP hD hS hs
          refine lv_iload hx hb d_X_paint_72 (lv_at hl 8 rfl) ?_
          refine lv_iload hx hb d_X_paint_74 (lv_at hl 7 rfl) ?_
          refine k_icmp_ge (tgt := 116) hx hb d_X_paint_76 (by decide) (by omega) (by omega) (fun hc76 => ?_) (fun hc76 => ?_)
          · refine lv_iconst (v := iv (1)) hx hb d_X_paint_116 rfl ?_
            exact k_zret hx hb hr hlk (by omega) hQ ((1, p1)) (⟨rfl, by rw [if_pos (by omega), show paA x0 y0 (min wd (x0 + w0)) (min ht (y0 + h0)) v0 pic = p1 from (by rw [hs]; unfold paA; exact (it_x _ _ hc76 hjy).symm)]⟩) hP hD hS d_X_paint_117
          · refine lv_iload_n hx hb d_X_paint_79 rfl (lv_at hl 1 rfl) ?_
            refine lv_istore hx hb d_X_paint_80 hl (by decide) rfl (fun ls hl => ?_)
            have hl : lv_has ls 10 [(9, .int (iv (x0))), (0, .ref rX), (1, .int (iv (x0))), (2, .int (iv (y0))), (3, .int (iv (w0))), (4, .int (iv (h0))), (5, .int (iv (v0))), (6, .int (iv (min wd (x0 + w0)))), (7, .int (iv (min ht (y0 + h0)))), (8, .int (iv (y)))] := hl
            refine lo_up (P := fun x => ∀ (ls : Array Slot) (H : Heap) (locs : List Loc) (p2 : Int → Int), lv_has ls 10 [(0, .ref rX), (1, .int (iv (x0))), (2, .int (iv (y0))), (3, .int (iv (w0))), (4, .int (iv (h0))), (5, .int (iv (v0))), (6, .int (iv (min wd (x0 + w0)))), (7, .int (iv (min ht (y0 + h0)))), (8, .int (iv (y))), (9, .int (iv (x)))] → va_P (gD G) classes [(rX, .inr (6, [.int (iv (wd)), .int (iv (ht)), .ref rP, .ref rS, .ref rL, .ref rT, .ref rC, .ref ra, .ref rv, .int (iv (sth)), .int (iv (rth)), .ref rRC, .ref rRP])), (rP, ai (gI G) 256 (p2))] H → va_D A [(rX, .inr (6, [.int (iv (wd)), .int (iv (ht)), .ref rP, .ref rS, .ref rL, .ref rT, .ref rC, .ref ra, .ref rv, .int (iv (sth)), .int (iv (rth)), .ref rRC, .ref rRP])), (rP, ai (gI G) 256 (p2))] → va_S A s.heap H locs → (p2 = it (fun x f => up f (y * 16 + x) v0) x0 x p1) → W p l e r_X_paint s m args below meth c H locs 0 0 Q (F0 m 82 ls [])) (a := x0) (b := min wd (x0 + w0)) (fun x hix hjx ihx => ?_) _ _ _ p1 (lv_sub hl [1, 2, 3, 4, 5, 6, 7, 8, 9, 0] rfl) hP hD hS (it_self _ _ _).symm
            intro ls H locs p2 hl hP hD hS hs2
            refine lv_iload hx hb d_X_paint_82 (lv_at hl 9 rfl) ?_
            refine lv_iload hx hb d_X_paint_84 (lv_at hl 6 rfl) ?_
            refine k_icmp_ge (tgt := 110) hx hb d_X_paint_86 (by decide) (by omega) (by omega) (fun hc86 => ?_) (fun hc86 => ?_)
            · refine lv_iinc (k := 8) (v := iv (y + 1)) hx hb d_X_paint_110 hl rfl (iv_add _ _) (by decide) rfl (fun ls hl => ?_)
              have hl : lv_has ls 10 [(8, .int (iv (y + 1))), (0, .ref rX), (1, .int (iv (x0))), (2, .int (iv (y0))), (3, .int (iv (w0))), (4, .int (iv (h0))), (5, .int (iv (v0))), (6, .int (iv (min wd (x0 + w0)))), (7, .int (iv (min ht (y0 + h0)))), (9, .int (iv (x)))] := hl
              refine lv_goto (tgt := 72) hx hb d_X_paint_113 (by decide) ?_
              exact ihy (by omega) _ _ _ p2 (lv_sub hl [1, 2, 3, 4, 5, 6, 7, 8, 0] rfl) hP hD hS (by unfold paA; rw [it_s _ _ hiy]; show _ = it (fun x f => up f (y * 16 + x) v0) x0 (min wd (x0 + w0)) (paA x0 y0 (min wd (x0 + w0)) y v0 pic); rw [← hs, hs2]; exact it_x _ _ hc86 hjx)
            · refine lv_aload_n hx hb d_X_paint_89 rfl (lv_at hl 0 rfl) ?_
              refine va_get (D := gD G) (ci := 6) (v := .ref rP) (C := R_X) (T := F_X) (N := 13) hx hb hw in_X hown hK hP 0 rfl rfl 2 (by decide) (hw _ m2_6) (fun _ h => h) rfl d_X_paint_90 ?_
              refine lv_iload hx hb d_X_paint_93 (lv_at hl 8 rfl) ?_
              refine lv_bipush (v := iv (16)) hx hb d_X_paint_95 rfl ?_
              refine k_imul hx hb d_X_paint_97 ?_
              refine lv_iload hx hb d_X_paint_98 (lv_at hl 9 rfl) ?_
              refine k_iadd hx hb d_X_paint_100 ?_
              refine lv_iload hx hb d_X_paint_101 (lv_at hl 5 rfl) ?_
              refine k_ias hx hb hK hP hD hS 1 0 rfl rfl (by decide) (by omega) d_X_paint_103 (fun H locs hP hD hS => ?_)
              have hP : va_P (gD G) classes [(rX, .inr (6, [.int (iv (wd)), .int (iv (ht)), .ref rP, .ref rS, .ref rL, .ref rT, .ref rC, .ref ra, .ref rv, .int (iv (sth)), .int (iv (rth)), .ref rRC, .ref rRP])), (rP, ai (gI G) 256 (up p2 ((y * 16) + x) v0))] H := hP
              have hD : va_D A [(rX, .inr (6, [.int (iv (wd)), .int (iv (ht)), .ref rP, .ref rS, .ref rL, .ref rT, .ref rC, .ref ra, .ref rv, .int (iv (sth)), .int (iv (rth)), .ref rRC, .ref rRP])), (rP, ai (gI G) 256 (up p2 ((y * 16) + x) v0))] := hD
              refine lv_iinc (k := 9) (v := iv (x + 1)) hx hb d_X_paint_104 hl rfl (iv_add _ _) (by decide) rfl (fun ls hl => ?_)
              have hl : lv_has ls 10 [(9, .int (iv (x + 1))), (0, .ref rX), (1, .int (iv (x0))), (2, .int (iv (y0))), (3, .int (iv (w0))), (4, .int (iv (h0))), (5, .int (iv (v0))), (6, .int (iv (min wd (x0 + w0)))), (7, .int (iv (min ht (y0 + h0)))), (8, .int (iv (y)))] := hl
              refine lv_goto (tgt := 82) hx hb d_X_paint_107 (by decide) ?_
              exact ihx (by omega) _ _ _ (up p2 ((y * 16) + x) v0) (lv_sub hl [1, 2, 3, 4, 5, 6, 7, 8, 9, 0] rfl) hP hD hS (by rw [it_s _ _ hix, ← hs2])
        · refine lv_iconst (v := iv (0)) hx hb d_X_paint_42 rfl ?_
          exact k_zret hx hb hr hlk (by omega) hQ ((0, pic)) (⟨rfl, by rw [if_neg (by omega)]⟩) hP hD hS d_X_paint_43
abbrev w_X_slope : List Cond := Cond.code y_X_slope prog_1_method_3_code 6 (some .boolean) :: wl
abbrev r_X_slope : Room := { frames := 2, cells := 0, slots := 0, locals := 45 }
set_option maxHeartbeats 4000000 in
set_option maxRecDepth 100000 in
theorem c_X_slope (l : Launch) (G : k_G) (sz : Nat) (rX rP rS rL rT rC ra rv rRC rRP : Nat) (a1 d1 wd ht sth rth : Int) (pic : Int → Int) (h_a1 : -2147483648 ≤ a1 ∧ a1 < 2147483648) (h_d1 : -2147483648 ≤ d1 ∧ d1 < 2147483648) (hwd : 1 ≤ wd ∧ wd ≤ 16) (hht : 1 ≤ ht ∧ ht ≤ 16) (hpic : ∀ j, -128 ≤ pic j ∧ pic j ≤ 127) : Met l y_X_slope w_X_slope r_X_slope (k_P G [.ref rX, .int (iv (a1)), .int (iv (d1))] [(rX, .inr (6, [.int (iv (wd)), .int (iv (ht)), .ref rP, .ref rS, .ref rL, .ref rT, .ref rC, .ref ra, .ref rv, .int (iv (sth)), .int (iv (rth)), .ref rRC, .ref rRP])), (rP, ai (gI G) 256 (pic))] sz) (qi G (fun (r : Int32) (u : Int × (Int → Int)) => r = iv (u.1) ∧ (u = if (-32 ≤ a1 ∧ a1 ≤ 32) ∧ -32 ≤ d1 ∧ d1 ≤ 32 then (1, soA a1 d1 wd ht pic) else (0, pic))) (fun u : Int × (Int → Int) => [(rX, .inr (6, [.int (iv (wd)), .int (iv (ht)), .ref rP, .ref rS, .ref rL, .ref rT, .ref rC, .ref ra, .ref rv, .int (iv (sth)), .int (iv (rth)), .ref rRC, .ref rRP])), (rP, ai (gI G) 256 (u.2))]) (va_A [(rX, .inr (6, [.int (iv (wd)), .int (iv (ht)), .ref rP, .ref rS, .ref rL, .ref rT, .ref rC, .ref ra, .ref rv, .int (iv (sth)), .int (iv (rth)), .ref rRC, .ref rRP])), (rP, ai (gI G) 256 (pic))] sz)) 0 0 (va_A [(rX, .inr (6, [.int (iv (wd)), .int (iv (ht)), .ref rP, .ref rS, .ref rL, .ref rT, .ref rC, .ref ra, .ref rv, .int (iv (sth)), .int (iv (rth)), .ref rRC, .ref rRP])), (rP, ai (gI G) 256 (pic))] sz) := by
  refine k_met (fun A => qi G (fun (r : Int32) (u : Int × (Int → Int)) => r = iv (u.1) ∧ (u = if (-32 ≤ a1 ∧ a1 ≤ 32) ∧ -32 ≤ d1 ∧ d1 ≤ 32 then (1, soA a1 d1 wd ht pic) else (0, pic))) (fun u : Int × (Int → Int) => [(rX, .inr (6, [.int (iv (wd)), .int (iv (ht)), .ref rP, .ref rS, .ref rL, .ref rT, .ref rC, .ref ra, .ref rv, .int (iv (sth)), .int (iv (rth)), .ref rRC, .ref rRP])), (rP, ai (gI G) 256 (u.2))]) A) (fun A => A) (by decide) rfl (Nat.le_of_ble_eq_true rfl) (fun p e s m args below meth c ls A Q S hr hlk hnm hl hsz hP hK hD hS hA hT hQ => ?_)
  obtain ⟨hx, hb, hml, hown, hts⟩ := id S
  have hw : ∀ w ∈ wl, w.before args s = true := fun w h => hts w (List.mem_cons_of_mem _ h)
  have hl : lv_has ls 6 [(0, .ref rX), (1, .int (iv (a1))), (2, .int (iv (d1)))] := hl
  refine lv_iload_n hx hb d_X_slope_0 rfl (lv_at hl 1 rfl) ?_
  refine lv_bipush (v := iv (-32)) hx hb d_X_slope_1 rfl ?_
  refine lv_bipush (v := iv (32)) hx hb d_X_slope_3 rfl ?_
  refine k_ciR (k_rs S (c_X_within l G _ a1 ((-32)) 32 (by omega) (by omega) (by omega)) 3 m2_54 m2_52 m2_53 m1_1 (by decide +kernel) (by decide) rfl rfl (k_preS hK hP hD hS hA hT [] (by decide) rfl) rfl hl.1 rfl (Nat.le_of_ble_eq_true rfl) d_X_slope_5 ⟨Nat.le_of_ble_eq_true rfl, Nat.le_of_ble_eq_true rfl⟩) (fun r5 h5 => ?_)
  subst h5
  refine k_ifb_eq (tgt := 22) hx hb d_X_slope_8 (by decide) (fun hc8 => ?_) (fun hc8 => ?_)
  · refine lv_iconst (v := iv (0)) hx hb d_X_slope_22 rfl ?_
    exact k_zret hx hb hr hlk (by omega) hQ ((0, pic)) (⟨rfl, by rw [if_neg (by omega)]⟩) hP hD hS d_X_slope_23
  · refine lv_iload_n hx hb d_X_slope_11 rfl (lv_at hl 2 rfl) ?_
    refine lv_bipush (v := iv (-32)) hx hb d_X_slope_12 rfl ?_
    refine lv_bipush (v := iv (32)) hx hb d_X_slope_14 rfl ?_
    refine k_ciR (k_rs S (c_X_within l G _ d1 ((-32)) 32 (by omega) (by omega) (by omega)) 3 m2_54 m2_52 m2_53 m1_1 (by decide +kernel) (by decide) rfl rfl (k_preS hK hP hD hS hA hT [] (by decide) rfl) rfl hl.1 rfl (Nat.le_of_ble_eq_true rfl) d_X_slope_16 ⟨Nat.le_of_ble_eq_true rfl, Nat.le_of_ble_eq_true rfl⟩) (fun r16 h16 => ?_)
    subst h16
    refine k_ifb_ne (tgt := 24) hx hb d_X_slope_19 (by decide) (fun hc19 => ?_) (fun hc19 => ?_)
    · refine lv_iconst (v := iv (0)) hx hb d_X_slope_24 rfl ?_
      refine lv_istore_n hx hb d_X_slope_25 rfl hl (by decide) rfl (fun ls hl => ?_)
      have hl : lv_has ls 6 [(3, .int (iv (0))), (0, .ref rX), (1, .int (iv (a1))), (2, .int (iv (d1)))] := hl
      refine lo_up (P := fun y => ∀ (ls : Array Slot) (H : Heap) (locs : List Loc) (p1 : Int → Int), lv_has ls 6 [(0, .ref rX), (1, .int (iv (a1))), (2, .int (iv (d1))), (3, .int (iv (y)))] → va_P (gD G) classes [(rX, .inr (6, [.int (iv (wd)), .int (iv (ht)), .ref rP, .ref rS, .ref rL, .ref rT, .ref rC, .ref ra, .ref rv, .int (iv (sth)), .int (iv (rth)), .ref rRC, .ref rRP])), (rP, ai (gI G) 256 (p1))] H → va_D A [(rX, .inr (6, [.int (iv (wd)), .int (iv (ht)), .ref rP, .ref rS, .ref rL, .ref rT, .ref rC, .ref ra, .ref rv, .int (iv (sth)), .int (iv (rth)), .ref rRC, .ref rRP])), (rP, ai (gI G) 256 (p1))] → va_S A s.heap H locs → (p1 = soA a1 d1 wd y pic) → (∀ j, -128 ≤ p1 j ∧ p1 j ≤ 127) → W p l e r_X_slope s m args below meth c H locs 0 0 Q (F0 m 26 ls [])) (a := 0) (b := ht) (fun y hiy hjy ihy => ?_) _ _ _ pic (lv_sub hl [1, 2, 3, 0] rfl) hP hD hS (it_self _ _ _).symm hpic
      intro ls H locs p1 hl hP hD hS hs hp1
      refine lv_iload_n hx hb d_X_slope_26 rfl (lv_at hl 3 rfl) ?_
      refine lv_aload_n hx hb d_X_slope_27 rfl (lv_at hl 0 rfl) ?_
      refine va_get (D := gD G) (ci := 6) (v := .int (iv (ht))) (C := R_X) (T := F_X) (N := 13) hx hb hw in_X hown hK hP 0 rfl rfl 1 (by decide) (hw _ m2_5) (fun _ h => h) rfl d_X_slope_28 ?_
      refine k_icmp_ge (tgt := 95) hx hb d_X_slope_31 (by decide) (by omega) (by omega) (fun hc31 => ?_) (fun hc31 => ?_)
      · refine lv_iconst (v := iv (1)) hx hb d_X_slope_95 rfl ?_
        exact k_zret hx hb hr hlk (by omega) hQ ((1, p1)) (⟨rfl, by rw [if_pos (by omega), show soA a1 d1 wd ht pic = p1 from (by rw [hs]; unfold soA; exact (it_x _ _ hc31 hjy).symm)]⟩) hP hD hS d_X_slope_96
      · refine lv_iconst (v := iv (0)) hx hb d_X_slope_34 rfl ?_
        refine lv_istore hx hb d_X_slope_35 hl (by decide) rfl (fun ls hl => ?_)
        have hl : lv_has ls 6 [(4, .int (iv (0))), (0, .ref rX), (1, .int (iv (a1))), (2, .int (iv (d1))), (3, .int (iv (y)))] := hl
        refine lo_up (P := fun x => ∀ (ls : Array Slot) (H : Heap) (locs : List Loc) (p2 : Int → Int), lv_has ls 6 [(0, .ref rX), (1, .int (iv (a1))), (2, .int (iv (d1))), (3, .int (iv (y))), (4, .int (iv (x)))] → va_P (gD G) classes [(rX, .inr (6, [.int (iv (wd)), .int (iv (ht)), .ref rP, .ref rS, .ref rL, .ref rT, .ref rC, .ref ra, .ref rv, .int (iv (sth)), .int (iv (rth)), .ref rRC, .ref rRP])), (rP, ai (gI G) 256 (p2))] H → va_D A [(rX, .inr (6, [.int (iv (wd)), .int (iv (ht)), .ref rP, .ref rS, .ref rL, .ref rT, .ref rC, .ref ra, .ref rv, .int (iv (sth)), .int (iv (rth)), .ref rRC, .ref rRP])), (rP, ai (gI G) 256 (p2))] → va_S A s.heap H locs → (p2 = it (fun x f => up f (y * 16 + x) (clp (f (y * 16 + x) + a1 * x + d1 * y))) 0 x p1) → (∀ j, -128 ≤ p2 j ∧ p2 j ≤ 127) → W p l e r_X_slope s m args below meth c H locs 0 0 Q (F0 m 37 ls [])) (a := 0) (b := wd) (fun x hix hjx ihx => ?_) _ _ _ p1 (lv_sub hl [1, 2, 3, 4, 0] rfl) hP hD hS (it_self _ _ _).symm hp1
        intro ls H locs p2 hl hP hD hS hs2 hp2
        refine lv_iload hx hb d_X_slope_37 (lv_at hl 4 rfl) ?_
        refine lv_aload_n hx hb d_X_slope_39 rfl (lv_at hl 0 rfl) ?_
        refine va_get (D := gD G) (ci := 6) (v := .int (iv (wd))) (C := R_X) (T := F_X) (N := 13) hx hb hw in_X hown hK hP 0 rfl rfl 0 (by decide) (hw _ m2_4) (fun _ h => h) rfl d_X_slope_40 ?_
        refine k_icmp_ge (tgt := 89) hx hb d_X_slope_43 (by decide) (by omega) (by omega) (fun hc43 => ?_) (fun hc43 => ?_)
        · refine lv_iinc (k := 3) (v := iv (y + 1)) hx hb d_X_slope_89 hl rfl (iv_add _ _) (by decide) rfl (fun ls hl => ?_)
          have hl : lv_has ls 6 [(3, .int (iv (y + 1))), (0, .ref rX), (1, .int (iv (a1))), (2, .int (iv (d1))), (4, .int (iv (x)))] := hl
          refine lv_goto (tgt := 26) hx hb d_X_slope_92 (by decide) ?_
          exact ihy (by omega) _ _ _ p2 (lv_sub hl [1, 2, 3, 0] rfl) hP hD hS (by unfold soA; rw [it_s _ _ hiy]; show _ = it (fun x f => up f (y * 16 + x) (clp (f (y * 16 + x) + a1 * x + d1 * y))) 0 wd (soA a1 d1 wd y pic); rw [← hs, hs2]; exact it_x _ _ hc43 hjx) hp2
        · refine lv_iload_n hx hb d_X_slope_46 rfl (lv_at hl 3 rfl) ?_
          refine lv_bipush (v := iv (16)) hx hb d_X_slope_47 rfl ?_
          refine k_imul hx hb d_X_slope_49 ?_
          refine lv_iload hx hb d_X_slope_50 (lv_at hl 4 rfl) ?_
          refine k_iadd hx hb d_X_slope_52 ?_
          refine lv_istore hx hb d_X_slope_53 hl (by decide) rfl (fun ls hl => ?_)
          have hl : lv_has ls 6 [(5, .int (iv ((y * 16) + x))), (0, .ref rX), (1, .int (iv (a1))), (2, .int (iv (d1))), (3, .int (iv (y))), (4, .int (iv (x)))] := hl
          refine lv_aload_n hx hb d_X_slope_55 rfl (lv_at hl 1 rfl) ?_
          refine va_get (D := gD G) (ci := 6) (v := .ref rP) (C := R_X) (T := F_X) (N := 13) hx hb hw in_X hown hK hP 0 rfl rfl 2 (by decide) (hw _ m2_6) (fun _ h => h) rfl d_X_slope_56 ?_
          refine lv_iload hx hb d_X_slope_59 (lv_at hl 0 rfl) ?_
          refine lv_aload_n hx hb d_X_slope_61 rfl (lv_at hl 1 rfl) ?_
          refine va_get (D := gD G) (ci := 6) (v := .ref rP) (C := R_X) (T := F_X) (N := 13) hx hb hw in_X hown hK hP 0 rfl rfl 2 (by decide) (hw _ m2_6) (fun _ h => h) rfl d_X_slope_62 ?_
          refine lv_iload hx hb d_X_slope_65 (lv_at hl 0 rfl) ?_
          refine k_ial hx hb hK hP 1 0 rfl rfl (by decide) (by omega) d_X_slope_67 ?_
          refine lv_iload_n hx hb d_X_slope_68 rfl (lv_at hl 2 rfl) ?_
          refine lv_iload hx hb d_X_slope_69 (lv_at hl 5 rfl) ?_
          refine k_imul hx hb d_X_slope_71 ?_
          refine k_iadd hx hb d_X_slope_72 ?_
          refine lv_iload_n hx hb d_X_slope_73 rfl (lv_at hl 3 rfl) ?_
          refine lv_iload_n hx hb d_X_slope_74 rfl (lv_at hl 4 rfl) ?_
          refine k_imul hx hb d_X_slope_75 ?_
          refine k_iadd hx hb d_X_slope_76 ?_
          have b1 := hp2 (y * 16 + x)
          have b2 := mul_b (a := a1) (b := x) (by omega) (by omega)
          have b3 := mul_b (a := d1) (b := y) (by omega) (by omega)
          refine k_i2l hx hb d_X_slope_77 (by omega) ?_
          refine k_clR (k_rs S (c_X_asSample l G _ (lw (((p2 ((y * 16) + x)) + (a1 * x)) + (d1 * y))) ) 1 m2_61 m2_59 m2_60 m1_1 (by decide +kernel) (by decide) rfl rfl (k_preS hK hP hD hS hA hT [] (by decide) rfl) rfl hl.1 rfl (Nat.le_of_ble_eq_true rfl) d_X_slope_78 ⟨Nat.le_of_ble_eq_true rfl, Nat.le_of_ble_eq_true rfl⟩) (fun r78 h78 => ?_)
          subst h78
          refine k_l2i hx hb d_X_slope_81 ?_
          refine k_eqi (b := clp (p2 (y * 16 + x) + a1 * x + d1 * y)) (clp_l (by omega)) ?_
          refine k_ias hx hb hK hP hD hS 1 0 rfl rfl (by decide) (by omega) d_X_slope_82 (fun H locs hP hD hS => ?_)
          have hP : va_P (gD G) classes [(rX, .inr (6, [.int (iv (wd)), .int (iv (ht)), .ref rP, .ref rS, .ref rL, .ref rT, .ref rC, .ref ra, .ref rv, .int (iv (sth)), .int (iv (rth)), .ref rRC, .ref rRP])), (rP, ai (gI G) 256 (up p2 ((y * 16) + x) (clp (p2 (y * 16 + x) + a1 * x + d1 * y))))] H := hP
          have hD : va_D A [(rX, .inr (6, [.int (iv (wd)), .int (iv (ht)), .ref rP, .ref rS, .ref rL, .ref rT, .ref rC, .ref ra, .ref rv, .int (iv (sth)), .int (iv (rth)), .ref rRC, .ref rRP])), (rP, ai (gI G) 256 (up p2 ((y * 16) + x) (clp (p2 (y * 16 + x) + a1 * x + d1 * y))))] := hD
          refine lv_iinc (k := 5) (v := iv (x + 1)) hx hb d_X_slope_83 hl rfl (iv_add _ _) (by decide) rfl (fun ls hl => ?_)
          have hl : lv_has ls 6 [(4, .int (iv (x + 1))), (5, .int (iv ((y * 16) + x))), (0, .ref rX), (1, .int (iv (a1))), (2, .int (iv (d1))), (3, .int (iv (y)))] := hl
          refine lv_goto (tgt := 37) hx hb d_X_slope_86 (by decide) ?_
          exact ihx (by omega) _ _ _ (up p2 ((y * 16) + x) (clp (p2 (y * 16 + x) + a1 * x + d1 * y))) (lv_sub hl [2, 3, 4, 5, 0] rfl) hP hD hS (by rw [it_s _ _ hix, ← hs2]) (fun j => up_r hp2 (clp_r _) j)
    · refine lv_iconst (v := iv (0)) hx hb d_X_slope_22 rfl ?_
      exact k_zret hx hb hr hlk (by omega) hQ ((0, pic)) (⟨rfl, by rw [if_neg (by omega)]⟩) hP hD hS d_X_slope_23
abbrev w_X_countChanged : List Cond := Cond.code y_X_countChanged prog_1_method_30_code 4 (some .int) :: wl
abbrev r_X_countChanged : Room := { frames := 0, cells := 0, slots := 0, locals := 0 }
set_option maxHeartbeats 4000000 in
set_option maxRecDepth 100000 in
theorem c_X_countChanged (l : Launch) (G : k_G) (sz : Nat) (rX rP rS rL rT rC ra rv rRC rRP : Nat) (wd ht sth rth : Int) (pic krp : Int → Int) (hwd : 1 ≤ wd ∧ wd ≤ 16) (hht : 1 ≤ ht ∧ ht ≤ 16) (hpic : ∀ j, -128 ≤ pic j ∧ pic j ≤ 127) (hkp : ∀ j, -128 ≤ krp j ∧ krp j ≤ 127) : Met l y_X_countChanged w_X_countChanged r_X_countChanged (k_P G [.ref rX] [(rX, .inr (6, [.int (iv (wd)), .int (iv (ht)), .ref rP, .ref rS, .ref rL, .ref rT, .ref rC, .ref ra, .ref rv, .int (iv (sth)), .int (iv (rth)), .ref rRC, .ref rRP])), (rP, ai (gI G) 256 (pic)), (rRP, ai (gI G) 256 (krp))] sz) (vp_Si (fun r : Int32 => r = iv (ccA krp pic wd ht))) 0 0 (fun _ => False) := by
  refine k_met (fun _ => vp_Si (fun r : Int32 => r = iv (ccA krp pic wd ht))) (fun _ _ => False) (by decide) rfl (Nat.le_of_ble_eq_true rfl) (fun p e s m args below meth c ls A Q S hr hlk hnm hl hsz hP hK hD hS hA hT hQ => ?_)
  obtain ⟨hx, hb, hml, hown, hts⟩ := id S
  have hw : ∀ w ∈ wl, w.before args s = true := fun w h => hts w (List.mem_cons_of_mem _ h)
  have hl : lv_has ls 4 [(0, .ref rX)] := hl
  refine lv_iconst (v := iv (0)) hx hb d_X_countChanged_0 rfl ?_
  refine lv_istore_n hx hb d_X_countChanged_1 rfl hl (by decide) rfl (fun ls hl => ?_)
  have hl : lv_has ls 4 [(1, .int (iv (0))), (0, .ref rX)] := hl
  refine lv_iconst (v := iv (0)) hx hb d_X_countChanged_2 rfl ?_
  refine lv_istore_n hx hb d_X_countChanged_3 rfl hl (by decide) rfl (fun ls hl => ?_)
  have hl : lv_has ls 4 [(2, .int (iv (0))), (1, .int (iv (0))), (0, .ref rX)] := hl
  refine lo_up (P := fun y => ∀ (ls : Array Slot) (c1 : Int), lv_has ls 4 [(0, .ref rX), (1, .int (iv (c1))), (2, .int (iv (y)))] → (c1 = ccA krp pic wd y) → W p l e r_X_countChanged s m args below meth c s.heap [] 0 0 Q (F0 m 4 ls [])) (a := 0) (b := ht) (fun y hiy hjy ihy => ?_) _ 0 (lv_sub hl [2, 1, 0] rfl) (it_self _ _ _).symm
  intro ls c1 hl hs
  refine lv_iload_n hx hb d_X_countChanged_4 rfl (lv_at hl 2 rfl) ?_
  refine lv_aload_n hx hb d_X_countChanged_5 rfl (lv_at hl 0 rfl) ?_
  refine va_get (D := gD G) (ci := 6) (v := .int (iv (ht))) (C := R_X) (T := F_X) (N := 13) hx hb hw in_X hown hK hP 0 rfl rfl 1 (by decide) (hw _ m2_5) (fun _ h => h) rfl d_X_countChanged_6 ?_
  refine k_icmp_ge (tgt := 62) hx hb d_X_countChanged_9 (by decide) (by omega) (by omega) (fun hc9 => ?_) (fun hc9 => ?_)
  · refine lv_iload_n hx hb d_X_countChanged_62 rfl (lv_at hl 1 rfl) ?_
    exact k_iretR hx hb hr hlk hQ (by rw [hs]; unfold ccA; congr 1; exact it_x _ _ hc9 hjy) d_X_countChanged_63
  · refine lv_iconst (v := iv (0)) hx hb d_X_countChanged_12 rfl ?_
    refine lv_istore_n hx hb d_X_countChanged_13 rfl hl (by decide) rfl (fun ls hl => ?_)
    have hl : lv_has ls 4 [(3, .int (iv (0))), (0, .ref rX), (1, .int (iv (c1))), (2, .int (iv (y)))] := hl
    refine lo_up (P := fun x => ∀ (ls : Array Slot) (c2 : Int), lv_has ls 4 [(0, .ref rX), (1, .int (iv (c2))), (2, .int (iv (y))), (3, .int (iv (x)))] → (c2 = it (fun x c => if krp (y * 16 + x) = pic (y * 16 + x) then c else c + 1) 0 x c1) → W p l e r_X_countChanged s m args below meth c s.heap [] 0 0 Q (F0 m 14 ls [])) (a := 0) (b := wd) (fun x hix hjx ihx => ?_) _ c1 (lv_sub hl [1, 2, 3, 0] rfl) (it_self _ _ _).symm
    intro ls c2 hl hs2
    refine lv_iload_n hx hb d_X_countChanged_14 rfl (lv_at hl 3 rfl) ?_
    refine lv_aload_n hx hb d_X_countChanged_15 rfl (lv_at hl 0 rfl) ?_
    refine va_get (D := gD G) (ci := 6) (v := .int (iv (wd))) (C := R_X) (T := F_X) (N := 13) hx hb hw in_X hown hK hP 0 rfl rfl 0 (by decide) (hw _ m2_4) (fun _ h => h) rfl d_X_countChanged_16 ?_
    refine k_icmp_ge (tgt := 56) hx hb d_X_countChanged_19 (by decide) (by omega) (by omega) (fun hc19 => ?_) (fun hc19 => ?_)
    · refine lv_iinc (k := 2) (v := iv (y + 1)) hx hb d_X_countChanged_56 hl rfl (iv_add _ _) (by decide) rfl (fun ls hl => ?_)
      have hl : lv_has ls 4 [(2, .int (iv (y + 1))), (0, .ref rX), (1, .int (iv (c2))), (3, .int (iv (x)))] := hl
      refine lv_goto (tgt := 4) hx hb d_X_countChanged_59 (by decide) ?_
      exact ihy (by omega) _ c2 (lv_sub hl [1, 2, 0] rfl) (by unfold ccA; rw [it_s _ _ hiy]; show _ = it (fun x c => if krp (y * 16 + x) = pic (y * 16 + x) then c else c + 1) 0 wd (ccA krp pic wd y); rw [← hs, hs2]; exact it_x _ _ hc19 hjx)
    · refine lv_aload_n hx hb d_X_countChanged_22 rfl (lv_at hl 0 rfl) ?_
      refine va_get (D := gD G) (ci := 6) (v := .ref rRP) (C := R_X) (T := F_X) (N := 13) hx hb hw in_X hown hK hP 0 rfl rfl 12 (by decide) (hw _ m2_16) (fun _ h => h) rfl d_X_countChanged_23 ?_
      refine lv_iload_n hx hb d_X_countChanged_26 rfl (lv_at hl 2 rfl) ?_
      refine lv_bipush (v := iv (16)) hx hb d_X_countChanged_27 rfl ?_
      refine k_imul hx hb d_X_countChanged_29 ?_
      refine lv_iload_n hx hb d_X_countChanged_30 rfl (lv_at hl 3 rfl) ?_
      refine k_iadd hx hb d_X_countChanged_31 ?_
      refine k_ial hx hb hK hP 2 0 rfl rfl (by decide) (by omega) d_X_countChanged_32 ?_
      refine lv_aload_n hx hb d_X_countChanged_33 rfl (lv_at hl 0 rfl) ?_
      refine va_get (D := gD G) (ci := 6) (v := .ref rP) (C := R_X) (T := F_X) (N := 13) hx hb hw in_X hown hK hP 0 rfl rfl 2 (by decide) (hw _ m2_6) (fun _ h => h) rfl d_X_countChanged_34 ?_
      refine lv_iload_n hx hb d_X_countChanged_37 rfl (lv_at hl 2 rfl) ?_
      refine lv_bipush (v := iv (16)) hx hb d_X_countChanged_38 rfl ?_
      refine k_imul hx hb d_X_countChanged_40 ?_
      refine lv_iload_n hx hb d_X_countChanged_41 rfl (lv_at hl 3 rfl) ?_
      refine k_iadd hx hb d_X_countChanged_42 ?_
      refine k_ial hx hb hK hP 1 0 rfl rfl (by decide) (by omega) d_X_countChanged_43 ?_
      have b1 := hpic (y * 16 + x)
      have b2 := hkp (y * 16 + x)
      refine k_icmp_eq (tgt := 50) hx hb d_X_countChanged_44 (by decide) (by omega) (by omega) (fun hc44 => ?_) (fun hc44 => ?_)
      · refine lv_iinc (k := 3) (v := iv (x + 1)) hx hb d_X_countChanged_50 hl rfl (iv_add _ _) (by decide) rfl (fun ls hl => ?_)
        have hl : lv_has ls 4 [(3, .int (iv (x + 1))), (0, .ref rX), (1, .int (iv (c2))), (2, .int (iv (y)))] := hl
        refine lv_goto (tgt := 14) hx hb d_X_countChanged_53 (by decide) ?_
        exact ihx (by omega) _ c2 (lv_sub hl [1, 2, 3, 0] rfl) (by rw [it_s _ _ hix, ← hs2]; first | rw [if_pos (by omega)] | rw [if_neg (by omega)])
      · refine lv_iinc (k := 1) (v := iv (c2 + 1)) hx hb d_X_countChanged_47 hl rfl (iv_add _ _) (by decide) rfl (fun ls hl => ?_)
        have hl : lv_has ls 4 [(1, .int (iv (c2 + 1))), (0, .ref rX), (2, .int (iv (y))), (3, .int (iv (x)))] := hl
        refine lv_iinc (k := 3) (v := iv (x + 1)) hx hb d_X_countChanged_50 hl rfl (iv_add _ _) (by decide) rfl (fun ls hl => ?_)
        have hl : lv_has ls 4 [(3, .int (iv (x + 1))), (1, .int (iv (c2 + 1))), (0, .ref rX), (2, .int (iv (y)))] := hl
        refine lv_goto (tgt := 14) hx hb d_X_countChanged_53 (by decide) ?_
        exact ihx (by omega) _ (c2 + 1) (lv_sub hl [2, 1, 3, 0] rfl) (by rw [it_s _ _ hix, ← hs2]; first | rw [if_pos (by omega)] | rw [if_neg (by omega)])
abbrev w_X_error : List Cond := Cond.code y_X_error prog_1_method_20_code 5 (some .int) :: wl
abbrev r_X_error : Room := { frames := 0, cells := 0, slots := 0, locals := 0 }
set_option maxHeartbeats 4000000 in
set_option maxRecDepth 100000 in
theorem c_X_error (l : Launch) (G : k_G) (sz : Nat) (rX rP rS rL rT rC ra rv rRC rRP : Nat) (wd ht sth rth : Int) (pic krp : Int → Int) (hwd : 1 ≤ wd ∧ wd ≤ 16) (hht : 1 ≤ ht ∧ ht ≤ 16) (hrt : rth = 0 ∨ rth = 1) : Met l y_X_error w_X_error r_X_error (k_P G [.ref rX] [(rX, .inr (6, [.int (iv (wd)), .int (iv (ht)), .ref rP, .ref rS, .ref rL, .ref rT, .ref rC, .ref ra, .ref rv, .int (iv (sth)), .int (iv (rth)), .ref rRC, .ref rRP])), (rP, ai (gI G) 256 (pic)), (rRP, ai (gI G) 256 (krp))] sz) (vp_Si (fun r : Int32 => r = iv (if rth = 1 then erA krp pic wd ht else -1))) 0 0 (fun _ => False) := by
  refine k_met (fun _ => vp_Si (fun r : Int32 => r = iv (if rth = 1 then erA krp pic wd ht else -1))) (fun _ _ => False) (by decide) rfl (Nat.le_of_ble_eq_true rfl) (fun p e s m args below meth c ls A Q S hr hlk hnm hl hsz hP hK hD hS hA hT hQ => ?_)
  obtain ⟨hx, hb, hml, hown, hts⟩ := id S
  have hw : ∀ w ∈ wl, w.before args s = true := fun w h => hts w (List.mem_cons_of_mem _ h)
  have hl : lv_has ls 5 [(0, .ref rX)] := hl
  refine lv_aload_n hx hb d_X_error_0 rfl (lv_at hl 0 rfl) ?_
  refine va_get (D := gD G) (ci := 6) (v := .int (iv (rth))) (C := R_X) (T := F_X) (N := 13) hx hb hw in_X hown hK hP 0 rfl rfl 10 (by decide) (hw _ m2_14) (fun _ h => h) rfl d_X_error_1 ?_
  refine k_if_ne (tgt := 9) hx hb d_X_error_4 (by decide) (by omega) (fun hc4 => ?_) (fun hc4 => ?_)
  · refine lv_iconst (v := iv (0)) hx hb d_X_error_9 rfl ?_
    refine lv_istore_n hx hb d_X_error_10 rfl hl (by decide) rfl (fun ls hl => ?_)
    have hl : lv_has ls 5 [(1, .int (iv (0))), (0, .ref rX)] := hl
    refine lv_iconst (v := iv (0)) hx hb d_X_error_11 rfl ?_
    refine lv_istore_n hx hb d_X_error_12 rfl hl (by decide) rfl (fun ls hl => ?_)
    have hl : lv_has ls 5 [(2, .int (iv (0))), (1, .int (iv (0))), (0, .ref rX)] := hl
    refine lo_up (P := fun y => ∀ (ls : Array Slot) (c1 : Int), lv_has ls 5 [(0, .ref rX), (1, .int (iv (c1))), (2, .int (iv (y)))] → (c1 = erA krp pic wd y) → W p l e r_X_error s m args below meth c s.heap [] 0 0 Q (F0 m 13 ls [])) (a := 0) (b := ht) (fun y hiy hjy ihy => ?_) _ 0 (lv_sub hl [2, 1, 0] rfl) (it_self _ _ _).symm
    intro ls c1 hl hs
    refine lv_iload_n hx hb d_X_error_13 rfl (lv_at hl 2 rfl) ?_
    refine lv_aload_n hx hb d_X_error_14 rfl (lv_at hl 0 rfl) ?_
    refine va_get (D := gD G) (ci := 6) (v := .int (iv (ht))) (C := R_X) (T := F_X) (N := 13) hx hb hw in_X hown hK hP 0 rfl rfl 1 (by decide) (hw _ m2_5) (fun _ h => h) rfl d_X_error_15 ?_
    refine k_icmp_ge (tgt := 76) hx hb d_X_error_18 (by decide) (by omega) (by omega) (fun hc18 => ?_) (fun hc18 => ?_)
    · refine lv_iload_n hx hb d_X_error_76 rfl (lv_at hl 1 rfl) ?_
      exact k_iretR hx hb hr hlk hQ (by rw [if_pos (by omega), hs]; unfold erA; congr 1; exact it_x _ _ hc18 hjy) d_X_error_77
    · refine lv_iconst (v := iv (0)) hx hb d_X_error_21 rfl ?_
      refine lv_istore_n hx hb d_X_error_22 rfl hl (by decide) rfl (fun ls hl => ?_)
      have hl : lv_has ls 5 [(3, .int (iv (0))), (0, .ref rX), (1, .int (iv (c1))), (2, .int (iv (y)))] := hl
      refine lo_up (P := fun x => ∀ (ls : Array Slot) (c2 : Int), lv_has ls 5 [(0, .ref rX), (1, .int (iv (c2))), (2, .int (iv (y))), (3, .int (iv (x)))] → (c2 = it (fun x c => c + (krp (y * 16 + x) - pic (y * 16 + x)) * (krp (y * 16 + x) - pic (y * 16 + x))) 0 x c1) → W p l e r_X_error s m args below meth c s.heap [] 0 0 Q (F0 m 23 ls [])) (a := 0) (b := wd) (fun x hix hjx ihx => ?_) _ c1 (lv_sub hl [1, 2, 3, 0] rfl) (it_self _ _ _).symm
      intro ls c2 hl hs2
      refine lv_iload_n hx hb d_X_error_23 rfl (lv_at hl 3 rfl) ?_
      refine lv_aload_n hx hb d_X_error_24 rfl (lv_at hl 0 rfl) ?_
      refine va_get (D := gD G) (ci := 6) (v := .int (iv (wd))) (C := R_X) (T := F_X) (N := 13) hx hb hw in_X hown hK hP 0 rfl rfl 0 (by decide) (hw _ m2_4) (fun _ h => h) rfl d_X_error_25 ?_
      refine k_icmp_ge (tgt := 70) hx hb d_X_error_28 (by decide) (by omega) (by omega) (fun hc28 => ?_) (fun hc28 => ?_)
      · refine lv_iinc (k := 2) (v := iv (y + 1)) hx hb d_X_error_70 hl rfl (iv_add _ _) (by decide) rfl (fun ls hl => ?_)
        have hl : lv_has ls 5 [(2, .int (iv (y + 1))), (0, .ref rX), (1, .int (iv (c2))), (3, .int (iv (x)))] := hl
        refine lv_goto (tgt := 13) hx hb d_X_error_73 (by decide) ?_
        exact ihy (by omega) _ c2 (lv_sub hl [1, 2, 0] rfl) (by unfold erA; rw [it_s _ _ hiy]; show _ = it (fun x c => c + (krp (y * 16 + x) - pic (y * 16 + x)) * (krp (y * 16 + x) - pic (y * 16 + x))) 0 wd (erA krp pic wd y); rw [← hs, hs2]; exact it_x _ _ hc28 hjx)
      · refine lv_aload_n hx hb d_X_error_31 rfl (lv_at hl 0 rfl) ?_
        refine va_get (D := gD G) (ci := 6) (v := .ref rRP) (C := R_X) (T := F_X) (N := 13) hx hb hw in_X hown hK hP 0 rfl rfl 12 (by decide) (hw _ m2_16) (fun _ h => h) rfl d_X_error_32 ?_
        refine lv_iload_n hx hb d_X_error_35 rfl (lv_at hl 2 rfl) ?_
        refine lv_bipush (v := iv (16)) hx hb d_X_error_36 rfl ?_
        refine k_imul hx hb d_X_error_38 ?_
        refine lv_iload_n hx hb d_X_error_39 rfl (lv_at hl 3 rfl) ?_
        refine k_iadd hx hb d_X_error_40 ?_
        refine k_ial hx hb hK hP 2 0 rfl rfl (by decide) (by omega) d_X_error_41 ?_
        refine lv_aload_n hx hb d_X_error_42 rfl (lv_at hl 0 rfl) ?_
        refine va_get (D := gD G) (ci := 6) (v := .ref rP) (C := R_X) (T := F_X) (N := 13) hx hb hw in_X hown hK hP 0 rfl rfl 2 (by decide) (hw _ m2_6) (fun _ h => h) rfl d_X_error_43 ?_
        refine lv_iload_n hx hb d_X_error_46 rfl (lv_at hl 2 rfl) ?_
        refine lv_bipush (v := iv (16)) hx hb d_X_error_47 rfl ?_
        refine k_imul hx hb d_X_error_49 ?_
        refine lv_iload_n hx hb d_X_error_50 rfl (lv_at hl 3 rfl) ?_
        refine k_iadd hx hb d_X_error_51 ?_
        refine k_ial hx hb hK hP 1 0 rfl rfl (by decide) (by omega) d_X_error_52 ?_
        refine k_isub hx hb d_X_error_53 ?_
        refine lv_istore hx hb d_X_error_54 hl (by decide) rfl (fun ls hl => ?_)
        have hl : lv_has ls 5 [(4, .int (iv ((krp ((y * 16) + x)) - (pic ((y * 16) + x))))), (0, .ref rX), (1, .int (iv (c2))), (2, .int (iv (y))), (3, .int (iv (x)))] := hl
        refine lv_iload_n hx hb d_X_error_56 rfl (lv_at hl 2 rfl) ?_
        refine lv_iload hx hb d_X_error_57 (lv_at hl 0 rfl) ?_
        refine lv_iload hx hb d_X_error_59 (lv_at hl 0 rfl) ?_
        refine k_imul hx hb d_X_error_61 ?_
        refine k_iadd hx hb d_X_error_62 ?_
        refine lv_istore_n hx hb d_X_error_63 rfl hl (by decide) rfl (fun ls hl => ?_)
        have hl : lv_has ls 5 [(1, .int (iv (c2 + (((krp ((y * 16) + x)) - (pic ((y * 16) + x))) * ((krp ((y * 16) + x)) - (pic ((y * 16) + x))))))), (4, .int (iv ((krp ((y * 16) + x)) - (pic ((y * 16) + x))))), (0, .ref rX), (2, .int (iv (y))), (3, .int (iv (x)))] := hl
        refine lv_iinc (k := 4) (v := iv (x + 1)) hx hb d_X_error_64 hl rfl (iv_add _ _) (by decide) rfl (fun ls hl => ?_)
        have hl : lv_has ls 5 [(3, .int (iv (x + 1))), (1, .int (iv (c2 + (((krp ((y * 16) + x)) - (pic ((y * 16) + x))) * ((krp ((y * 16) + x)) - (pic ((y * 16) + x))))))), (4, .int (iv ((krp ((y * 16) + x)) - (pic ((y * 16) + x))))), (0, .ref rX), (2, .int (iv (y)))] := hl
        refine lv_goto (tgt := 23) hx hb d_X_error_67 (by decide) ?_
        exact ihx (by omega) _ (c2 + (((krp ((y * 16) + x)) - (pic ((y * 16) + x))) * ((krp ((y * 16) + x)) - (pic ((y * 16) + x))))) (lv_sub hl [3, 1, 4, 0] rfl) (by rw [it_s _ _ hix, ← hs2])
  · refine lv_iconst (v := iv (-1)) hx hb d_X_error_7 rfl ?_
    exact k_iretR hx hb hr hlk hQ (by rw [if_neg (by omega)]) d_X_error_8
