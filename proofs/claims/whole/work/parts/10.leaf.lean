theorem m2_69 : Cond.code y_Jmath_max_JJJ prog_11_method_66_code 4 (some .long) ∈ wl := wl_2 69 (by decide +kernel) (by decide +kernel)
theorem m2_66 : Cond.code y_Jmath_min_JJJ prog_11_method_70_code 4 (some .long) ∈ wl := wl_2 66 (by decide +kernel) (by decide +kernel)
theorem m2_62 : Cond.constantLong "WaveletSlices" 188 (-128) ∈ wl := wl_2 62 (by decide +kernel) (by decide +kernel)
theorem m2_63 : Cond.constantLong "WaveletSlices" 190 (127) ∈ wl := wl_2 63 (by decide +kernel) (by decide +kernel)
theorem m1_36 : Cond.fieldLink "WaveletSlices$Setup" 21 "WaveletSlices$Setup" "across" "I" ∈ wl := wl_1 36 (by decide +kernel) (by decide +kernel)
theorem m1_50 : Cond.fieldLink "WaveletSlices$Setup" 38 "WaveletSlices$Setup" "den" "I" ∈ wl := wl_1 50 (by decide +kernel) (by decide +kernel)
theorem m1_39 : Cond.fieldLink "WaveletSlices$Setup" 24 "WaveletSlices$Setup" "down" "I" ∈ wl := wl_1 39 (by decide +kernel) (by decide +kernel)
theorem m1_30 : Cond.fieldLink "WaveletSlices$Setup" 15 "WaveletSlices$Setup" "levelsBoth" "I" ∈ wl := wl_1 30 (by decide +kernel) (by decide +kernel)
theorem m1_34 : Cond.fieldLink "WaveletSlices$Setup" 18 "WaveletSlices$Setup" "levelsWide" "I" ∈ wl := wl_1 34 (by decide +kernel) (by decide +kernel)
theorem m1_48 : Cond.fieldLink "WaveletSlices$Setup" 35 "WaveletSlices$Setup" "num" "I" ∈ wl := wl_1 48 (by decide +kernel) (by decide +kernel)
theorem m1_8 : Cond.initialized "java/lang/Math" ∈ wl := wl_1 8 (by decide +kernel) (by decide +kernel)
theorem m2_67 : Cond.methodLink "WaveletSlices" 195 y_Jmath_max_JJJ ∈ wl := wl_2 67 (by decide +kernel) (by decide +kernel)
theorem m2_64 : Cond.methodLink "WaveletSlices" 192 y_Jmath_min_JJJ ∈ wl := wl_2 64 (by decide +kernel) (by decide +kernel)
theorem m2_68 : Cond.static y_Jmath_max_JJJ ∈ wl := wl_2 68 (by decide +kernel) (by decide +kernel)
theorem m2_65 : Cond.static y_Jmath_min_JJJ ∈ wl := wl_2 65 (by decide +kernel) (by decide +kernel)
theorem d_X_within_0 : decode prog_1_method_21_code 0 = .ok (.iload_n 0, 1) := by decide +kernel
theorem d_X_within_1 : decode prog_1_method_21_code 1 = .ok (.iload_n 1, 1) := by decide +kernel
theorem d_X_within_2 : decode prog_1_method_21_code 2 = .ok (.if_icmp .lt 12, 3) := by decide +kernel
theorem d_X_within_5 : decode prog_1_method_21_code 5 = .ok (.iload_n 0, 1) := by decide +kernel
theorem d_X_within_6 : decode prog_1_method_21_code 6 = .ok (.iload_n 2, 1) := by decide +kernel
theorem d_X_within_7 : decode prog_1_method_21_code 7 = .ok (.if_icmp .gt 7, 3) := by decide +kernel
theorem d_X_within_10 : decode prog_1_method_21_code 10 = .ok (.iconst 1, 1) := by decide +kernel
theorem d_X_within_11 : decode prog_1_method_21_code 11 = .ok (.goto 4, 3) := by decide +kernel
theorem d_X_within_14 : decode prog_1_method_21_code 14 = .ok (.iconst 0, 1) := by decide +kernel
theorem d_X_within_15 : decode prog_1_method_21_code 15 = .ok (.ireturn, 1) := by decide +kernel
theorem d_X_asSample_0 : decode prog_1_method_22_code 0 = .ok (.ldc2_w 188, 3) := by decide +kernel
theorem d_X_asSample_3 : decode prog_1_method_22_code 3 = .ok (.ldc2_w 190, 3) := by decide +kernel
theorem d_X_asSample_6 : decode prog_1_method_22_code 6 = .ok (.lload_n 0, 1) := by decide +kernel
theorem d_X_asSample_7 : decode prog_1_method_22_code 7 = .ok (.invokestatic 192, 3) := by decide +kernel
theorem d_X_asSample_10 : decode prog_1_method_22_code 10 = .ok (.invokestatic 195, 3) := by decide +kernel
theorem d_X_asSample_13 : decode prog_1_method_22_code 13 = .ok (.lreturn, 1) := by decide +kernel
theorem d_Setup_levels_0 : decode prog_5_method_2_code 0 = .ok (.aload_n 0, 1) := by decide +kernel
theorem d_Setup_levels_1 : decode prog_5_method_2_code 1 = .ok (.getfield 15, 3) := by decide +kernel
theorem d_Setup_levels_4 : decode prog_5_method_2_code 4 = .ok (.aload_n 0, 1) := by decide +kernel
theorem d_Setup_levels_5 : decode prog_5_method_2_code 5 = .ok (.getfield 18, 3) := by decide +kernel
theorem d_Setup_levels_8 : decode prog_5_method_2_code 8 = .ok (.iadd, 1) := by decide +kernel
theorem d_Setup_levels_9 : decode prog_5_method_2_code 9 = .ok (.ireturn, 1) := by decide +kernel
theorem d_Setup_bandCount_0 : decode prog_5_method_3_code 0 = .ok (.iconst 1, 1) := by decide +kernel
theorem d_Setup_bandCount_1 : decode prog_5_method_3_code 1 = .ok (.aload_n 0, 1) := by decide +kernel
theorem d_Setup_bandCount_2 : decode prog_5_method_3_code 2 = .ok (.getfield 18, 3) := by decide +kernel
theorem d_Setup_bandCount_5 : decode prog_5_method_3_code 5 = .ok (.iadd, 1) := by decide +kernel
theorem d_Setup_bandCount_6 : decode prog_5_method_3_code 6 = .ok (.iconst 3, 1) := by decide +kernel
theorem d_Setup_bandCount_7 : decode prog_5_method_3_code 7 = .ok (.aload_n 0, 1) := by decide +kernel
theorem d_Setup_bandCount_8 : decode prog_5_method_3_code 8 = .ok (.getfield 15, 3) := by decide +kernel
theorem d_Setup_bandCount_11 : decode prog_5_method_3_code 11 = .ok (.imul, 1) := by decide +kernel
theorem d_Setup_bandCount_12 : decode prog_5_method_3_code 12 = .ok (.iadd, 1) := by decide +kernel
theorem d_Setup_bandCount_13 : decode prog_5_method_3_code 13 = .ok (.ireturn, 1) := by decide +kernel
theorem d_Setup_sliceCount_0 : decode prog_5_method_4_code 0 = .ok (.aload_n 0, 1) := by decide +kernel
theorem d_Setup_sliceCount_1 : decode prog_5_method_4_code 1 = .ok (.getfield 21, 3) := by decide +kernel
theorem d_Setup_sliceCount_4 : decode prog_5_method_4_code 4 = .ok (.aload_n 0, 1) := by decide +kernel
theorem d_Setup_sliceCount_5 : decode prog_5_method_4_code 5 = .ok (.getfield 24, 3) := by decide +kernel
theorem d_Setup_sliceCount_8 : decode prog_5_method_4_code 8 = .ok (.imul, 1) := by decide +kernel
theorem d_Setup_sliceCount_9 : decode prog_5_method_4_code 9 = .ok (.ireturn, 1) := by decide +kernel
theorem d_Setup_firstByte_0 : decode prog_5_method_5_code 0 = .ok (.iload_n 1, 1) := by decide +kernel
theorem d_Setup_firstByte_1 : decode prog_5_method_5_code 1 = .ok (.aload_n 0, 1) := by decide +kernel
theorem d_Setup_firstByte_2 : decode prog_5_method_5_code 2 = .ok (.getfield 35, 3) := by decide +kernel
theorem d_Setup_firstByte_5 : decode prog_5_method_5_code 5 = .ok (.imul, 1) := by decide +kernel
theorem d_Setup_firstByte_6 : decode prog_5_method_5_code 6 = .ok (.aload_n 0, 1) := by decide +kernel
theorem d_Setup_firstByte_7 : decode prog_5_method_5_code 7 = .ok (.getfield 38, 3) := by decide +kernel
theorem d_Setup_firstByte_10 : decode prog_5_method_5_code 10 = .ok (.idiv, 1) := by decide +kernel
theorem d_Setup_firstByte_11 : decode prog_5_method_5_code 11 = .ok (.ireturn, 1) := by decide +kernel
abbrev w_X_within : List Cond := Cond.code y_X_within prog_1_method_21_code 3 (some .boolean) :: wl
abbrev r_X_within : Room := { frames := 0, cells := 0, slots := 0, locals := 0 }
set_option maxHeartbeats 4000000 in
set_option maxRecDepth 100000 in
theorem c_X_within (l : Launch) (G : k_G) (sz : Nat) (v lo hi : Int) (h_v : -2147483648 ≤ v ∧ v < 2147483648) (h_lo : -2147483648 ≤ lo ∧ lo < 2147483648) (h_hi : -2147483648 ≤ hi ∧ hi < 2147483648) : Met l y_X_within w_X_within r_X_within (k_P G [.int (iv (v)), .int (iv (lo)), .int (iv (hi))] [] sz) (vp_Si (fun r : Int32 => r = iv (bI (lo ≤ v ∧ v ≤ hi)))) 0 0 (fun _ => False) := by
  refine k_met (fun _ => vp_Si (fun r : Int32 => r = iv (bI (lo ≤ v ∧ v ≤ hi)))) (fun _ _ => False) (by decide) rfl (Nat.le_of_ble_eq_true rfl) (fun p e s m args below meth c ls A Q S hr hlk hnm hl hsz hP hK hD hS hA hT hQ => ?_)
  obtain ⟨hx, hb, hml, hown, hts⟩ := id S
  have hw : ∀ w ∈ wl, w.before args s = true := fun w h => hts w (List.mem_cons_of_mem _ h)
  have hl : lv_has ls 3 [(0, .int (iv (v))), (1, .int (iv (lo))), (2, .int (iv (hi)))] := hl
  refine lv_iload_n hx hb d_X_within_0 rfl (lv_at hl 0 rfl) ?_
  refine lv_iload_n hx hb d_X_within_1 rfl (lv_at hl 1 rfl) ?_
  refine k_icmp_lt (tgt := 14) hx hb d_X_within_2 (by decide) (by omega) (by omega) (fun hc2 => ?_) (fun hc2 => ?_)
  · refine lv_iconst (v := iv (0)) hx hb d_X_within_14 rfl ?_
    exact k_zretR hx hb hr hlk (by omega) hQ (by first | rw [bI_t (by omega)] | rw [bI_f (by omega)]) d_X_within_15
  · refine lv_iload_n hx hb d_X_within_5 rfl (lv_at hl 0 rfl) ?_
    refine lv_iload_n hx hb d_X_within_6 rfl (lv_at hl 2 rfl) ?_
    refine k_icmp_gt (tgt := 14) hx hb d_X_within_7 (by decide) (by omega) (by omega) (fun hc7 => ?_) (fun hc7 => ?_)
    · refine lv_iconst (v := iv (0)) hx hb d_X_within_14 rfl ?_
      exact k_zretR hx hb hr hlk (by omega) hQ (by first | rw [bI_t (by omega)] | rw [bI_f (by omega)]) d_X_within_15
    · refine lv_iconst (v := iv (1)) hx hb d_X_within_10 rfl ?_
      refine lv_goto (tgt := 15) hx hb d_X_within_11 (by decide) ?_
      exact k_zretR hx hb hr hlk (by omega) hQ (by first | rw [bI_t (by omega)] | rw [bI_f (by omega)]) d_X_within_15
abbrev w_X_asSample : List Cond := Cond.code y_X_asSample prog_1_method_22_code 2 (some .long) :: wl
abbrev r_X_asSample : Room := { frames := 1, cells := 0, slots := 0, locals := 24 }
set_option maxHeartbeats 4000000 in
set_option maxRecDepth 100000 in
theorem c_X_asSample (l : Launch) (G : k_G) (sz : Nat) (v : Int64) : Met l y_X_asSample w_X_asSample r_X_asSample (k_P G [.long (v)] [] sz) (vp_Sl (fun r : Int64 => r = mxL (-128) (mnL 127 v))) 0 0 (fun _ => False) := by
  refine k_met (fun _ => vp_Sl (fun r : Int64 => r = mxL (-128) (mnL 127 v))) (fun _ _ => False) (by decide) rfl (Nat.le_of_ble_eq_true rfl) (fun p e s m args below meth c ls A Q S hr hlk hnm hl hsz hP hK hD hS hA hT hQ => ?_)
  obtain ⟨hx, hb, hml, hown, hts⟩ := id S
  have hw : ∀ w ∈ wl, w.before args s = true := fun w h => hts w (List.mem_cons_of_mem _ h)
  have hl : lv_has ls 2 [(0, .long (v))] := hl
  refine lv_ldc2 (v := -128) hx hb hown (hw _ m2_62) d_X_asSample_0 ?_
  refine lv_ldc2 (v := 127) hx hb hown (hw _ m2_63) d_X_asSample_3 ?_
  refine lv_lload_n hx hb d_X_asSample_6 rfl (lv_at hl 0 rfl) ?_
  refine k_mminl hx hb (by rw [hml]; exact hl.1.symm) hown (hw _ m2_64) (hw _ m2_65) (hw _ m1_8) (hw _ m2_66) (by decide) (Nat.le_of_ble_eq_true rfl) (by decide) (by decide) d_X_asSample_7 ?_
  refine k_mmaxl hx hb (by rw [hml]; exact hl.1.symm) hown (hw _ m2_67) (hw _ m2_68) (hw _ m1_8) (hw _ m2_69) (by decide) (Nat.le_of_ble_eq_true rfl) (by decide) (by decide) d_X_asSample_10 ?_
  exact k_lretR hx hb hr hlk hQ (rfl) d_X_asSample_13
abbrev w_Setup_levels : List Cond := Cond.code y_Setup_levels prog_5_method_2_code 1 (some .int) :: wl
abbrev r_Setup_levels : Room := { frames := 0, cells := 0, slots := 0, locals := 0 }
set_option maxHeartbeats 4000000 in
set_option maxRecDepth 100000 in
theorem c_Setup_levels (l : Launch) (G : k_G) (sz : Nat) (rS rE : Nat) (kd db ew ac dn pr nu de : Int) : Met l y_Setup_levels w_Setup_levels r_Setup_levels (k_P G [.ref rS] [(rS, .inr (3, [.int (iv (kd)), .int (iv (db)), .int (iv (ew)), .int (iv (ac)), .int (iv (dn)), .int (iv (pr)), .ref rE, .int (iv (nu)), .int (iv (de))]))] sz) (vp_Si (fun r : Int32 => r = iv (db + ew))) 0 0 (fun _ => False) := by
  refine k_met (fun _ => vp_Si (fun r : Int32 => r = iv (db + ew))) (fun _ _ => False) (by decide) rfl (Nat.le_of_ble_eq_true rfl) (fun p e s m args below meth c ls A Q S hr hlk hnm hl hsz hP hK hD hS hA hT hQ => ?_)
  obtain ⟨hx, hb, hml, hown, hts⟩ := id S
  have hw : ∀ w ∈ wl, w.before args s = true := fun w h => hts w (List.mem_cons_of_mem _ h)
  have hl : lv_has ls 1 [(0, .ref rS)] := hl
  refine lv_aload_n hx hb d_Setup_levels_0 rfl (lv_at hl 0 rfl) ?_
  refine va_get (D := gD G) (ci := 3) (v := .int (iv (db))) (C := R_Setup) (T := F_Setup) (N := 9) hx hb hw in_Setup hown hK hP 0 rfl rfl 1 (by decide) (hw _ m1_30) (fun _ h => h) rfl d_Setup_levels_1 ?_
  refine lv_aload_n hx hb d_Setup_levels_4 rfl (lv_at hl 0 rfl) ?_
  refine va_get (D := gD G) (ci := 3) (v := .int (iv (ew))) (C := R_Setup) (T := F_Setup) (N := 9) hx hb hw in_Setup hown hK hP 0 rfl rfl 2 (by decide) (hw _ m1_34) (fun _ h => h) rfl d_Setup_levels_5 ?_
  refine k_iadd hx hb d_Setup_levels_8 ?_
  exact k_iretR hx hb hr hlk hQ (rfl) d_Setup_levels_9
abbrev w_Setup_bandCount : List Cond := Cond.code y_Setup_bandCount prog_5_method_3_code 1 (some .int) :: wl
abbrev r_Setup_bandCount : Room := { frames := 0, cells := 0, slots := 0, locals := 0 }
set_option maxHeartbeats 4000000 in
set_option maxRecDepth 100000 in
theorem c_Setup_bandCount (l : Launch) (G : k_G) (sz : Nat) (rS rE : Nat) (kd db ew ac dn pr nu de : Int) : Met l y_Setup_bandCount w_Setup_bandCount r_Setup_bandCount (k_P G [.ref rS] [(rS, .inr (3, [.int (iv (kd)), .int (iv (db)), .int (iv (ew)), .int (iv (ac)), .int (iv (dn)), .int (iv (pr)), .ref rE, .int (iv (nu)), .int (iv (de))]))] sz) (vp_Si (fun r : Int32 => r = iv (1 + ew + 3 * db))) 0 0 (fun _ => False) := by
  refine k_met (fun _ => vp_Si (fun r : Int32 => r = iv (1 + ew + 3 * db))) (fun _ _ => False) (by decide) rfl (Nat.le_of_ble_eq_true rfl) (fun p e s m args below meth c ls A Q S hr hlk hnm hl hsz hP hK hD hS hA hT hQ => ?_)
  obtain ⟨hx, hb, hml, hown, hts⟩ := id S
  have hw : ∀ w ∈ wl, w.before args s = true := fun w h => hts w (List.mem_cons_of_mem _ h)
  have hl : lv_has ls 1 [(0, .ref rS)] := hl
  refine lv_iconst (v := iv (1)) hx hb d_Setup_bandCount_0 rfl ?_
  refine lv_aload_n hx hb d_Setup_bandCount_1 rfl (lv_at hl 0 rfl) ?_
  refine va_get (D := gD G) (ci := 3) (v := .int (iv (ew))) (C := R_Setup) (T := F_Setup) (N := 9) hx hb hw in_Setup hown hK hP 0 rfl rfl 2 (by decide) (hw _ m1_34) (fun _ h => h) rfl d_Setup_bandCount_2 ?_
  refine k_iadd hx hb d_Setup_bandCount_5 ?_
  refine lv_iconst (v := iv (3)) hx hb d_Setup_bandCount_6 rfl ?_
  refine lv_aload_n hx hb d_Setup_bandCount_7 rfl (lv_at hl 0 rfl) ?_
  refine va_get (D := gD G) (ci := 3) (v := .int (iv (db))) (C := R_Setup) (T := F_Setup) (N := 9) hx hb hw in_Setup hown hK hP 0 rfl rfl 1 (by decide) (hw _ m1_30) (fun _ h => h) rfl d_Setup_bandCount_8 ?_
  refine k_imul hx hb d_Setup_bandCount_11 ?_
  refine k_iadd hx hb d_Setup_bandCount_12 ?_
  exact k_iretR hx hb hr hlk hQ (rfl) d_Setup_bandCount_13
abbrev w_Setup_sliceCount : List Cond := Cond.code y_Setup_sliceCount prog_5_method_4_code 1 (some .int) :: wl
abbrev r_Setup_sliceCount : Room := { frames := 0, cells := 0, slots := 0, locals := 0 }
set_option maxHeartbeats 4000000 in
set_option maxRecDepth 100000 in
theorem c_Setup_sliceCount (l : Launch) (G : k_G) (sz : Nat) (rS rE : Nat) (kd db ew ac dn pr nu de : Int) : Met l y_Setup_sliceCount w_Setup_sliceCount r_Setup_sliceCount (k_P G [.ref rS] [(rS, .inr (3, [.int (iv (kd)), .int (iv (db)), .int (iv (ew)), .int (iv (ac)), .int (iv (dn)), .int (iv (pr)), .ref rE, .int (iv (nu)), .int (iv (de))]))] sz) (vp_Si (fun r : Int32 => r = iv (ac * dn))) 0 0 (fun _ => False) := by
  refine k_met (fun _ => vp_Si (fun r : Int32 => r = iv (ac * dn))) (fun _ _ => False) (by decide) rfl (Nat.le_of_ble_eq_true rfl) (fun p e s m args below meth c ls A Q S hr hlk hnm hl hsz hP hK hD hS hA hT hQ => ?_)
  obtain ⟨hx, hb, hml, hown, hts⟩ := id S
  have hw : ∀ w ∈ wl, w.before args s = true := fun w h => hts w (List.mem_cons_of_mem _ h)
  have hl : lv_has ls 1 [(0, .ref rS)] := hl
  refine lv_aload_n hx hb d_Setup_sliceCount_0 rfl (lv_at hl 0 rfl) ?_
  refine va_get (D := gD G) (ci := 3) (v := .int (iv (ac))) (C := R_Setup) (T := F_Setup) (N := 9) hx hb hw in_Setup hown hK hP 0 rfl rfl 3 (by decide) (hw _ m1_36) (fun _ h => h) rfl d_Setup_sliceCount_1 ?_
  refine lv_aload_n hx hb d_Setup_sliceCount_4 rfl (lv_at hl 0 rfl) ?_
  refine va_get (D := gD G) (ci := 3) (v := .int (iv (dn))) (C := R_Setup) (T := F_Setup) (N := 9) hx hb hw in_Setup hown hK hP 0 rfl rfl 4 (by decide) (hw _ m1_39) (fun _ h => h) rfl d_Setup_sliceCount_5 ?_
  refine k_imul hx hb d_Setup_sliceCount_8 ?_
  exact k_iretR hx hb hr hlk hQ (rfl) d_Setup_sliceCount_9
abbrev w_Setup_firstByte : List Cond := Cond.code y_Setup_firstByte prog_5_method_5_code 2 (some .int) :: wl
abbrev r_Setup_firstByte : Room := { frames := 0, cells := 0, slots := 0, locals := 0 }
set_option maxHeartbeats 4000000 in
set_option maxRecDepth 100000 in
theorem c_Setup_firstByte (l : Launch) (G : k_G) (sz : Nat) (rS rE : Nat) (s1 kd db ew ac dn pr nu de : Int) (h1 : 0 ≤ s1 * nu ∧ s1 * nu < 2147483648) (h2 : 0 < de ∧ de < 2147483648) : Met l y_Setup_firstByte w_Setup_firstByte r_Setup_firstByte (k_P G [.ref rS, .int (iv (s1))] [(rS, .inr (3, [.int (iv (kd)), .int (iv (db)), .int (iv (ew)), .int (iv (ac)), .int (iv (dn)), .int (iv (pr)), .ref rE, .int (iv (nu)), .int (iv (de))]))] sz) (vp_Si (fun r : Int32 => r = iv (s1 * nu / de))) 0 0 (fun _ => False) := by
  refine k_met (fun _ => vp_Si (fun r : Int32 => r = iv (s1 * nu / de))) (fun _ _ => False) (by decide) rfl (Nat.le_of_ble_eq_true rfl) (fun p e s m args below meth c ls A Q S hr hlk hnm hl hsz hP hK hD hS hA hT hQ => ?_)
  obtain ⟨hx, hb, hml, hown, hts⟩ := id S
  have hw : ∀ w ∈ wl, w.before args s = true := fun w h => hts w (List.mem_cons_of_mem _ h)
  have hl : lv_has ls 2 [(0, .ref rS), (1, .int (iv (s1)))] := hl
  refine lv_iload_n hx hb d_Setup_firstByte_0 rfl (lv_at hl 1 rfl) ?_
  refine lv_aload_n hx hb d_Setup_firstByte_1 rfl (lv_at hl 0 rfl) ?_
  refine va_get (D := gD G) (ci := 3) (v := .int (iv (nu))) (C := R_Setup) (T := F_Setup) (N := 9) hx hb hw in_Setup hown hK hP 0 rfl rfl 7 (by decide) (hw _ m1_48) (fun _ h => h) rfl d_Setup_firstByte_2 ?_
  refine k_imul hx hb d_Setup_firstByte_5 ?_
  refine lv_aload_n hx hb d_Setup_firstByte_6 rfl (lv_at hl 0 rfl) ?_
  refine va_get (D := gD G) (ci := 3) (v := .int (iv (de))) (C := R_Setup) (T := F_Setup) (N := 9) hx hb hw in_Setup hown hK hP 0 rfl rfl 8 (by decide) (hw _ m1_50) (fun _ h => h) rfl d_Setup_firstByte_7 ?_
  refine k_idiv hx hb d_Setup_firstByte_10 (by omega) (by omega) ?_
  exact k_iretR hx hb hr hlk hQ (rfl) d_Setup_firstByte_11
