theorem m2_225 : Cond.code y_Bits_digitsAfterFirst prog_2_method_11_code 1 (some .int) ∈ wl := wl_2 225 (by decide +kernel) (by decide +kernel)
theorem m2_221 : Cond.code y_Bits_sizeOf prog_2_method_9_code 2 (some .int) ∈ wl := wl_2 221 (by decide +kernel) (by decide +kernel)
theorem m2_171 : Cond.code y_Jint_numberOfLeadingZeros prog_10_method_47_code 2 (some .int) ∈ wl := wl_2 171 (by decide +kernel) (by decide +kernel)
theorem m2_210 : Cond.code y_Jmath_abs_II prog_11_method_59_code 1 (some .int) ∈ wl := wl_2 210 (by decide +kernel) (by decide +kernel)
theorem m2_172 : Cond.constant "java/lang/Integer" 264 (65536) ∈ wl := wl_2 172 (by decide +kernel) (by decide +kernel)
theorem m1_11 : Cond.initialized "java/lang/Integer" ∈ wl := wl_1 11 (by decide +kernel) (by decide +kernel)
theorem m2_223 : Cond.methodLink "WaveletSlices$Bits" 34 y_Bits_digitsAfterFirst ∈ wl := wl_2 223 (by decide +kernel) (by decide +kernel)
theorem m2_219 : Cond.methodLink "WaveletSlices$Bits" 37 y_Bits_sizeOf ∈ wl := wl_2 219 (by decide +kernel) (by decide +kernel)
theorem m2_226 : Cond.methodLink "WaveletSlices$Bits" 40 y_Jint_numberOfLeadingZeros ∈ wl := wl_2 226 (by decide +kernel) (by decide +kernel)
theorem m2_222 : Cond.methodLink "WaveletSlices$Bits" 28 y_Jmath_abs_II ∈ wl := wl_2 222 (by decide +kernel) (by decide +kernel)
theorem m2_224 : Cond.static y_Bits_digitsAfterFirst ∈ wl := wl_2 224 (by decide +kernel) (by decide +kernel)
theorem m2_220 : Cond.static y_Bits_sizeOf ∈ wl := wl_2 220 (by decide +kernel) (by decide +kernel)
theorem m2_170 : Cond.static y_Jint_numberOfLeadingZeros ∈ wl := wl_2 170 (by decide +kernel) (by decide +kernel)
theorem m2_209 : Cond.static y_Jmath_abs_II ∈ wl := wl_2 209 (by decide +kernel) (by decide +kernel)
theorem d_Jint_numberOfLeadingZeros_0 : decode prog_10_method_47_code 0 = .ok (.iload_n 0, 1) := by decide +kernel
theorem d_Jint_numberOfLeadingZeros_1 : decode prog_10_method_47_code 1 = .ok (.ifCond .gt 14, 3) := by decide +kernel
theorem d_Jint_numberOfLeadingZeros_4 : decode prog_10_method_47_code 4 = .ok (.iload_n 0, 1) := by decide +kernel
theorem d_Jint_numberOfLeadingZeros_5 : decode prog_10_method_47_code 5 = .ok (.ifCond .ne 8, 3) := by decide +kernel
theorem d_Jint_numberOfLeadingZeros_8 : decode prog_10_method_47_code 8 = .ok (.bipush 32, 2) := by decide +kernel
theorem d_Jint_numberOfLeadingZeros_10 : decode prog_10_method_47_code 10 = .ok (.goto 4, 3) := by decide +kernel
theorem d_Jint_numberOfLeadingZeros_13 : decode prog_10_method_47_code 13 = .ok (.iconst 0, 1) := by decide +kernel
theorem d_Jint_numberOfLeadingZeros_14 : decode prog_10_method_47_code 14 = .ok (.ireturn, 1) := by decide +kernel
theorem d_Jint_numberOfLeadingZeros_15 : decode prog_10_method_47_code 15 = .ok (.bipush 31, 2) := by decide +kernel
theorem d_Jint_numberOfLeadingZeros_17 : decode prog_10_method_47_code 17 = .ok (.istore_n 1, 1) := by decide +kernel
theorem d_Jint_numberOfLeadingZeros_18 : decode prog_10_method_47_code 18 = .ok (.iload_n 0, 1) := by decide +kernel
theorem d_Jint_numberOfLeadingZeros_19 : decode prog_10_method_47_code 19 = .ok (.ldc_w 264, 3) := by decide +kernel
theorem d_Jint_numberOfLeadingZeros_22 : decode prog_10_method_47_code 22 = .ok (.if_icmp .lt 11, 3) := by decide +kernel
theorem d_Jint_numberOfLeadingZeros_25 : decode prog_10_method_47_code 25 = .ok (.iinc 1 (-16), 3) := by decide +kernel
theorem d_Jint_numberOfLeadingZeros_28 : decode prog_10_method_47_code 28 = .ok (.iload_n 0, 1) := by decide +kernel
theorem d_Jint_numberOfLeadingZeros_29 : decode prog_10_method_47_code 29 = .ok (.bipush 16, 2) := by decide +kernel
theorem d_Jint_numberOfLeadingZeros_31 : decode prog_10_method_47_code 31 = .ok (.iushr, 1) := by decide +kernel
theorem d_Jint_numberOfLeadingZeros_32 : decode prog_10_method_47_code 32 = .ok (.istore_n 0, 1) := by decide +kernel
theorem d_Jint_numberOfLeadingZeros_33 : decode prog_10_method_47_code 33 = .ok (.iload_n 0, 1) := by decide +kernel
theorem d_Jint_numberOfLeadingZeros_34 : decode prog_10_method_47_code 34 = .ok (.sipush 256, 3) := by decide +kernel
theorem d_Jint_numberOfLeadingZeros_37 : decode prog_10_method_47_code 37 = .ok (.if_icmp .lt 11, 3) := by decide +kernel
theorem d_Jint_numberOfLeadingZeros_40 : decode prog_10_method_47_code 40 = .ok (.iinc 1 (-8), 3) := by decide +kernel
theorem d_Jint_numberOfLeadingZeros_43 : decode prog_10_method_47_code 43 = .ok (.iload_n 0, 1) := by decide +kernel
theorem d_Jint_numberOfLeadingZeros_44 : decode prog_10_method_47_code 44 = .ok (.bipush 8, 2) := by decide +kernel
theorem d_Jint_numberOfLeadingZeros_46 : decode prog_10_method_47_code 46 = .ok (.iushr, 1) := by decide +kernel
theorem d_Jint_numberOfLeadingZeros_47 : decode prog_10_method_47_code 47 = .ok (.istore_n 0, 1) := by decide +kernel
theorem d_Jint_numberOfLeadingZeros_48 : decode prog_10_method_47_code 48 = .ok (.iload_n 0, 1) := by decide +kernel
theorem d_Jint_numberOfLeadingZeros_49 : decode prog_10_method_47_code 49 = .ok (.bipush 16, 2) := by decide +kernel
theorem d_Jint_numberOfLeadingZeros_51 : decode prog_10_method_47_code 51 = .ok (.if_icmp .lt 10, 3) := by decide +kernel
theorem d_Jint_numberOfLeadingZeros_54 : decode prog_10_method_47_code 54 = .ok (.iinc 1 (-4), 3) := by decide +kernel
theorem d_Jint_numberOfLeadingZeros_57 : decode prog_10_method_47_code 57 = .ok (.iload_n 0, 1) := by decide +kernel
theorem d_Jint_numberOfLeadingZeros_58 : decode prog_10_method_47_code 58 = .ok (.iconst 4, 1) := by decide +kernel
theorem d_Jint_numberOfLeadingZeros_59 : decode prog_10_method_47_code 59 = .ok (.iushr, 1) := by decide +kernel
theorem d_Jint_numberOfLeadingZeros_60 : decode prog_10_method_47_code 60 = .ok (.istore_n 0, 1) := by decide +kernel
theorem d_Jint_numberOfLeadingZeros_61 : decode prog_10_method_47_code 61 = .ok (.iload_n 0, 1) := by decide +kernel
theorem d_Jint_numberOfLeadingZeros_62 : decode prog_10_method_47_code 62 = .ok (.iconst 4, 1) := by decide +kernel
theorem d_Jint_numberOfLeadingZeros_63 : decode prog_10_method_47_code 63 = .ok (.if_icmp .lt 10, 3) := by decide +kernel
theorem d_Jint_numberOfLeadingZeros_66 : decode prog_10_method_47_code 66 = .ok (.iinc 1 (-2), 3) := by decide +kernel
theorem d_Jint_numberOfLeadingZeros_69 : decode prog_10_method_47_code 69 = .ok (.iload_n 0, 1) := by decide +kernel
theorem d_Jint_numberOfLeadingZeros_70 : decode prog_10_method_47_code 70 = .ok (.iconst 2, 1) := by decide +kernel
theorem d_Jint_numberOfLeadingZeros_71 : decode prog_10_method_47_code 71 = .ok (.iushr, 1) := by decide +kernel
theorem d_Jint_numberOfLeadingZeros_72 : decode prog_10_method_47_code 72 = .ok (.istore_n 0, 1) := by decide +kernel
theorem d_Jint_numberOfLeadingZeros_73 : decode prog_10_method_47_code 73 = .ok (.iload_n 1, 1) := by decide +kernel
theorem d_Jint_numberOfLeadingZeros_74 : decode prog_10_method_47_code 74 = .ok (.iload_n 0, 1) := by decide +kernel
theorem d_Jint_numberOfLeadingZeros_75 : decode prog_10_method_47_code 75 = .ok (.iconst 1, 1) := by decide +kernel
theorem d_Jint_numberOfLeadingZeros_76 : decode prog_10_method_47_code 76 = .ok (.iushr, 1) := by decide +kernel
theorem d_Jint_numberOfLeadingZeros_77 : decode prog_10_method_47_code 77 = .ok (.isub, 1) := by decide +kernel
theorem d_Jint_numberOfLeadingZeros_78 : decode prog_10_method_47_code 78 = .ok (.ireturn, 1) := by decide +kernel
theorem d_Bits_digitsAfterFirst_0 : decode prog_2_method_11_code 0 = .ok (.bipush 31, 2) := by decide +kernel
theorem d_Bits_digitsAfterFirst_2 : decode prog_2_method_11_code 2 = .ok (.iload_n 0, 1) := by decide +kernel
theorem d_Bits_digitsAfterFirst_3 : decode prog_2_method_11_code 3 = .ok (.invokestatic 40, 3) := by decide +kernel
theorem d_Bits_digitsAfterFirst_6 : decode prog_2_method_11_code 6 = .ok (.isub, 1) := by decide +kernel
theorem d_Bits_digitsAfterFirst_7 : decode prog_2_method_11_code 7 = .ok (.ireturn, 1) := by decide +kernel
theorem d_Bits_sizeOf_0 : decode prog_2_method_9_code 0 = .ok (.iload_n 0, 1) := by decide +kernel
theorem d_Bits_sizeOf_1 : decode prog_2_method_9_code 1 = .ok (.invokestatic 28, 3) := by decide +kernel
theorem d_Bits_sizeOf_4 : decode prog_2_method_9_code 4 = .ok (.iconst 1, 1) := by decide +kernel
theorem d_Bits_sizeOf_5 : decode prog_2_method_9_code 5 = .ok (.iadd, 1) := by decide +kernel
theorem d_Bits_sizeOf_6 : decode prog_2_method_9_code 6 = .ok (.invokestatic 34, 3) := by decide +kernel
theorem d_Bits_sizeOf_9 : decode prog_2_method_9_code 9 = .ok (.istore_n 1, 1) := by decide +kernel
theorem d_Bits_sizeOf_10 : decode prog_2_method_9_code 10 = .ok (.iconst 2, 1) := by decide +kernel
theorem d_Bits_sizeOf_11 : decode prog_2_method_9_code 11 = .ok (.iload_n 1, 1) := by decide +kernel
theorem d_Bits_sizeOf_12 : decode prog_2_method_9_code 12 = .ok (.imul, 1) := by decide +kernel
theorem d_Bits_sizeOf_13 : decode prog_2_method_9_code 13 = .ok (.iload_n 1, 1) := by decide +kernel
theorem d_Bits_sizeOf_14 : decode prog_2_method_9_code 14 = .ok (.bipush 26, 2) := by decide +kernel
theorem d_Bits_sizeOf_16 : decode prog_2_method_9_code 16 = .ok (.if_icmp .ge 7, 3) := by decide +kernel
theorem d_Bits_sizeOf_19 : decode prog_2_method_9_code 19 = .ok (.iconst 1, 1) := by decide +kernel
theorem d_Bits_sizeOf_20 : decode prog_2_method_9_code 20 = .ok (.goto 4, 3) := by decide +kernel
theorem d_Bits_sizeOf_23 : decode prog_2_method_9_code 23 = .ok (.iconst 0, 1) := by decide +kernel
theorem d_Bits_sizeOf_24 : decode prog_2_method_9_code 24 = .ok (.iadd, 1) := by decide +kernel
theorem d_Bits_sizeOf_25 : decode prog_2_method_9_code 25 = .ok (.iload_n 0, 1) := by decide +kernel
theorem d_Bits_sizeOf_26 : decode prog_2_method_9_code 26 = .ok (.ifCond .eq 7, 3) := by decide +kernel
theorem d_Bits_sizeOf_29 : decode prog_2_method_9_code 29 = .ok (.iconst 1, 1) := by decide +kernel
theorem d_Bits_sizeOf_30 : decode prog_2_method_9_code 30 = .ok (.goto 4, 3) := by decide +kernel
theorem d_Bits_sizeOf_33 : decode prog_2_method_9_code 33 = .ok (.iconst 0, 1) := by decide +kernel
theorem d_Bits_sizeOf_34 : decode prog_2_method_9_code 34 = .ok (.iadd, 1) := by decide +kernel
theorem d_Bits_sizeOf_35 : decode prog_2_method_9_code 35 = .ok (.ireturn, 1) := by decide +kernel
theorem d_Bits_sizeToLastZero_0 : decode prog_2_method_10_code 0 = .ok (.iload_n 0, 1) := by decide +kernel
theorem d_Bits_sizeToLastZero_1 : decode prog_2_method_10_code 1 = .ok (.ifCond .lt 16, 3) := by decide +kernel
theorem d_Bits_sizeToLastZero_4 : decode prog_2_method_10_code 4 = .ok (.iload_n 0, 1) := by decide +kernel
theorem d_Bits_sizeToLastZero_5 : decode prog_2_method_10_code 5 = .ok (.ifCond .ne 7, 3) := by decide +kernel
theorem d_Bits_sizeToLastZero_8 : decode prog_2_method_10_code 8 = .ok (.iconst 0, 1) := by decide +kernel
theorem d_Bits_sizeToLastZero_9 : decode prog_2_method_10_code 9 = .ok (.goto 7, 3) := by decide +kernel
theorem d_Bits_sizeToLastZero_12 : decode prog_2_method_10_code 12 = .ok (.iload_n 0, 1) := by decide +kernel
theorem d_Bits_sizeToLastZero_13 : decode prog_2_method_10_code 13 = .ok (.invokestatic 37, 3) := by decide +kernel
theorem d_Bits_sizeToLastZero_16 : decode prog_2_method_10_code 16 = .ok (.ireturn, 1) := by decide +kernel
theorem d_Bits_sizeToLastZero_17 : decode prog_2_method_10_code 17 = .ok (.iconst 1, 1) := by decide +kernel
theorem d_Bits_sizeToLastZero_18 : decode prog_2_method_10_code 18 = .ok (.iload_n 0, 1) := by decide +kernel
theorem d_Bits_sizeToLastZero_19 : decode prog_2_method_10_code 19 = .ok (.isub, 1) := by decide +kernel
theorem d_Bits_sizeToLastZero_20 : decode prog_2_method_10_code 20 = .ok (.istore_n 1, 1) := by decide +kernel
theorem d_Bits_sizeToLastZero_21 : decode prog_2_method_10_code 21 = .ok (.iload_n 1, 1) := by decide +kernel
theorem d_Bits_sizeToLastZero_22 : decode prog_2_method_10_code 22 = .ok (.invokestatic 34, 3) := by decide +kernel
theorem d_Bits_sizeToLastZero_25 : decode prog_2_method_10_code 25 = .ok (.istore_n 2, 1) := by decide +kernel
theorem d_Bits_sizeToLastZero_26 : decode prog_2_method_10_code 26 = .ok (.iload_n 1, 1) := by decide +kernel
theorem d_Bits_sizeToLastZero_27 : decode prog_2_method_10_code 27 = .ok (.iconst 1, 1) := by decide +kernel
theorem d_Bits_sizeToLastZero_28 : decode prog_2_method_10_code 28 = .ok (.iand, 1) := by decide +kernel
theorem d_Bits_sizeToLastZero_29 : decode prog_2_method_10_code 29 = .ok (.ifCond .ne 9, 3) := by decide +kernel
theorem d_Bits_sizeToLastZero_32 : decode prog_2_method_10_code 32 = .ok (.iconst 2, 1) := by decide +kernel
theorem d_Bits_sizeToLastZero_33 : decode prog_2_method_10_code 33 = .ok (.iload_n 2, 1) := by decide +kernel
theorem d_Bits_sizeToLastZero_34 : decode prog_2_method_10_code 34 = .ok (.imul, 1) := by decide +kernel
theorem d_Bits_sizeToLastZero_35 : decode prog_2_method_10_code 35 = .ok (.goto 8, 3) := by decide +kernel
theorem d_Bits_sizeToLastZero_38 : decode prog_2_method_10_code 38 = .ok (.iconst 2, 1) := by decide +kernel
theorem d_Bits_sizeToLastZero_39 : decode prog_2_method_10_code 39 = .ok (.iload_n 2, 1) := by decide +kernel
theorem d_Bits_sizeToLastZero_40 : decode prog_2_method_10_code 40 = .ok (.imul, 1) := by decide +kernel
theorem d_Bits_sizeToLastZero_41 : decode prog_2_method_10_code 41 = .ok (.iconst 1, 1) := by decide +kernel
theorem d_Bits_sizeToLastZero_42 : decode prog_2_method_10_code 42 = .ok (.isub, 1) := by decide +kernel
theorem d_Bits_sizeToLastZero_43 : decode prog_2_method_10_code 43 = .ok (.ireturn, 1) := by decide +kernel
abbrev w_Jint_numberOfLeadingZeros : List Cond := Cond.code y_Jint_numberOfLeadingZeros prog_10_method_47_code 2 (some .int) :: wl
abbrev r_Jint_numberOfLeadingZeros : Room := { frames := 0, cells := 0, slots := 0, locals := 0 }
set_option maxHeartbeats 4000000 in
set_option maxRecDepth 100000 in
theorem c_Jint_numberOfLeadingZeros (l : Launch) (G : k_G) (sz : Nat) (i0 : Int) (hi0 : 0 < i0 ∧ i0 < 2147483648) : Met l y_Jint_numberOfLeadingZeros w_Jint_numberOfLeadingZeros r_Jint_numberOfLeadingZeros (k_P G [.int (iv (i0))] [] sz) (vp_Si (fun r : Int32 => r = iv (31 - lg i0))) 0 0 (fun _ => False) := by
  refine k_met (fun _ => vp_Si (fun r : Int32 => r = iv (31 - lg i0))) (fun _ _ => False) (by decide) rfl (Nat.le_of_ble_eq_true rfl) (fun p e s m args below meth c ls A Q S hr hlk hnm hl hsz hP hK hD hS hA hT hQ => ?_)
  obtain ⟨hx, hb, hml, hown, hts⟩ := id S
  have hw : ∀ w ∈ wl, w.before args s = true := fun w h => hts w (List.mem_cons_of_mem _ h)
  have hl : lv_has ls 2 [(0, .int (iv (i0)))] := hl
  refine lv_iload_n hx hb d_Jint_numberOfLeadingZeros_0 rfl (lv_at hl 0 rfl) ?_
  refine k_if_gt (tgt := 15) hx hb d_Jint_numberOfLeadingZeros_1 (by decide) (by omega) (fun hc1 => ?_) (fun hc1 => absurd hc1 (by omega))
  refine lv_bipush (v := iv (31)) hx hb d_Jint_numberOfLeadingZeros_15 rfl ?_
  refine lv_istore_n hx hb d_Jint_numberOfLeadingZeros_17 rfl hl (by decide) rfl (fun ls hl => ?_)
  have hl : lv_has ls 2 [(1, .int (iv (31))), (0, .int (iv (i0)))] := hl
  refine lv_iload_n hx hb d_Jint_numberOfLeadingZeros_18 rfl (lv_at hl 1 rfl) ?_
  refine k_ldc_w (v := 65536) (n := 65536) hx hb hown (hw _ m2_172) (by decide +kernel) d_Jint_numberOfLeadingZeros_19 ?_
  refine k_icmp_lt (tgt := 33) hx hb d_Jint_numberOfLeadingZeros_22 (by decide) (by omega) (by omega) (fun hc22 => ?_) (fun hc22 => ?_)
  · refine lv_iload_n hx hb d_Jint_numberOfLeadingZeros_33 rfl (lv_at hl 1 rfl) ?_
    refine lv_sipush (v := iv (256)) hx hb d_Jint_numberOfLeadingZeros_34 rfl ?_
    refine k_icmp_lt (tgt := 48) hx hb d_Jint_numberOfLeadingZeros_37 (by decide) (by omega) (by omega) (fun hc37 => ?_) (fun hc37 => ?_)
    · refine lv_iload_n hx hb d_Jint_numberOfLeadingZeros_48 rfl (lv_at hl 1 rfl) ?_
      refine lv_bipush (v := iv (16)) hx hb d_Jint_numberOfLeadingZeros_49 rfl ?_
      refine k_icmp_lt (tgt := 61) hx hb d_Jint_numberOfLeadingZeros_51 (by decide) (by omega) (by omega) (fun hc51 => ?_) (fun hc51 => ?_)
      · refine lv_iload_n hx hb d_Jint_numberOfLeadingZeros_61 rfl (lv_at hl 1 rfl) ?_
        refine lv_iconst (v := iv (4)) hx hb d_Jint_numberOfLeadingZeros_62 rfl ?_
        refine k_icmp_lt (tgt := 73) hx hb d_Jint_numberOfLeadingZeros_63 (by decide) (by omega) (by omega) (fun hc63 => ?_) (fun hc63 => ?_)
        · refine lv_iload_n hx hb d_Jint_numberOfLeadingZeros_73 rfl (lv_at hl 0 rfl) ?_
          refine lv_iload_n hx hb d_Jint_numberOfLeadingZeros_74 rfl (lv_at hl 1 rfl) ?_
          refine lv_iconst (v := iv (1)) hx hb d_Jint_numberOfLeadingZeros_75 rfl ?_
          refine k_iushrc 1 2 rfl (by decide) rfl hx hb d_Jint_numberOfLeadingZeros_76 (by omega) ?_
          refine k_isub hx hb d_Jint_numberOfLeadingZeros_77 ?_
          have hlg : lg i0 = 31 - (31 - (i0 / 2)) := by
            by_cases hh : i0 < 2
            · rw [lg_p (i := i0) 0 1 (by decide) (by omega) (by omega)]; omega
            · rw [lg_p (i := i0) 1 2 (by decide) (by omega) (by omega)]; omega
          exact k_iretR hx hb hr hlk hQ (by rw [hlg]; congr 1; omega) d_Jint_numberOfLeadingZeros_78
        · refine lv_iinc (k := 0) (v := iv (31 + (-2))) hx hb d_Jint_numberOfLeadingZeros_66 hl rfl (iv_add _ _) (by decide) rfl (fun ls hl => ?_)
          have hl : lv_has ls 2 [(1, .int (iv (31 + (-2)))), (0, .int (iv (i0)))] := hl
          refine lv_iload_n hx hb d_Jint_numberOfLeadingZeros_69 rfl (lv_at hl 1 rfl) ?_
          refine lv_iconst (v := iv (2)) hx hb d_Jint_numberOfLeadingZeros_70 rfl ?_
          refine k_iushrc 2 4 rfl (by decide) rfl hx hb d_Jint_numberOfLeadingZeros_71 (by omega) ?_
          refine lv_istore_n hx hb d_Jint_numberOfLeadingZeros_72 rfl hl (by decide) rfl (fun ls hl => ?_)
          have hl : lv_has ls 2 [(0, .int (iv (i0 / 4))), (1, .int (iv (31 + (-2))))] := hl
          refine lv_iload_n hx hb d_Jint_numberOfLeadingZeros_73 rfl (lv_at hl 1 rfl) ?_
          refine lv_iload_n hx hb d_Jint_numberOfLeadingZeros_74 rfl (lv_at hl 0 rfl) ?_
          refine lv_iconst (v := iv (1)) hx hb d_Jint_numberOfLeadingZeros_75 rfl ?_
          refine k_iushrc 1 2 rfl (by decide) rfl hx hb d_Jint_numberOfLeadingZeros_76 (by omega) ?_
          refine k_isub hx hb d_Jint_numberOfLeadingZeros_77 ?_
          have hlg : lg i0 = 31 - ((31 + (-2)) - ((i0 / 4) / 2)) := by
            by_cases hh : i0 < 8
            · rw [lg_p (i := i0) 2 4 (by decide) (by omega) (by omega)]; omega
            · rw [lg_p (i := i0) 3 8 (by decide) (by omega) (by omega)]; omega
          exact k_iretR hx hb hr hlk hQ (by rw [hlg]; congr 1; omega) d_Jint_numberOfLeadingZeros_78
      · refine lv_iinc (k := 0) (v := iv (31 + (-4))) hx hb d_Jint_numberOfLeadingZeros_54 hl rfl (iv_add _ _) (by decide) rfl (fun ls hl => ?_)
        have hl : lv_has ls 2 [(1, .int (iv (31 + (-4)))), (0, .int (iv (i0)))] := hl
        refine lv_iload_n hx hb d_Jint_numberOfLeadingZeros_57 rfl (lv_at hl 1 rfl) ?_
        refine lv_iconst (v := iv (4)) hx hb d_Jint_numberOfLeadingZeros_58 rfl ?_
        refine k_iushrc 4 16 rfl (by decide) rfl hx hb d_Jint_numberOfLeadingZeros_59 (by omega) ?_
        refine lv_istore_n hx hb d_Jint_numberOfLeadingZeros_60 rfl hl (by decide) rfl (fun ls hl => ?_)
        have hl : lv_has ls 2 [(0, .int (iv (i0 / 16))), (1, .int (iv (31 + (-4))))] := hl
        refine lv_iload_n hx hb d_Jint_numberOfLeadingZeros_61 rfl (lv_at hl 0 rfl) ?_
        refine lv_iconst (v := iv (4)) hx hb d_Jint_numberOfLeadingZeros_62 rfl ?_
        refine k_icmp_lt (tgt := 73) hx hb d_Jint_numberOfLeadingZeros_63 (by decide) (by omega) (by omega) (fun hc63 => ?_) (fun hc63 => ?_)
        · refine lv_iload_n hx hb d_Jint_numberOfLeadingZeros_73 rfl (lv_at hl 1 rfl) ?_
          refine lv_iload_n hx hb d_Jint_numberOfLeadingZeros_74 rfl (lv_at hl 0 rfl) ?_
          refine lv_iconst (v := iv (1)) hx hb d_Jint_numberOfLeadingZeros_75 rfl ?_
          refine k_iushrc 1 2 rfl (by decide) rfl hx hb d_Jint_numberOfLeadingZeros_76 (by omega) ?_
          refine k_isub hx hb d_Jint_numberOfLeadingZeros_77 ?_
          have hlg : lg i0 = 31 - ((31 + (-4)) - ((i0 / 16) / 2)) := by
            by_cases hh : i0 < 32
            · rw [lg_p (i := i0) 4 16 (by decide) (by omega) (by omega)]; omega
            · rw [lg_p (i := i0) 5 32 (by decide) (by omega) (by omega)]; omega
          exact k_iretR hx hb hr hlk hQ (by rw [hlg]; congr 1; omega) d_Jint_numberOfLeadingZeros_78
        · refine lv_iinc (k := 1) (v := iv ((31 + (-4)) + (-2))) hx hb d_Jint_numberOfLeadingZeros_66 hl rfl (iv_add _ _) (by decide) rfl (fun ls hl => ?_)
          have hl : lv_has ls 2 [(1, .int (iv ((31 + (-4)) + (-2)))), (0, .int (iv (i0 / 16)))] := hl
          refine lv_iload_n hx hb d_Jint_numberOfLeadingZeros_69 rfl (lv_at hl 1 rfl) ?_
          refine lv_iconst (v := iv (2)) hx hb d_Jint_numberOfLeadingZeros_70 rfl ?_
          refine k_iushrc 2 4 rfl (by decide) rfl hx hb d_Jint_numberOfLeadingZeros_71 (by omega) ?_
          refine lv_istore_n hx hb d_Jint_numberOfLeadingZeros_72 rfl hl (by decide) rfl (fun ls hl => ?_)
          have hl : lv_has ls 2 [(0, .int (iv ((i0 / 16) / 4))), (1, .int (iv ((31 + (-4)) + (-2))))] := hl
          refine lv_iload_n hx hb d_Jint_numberOfLeadingZeros_73 rfl (lv_at hl 1 rfl) ?_
          refine lv_iload_n hx hb d_Jint_numberOfLeadingZeros_74 rfl (lv_at hl 0 rfl) ?_
          refine lv_iconst (v := iv (1)) hx hb d_Jint_numberOfLeadingZeros_75 rfl ?_
          refine k_iushrc 1 2 rfl (by decide) rfl hx hb d_Jint_numberOfLeadingZeros_76 (by omega) ?_
          refine k_isub hx hb d_Jint_numberOfLeadingZeros_77 ?_
          have hlg : lg i0 = 31 - (((31 + (-4)) + (-2)) - (((i0 / 16) / 4) / 2)) := by
            by_cases hh : i0 < 128
            · rw [lg_p (i := i0) 6 64 (by decide) (by omega) (by omega)]; omega
            · rw [lg_p (i := i0) 7 128 (by decide) (by omega) (by omega)]; omega
          exact k_iretR hx hb hr hlk hQ (by rw [hlg]; congr 1; omega) d_Jint_numberOfLeadingZeros_78
    · refine lv_iinc (k := 0) (v := iv (31 + (-8))) hx hb d_Jint_numberOfLeadingZeros_40 hl rfl (iv_add _ _) (by decide) rfl (fun ls hl => ?_)
      have hl : lv_has ls 2 [(1, .int (iv (31 + (-8)))), (0, .int (iv (i0)))] := hl
      refine lv_iload_n hx hb d_Jint_numberOfLeadingZeros_43 rfl (lv_at hl 1 rfl) ?_
      refine lv_bipush (v := iv (8)) hx hb d_Jint_numberOfLeadingZeros_44 rfl ?_
      refine k_iushrc 8 256 rfl (by decide) rfl hx hb d_Jint_numberOfLeadingZeros_46 (by omega) ?_
      refine lv_istore_n hx hb d_Jint_numberOfLeadingZeros_47 rfl hl (by decide) rfl (fun ls hl => ?_)
      have hl : lv_has ls 2 [(0, .int (iv (i0 / 256))), (1, .int (iv (31 + (-8))))] := hl
      refine lv_iload_n hx hb d_Jint_numberOfLeadingZeros_48 rfl (lv_at hl 0 rfl) ?_
      refine lv_bipush (v := iv (16)) hx hb d_Jint_numberOfLeadingZeros_49 rfl ?_
      refine k_icmp_lt (tgt := 61) hx hb d_Jint_numberOfLeadingZeros_51 (by decide) (by omega) (by omega) (fun hc51 => ?_) (fun hc51 => ?_)
      · refine lv_iload_n hx hb d_Jint_numberOfLeadingZeros_61 rfl (lv_at hl 0 rfl) ?_
        refine lv_iconst (v := iv (4)) hx hb d_Jint_numberOfLeadingZeros_62 rfl ?_
        refine k_icmp_lt (tgt := 73) hx hb d_Jint_numberOfLeadingZeros_63 (by decide) (by omega) (by omega) (fun hc63 => ?_) (fun hc63 => ?_)
        · refine lv_iload_n hx hb d_Jint_numberOfLeadingZeros_73 rfl (lv_at hl 1 rfl) ?_
          refine lv_iload_n hx hb d_Jint_numberOfLeadingZeros_74 rfl (lv_at hl 0 rfl) ?_
          refine lv_iconst (v := iv (1)) hx hb d_Jint_numberOfLeadingZeros_75 rfl ?_
          refine k_iushrc 1 2 rfl (by decide) rfl hx hb d_Jint_numberOfLeadingZeros_76 (by omega) ?_
          refine k_isub hx hb d_Jint_numberOfLeadingZeros_77 ?_
          have hlg : lg i0 = 31 - ((31 + (-8)) - ((i0 / 256) / 2)) := by
            by_cases hh : i0 < 512
            · rw [lg_p (i := i0) 8 256 (by decide) (by omega) (by omega)]; omega
            · rw [lg_p (i := i0) 9 512 (by decide) (by omega) (by omega)]; omega
          exact k_iretR hx hb hr hlk hQ (by rw [hlg]; congr 1; omega) d_Jint_numberOfLeadingZeros_78
        · refine lv_iinc (k := 1) (v := iv ((31 + (-8)) + (-2))) hx hb d_Jint_numberOfLeadingZeros_66 hl rfl (iv_add _ _) (by decide) rfl (fun ls hl => ?_)
          have hl : lv_has ls 2 [(1, .int (iv ((31 + (-8)) + (-2)))), (0, .int (iv (i0 / 256)))] := hl
          refine lv_iload_n hx hb d_Jint_numberOfLeadingZeros_69 rfl (lv_at hl 1 rfl) ?_
          refine lv_iconst (v := iv (2)) hx hb d_Jint_numberOfLeadingZeros_70 rfl ?_
          refine k_iushrc 2 4 rfl (by decide) rfl hx hb d_Jint_numberOfLeadingZeros_71 (by omega) ?_
          refine lv_istore_n hx hb d_Jint_numberOfLeadingZeros_72 rfl hl (by decide) rfl (fun ls hl => ?_)
          have hl : lv_has ls 2 [(0, .int (iv ((i0 / 256) / 4))), (1, .int (iv ((31 + (-8)) + (-2))))] := hl
          refine lv_iload_n hx hb d_Jint_numberOfLeadingZeros_73 rfl (lv_at hl 1 rfl) ?_
          refine lv_iload_n hx hb d_Jint_numberOfLeadingZeros_74 rfl (lv_at hl 0 rfl) ?_
          refine lv_iconst (v := iv (1)) hx hb d_Jint_numberOfLeadingZeros_75 rfl ?_
          refine k_iushrc 1 2 rfl (by decide) rfl hx hb d_Jint_numberOfLeadingZeros_76 (by omega) ?_
          refine k_isub hx hb d_Jint_numberOfLeadingZeros_77 ?_
          have hlg : lg i0 = 31 - (((31 + (-8)) + (-2)) - (((i0 / 256) / 4) / 2)) := by
            by_cases hh : i0 < 2048
            · rw [lg_p (i := i0) 10 1024 (by decide) (by omega) (by omega)]; omega
            · rw [lg_p (i := i0) 11 2048 (by decide) (by omega) (by omega)]; omega
          exact k_iretR hx hb hr hlk hQ (by rw [hlg]; congr 1; omega) d_Jint_numberOfLeadingZeros_78
      · refine lv_iinc (k := 1) (v := iv ((31 + (-8)) + (-4))) hx hb d_Jint_numberOfLeadingZeros_54 hl rfl (iv_add _ _) (by decide) rfl (fun ls hl => ?_)
        have hl : lv_has ls 2 [(1, .int (iv ((31 + (-8)) + (-4)))), (0, .int (iv (i0 / 256)))] := hl
        refine lv_iload_n hx hb d_Jint_numberOfLeadingZeros_57 rfl (lv_at hl 1 rfl) ?_
        refine lv_iconst (v := iv (4)) hx hb d_Jint_numberOfLeadingZeros_58 rfl ?_
        refine k_iushrc 4 16 rfl (by decide) rfl hx hb d_Jint_numberOfLeadingZeros_59 (by omega) ?_
        refine lv_istore_n hx hb d_Jint_numberOfLeadingZeros_60 rfl hl (by decide) rfl (fun ls hl => ?_)
        have hl : lv_has ls 2 [(0, .int (iv ((i0 / 256) / 16))), (1, .int (iv ((31 + (-8)) + (-4))))] := hl
        refine lv_iload_n hx hb d_Jint_numberOfLeadingZeros_61 rfl (lv_at hl 0 rfl) ?_
        refine lv_iconst (v := iv (4)) hx hb d_Jint_numberOfLeadingZeros_62 rfl ?_
        refine k_icmp_lt (tgt := 73) hx hb d_Jint_numberOfLeadingZeros_63 (by decide) (by omega) (by omega) (fun hc63 => ?_) (fun hc63 => ?_)
        · refine lv_iload_n hx hb d_Jint_numberOfLeadingZeros_73 rfl (lv_at hl 1 rfl) ?_
          refine lv_iload_n hx hb d_Jint_numberOfLeadingZeros_74 rfl (lv_at hl 0 rfl) ?_
          refine lv_iconst (v := iv (1)) hx hb d_Jint_numberOfLeadingZeros_75 rfl ?_
          refine k_iushrc 1 2 rfl (by decide) rfl hx hb d_Jint_numberOfLeadingZeros_76 (by omega) ?_
          refine k_isub hx hb d_Jint_numberOfLeadingZeros_77 ?_
          have hlg : lg i0 = 31 - (((31 + (-8)) + (-4)) - (((i0 / 256) / 16) / 2)) := by
            by_cases hh : i0 < 8192
            · rw [lg_p (i := i0) 12 4096 (by decide) (by omega) (by omega)]; omega
            · rw [lg_p (i := i0) 13 8192 (by decide) (by omega) (by omega)]; omega
          exact k_iretR hx hb hr hlk hQ (by rw [hlg]; congr 1; omega) d_Jint_numberOfLeadingZeros_78
        · refine lv_iinc (k := 1) (v := iv (((31 + (-8)) + (-4)) + (-2))) hx hb d_Jint_numberOfLeadingZeros_66 hl rfl (iv_add _ _) (by decide) rfl (fun ls hl => ?_)
          have hl : lv_has ls 2 [(1, .int (iv (((31 + (-8)) + (-4)) + (-2)))), (0, .int (iv ((i0 / 256) / 16)))] := hl
          refine lv_iload_n hx hb d_Jint_numberOfLeadingZeros_69 rfl (lv_at hl 1 rfl) ?_
          refine lv_iconst (v := iv (2)) hx hb d_Jint_numberOfLeadingZeros_70 rfl ?_
          refine k_iushrc 2 4 rfl (by decide) rfl hx hb d_Jint_numberOfLeadingZeros_71 (by omega) ?_
          refine lv_istore_n hx hb d_Jint_numberOfLeadingZeros_72 rfl hl (by decide) rfl (fun ls hl => ?_)
          have hl : lv_has ls 2 [(0, .int (iv (((i0 / 256) / 16) / 4))), (1, .int (iv (((31 + (-8)) + (-4)) + (-2))))] := hl
          refine lv_iload_n hx hb d_Jint_numberOfLeadingZeros_73 rfl (lv_at hl 1 rfl) ?_
          refine lv_iload_n hx hb d_Jint_numberOfLeadingZeros_74 rfl (lv_at hl 0 rfl) ?_
          refine lv_iconst (v := iv (1)) hx hb d_Jint_numberOfLeadingZeros_75 rfl ?_
          refine k_iushrc 1 2 rfl (by decide) rfl hx hb d_Jint_numberOfLeadingZeros_76 (by omega) ?_
          refine k_isub hx hb d_Jint_numberOfLeadingZeros_77 ?_
          have hlg : lg i0 = 31 - ((((31 + (-8)) + (-4)) + (-2)) - ((((i0 / 256) / 16) / 4) / 2)) := by
            by_cases hh : i0 < 32768
            · rw [lg_p (i := i0) 14 16384 (by decide) (by omega) (by omega)]; omega
            · rw [lg_p (i := i0) 15 32768 (by decide) (by omega) (by omega)]; omega
          exact k_iretR hx hb hr hlk hQ (by rw [hlg]; congr 1; omega) d_Jint_numberOfLeadingZeros_78
  · refine lv_iinc (k := 0) (v := iv (31 + (-16))) hx hb d_Jint_numberOfLeadingZeros_25 hl rfl (iv_add _ _) (by decide) rfl (fun ls hl => ?_)
    have hl : lv_has ls 2 [(1, .int (iv (31 + (-16)))), (0, .int (iv (i0)))] := hl
    refine lv_iload_n hx hb d_Jint_numberOfLeadingZeros_28 rfl (lv_at hl 1 rfl) ?_
    refine lv_bipush (v := iv (16)) hx hb d_Jint_numberOfLeadingZeros_29 rfl ?_
    refine k_iushrc 16 65536 rfl (by decide) rfl hx hb d_Jint_numberOfLeadingZeros_31 (by omega) ?_
    refine lv_istore_n hx hb d_Jint_numberOfLeadingZeros_32 rfl hl (by decide) rfl (fun ls hl => ?_)
    have hl : lv_has ls 2 [(0, .int (iv (i0 / 65536))), (1, .int (iv (31 + (-16))))] := hl
    refine lv_iload_n hx hb d_Jint_numberOfLeadingZeros_33 rfl (lv_at hl 0 rfl) ?_
    refine lv_sipush (v := iv (256)) hx hb d_Jint_numberOfLeadingZeros_34 rfl ?_
    refine k_icmp_lt (tgt := 48) hx hb d_Jint_numberOfLeadingZeros_37 (by decide) (by omega) (by omega) (fun hc37 => ?_) (fun hc37 => ?_)
    · refine lv_iload_n hx hb d_Jint_numberOfLeadingZeros_48 rfl (lv_at hl 0 rfl) ?_
      refine lv_bipush (v := iv (16)) hx hb d_Jint_numberOfLeadingZeros_49 rfl ?_
      refine k_icmp_lt (tgt := 61) hx hb d_Jint_numberOfLeadingZeros_51 (by decide) (by omega) (by omega) (fun hc51 => ?_) (fun hc51 => ?_)
      · refine lv_iload_n hx hb d_Jint_numberOfLeadingZeros_61 rfl (lv_at hl 0 rfl) ?_
        refine lv_iconst (v := iv (4)) hx hb d_Jint_numberOfLeadingZeros_62 rfl ?_
        refine k_icmp_lt (tgt := 73) hx hb d_Jint_numberOfLeadingZeros_63 (by decide) (by omega) (by omega) (fun hc63 => ?_) (fun hc63 => ?_)
        · refine lv_iload_n hx hb d_Jint_numberOfLeadingZeros_73 rfl (lv_at hl 1 rfl) ?_
          refine lv_iload_n hx hb d_Jint_numberOfLeadingZeros_74 rfl (lv_at hl 0 rfl) ?_
          refine lv_iconst (v := iv (1)) hx hb d_Jint_numberOfLeadingZeros_75 rfl ?_
          refine k_iushrc 1 2 rfl (by decide) rfl hx hb d_Jint_numberOfLeadingZeros_76 (by omega) ?_
          refine k_isub hx hb d_Jint_numberOfLeadingZeros_77 ?_
          have hlg : lg i0 = 31 - ((31 + (-16)) - ((i0 / 65536) / 2)) := by
            by_cases hh : i0 < 131072
            · rw [lg_p (i := i0) 16 65536 (by decide) (by omega) (by omega)]; omega
            · rw [lg_p (i := i0) 17 131072 (by decide) (by omega) (by omega)]; omega
          exact k_iretR hx hb hr hlk hQ (by rw [hlg]; congr 1; omega) d_Jint_numberOfLeadingZeros_78
        · refine lv_iinc (k := 1) (v := iv ((31 + (-16)) + (-2))) hx hb d_Jint_numberOfLeadingZeros_66 hl rfl (iv_add _ _) (by decide) rfl (fun ls hl => ?_)
          have hl : lv_has ls 2 [(1, .int (iv ((31 + (-16)) + (-2)))), (0, .int (iv (i0 / 65536)))] := hl
          refine lv_iload_n hx hb d_Jint_numberOfLeadingZeros_69 rfl (lv_at hl 1 rfl) ?_
          refine lv_iconst (v := iv (2)) hx hb d_Jint_numberOfLeadingZeros_70 rfl ?_
          refine k_iushrc 2 4 rfl (by decide) rfl hx hb d_Jint_numberOfLeadingZeros_71 (by omega) ?_
          refine lv_istore_n hx hb d_Jint_numberOfLeadingZeros_72 rfl hl (by decide) rfl (fun ls hl => ?_)
          have hl : lv_has ls 2 [(0, .int (iv ((i0 / 65536) / 4))), (1, .int (iv ((31 + (-16)) + (-2))))] := hl
          refine lv_iload_n hx hb d_Jint_numberOfLeadingZeros_73 rfl (lv_at hl 1 rfl) ?_
          refine lv_iload_n hx hb d_Jint_numberOfLeadingZeros_74 rfl (lv_at hl 0 rfl) ?_
          refine lv_iconst (v := iv (1)) hx hb d_Jint_numberOfLeadingZeros_75 rfl ?_
          refine k_iushrc 1 2 rfl (by decide) rfl hx hb d_Jint_numberOfLeadingZeros_76 (by omega) ?_
          refine k_isub hx hb d_Jint_numberOfLeadingZeros_77 ?_
          have hlg : lg i0 = 31 - (((31 + (-16)) + (-2)) - (((i0 / 65536) / 4) / 2)) := by
            by_cases hh : i0 < 524288
            · rw [lg_p (i := i0) 18 262144 (by decide) (by omega) (by omega)]; omega
            · rw [lg_p (i := i0) 19 524288 (by decide) (by omega) (by omega)]; omega
          exact k_iretR hx hb hr hlk hQ (by rw [hlg]; congr 1; omega) d_Jint_numberOfLeadingZeros_78
      · refine lv_iinc (k := 1) (v := iv ((31 + (-16)) + (-4))) hx hb d_Jint_numberOfLeadingZeros_54 hl rfl (iv_add _ _) (by decide) rfl (fun ls hl => ?_)
        have hl : lv_has ls 2 [(1, .int (iv ((31 + (-16)) + (-4)))), (0, .int (iv (i0 / 65536)))] := hl
        refine lv_iload_n hx hb d_Jint_numberOfLeadingZeros_57 rfl (lv_at hl 1 rfl) ?_
        refine lv_iconst (v := iv (4)) hx hb d_Jint_numberOfLeadingZeros_58 rfl ?_
        refine k_iushrc 4 16 rfl (by decide) rfl hx hb d_Jint_numberOfLeadingZeros_59 (by omega) ?_
        refine lv_istore_n hx hb d_Jint_numberOfLeadingZeros_60 rfl hl (by decide) rfl (fun ls hl => ?_)
        have hl : lv_has ls 2 [(0, .int (iv ((i0 / 65536) / 16))), (1, .int (iv ((31 + (-16)) + (-4))))] := hl
        refine lv_iload_n hx hb d_Jint_numberOfLeadingZeros_61 rfl (lv_at hl 0 rfl) ?_
        refine lv_iconst (v := iv (4)) hx hb d_Jint_numberOfLeadingZeros_62 rfl ?_
        refine k_icmp_lt (tgt := 73) hx hb d_Jint_numberOfLeadingZeros_63 (by decide) (by omega) (by omega) (fun hc63 => ?_) (fun hc63 => ?_)
        · refine lv_iload_n hx hb d_Jint_numberOfLeadingZeros_73 rfl (lv_at hl 1 rfl) ?_
          refine lv_iload_n hx hb d_Jint_numberOfLeadingZeros_74 rfl (lv_at hl 0 rfl) ?_
          refine lv_iconst (v := iv (1)) hx hb d_Jint_numberOfLeadingZeros_75 rfl ?_
          refine k_iushrc 1 2 rfl (by decide) rfl hx hb d_Jint_numberOfLeadingZeros_76 (by omega) ?_
          refine k_isub hx hb d_Jint_numberOfLeadingZeros_77 ?_
          have hlg : lg i0 = 31 - (((31 + (-16)) + (-4)) - (((i0 / 65536) / 16) / 2)) := by
            by_cases hh : i0 < 2097152
            · rw [lg_p (i := i0) 20 1048576 (by decide) (by omega) (by omega)]; omega
            · rw [lg_p (i := i0) 21 2097152 (by decide) (by omega) (by omega)]; omega
          exact k_iretR hx hb hr hlk hQ (by rw [hlg]; congr 1; omega) d_Jint_numberOfLeadingZeros_78
        · refine lv_iinc (k := 1) (v := iv (((31 + (-16)) + (-4)) + (-2))) hx hb d_Jint_numberOfLeadingZeros_66 hl rfl (iv_add _ _) (by decide) rfl (fun ls hl => ?_)
          have hl : lv_has ls 2 [(1, .int (iv (((31 + (-16)) + (-4)) + (-2)))), (0, .int (iv ((i0 / 65536) / 16)))] := hl
          refine lv_iload_n hx hb d_Jint_numberOfLeadingZeros_69 rfl (lv_at hl 1 rfl) ?_
          refine lv_iconst (v := iv (2)) hx hb d_Jint_numberOfLeadingZeros_70 rfl ?_
          refine k_iushrc 2 4 rfl (by decide) rfl hx hb d_Jint_numberOfLeadingZeros_71 (by omega) ?_
          refine lv_istore_n hx hb d_Jint_numberOfLeadingZeros_72 rfl hl (by decide) rfl (fun ls hl => ?_)
          have hl : lv_has ls 2 [(0, .int (iv (((i0 / 65536) / 16) / 4))), (1, .int (iv (((31 + (-16)) + (-4)) + (-2))))] := hl
          refine lv_iload_n hx hb d_Jint_numberOfLeadingZeros_73 rfl (lv_at hl 1 rfl) ?_
          refine lv_iload_n hx hb d_Jint_numberOfLeadingZeros_74 rfl (lv_at hl 0 rfl) ?_
          refine lv_iconst (v := iv (1)) hx hb d_Jint_numberOfLeadingZeros_75 rfl ?_
          refine k_iushrc 1 2 rfl (by decide) rfl hx hb d_Jint_numberOfLeadingZeros_76 (by omega) ?_
          refine k_isub hx hb d_Jint_numberOfLeadingZeros_77 ?_
          have hlg : lg i0 = 31 - ((((31 + (-16)) + (-4)) + (-2)) - ((((i0 / 65536) / 16) / 4) / 2)) := by
            by_cases hh : i0 < 8388608
            · rw [lg_p (i := i0) 22 4194304 (by decide) (by omega) (by omega)]; omega
            · rw [lg_p (i := i0) 23 8388608 (by decide) (by omega) (by omega)]; omega
          exact k_iretR hx hb hr hlk hQ (by rw [hlg]; congr 1; omega) d_Jint_numberOfLeadingZeros_78
    · refine lv_iinc (k := 1) (v := iv ((31 + (-16)) + (-8))) hx hb d_Jint_numberOfLeadingZeros_40 hl rfl (iv_add _ _) (by decide) rfl (fun ls hl => ?_)
      have hl : lv_has ls 2 [(1, .int (iv ((31 + (-16)) + (-8)))), (0, .int (iv (i0 / 65536)))] := hl
      refine lv_iload_n hx hb d_Jint_numberOfLeadingZeros_43 rfl (lv_at hl 1 rfl) ?_
      refine lv_bipush (v := iv (8)) hx hb d_Jint_numberOfLeadingZeros_44 rfl ?_
      refine k_iushrc 8 256 rfl (by decide) rfl hx hb d_Jint_numberOfLeadingZeros_46 (by omega) ?_
      refine lv_istore_n hx hb d_Jint_numberOfLeadingZeros_47 rfl hl (by decide) rfl (fun ls hl => ?_)
      have hl : lv_has ls 2 [(0, .int (iv ((i0 / 65536) / 256))), (1, .int (iv ((31 + (-16)) + (-8))))] := hl
      refine lv_iload_n hx hb d_Jint_numberOfLeadingZeros_48 rfl (lv_at hl 0 rfl) ?_
      refine lv_bipush (v := iv (16)) hx hb d_Jint_numberOfLeadingZeros_49 rfl ?_
      refine k_icmp_lt (tgt := 61) hx hb d_Jint_numberOfLeadingZeros_51 (by decide) (by omega) (by omega) (fun hc51 => ?_) (fun hc51 => ?_)
      · refine lv_iload_n hx hb d_Jint_numberOfLeadingZeros_61 rfl (lv_at hl 0 rfl) ?_
        refine lv_iconst (v := iv (4)) hx hb d_Jint_numberOfLeadingZeros_62 rfl ?_
        refine k_icmp_lt (tgt := 73) hx hb d_Jint_numberOfLeadingZeros_63 (by decide) (by omega) (by omega) (fun hc63 => ?_) (fun hc63 => ?_)
        · refine lv_iload_n hx hb d_Jint_numberOfLeadingZeros_73 rfl (lv_at hl 1 rfl) ?_
          refine lv_iload_n hx hb d_Jint_numberOfLeadingZeros_74 rfl (lv_at hl 0 rfl) ?_
          refine lv_iconst (v := iv (1)) hx hb d_Jint_numberOfLeadingZeros_75 rfl ?_
          refine k_iushrc 1 2 rfl (by decide) rfl hx hb d_Jint_numberOfLeadingZeros_76 (by omega) ?_
          refine k_isub hx hb d_Jint_numberOfLeadingZeros_77 ?_
          have hlg : lg i0 = 31 - (((31 + (-16)) + (-8)) - (((i0 / 65536) / 256) / 2)) := by
            by_cases hh : i0 < 33554432
            · rw [lg_p (i := i0) 24 16777216 (by decide) (by omega) (by omega)]; omega
            · rw [lg_p (i := i0) 25 33554432 (by decide) (by omega) (by omega)]; omega
          exact k_iretR hx hb hr hlk hQ (by rw [hlg]; congr 1; omega) d_Jint_numberOfLeadingZeros_78
        · refine lv_iinc (k := 1) (v := iv (((31 + (-16)) + (-8)) + (-2))) hx hb d_Jint_numberOfLeadingZeros_66 hl rfl (iv_add _ _) (by decide) rfl (fun ls hl => ?_)
          have hl : lv_has ls 2 [(1, .int (iv (((31 + (-16)) + (-8)) + (-2)))), (0, .int (iv ((i0 / 65536) / 256)))] := hl
          refine lv_iload_n hx hb d_Jint_numberOfLeadingZeros_69 rfl (lv_at hl 1 rfl) ?_
          refine lv_iconst (v := iv (2)) hx hb d_Jint_numberOfLeadingZeros_70 rfl ?_
          refine k_iushrc 2 4 rfl (by decide) rfl hx hb d_Jint_numberOfLeadingZeros_71 (by omega) ?_
          refine lv_istore_n hx hb d_Jint_numberOfLeadingZeros_72 rfl hl (by decide) rfl (fun ls hl => ?_)
          have hl : lv_has ls 2 [(0, .int (iv (((i0 / 65536) / 256) / 4))), (1, .int (iv (((31 + (-16)) + (-8)) + (-2))))] := hl
          refine lv_iload_n hx hb d_Jint_numberOfLeadingZeros_73 rfl (lv_at hl 1 rfl) ?_
          refine lv_iload_n hx hb d_Jint_numberOfLeadingZeros_74 rfl (lv_at hl 0 rfl) ?_
          refine lv_iconst (v := iv (1)) hx hb d_Jint_numberOfLeadingZeros_75 rfl ?_
          refine k_iushrc 1 2 rfl (by decide) rfl hx hb d_Jint_numberOfLeadingZeros_76 (by omega) ?_
          refine k_isub hx hb d_Jint_numberOfLeadingZeros_77 ?_
          have hlg : lg i0 = 31 - ((((31 + (-16)) + (-8)) + (-2)) - ((((i0 / 65536) / 256) / 4) / 2)) := by
            by_cases hh : i0 < 134217728
            · rw [lg_p (i := i0) 26 67108864 (by decide) (by omega) (by omega)]; omega
            · rw [lg_p (i := i0) 27 134217728 (by decide) (by omega) (by omega)]; omega
          exact k_iretR hx hb hr hlk hQ (by rw [hlg]; congr 1; omega) d_Jint_numberOfLeadingZeros_78
      · refine lv_iinc (k := 1) (v := iv (((31 + (-16)) + (-8)) + (-4))) hx hb d_Jint_numberOfLeadingZeros_54 hl rfl (iv_add _ _) (by decide) rfl (fun ls hl => ?_)
        have hl : lv_has ls 2 [(1, .int (iv (((31 + (-16)) + (-8)) + (-4)))), (0, .int (iv ((i0 / 65536) / 256)))] := hl
        refine lv_iload_n hx hb d_Jint_numberOfLeadingZeros_57 rfl (lv_at hl 1 rfl) ?_
        refine lv_iconst (v := iv (4)) hx hb d_Jint_numberOfLeadingZeros_58 rfl ?_
        refine k_iushrc 4 16 rfl (by decide) rfl hx hb d_Jint_numberOfLeadingZeros_59 (by omega) ?_
        refine lv_istore_n hx hb d_Jint_numberOfLeadingZeros_60 rfl hl (by decide) rfl (fun ls hl => ?_)
        have hl : lv_has ls 2 [(0, .int (iv (((i0 / 65536) / 256) / 16))), (1, .int (iv (((31 + (-16)) + (-8)) + (-4))))] := hl
        refine lv_iload_n hx hb d_Jint_numberOfLeadingZeros_61 rfl (lv_at hl 0 rfl) ?_
        refine lv_iconst (v := iv (4)) hx hb d_Jint_numberOfLeadingZeros_62 rfl ?_
        refine k_icmp_lt (tgt := 73) hx hb d_Jint_numberOfLeadingZeros_63 (by decide) (by omega) (by omega) (fun hc63 => ?_) (fun hc63 => ?_)
        · refine lv_iload_n hx hb d_Jint_numberOfLeadingZeros_73 rfl (lv_at hl 1 rfl) ?_
          refine lv_iload_n hx hb d_Jint_numberOfLeadingZeros_74 rfl (lv_at hl 0 rfl) ?_
          refine lv_iconst (v := iv (1)) hx hb d_Jint_numberOfLeadingZeros_75 rfl ?_
          refine k_iushrc 1 2 rfl (by decide) rfl hx hb d_Jint_numberOfLeadingZeros_76 (by omega) ?_
          refine k_isub hx hb d_Jint_numberOfLeadingZeros_77 ?_
          have hlg : lg i0 = 31 - ((((31 + (-16)) + (-8)) + (-4)) - ((((i0 / 65536) / 256) / 16) / 2)) := by
            by_cases hh : i0 < 536870912
            · rw [lg_p (i := i0) 28 268435456 (by decide) (by omega) (by omega)]; omega
            · rw [lg_p (i := i0) 29 536870912 (by decide) (by omega) (by omega)]; omega
          exact k_iretR hx hb hr hlk hQ (by rw [hlg]; congr 1; omega) d_Jint_numberOfLeadingZeros_78
        · refine lv_iinc (k := 1) (v := iv ((((31 + (-16)) + (-8)) + (-4)) + (-2))) hx hb d_Jint_numberOfLeadingZeros_66 hl rfl (iv_add _ _) (by decide) rfl (fun ls hl => ?_)
          have hl : lv_has ls 2 [(1, .int (iv ((((31 + (-16)) + (-8)) + (-4)) + (-2)))), (0, .int (iv (((i0 / 65536) / 256) / 16)))] := hl
          refine lv_iload_n hx hb d_Jint_numberOfLeadingZeros_69 rfl (lv_at hl 1 rfl) ?_
          refine lv_iconst (v := iv (2)) hx hb d_Jint_numberOfLeadingZeros_70 rfl ?_
          refine k_iushrc 2 4 rfl (by decide) rfl hx hb d_Jint_numberOfLeadingZeros_71 (by omega) ?_
          refine lv_istore_n hx hb d_Jint_numberOfLeadingZeros_72 rfl hl (by decide) rfl (fun ls hl => ?_)
          have hl : lv_has ls 2 [(0, .int (iv ((((i0 / 65536) / 256) / 16) / 4))), (1, .int (iv ((((31 + (-16)) + (-8)) + (-4)) + (-2))))] := hl
          refine lv_iload_n hx hb d_Jint_numberOfLeadingZeros_73 rfl (lv_at hl 1 rfl) ?_
          refine lv_iload_n hx hb d_Jint_numberOfLeadingZeros_74 rfl (lv_at hl 0 rfl) ?_
          refine lv_iconst (v := iv (1)) hx hb d_Jint_numberOfLeadingZeros_75 rfl ?_
          refine k_iushrc 1 2 rfl (by decide) rfl hx hb d_Jint_numberOfLeadingZeros_76 (by omega) ?_
          refine k_isub hx hb d_Jint_numberOfLeadingZeros_77 ?_
          have hlg : lg i0 = 31 - (((((31 + (-16)) + (-8)) + (-4)) + (-2)) - (((((i0 / 65536) / 256) / 16) / 4) / 2)) := by
            by_cases hh : i0 < 2147483648
            · rw [lg_p (i := i0) 30 1073741824 (by decide) (by omega) (by omega)]; omega
            · rw [lg_p (i := i0) 31 2147483648 (by decide) (by omega) (by omega)]; omega
          exact k_iretR hx hb hr hlk hQ (by rw [hlg]; congr 1; omega) d_Jint_numberOfLeadingZeros_78
abbrev w_Bits_digitsAfterFirst : List Cond := Cond.code y_Bits_digitsAfterFirst prog_2_method_11_code 1 (some .int) :: wl
abbrev r_Bits_digitsAfterFirst : Room := { frames := 1, cells := 0, slots := 0, locals := 21 }
set_option maxHeartbeats 4000000 in
set_option maxRecDepth 100000 in
theorem c_Bits_digitsAfterFirst (l : Launch) (G : k_G) (sz : Nat) (n0 : Int) (hn0 : 0 < n0 ∧ n0 < 2147483648) : Met l y_Bits_digitsAfterFirst w_Bits_digitsAfterFirst r_Bits_digitsAfterFirst (k_P G [.int (iv (n0))] [] sz) (vp_Si (fun r : Int32 => r = iv (lg n0))) 0 0 (fun _ => False) := by
  refine k_met (fun _ => vp_Si (fun r : Int32 => r = iv (lg n0))) (fun _ _ => False) (by decide) rfl (Nat.le_of_ble_eq_true rfl) (fun p e s m args below meth c ls A Q S hr hlk hnm hl hsz hP hK hD hS hA hT hQ => ?_)
  obtain ⟨hx, hb, hml, hown, hts⟩ := id S
  have hw : ∀ w ∈ wl, w.before args s = true := fun w h => hts w (List.mem_cons_of_mem _ h)
  have hl : lv_has ls 1 [(0, .int (iv (n0)))] := hl
  refine lv_bipush (v := iv (31)) hx hb d_Bits_digitsAfterFirst_0 rfl ?_
  refine lv_iload_n hx hb d_Bits_digitsAfterFirst_2 rfl (lv_at hl 0 rfl) ?_
  refine k_ciR (k_rs S (c_Jint_numberOfLeadingZeros l G _ n0 (by omega)) 1 m2_171 m2_226 m2_170 m1_11 (by decide +kernel) (by decide) rfl rfl (k_preS hK hP hD hS hA hT [] (by decide) rfl) rfl hl.1 rfl (Nat.le_of_ble_eq_true rfl) d_Bits_digitsAfterFirst_3 ⟨Nat.le_of_ble_eq_true rfl, Nat.le_of_ble_eq_true rfl⟩) (fun r3 h3 => ?_)
  subst h3
  refine k_isub hx hb d_Bits_digitsAfterFirst_6 ?_
  exact k_iretR hx hb hr hlk hQ (by congr 1; omega) d_Bits_digitsAfterFirst_7
abbrev w_Bits_sizeOf : List Cond := Cond.code y_Bits_sizeOf prog_2_method_9_code 2 (some .int) :: wl
abbrev r_Bits_sizeOf : Room := { frames := 2, cells := 0, slots := 0, locals := 41 }
set_option maxHeartbeats 4000000 in
set_option maxRecDepth 100000 in
theorem c_Bits_sizeOf (l : Launch) (G : k_G) (sz : Nat) (v0 : Int) (hv0 : -134217726 ≤ v0 ∧ v0 ≤ 134217726) : Met l y_Bits_sizeOf w_Bits_sizeOf r_Bits_sizeOf (k_P G [.int (iv (v0))] [] sz) (vp_Si (fun r : Int32 => r = iv (szN v0))) 0 0 (fun _ => False) := by
  refine k_met (fun _ => vp_Si (fun r : Int32 => r = iv (szN v0))) (fun _ _ => False) (by decide) rfl (Nat.le_of_ble_eq_true rfl) (fun p e s m args below meth c ls A Q S hr hlk hnm hl hsz hP hK hD hS hA hT hQ => ?_)
  obtain ⟨hx, hb, hml, hown, hts⟩ := id S
  have hw : ∀ w ∈ wl, w.before args s = true := fun w h => hts w (List.mem_cons_of_mem _ h)
  have hl : lv_has ls 2 [(0, .int (iv (v0)))] := hl
  have hab : 0 ≤ absI v0 ∧ absI v0 ≤ 134217726 := by unfold absI; split <;> omega
  have hlg := lg_r (i := absI v0 + 1) 27 134217728 (by decide) (by omega) (by omega)
  refine lv_iload_n hx hb d_Bits_sizeOf_0 rfl (lv_at hl 0 rfl) ?_
  refine k_mabs hx hb (by rw [hml]; exact hl.1.symm) hown (hw _ m2_222) (hw _ m2_209) (hw _ m1_8) (hw _ m2_210) (by decide) (Nat.le_of_ble_eq_true rfl) (by decide) (by decide) (by omega) d_Bits_sizeOf_1 ?_
  refine lv_iconst (v := iv (1)) hx hb d_Bits_sizeOf_4 rfl ?_
  refine k_iadd hx hb d_Bits_sizeOf_5 ?_
  refine k_ciR (k_rs S (c_Bits_digitsAfterFirst l G _ ((absI v0) + 1) (by omega)) 1 m2_225 m2_223 m2_224 m1_7 (by decide +kernel) (by decide) rfl rfl (k_preS hK hP hD hS hA hT [] (by decide) rfl) rfl hl.1 rfl (Nat.le_of_ble_eq_true rfl) d_Bits_sizeOf_6 ⟨Nat.le_of_ble_eq_true rfl, Nat.le_of_ble_eq_true rfl⟩) (fun r6 h6 => ?_)
  subst h6
  refine lv_istore_n hx hb d_Bits_sizeOf_9 rfl hl (by decide) rfl (fun ls hl => ?_)
  have hl : lv_has ls 2 [(1, .int (iv (lg ((absI v0) + 1)))), (0, .int (iv (v0)))] := hl
  refine lv_iconst (v := iv (2)) hx hb d_Bits_sizeOf_10 rfl ?_
  refine lv_iload_n hx hb d_Bits_sizeOf_11 rfl (lv_at hl 0 rfl) ?_
  refine k_imul hx hb d_Bits_sizeOf_12 ?_
  refine lv_iload_n hx hb d_Bits_sizeOf_13 rfl (lv_at hl 0 rfl) ?_
  refine lv_bipush (v := iv (26)) hx hb d_Bits_sizeOf_14 rfl ?_
  refine k_icmp_ge (tgt := 23) hx hb d_Bits_sizeOf_16 (by decide) (by omega) (by omega) (fun hc16 => ?_) (fun hc16 => ?_)
  · refine lv_iconst (v := iv (0)) hx hb d_Bits_sizeOf_23 rfl ?_
    refine k_iadd hx hb d_Bits_sizeOf_24 ?_
    refine lv_iload_n hx hb d_Bits_sizeOf_25 rfl (lv_at hl 1 rfl) ?_
    refine k_if_eq (tgt := 33) hx hb d_Bits_sizeOf_26 (by decide) (by omega) (fun hc26 => ?_) (fun hc26 => ?_)
    · refine lv_iconst (v := iv (0)) hx hb d_Bits_sizeOf_33 rfl ?_
      refine k_iadd hx hb d_Bits_sizeOf_34 ?_
      exact k_iretR hx hb hr hlk hQ (by unfold szN; congr 1; (repeat' split) <;> omega) d_Bits_sizeOf_35
    · refine lv_iconst (v := iv (1)) hx hb d_Bits_sizeOf_29 rfl ?_
      refine lv_goto (tgt := 34) hx hb d_Bits_sizeOf_30 (by decide) ?_
      refine k_iadd hx hb d_Bits_sizeOf_34 ?_
      exact k_iretR hx hb hr hlk hQ (by unfold szN; congr 1; (repeat' split) <;> omega) d_Bits_sizeOf_35
  · refine lv_iconst (v := iv (1)) hx hb d_Bits_sizeOf_19 rfl ?_
    refine lv_goto (tgt := 24) hx hb d_Bits_sizeOf_20 (by decide) ?_
    refine k_iadd hx hb d_Bits_sizeOf_24 ?_
    refine lv_iload_n hx hb d_Bits_sizeOf_25 rfl (lv_at hl 1 rfl) ?_
    refine k_if_eq (tgt := 33) hx hb d_Bits_sizeOf_26 (by decide) (by omega) (fun hc26 => ?_) (fun hc26 => ?_)
    · refine lv_iconst (v := iv (0)) hx hb d_Bits_sizeOf_33 rfl ?_
      refine k_iadd hx hb d_Bits_sizeOf_34 ?_
      exact k_iretR hx hb hr hlk hQ (by unfold szN; congr 1; (repeat' split) <;> omega) d_Bits_sizeOf_35
    · refine lv_iconst (v := iv (1)) hx hb d_Bits_sizeOf_29 rfl ?_
      refine lv_goto (tgt := 34) hx hb d_Bits_sizeOf_30 (by decide) ?_
      refine k_iadd hx hb d_Bits_sizeOf_34 ?_
      exact k_iretR hx hb hr hlk hQ (by unfold szN; congr 1; (repeat' split) <;> omega) d_Bits_sizeOf_35
abbrev w_Bits_sizeToLastZero : List Cond := Cond.code y_Bits_sizeToLastZero prog_2_method_10_code 3 (some .int) :: wl
abbrev r_Bits_sizeToLastZero : Room := { frames := 3, cells := 0, slots := 0, locals := 62 }
set_option maxHeartbeats 4000000 in
set_option maxRecDepth 100000 in
theorem c_Bits_sizeToLastZero (l : Launch) (G : k_G) (sz : Nat) (v0 : Int) (hv0 : -134217726 ≤ v0 ∧ v0 ≤ 134217726) : Met l y_Bits_sizeToLastZero w_Bits_sizeToLastZero r_Bits_sizeToLastZero (k_P G [.int (iv (v0))] [] sz) (vp_Si (fun r : Int32 => r = iv (zlN v0))) 0 0 (fun _ => False) := by
  refine k_met (fun _ => vp_Si (fun r : Int32 => r = iv (zlN v0))) (fun _ _ => False) (by decide) rfl (Nat.le_of_ble_eq_true rfl) (fun p e s m args below meth c ls A Q S hr hlk hnm hl hsz hP hK hD hS hA hT hQ => ?_)
  obtain ⟨hx, hb, hml, hown, hts⟩ := id S
  have hw : ∀ w ∈ wl, w.before args s = true := fun w h => hts w (List.mem_cons_of_mem _ h)
  have hl : lv_has ls 3 [(0, .int (iv (v0)))] := hl
  refine lv_iload_n hx hb d_Bits_sizeToLastZero_0 rfl (lv_at hl 0 rfl) ?_
  refine k_if_lt (tgt := 17) hx hb d_Bits_sizeToLastZero_1 (by decide) (by omega) (fun hc1 => ?_) (fun hc1 => ?_)
  · refine lv_iconst (v := iv (1)) hx hb d_Bits_sizeToLastZero_17 rfl ?_
    refine lv_iload_n hx hb d_Bits_sizeToLastZero_18 rfl (lv_at hl 0 rfl) ?_
    refine k_isub hx hb d_Bits_sizeToLastZero_19 ?_
    refine lv_istore_n hx hb d_Bits_sizeToLastZero_20 rfl hl (by decide) rfl (fun ls hl => ?_)
    have hl : lv_has ls 3 [(1, .int (iv (1 - v0))), (0, .int (iv (v0)))] := hl
    refine lv_iload_n hx hb d_Bits_sizeToLastZero_21 rfl (lv_at hl 0 rfl) ?_
    refine k_ciR (k_rs S (c_Bits_digitsAfterFirst l G _ (1 - v0) (by omega)) 1 m2_225 m2_223 m2_224 m1_7 (by decide +kernel) (by decide) rfl rfl (k_preS hK hP hD hS hA hT [] (by decide) rfl) rfl hl.1 rfl (Nat.le_of_ble_eq_true rfl) d_Bits_sizeToLastZero_22 ⟨Nat.le_of_ble_eq_true rfl, Nat.le_of_ble_eq_true rfl⟩) (fun r22 h22 => ?_)
    subst h22
    refine lv_istore_n hx hb d_Bits_sizeToLastZero_25 rfl hl (by decide) rfl (fun ls hl => ?_)
    have hl : lv_has ls 3 [(2, .int (iv (lg (1 - v0)))), (1, .int (iv (1 - v0))), (0, .int (iv (v0)))] := hl
    refine lv_iload_n hx hb d_Bits_sizeToLastZero_26 rfl (lv_at hl 1 rfl) ?_
    refine lv_iconst (v := iv (1)) hx hb d_Bits_sizeToLastZero_27 rfl ?_
    refine k_iandc 1 2 rfl (by decide) rfl hx hb d_Bits_sizeToLastZero_28 ?_
    refine k_if_ne (tgt := 38) hx hb d_Bits_sizeToLastZero_29 (by decide) (by omega) (fun hc29 => ?_) (fun hc29 => ?_)
    · refine lv_iconst (v := iv (2)) hx hb d_Bits_sizeToLastZero_38 rfl ?_
      refine lv_iload_n hx hb d_Bits_sizeToLastZero_39 rfl (lv_at hl 0 rfl) ?_
      refine k_imul hx hb d_Bits_sizeToLastZero_40 ?_
      refine lv_iconst (v := iv (1)) hx hb d_Bits_sizeToLastZero_41 rfl ?_
      refine k_isub hx hb d_Bits_sizeToLastZero_42 ?_
      exact k_iretR hx hb hr hlk hQ (by unfold zlN; congr 1; (repeat' split) <;> omega) d_Bits_sizeToLastZero_43
    · refine lv_iconst (v := iv (2)) hx hb d_Bits_sizeToLastZero_32 rfl ?_
      refine lv_iload_n hx hb d_Bits_sizeToLastZero_33 rfl (lv_at hl 0 rfl) ?_
      refine k_imul hx hb d_Bits_sizeToLastZero_34 ?_
      refine lv_goto (tgt := 43) hx hb d_Bits_sizeToLastZero_35 (by decide) ?_
      exact k_iretR hx hb hr hlk hQ (by unfold zlN; congr 1; (repeat' split) <;> omega) d_Bits_sizeToLastZero_43
  · refine lv_iload_n hx hb d_Bits_sizeToLastZero_4 rfl (lv_at hl 0 rfl) ?_
    refine k_if_ne (tgt := 12) hx hb d_Bits_sizeToLastZero_5 (by decide) (by omega) (fun hc5 => ?_) (fun hc5 => ?_)
    · refine lv_iload_n hx hb d_Bits_sizeToLastZero_12 rfl (lv_at hl 0 rfl) ?_
      refine k_ciR (k_rs S (c_Bits_sizeOf l G _ v0 (by omega)) 1 m2_221 m2_219 m2_220 m1_7 (by decide +kernel) (by decide) rfl rfl (k_preS hK hP hD hS hA hT [] (by decide) rfl) rfl hl.1 rfl (Nat.le_of_ble_eq_true rfl) d_Bits_sizeToLastZero_13 ⟨Nat.le_of_ble_eq_true rfl, Nat.le_of_ble_eq_true rfl⟩) (fun r13 h13 => ?_)
      subst h13
      exact k_iretR hx hb hr hlk hQ (by unfold zlN; congr 1; (repeat' split) <;> omega) d_Bits_sizeToLastZero_16
    · refine lv_iconst (v := iv (0)) hx hb d_Bits_sizeToLastZero_8 rfl ?_
      refine lv_goto (tgt := 16) hx hb d_Bits_sizeToLastZero_9 (by decide) ?_
      exact k_iretR hx hb hr hlk hQ (by unfold zlN; congr 1; (repeat' split) <;> omega) d_Bits_sizeToLastZero_16
