/-! the quantiser: factor, number, value -/
def facI (r : Int) : Int := if r % 4 = 0 then 4 * 2 ^ (r / 4).toNat else if r % 4 = 1 then (503829 * 2 ^ (r / 4).toNat + 52958) / 105917 else if r % 4 = 2 then (665857 * 2 ^ (r / 4).toNat + 58854) / 117708 else (440253 * 2 ^ (r / 4).toNat + 32722) / 65444
def offI (r : Int) : Int := if r < 2 then r + 1 else (facI r + 1) / 2
theorem p2_7 {r : Int} (h : 0 ≤ r ∧ r < 32) : (1 : Int) ≤ 2 ^ (r / 4).toNat ∧ (2 : Int) ^ (r / 4).toNat ≤ 128 := ⟨p2_1 _, by
  have := p2_le (a := (r / 4).toNat) (b := 7) (by omega)
  have e : (2 : Int) ^ 7 = 128 := by decide
  omega⟩
theorem lw_ne {f : Int} (h : 0 < f ∧ f < 2147483648) : ¬ lw f = 0 := by
  intro q
  have := congrArg Int64.toInt q
  rw [lw_toInt ⟨by omega, by omega⟩] at this
  have e : (0 : Int64).toInt = 0 := by decide
  omega
/-- the number of a coefficient, as the class has it -/
def nmC (c : Int64) (f : Int) : Int := if 0 ≤ c then (mnL 134217726 (4 * abL c / lw f)).toInt else -(mnL 134217726 (4 * abL c / lw f)).toInt
/-- the value of a number -/
def vlC (v f o : Int) : Int64 := if v = 0 then 0 else if 0 ≤ v then shR (lw (absI v) * lw f + lw o + 2) 2 else -shR (lw (absI v) * lw f + lw o + 2) 2
theorem m2_198 : Cond.code y_Jmath_abs_JJ prog_11_method_61_code 2 (some .long) ∈ wl := wl_2 198 (by decide +kernel) (by decide +kernel)
theorem m1_145 : Cond.constant "WaveletSlices$Quantiser" 40 (503829) ∈ wl := wl_1 145 (by decide +kernel) (by decide +kernel)
theorem m1_146 : Cond.constant "WaveletSlices$Quantiser" 41 (52958) ∈ wl := wl_1 146 (by decide +kernel) (by decide +kernel)
theorem m1_147 : Cond.constant "WaveletSlices$Quantiser" 42 (105917) ∈ wl := wl_1 147 (by decide +kernel) (by decide +kernel)
theorem m1_148 : Cond.constant "WaveletSlices$Quantiser" 43 (665857) ∈ wl := wl_1 148 (by decide +kernel) (by decide +kernel)
theorem m1_149 : Cond.constant "WaveletSlices$Quantiser" 44 (58854) ∈ wl := wl_1 149 (by decide +kernel) (by decide +kernel)
theorem m1_150 : Cond.constant "WaveletSlices$Quantiser" 45 (117708) ∈ wl := wl_1 150 (by decide +kernel) (by decide +kernel)
theorem m1_151 : Cond.constant "WaveletSlices$Quantiser" 46 (440253) ∈ wl := wl_1 151 (by decide +kernel) (by decide +kernel)
theorem m1_152 : Cond.constant "WaveletSlices$Quantiser" 47 (65444) ∈ wl := wl_1 152 (by decide +kernel) (by decide +kernel)
theorem m2_194 : Cond.constantLong "WaveletSlices$Quantiser" 22 (134217726) ∈ wl := wl_2 194 (by decide +kernel) (by decide +kernel)
theorem m2_195 : Cond.constantLong "WaveletSlices$Quantiser" 24 (4) ∈ wl := wl_2 195 (by decide +kernel) (by decide +kernel)
theorem m2_211 : Cond.constantLong "WaveletSlices$Quantiser" 38 (2) ∈ wl := wl_2 211 (by decide +kernel) (by decide +kernel)
theorem m1_153 : Cond.fieldLink "WaveletSlices$Quantiser" 9 "WaveletSlices$Quantiser" "factor" "[I" ∈ wl := wl_1 153 (by decide +kernel) (by decide +kernel)
theorem m1_154 : Cond.fieldLink "WaveletSlices$Quantiser" 15 "WaveletSlices$Quantiser" "offset" "[I" ∈ wl := wl_1 154 (by decide +kernel) (by decide +kernel)
theorem m2_208 : Cond.methodLink "WaveletSlices$Quantiser" 36 y_Jmath_abs_II ∈ wl := wl_2 208 (by decide +kernel) (by decide +kernel)
theorem m2_196 : Cond.methodLink "WaveletSlices$Quantiser" 26 y_Jmath_abs_JJ ∈ wl := wl_2 196 (by decide +kernel) (by decide +kernel)
theorem m2_199 : Cond.methodLink "WaveletSlices$Quantiser" 32 y_Jmath_min_JJJ ∈ wl := wl_2 199 (by decide +kernel) (by decide +kernel)
theorem m2_197 : Cond.static y_Jmath_abs_JJ ∈ wl := wl_2 197 (by decide +kernel) (by decide +kernel)
theorem d_Quant_factorOf_0 : decode prog_4_method_4_code 0 = .ok (.iconst 1, 1) := by decide +kernel
theorem d_Quant_factorOf_1 : decode prog_4_method_4_code 1 = .ok (.iload_n 0, 1) := by decide +kernel
theorem d_Quant_factorOf_2 : decode prog_4_method_4_code 2 = .ok (.iconst 2, 1) := by decide +kernel
theorem d_Quant_factorOf_3 : decode prog_4_method_4_code 3 = .ok (.ishr, 1) := by decide +kernel
theorem d_Quant_factorOf_4 : decode prog_4_method_4_code 4 = .ok (.ishl, 1) := by decide +kernel
theorem d_Quant_factorOf_5 : decode prog_4_method_4_code 5 = .ok (.istore_n 1, 1) := by decide +kernel
theorem d_Quant_factorOf_6 : decode prog_4_method_4_code 6 = .ok (.iload_n 0, 1) := by decide +kernel
theorem d_Quant_factorOf_7 : decode prog_4_method_4_code 7 = .ok (.iconst 4, 1) := by decide +kernel
theorem d_Quant_factorOf_8 : decode prog_4_method_4_code 8 = .ok (.irem, 1) := by decide +kernel
theorem d_Quant_factorOf_9 : decode prog_4_method_4_code 9 = .ok (.tableswitch 53 0 2 #[27, 31, 42], 27) := by decide +kernel
theorem d_Quant_factorOf_36 : decode prog_4_method_4_code 36 = .ok (.iconst 4, 1) := by decide +kernel
theorem d_Quant_factorOf_37 : decode prog_4_method_4_code 37 = .ok (.iload_n 1, 1) := by decide +kernel
theorem d_Quant_factorOf_38 : decode prog_4_method_4_code 38 = .ok (.imul, 1) := by decide +kernel
theorem d_Quant_factorOf_39 : decode prog_4_method_4_code 39 = .ok (.ireturn, 1) := by decide +kernel
theorem d_Quant_factorOf_40 : decode prog_4_method_4_code 40 = .ok (.ldc 40, 2) := by decide +kernel
theorem d_Quant_factorOf_42 : decode prog_4_method_4_code 42 = .ok (.iload_n 1, 1) := by decide +kernel
theorem d_Quant_factorOf_43 : decode prog_4_method_4_code 43 = .ok (.imul, 1) := by decide +kernel
theorem d_Quant_factorOf_44 : decode prog_4_method_4_code 44 = .ok (.ldc 41, 2) := by decide +kernel
theorem d_Quant_factorOf_46 : decode prog_4_method_4_code 46 = .ok (.iadd, 1) := by decide +kernel
theorem d_Quant_factorOf_47 : decode prog_4_method_4_code 47 = .ok (.ldc 42, 2) := by decide +kernel
theorem d_Quant_factorOf_49 : decode prog_4_method_4_code 49 = .ok (.idiv, 1) := by decide +kernel
theorem d_Quant_factorOf_50 : decode prog_4_method_4_code 50 = .ok (.ireturn, 1) := by decide +kernel
theorem d_Quant_factorOf_51 : decode prog_4_method_4_code 51 = .ok (.ldc 43, 2) := by decide +kernel
theorem d_Quant_factorOf_53 : decode prog_4_method_4_code 53 = .ok (.iload_n 1, 1) := by decide +kernel
theorem d_Quant_factorOf_54 : decode prog_4_method_4_code 54 = .ok (.imul, 1) := by decide +kernel
theorem d_Quant_factorOf_55 : decode prog_4_method_4_code 55 = .ok (.ldc 44, 2) := by decide +kernel
theorem d_Quant_factorOf_57 : decode prog_4_method_4_code 57 = .ok (.iadd, 1) := by decide +kernel
theorem d_Quant_factorOf_58 : decode prog_4_method_4_code 58 = .ok (.ldc 45, 2) := by decide +kernel
theorem d_Quant_factorOf_60 : decode prog_4_method_4_code 60 = .ok (.idiv, 1) := by decide +kernel
theorem d_Quant_factorOf_61 : decode prog_4_method_4_code 61 = .ok (.ireturn, 1) := by decide +kernel
theorem d_Quant_factorOf_62 : decode prog_4_method_4_code 62 = .ok (.ldc 46, 2) := by decide +kernel
theorem d_Quant_factorOf_64 : decode prog_4_method_4_code 64 = .ok (.iload_n 1, 1) := by decide +kernel
theorem d_Quant_factorOf_65 : decode prog_4_method_4_code 65 = .ok (.imul, 1) := by decide +kernel
theorem d_Quant_factorOf_66 : decode prog_4_method_4_code 66 = .ok (.sipush 32722, 3) := by decide +kernel
theorem d_Quant_factorOf_69 : decode prog_4_method_4_code 69 = .ok (.iadd, 1) := by decide +kernel
theorem d_Quant_factorOf_70 : decode prog_4_method_4_code 70 = .ok (.ldc 47, 2) := by decide +kernel
theorem d_Quant_factorOf_72 : decode prog_4_method_4_code 72 = .ok (.idiv, 1) := by decide +kernel
theorem d_Quant_factorOf_73 : decode prog_4_method_4_code 73 = .ok (.ireturn, 1) := by decide +kernel
theorem d_Quant_numberOf_0 : decode prog_4_method_2_code 0 = .ok (.ldc2_w 22, 3) := by decide +kernel
theorem d_Quant_numberOf_3 : decode prog_4_method_2_code 3 = .ok (.ldc2_w 24, 3) := by decide +kernel
theorem d_Quant_numberOf_6 : decode prog_4_method_2_code 6 = .ok (.lload_n 1, 1) := by decide +kernel
theorem d_Quant_numberOf_7 : decode prog_4_method_2_code 7 = .ok (.invokestatic 26, 3) := by decide +kernel
theorem d_Quant_numberOf_10 : decode prog_4_method_2_code 10 = .ok (.lmul, 1) := by decide +kernel
theorem d_Quant_numberOf_11 : decode prog_4_method_2_code 11 = .ok (.aload_n 0, 1) := by decide +kernel
theorem d_Quant_numberOf_12 : decode prog_4_method_2_code 12 = .ok (.getfield 9, 3) := by decide +kernel
theorem d_Quant_numberOf_15 : decode prog_4_method_2_code 15 = .ok (.iload_n 3, 1) := by decide +kernel
theorem d_Quant_numberOf_16 : decode prog_4_method_2_code 16 = .ok (.iaload, 1) := by decide +kernel
theorem d_Quant_numberOf_17 : decode prog_4_method_2_code 17 = .ok (.i2l, 1) := by decide +kernel
theorem d_Quant_numberOf_18 : decode prog_4_method_2_code 18 = .ok (.ldiv, 1) := by decide +kernel
theorem d_Quant_numberOf_19 : decode prog_4_method_2_code 19 = .ok (.invokestatic 32, 3) := by decide +kernel
theorem d_Quant_numberOf_22 : decode prog_4_method_2_code 22 = .ok (.l2i, 1) := by decide +kernel
theorem d_Quant_numberOf_23 : decode prog_4_method_2_code 23 = .ok (.istore 4, 2) := by decide +kernel
theorem d_Quant_numberOf_25 : decode prog_4_method_2_code 25 = .ok (.lload_n 1, 1) := by decide +kernel
theorem d_Quant_numberOf_26 : decode prog_4_method_2_code 26 = .ok (.lconst 0, 1) := by decide +kernel
theorem d_Quant_numberOf_27 : decode prog_4_method_2_code 27 = .ok (.lcmp, 1) := by decide +kernel
theorem d_Quant_numberOf_28 : decode prog_4_method_2_code 28 = .ok (.ifCond .ge 9, 3) := by decide +kernel
theorem d_Quant_numberOf_31 : decode prog_4_method_2_code 31 = .ok (.iload 4, 2) := by decide +kernel
theorem d_Quant_numberOf_33 : decode prog_4_method_2_code 33 = .ok (.ineg, 1) := by decide +kernel
theorem d_Quant_numberOf_34 : decode prog_4_method_2_code 34 = .ok (.goto 5, 3) := by decide +kernel
theorem d_Quant_numberOf_37 : decode prog_4_method_2_code 37 = .ok (.iload 4, 2) := by decide +kernel
theorem d_Quant_numberOf_39 : decode prog_4_method_2_code 39 = .ok (.ireturn, 1) := by decide +kernel
theorem d_Quant_valueOf_0 : decode prog_4_method_3_code 0 = .ok (.iload_n 1, 1) := by decide +kernel
theorem d_Quant_valueOf_1 : decode prog_4_method_3_code 1 = .ok (.ifCond .ne 5, 3) := by decide +kernel
theorem d_Quant_valueOf_4 : decode prog_4_method_3_code 4 = .ok (.lconst 0, 1) := by decide +kernel
theorem d_Quant_valueOf_5 : decode prog_4_method_3_code 5 = .ok (.lreturn, 1) := by decide +kernel
theorem d_Quant_valueOf_6 : decode prog_4_method_3_code 6 = .ok (.iload_n 1, 1) := by decide +kernel
theorem d_Quant_valueOf_7 : decode prog_4_method_3_code 7 = .ok (.invokestatic 36, 3) := by decide +kernel
theorem d_Quant_valueOf_10 : decode prog_4_method_3_code 10 = .ok (.i2l, 1) := by decide +kernel
theorem d_Quant_valueOf_11 : decode prog_4_method_3_code 11 = .ok (.aload_n 0, 1) := by decide +kernel
theorem d_Quant_valueOf_12 : decode prog_4_method_3_code 12 = .ok (.getfield 9, 3) := by decide +kernel
theorem d_Quant_valueOf_15 : decode prog_4_method_3_code 15 = .ok (.iload_n 2, 1) := by decide +kernel
theorem d_Quant_valueOf_16 : decode prog_4_method_3_code 16 = .ok (.iaload, 1) := by decide +kernel
theorem d_Quant_valueOf_17 : decode prog_4_method_3_code 17 = .ok (.i2l, 1) := by decide +kernel
theorem d_Quant_valueOf_18 : decode prog_4_method_3_code 18 = .ok (.lmul, 1) := by decide +kernel
theorem d_Quant_valueOf_19 : decode prog_4_method_3_code 19 = .ok (.aload_n 0, 1) := by decide +kernel
theorem d_Quant_valueOf_20 : decode prog_4_method_3_code 20 = .ok (.getfield 15, 3) := by decide +kernel
theorem d_Quant_valueOf_23 : decode prog_4_method_3_code 23 = .ok (.iload_n 2, 1) := by decide +kernel
theorem d_Quant_valueOf_24 : decode prog_4_method_3_code 24 = .ok (.iaload, 1) := by decide +kernel
theorem d_Quant_valueOf_25 : decode prog_4_method_3_code 25 = .ok (.i2l, 1) := by decide +kernel
theorem d_Quant_valueOf_26 : decode prog_4_method_3_code 26 = .ok (.ladd, 1) := by decide +kernel
theorem d_Quant_valueOf_27 : decode prog_4_method_3_code 27 = .ok (.ldc2_w 38, 3) := by decide +kernel
theorem d_Quant_valueOf_30 : decode prog_4_method_3_code 30 = .ok (.ladd, 1) := by decide +kernel
theorem d_Quant_valueOf_31 : decode prog_4_method_3_code 31 = .ok (.iconst 2, 1) := by decide +kernel
theorem d_Quant_valueOf_32 : decode prog_4_method_3_code 32 = .ok (.lshr, 1) := by decide +kernel
theorem d_Quant_valueOf_33 : decode prog_4_method_3_code 33 = .ok (.lstore_n 3, 1) := by decide +kernel
theorem d_Quant_valueOf_34 : decode prog_4_method_3_code 34 = .ok (.iload_n 1, 1) := by decide +kernel
theorem d_Quant_valueOf_35 : decode prog_4_method_3_code 35 = .ok (.ifCond .ge 8, 3) := by decide +kernel
theorem d_Quant_valueOf_38 : decode prog_4_method_3_code 38 = .ok (.lload_n 3, 1) := by decide +kernel
theorem d_Quant_valueOf_39 : decode prog_4_method_3_code 39 = .ok (.lneg, 1) := by decide +kernel
theorem d_Quant_valueOf_40 : decode prog_4_method_3_code 40 = .ok (.goto 4, 3) := by decide +kernel
theorem d_Quant_valueOf_43 : decode prog_4_method_3_code 43 = .ok (.lload_n 3, 1) := by decide +kernel
theorem d_Quant_valueOf_44 : decode prog_4_method_3_code 44 = .ok (.lreturn, 1) := by decide +kernel
abbrev w_Quant_factorOf : List Cond := Cond.code y_Quant_factorOf prog_4_method_4_code 2 (some .int) :: wl
abbrev r_Quant_factorOf : Room := { frames := 0, cells := 0, slots := 0, locals := 0 }
set_option maxHeartbeats 4000000 in
set_option maxRecDepth 100000 in
theorem c_Quant_factorOf (l : Launch) (G : k_G) (sz : Nat) (r0 : Int) (hr0 : 0 ≤ r0 ∧ r0 < 32) : Met l y_Quant_factorOf w_Quant_factorOf r_Quant_factorOf (k_P G [.int (iv (r0))] [] sz) (vp_Si (fun r : Int32 => r = iv (facI r0))) 0 0 (fun _ => False) := by
  refine k_met (fun _ => vp_Si (fun r : Int32 => r = iv (facI r0))) (fun _ _ => False) (by decide) rfl (Nat.le_of_ble_eq_true rfl) (fun p e s m args below meth c ls A Q S hr hlk hnm hl hsz hP hK hD hS hA hT hQ => ?_)
  obtain ⟨hx, hb, hml, hown, hts⟩ := id S
  have hw : ∀ w ∈ wl, w.before args s = true := fun w h => hts w (List.mem_cons_of_mem _ h)
  have hl : lv_has ls 2 [(0, .int (iv (r0)))] := hl
  have h7 := p2_7 hr0
  refine lv_iconst (v := iv (1)) hx hb d_Quant_factorOf_0 rfl ?_
  refine lv_iload_n hx hb d_Quant_factorOf_1 rfl (lv_at hl 0 rfl) ?_
  refine lv_iconst (v := iv (2)) hx hb d_Quant_factorOf_2 rfl ?_
  refine k_ishrc 2 4 rfl (by decide) rfl hx hb d_Quant_factorOf_3 (by omega) ?_
  refine k_ishl hx hb d_Quant_factorOf_4 (by omega) ?_
  refine lv_istore_n hx hb d_Quant_factorOf_5 rfl hl (by decide) rfl (fun ls hl => ?_)
  have hl : lv_has ls 2 [(1, .int (iv (1 * 2 ^ (r0 / 4).toNat))), (0, .int (iv (r0)))] := hl
  refine lv_iload_n hx hb d_Quant_factorOf_6 rfl (lv_at hl 1 rfl) ?_
  refine lv_iconst (v := iv (4)) hx hb d_Quant_factorOf_7 rfl ?_
  refine k_irem hx hb d_Quant_factorOf_8 (by omega) (by omega) ?_
  have hv9 : r0 % 4 = 0 ∨ r0 % 4 = 1 ∨ r0 % 4 = 2 ∨ r0 % 4 = 3 := by omega
  rcases hv9 with hv9 | hv9 | hv9 | hv9
  · refine k_eqi (b := 0) hv9 ?_
    refine lv_tableIn (off := 27) (tgt := 36) hx hb d_Quant_factorOf_9 (by decide +kernel) (by decide +kernel) (by decide +kernel) (by decide) ?_
    refine lv_iconst (v := iv (4)) hx hb d_Quant_factorOf_36 rfl ?_
    refine lv_iload_n hx hb d_Quant_factorOf_37 rfl (lv_at hl 0 rfl) ?_
    refine k_imul hx hb d_Quant_factorOf_38 ?_
    exact k_iretR hx hb hr hlk hQ (by unfold facI; congr 1; (repeat' split) <;> omega) d_Quant_factorOf_39
  · refine k_eqi (b := 1) hv9 ?_
    refine lv_tableIn (off := 31) (tgt := 40) hx hb d_Quant_factorOf_9 (by decide +kernel) (by decide +kernel) (by decide +kernel) (by decide) ?_
    refine k_ldc (v := 503829) (n := 503829) hx hb hown (hw _ m1_145) (by decide +kernel) d_Quant_factorOf_40 ?_
    refine lv_iload_n hx hb d_Quant_factorOf_42 rfl (lv_at hl 0 rfl) ?_
    refine k_imul hx hb d_Quant_factorOf_43 ?_
    refine k_ldc (v := 52958) (n := 52958) hx hb hown (hw _ m1_146) (by decide +kernel) d_Quant_factorOf_44 ?_
    refine k_iadd hx hb d_Quant_factorOf_46 ?_
    refine k_ldc (v := 105917) (n := 105917) hx hb hown (hw _ m1_147) (by decide +kernel) d_Quant_factorOf_47 ?_
    refine k_idiv hx hb d_Quant_factorOf_49 (by omega) (by omega) ?_
    exact k_iretR hx hb hr hlk hQ (by unfold facI; congr 1; (repeat' split) <;> omega) d_Quant_factorOf_50
  · refine k_eqi (b := 2) hv9 ?_
    refine lv_tableIn (off := 42) (tgt := 51) hx hb d_Quant_factorOf_9 (by decide +kernel) (by decide +kernel) (by decide +kernel) (by decide) ?_
    refine k_ldc (v := 665857) (n := 665857) hx hb hown (hw _ m1_148) (by decide +kernel) d_Quant_factorOf_51 ?_
    refine lv_iload_n hx hb d_Quant_factorOf_53 rfl (lv_at hl 0 rfl) ?_
    refine k_imul hx hb d_Quant_factorOf_54 ?_
    refine k_ldc (v := 58854) (n := 58854) hx hb hown (hw _ m1_149) (by decide +kernel) d_Quant_factorOf_55 ?_
    refine k_iadd hx hb d_Quant_factorOf_57 ?_
    refine k_ldc (v := 117708) (n := 117708) hx hb hown (hw _ m1_150) (by decide +kernel) d_Quant_factorOf_58 ?_
    refine k_idiv hx hb d_Quant_factorOf_60 (by omega) (by omega) ?_
    exact k_iretR hx hb hr hlk hQ (by unfold facI; congr 1; (repeat' split) <;> omega) d_Quant_factorOf_61
  · refine k_eqi (b := 3) hv9 ?_
    refine lv_tableOut (tgt := 62) hx hb d_Quant_factorOf_9 (by decide +kernel) (by decide) ?_
    refine k_ldc (v := 440253) (n := 440253) hx hb hown (hw _ m1_151) (by decide +kernel) d_Quant_factorOf_62 ?_
    refine lv_iload_n hx hb d_Quant_factorOf_64 rfl (lv_at hl 0 rfl) ?_
    refine k_imul hx hb d_Quant_factorOf_65 ?_
    refine lv_sipush (v := iv (32722)) hx hb d_Quant_factorOf_66 rfl ?_
    refine k_iadd hx hb d_Quant_factorOf_69 ?_
    refine k_ldc (v := 65444) (n := 65444) hx hb hown (hw _ m1_152) (by decide +kernel) d_Quant_factorOf_70 ?_
    refine k_idiv hx hb d_Quant_factorOf_72 (by omega) (by omega) ?_
    exact k_iretR hx hb hr hlk hQ (by unfold facI; congr 1; (repeat' split) <;> omega) d_Quant_factorOf_73
abbrev w_Quant_numberOf : List Cond := Cond.code y_Quant_numberOf prog_4_method_2_code 5 (some .int) :: wl
abbrev r_Quant_numberOf : Room := { frames := 1, cells := 0, slots := 0, locals := 24 }
set_option maxHeartbeats 4000000 in
set_option maxRecDepth 100000 in
theorem c_Quant_numberOf (l : Launch) (G : k_G) (sz : Nat) (rQ rqf rqo : Nat) (r0 : Int) (c0 : Int64) (qf qo : Int → Int) (hr0 : 0 ≤ r0 ∧ r0 < 32) (hqf : 0 < qf r0 ∧ qf r0 < 2147483648) : Met l y_Quant_numberOf w_Quant_numberOf r_Quant_numberOf (k_P G [.ref rQ, .long (c0), .int (iv (r0))] [(rQ, .inr (2, [.ref rqf, .ref rqo])), (rqf, ai (gI G) 32 (qf)), (rqo, ai (gI G) 32 (qo))] sz) (vp_Si (fun r : Int32 => r = iv (nmC c0 (qf r0)))) 0 0 (fun _ => False) := by
  refine k_met (fun _ => vp_Si (fun r : Int32 => r = iv (nmC c0 (qf r0)))) (fun _ _ => False) (by decide) rfl (Nat.le_of_ble_eq_true rfl) (fun p e s m args below meth c ls A Q S hr hlk hnm hl hsz hP hK hD hS hA hT hQ => ?_)
  obtain ⟨hx, hb, hml, hown, hts⟩ := id S
  have hw : ∀ w ∈ wl, w.before args s = true := fun w h => hts w (List.mem_cons_of_mem _ h)
  have hl : lv_has ls 5 [(0, .ref rQ), (1, .long (c0)), (3, .int (iv (r0)))] := hl
  refine lv_ldc2 (v := 134217726) hx hb hown (hw _ m2_194) d_Quant_numberOf_0 ?_
  refine lv_ldc2 (v := 4) hx hb hown (hw _ m2_195) d_Quant_numberOf_3 ?_
  refine lv_lload_n hx hb d_Quant_numberOf_6 rfl (lv_at hl 1 rfl) ?_
  refine k_mabsl hx hb (by rw [hml]; exact hl.1.symm) hown (hw _ m2_196) (hw _ m2_197) (hw _ m1_8) (hw _ m2_198) (by decide) (Nat.le_of_ble_eq_true rfl) (by decide) (by decide) d_Quant_numberOf_7 ?_
  refine lv_lmul hx hb d_Quant_numberOf_10 ?_
  refine lv_aload_n hx hb d_Quant_numberOf_11 rfl (lv_at hl 0 rfl) ?_
  refine va_get (D := gD G) (ci := 2) (v := .ref rqf) (C := R_Quant) (T := F_Quant) (N := 2) hx hb hw in_Quant hown hK hP 0 rfl rfl 0 (by decide) (hw _ m1_153) (fun _ h => h) rfl d_Quant_numberOf_12 ?_
  refine lv_iload_n hx hb d_Quant_numberOf_15 rfl (lv_at hl 2 rfl) ?_
  refine k_ial hx hb hK hP 1 0 rfl rfl (by decide) (by omega) d_Quant_numberOf_16 ?_
  refine k_i2l hx hb d_Quant_numberOf_17 (by omega) ?_
  refine lv_ldiv hx hb d_Quant_numberOf_18 (lw_ne hqf) ?_
  refine k_mminl hx hb (by rw [hml]; exact hl.1.symm) hown (hw _ m2_199) (hw _ m2_65) (hw _ m1_8) (hw _ m2_66) (by decide) (Nat.le_of_ble_eq_true rfl) (by decide) (by decide) d_Quant_numberOf_19 ?_
  refine k_l2i hx hb d_Quant_numberOf_22 ?_
  refine lv_istore hx hb d_Quant_numberOf_23 hl (by decide) rfl (fun ls hl => ?_)
  have hl : lv_has ls 5 [(4, .int (iv ((mnL ((134217726 : Int64)) ((((4 : Int64)) * (abL c0)) / (lw (qf r0)))).toInt))), (0, .ref rQ), (1, .long (c0)), (3, .int (iv (r0)))] := hl
  refine lv_lload_n hx hb d_Quant_numberOf_25 rfl (lv_at hl 2 rfl) ?_
  refine lv_lconst (v := 0) hx hb d_Quant_numberOf_26 rfl ?_
  refine k_lge (tgt := 37) hx hb d_Quant_numberOf_27 d_Quant_numberOf_28 (by decide) (fun hc27 => ?_) (fun hc27 => ?_)
  · refine lv_iload hx hb d_Quant_numberOf_37 (lv_at hl 0 rfl) ?_
    exact k_iretR hx hb hr hlk hQ (by unfold nmC; first | rw [if_pos hc27] | rw [if_neg hc27]) d_Quant_numberOf_39
  · refine lv_iload hx hb d_Quant_numberOf_31 (lv_at hl 0 rfl) ?_
    refine k_ineg hx hb d_Quant_numberOf_33 ?_
    refine lv_goto (tgt := 39) hx hb d_Quant_numberOf_34 (by decide) ?_
    exact k_iretR hx hb hr hlk hQ (by unfold nmC; first | rw [if_pos hc27] | rw [if_neg hc27]) d_Quant_numberOf_39
abbrev w_Quant_valueOf : List Cond := Cond.code y_Quant_valueOf prog_4_method_3_code 5 (some .long) :: wl
abbrev r_Quant_valueOf : Room := { frames := 1, cells := 0, slots := 0, locals := 24 }
set_option maxHeartbeats 4000000 in
set_option maxRecDepth 100000 in
theorem c_Quant_valueOf (l : Launch) (G : k_G) (sz : Nat) (rQ rqf rqo : Nat) (v0 r0 : Int) (qf qo : Int → Int) (hr0 : 0 ≤ r0 ∧ r0 < 32) (hv0 : -134217726 ≤ v0 ∧ v0 ≤ 134217726) (hqf : 0 < qf r0 ∧ qf r0 < 2147483648) (hqo : 0 ≤ qo r0 ∧ qo r0 < 2147483648) : Met l y_Quant_valueOf w_Quant_valueOf r_Quant_valueOf (k_P G [.ref rQ, .int (iv (v0)), .int (iv (r0))] [(rQ, .inr (2, [.ref rqf, .ref rqo])), (rqf, ai (gI G) 32 (qf)), (rqo, ai (gI G) 32 (qo))] sz) (vp_Sl (fun r : Int64 => r = vlC v0 (qf r0) (qo r0))) 0 0 (fun _ => False) := by
  refine k_met (fun _ => vp_Sl (fun r : Int64 => r = vlC v0 (qf r0) (qo r0))) (fun _ _ => False) (by decide) rfl (Nat.le_of_ble_eq_true rfl) (fun p e s m args below meth c ls A Q S hr hlk hnm hl hsz hP hK hD hS hA hT hQ => ?_)
  obtain ⟨hx, hb, hml, hown, hts⟩ := id S
  have hw : ∀ w ∈ wl, w.before args s = true := fun w h => hts w (List.mem_cons_of_mem _ h)
  have hl : lv_has ls 5 [(0, .ref rQ), (1, .int (iv (v0))), (2, .int (iv (r0)))] := hl
  have hab : 0 ≤ absI v0 ∧ absI v0 ≤ 134217726 := by unfold absI; split <;> omega
  refine lv_iload_n hx hb d_Quant_valueOf_0 rfl (lv_at hl 1 rfl) ?_
  refine k_if_ne (tgt := 6) hx hb d_Quant_valueOf_1 (by decide) (by omega) (fun hc1 => ?_) (fun hc1 => ?_)
  · refine lv_iload_n hx hb d_Quant_valueOf_6 rfl (lv_at hl 1 rfl) ?_
    refine k_mabs hx hb (by rw [hml]; exact hl.1.symm) hown (hw _ m2_208) (hw _ m2_209) (hw _ m1_8) (hw _ m2_210) (by decide) (Nat.le_of_ble_eq_true rfl) (by decide) (by decide) (by omega) d_Quant_valueOf_7 ?_
    refine k_i2l hx hb d_Quant_valueOf_10 (by omega) ?_
    refine lv_aload_n hx hb d_Quant_valueOf_11 rfl (lv_at hl 0 rfl) ?_
    refine va_get (D := gD G) (ci := 2) (v := .ref rqf) (C := R_Quant) (T := F_Quant) (N := 2) hx hb hw in_Quant hown hK hP 0 rfl rfl 0 (by decide) (hw _ m1_153) (fun _ h => h) rfl d_Quant_valueOf_12 ?_
    refine lv_iload_n hx hb d_Quant_valueOf_15 rfl (lv_at hl 2 rfl) ?_
    refine k_ial hx hb hK hP 1 0 rfl rfl (by decide) (by omega) d_Quant_valueOf_16 ?_
    refine k_i2l hx hb d_Quant_valueOf_17 (by omega) ?_
    refine lv_lmul hx hb d_Quant_valueOf_18 ?_
    refine lv_aload_n hx hb d_Quant_valueOf_19 rfl (lv_at hl 0 rfl) ?_
    refine va_get (D := gD G) (ci := 2) (v := .ref rqo) (C := R_Quant) (T := F_Quant) (N := 2) hx hb hw in_Quant hown hK hP 0 rfl rfl 1 (by decide) (hw _ m1_154) (fun _ h => h) rfl d_Quant_valueOf_20 ?_
    refine lv_iload_n hx hb d_Quant_valueOf_23 rfl (lv_at hl 2 rfl) ?_
    refine k_ial hx hb hK hP 2 0 rfl rfl (by decide) (by omega) d_Quant_valueOf_24 ?_
    refine k_i2l hx hb d_Quant_valueOf_25 (by omega) ?_
    refine lv_ladd hx hb d_Quant_valueOf_26 ?_
    refine lv_ldc2 (v := 2) hx hb hown (hw _ m2_211) d_Quant_valueOf_27 ?_
    refine lv_ladd hx hb d_Quant_valueOf_30 ?_
    refine lv_iconst (v := iv (2)) hx hb d_Quant_valueOf_31 rfl ?_
    refine k_lshr hx hb d_Quant_valueOf_32 ?_
    refine lv_lstore_n hx hb d_Quant_valueOf_33 rfl hl (by decide) rfl (fun ls hl => ?_)
    have hl : lv_has ls 5 [(3, .long (shR ((((lw (absI v0)) * (lw (qf r0))) + (lw (qo r0))) + ((2 : Int64))) 2)), (0, .ref rQ), (1, .int (iv (v0))), (2, .int (iv (r0)))] := hl
    refine lv_iload_n hx hb d_Quant_valueOf_34 rfl (lv_at hl 2 rfl) ?_
    refine k_if_ge (tgt := 43) hx hb d_Quant_valueOf_35 (by decide) (by omega) (fun hc35 => ?_) (fun hc35 => ?_)
    · refine lv_lload_n hx hb d_Quant_valueOf_43 rfl (lv_at hl 0 rfl) ?_
      exact k_lretR hx hb hr hlk hQ (by unfold vlC; first | rw [if_pos (by omega)] | rw [if_neg (by omega), if_pos (by omega)] | rw [if_neg (by omega), if_neg (by omega)]) d_Quant_valueOf_44
    · refine lv_lload_n hx hb d_Quant_valueOf_38 rfl (lv_at hl 0 rfl) ?_
      refine lv_lneg hx hb d_Quant_valueOf_39 ?_
      refine lv_goto (tgt := 44) hx hb d_Quant_valueOf_40 (by decide) ?_
      exact k_lretR hx hb hr hlk hQ (by unfold vlC; first | rw [if_pos (by omega)] | rw [if_neg (by omega), if_pos (by omega)] | rw [if_neg (by omega), if_neg (by omega)]) d_Quant_valueOf_44
  · refine lv_lconst (v := 0) hx hb d_Quant_valueOf_4 rfl ?_
    exact k_lretR hx hb hr hlk hQ (by unfold vlC; first | rw [if_pos (by omega)] | rw [if_neg (by omega), if_pos (by omega)] | rw [if_neg (by omega), if_neg (by omega)]) d_Quant_valueOf_5
