/-! the least multiple; the rows of bands -/
def lmI (v n : Int) : Int := (v + n - 1) / n * n
theorem m2_54 : Cond.code y_X_within prog_1_method_21_code 3 (some .boolean) ∈ wl := wl_2 54 (by decide +kernel) (by decide +kernel)
theorem m1_84 : Cond.fieldLink "WaveletSlices$Layout" 18 "WaveletSlices$Layout" "bandCount" "I" ∈ wl := wl_1 84 (by decide +kernel) (by decide +kernel)
theorem m1_78 : Cond.fieldLink "WaveletSlices$Layout" 9 "WaveletSlices$Layout" "columns" "I" ∈ wl := wl_1 78 (by decide +kernel) (by decide +kernel)
theorem m1_88 : Cond.fieldLink "WaveletSlices$Layout" 31 "WaveletSlices$Layout" "high" "[I" ∈ wl := wl_1 88 (by decide +kernel) (by decide +kernel)
theorem m1_85 : Cond.fieldLink "WaveletSlices$Layout" 21 "WaveletSlices$Layout" "left" "[I" ∈ wl := wl_1 85 (by decide +kernel) (by decide +kernel)
theorem m1_81 : Cond.fieldLink "WaveletSlices$Layout" 15 "WaveletSlices$Layout" "rows" "I" ∈ wl := wl_1 81 (by decide +kernel) (by decide +kernel)
theorem m1_86 : Cond.fieldLink "WaveletSlices$Layout" 25 "WaveletSlices$Layout" "top" "[I" ∈ wl := wl_1 86 (by decide +kernel) (by decide +kernel)
theorem m1_87 : Cond.fieldLink "WaveletSlices$Layout" 28 "WaveletSlices$Layout" "wide" "[I" ∈ wl := wl_1 87 (by decide +kernel) (by decide +kernel)
theorem m1_1 : Cond.initialized "WaveletSlices" ∈ wl := wl_1 1 (by decide +kernel) (by decide +kernel)
theorem m2_53 : Cond.static y_X_within ∈ wl := wl_2 53 (by decide +kernel) (by decide +kernel)
theorem d_Layout_leastMultiple_0 : decode prog_3_method_5_code 0 = .ok (.iload_n 0, 1) := by decide +kernel
theorem d_Layout_leastMultiple_1 : decode prog_3_method_5_code 1 = .ok (.iload_n 1, 1) := by decide +kernel
theorem d_Layout_leastMultiple_2 : decode prog_3_method_5_code 2 = .ok (.iadd, 1) := by decide +kernel
theorem d_Layout_leastMultiple_3 : decode prog_3_method_5_code 3 = .ok (.iconst 1, 1) := by decide +kernel
theorem d_Layout_leastMultiple_4 : decode prog_3_method_5_code 4 = .ok (.isub, 1) := by decide +kernel
theorem d_Layout_leastMultiple_5 : decode prog_3_method_5_code 5 = .ok (.iload_n 1, 1) := by decide +kernel
theorem d_Layout_leastMultiple_6 : decode prog_3_method_5_code 6 = .ok (.idiv, 1) := by decide +kernel
theorem d_Layout_leastMultiple_7 : decode prog_3_method_5_code 7 = .ok (.iload_n 1, 1) := by decide +kernel
theorem d_Layout_leastMultiple_8 : decode prog_3_method_5_code 8 = .ok (.imul, 1) := by decide +kernel
theorem d_Layout_leastMultiple_9 : decode prog_3_method_5_code 9 = .ok (.ireturn, 1) := by decide +kernel
theorem d_Layout_has_0 : decode prog_3_method_2_code 0 = .ok (.iload_n 1, 1) := by decide +kernel
theorem d_Layout_has_1 : decode prog_3_method_2_code 1 = .ok (.iconst 0, 1) := by decide +kernel
theorem d_Layout_has_2 : decode prog_3_method_2_code 2 = .ok (.aload_n 0, 1) := by decide +kernel
theorem d_Layout_has_3 : decode prog_3_method_2_code 3 = .ok (.getfield 9, 3) := by decide +kernel
theorem d_Layout_has_6 : decode prog_3_method_2_code 6 = .ok (.iconst 1, 1) := by decide +kernel
theorem d_Layout_has_7 : decode prog_3_method_2_code 7 = .ok (.isub, 1) := by decide +kernel
theorem d_Layout_has_8 : decode prog_3_method_2_code 8 = .ok (.invokestatic 43, 3) := by decide +kernel
theorem d_Layout_has_11 : decode prog_3_method_2_code 11 = .ok (.ifCond .eq 21, 3) := by decide +kernel
theorem d_Layout_has_14 : decode prog_3_method_2_code 14 = .ok (.iload_n 2, 1) := by decide +kernel
theorem d_Layout_has_15 : decode prog_3_method_2_code 15 = .ok (.iconst 0, 1) := by decide +kernel
theorem d_Layout_has_16 : decode prog_3_method_2_code 16 = .ok (.aload_n 0, 1) := by decide +kernel
theorem d_Layout_has_17 : decode prog_3_method_2_code 17 = .ok (.getfield 15, 3) := by decide +kernel
theorem d_Layout_has_20 : decode prog_3_method_2_code 20 = .ok (.iconst 1, 1) := by decide +kernel
theorem d_Layout_has_21 : decode prog_3_method_2_code 21 = .ok (.isub, 1) := by decide +kernel
theorem d_Layout_has_22 : decode prog_3_method_2_code 22 = .ok (.invokestatic 43, 3) := by decide +kernel
theorem d_Layout_has_25 : decode prog_3_method_2_code 25 = .ok (.ifCond .eq 7, 3) := by decide +kernel
theorem d_Layout_has_28 : decode prog_3_method_2_code 28 = .ok (.iconst 1, 1) := by decide +kernel
theorem d_Layout_has_29 : decode prog_3_method_2_code 29 = .ok (.goto 4, 3) := by decide +kernel
theorem d_Layout_has_32 : decode prog_3_method_2_code 32 = .ok (.iconst 0, 1) := by decide +kernel
theorem d_Layout_has_33 : decode prog_3_method_2_code 33 = .ok (.ireturn, 1) := by decide +kernel
theorem d_Layout_addBand_0 : decode prog_3_method_6_code 0 = .ok (.aload_n 0, 1) := by decide +kernel
theorem d_Layout_addBand_1 : decode prog_3_method_6_code 1 = .ok (.getfield 21, 3) := by decide +kernel
theorem d_Layout_addBand_4 : decode prog_3_method_6_code 4 = .ok (.aload_n 0, 1) := by decide +kernel
theorem d_Layout_addBand_5 : decode prog_3_method_6_code 5 = .ok (.getfield 18, 3) := by decide +kernel
theorem d_Layout_addBand_8 : decode prog_3_method_6_code 8 = .ok (.iload_n 1, 1) := by decide +kernel
theorem d_Layout_addBand_9 : decode prog_3_method_6_code 9 = .ok (.iastore, 1) := by decide +kernel
theorem d_Layout_addBand_10 : decode prog_3_method_6_code 10 = .ok (.aload_n 0, 1) := by decide +kernel
theorem d_Layout_addBand_11 : decode prog_3_method_6_code 11 = .ok (.getfield 25, 3) := by decide +kernel
theorem d_Layout_addBand_14 : decode prog_3_method_6_code 14 = .ok (.aload_n 0, 1) := by decide +kernel
theorem d_Layout_addBand_15 : decode prog_3_method_6_code 15 = .ok (.getfield 18, 3) := by decide +kernel
theorem d_Layout_addBand_18 : decode prog_3_method_6_code 18 = .ok (.iload_n 2, 1) := by decide +kernel
theorem d_Layout_addBand_19 : decode prog_3_method_6_code 19 = .ok (.iastore, 1) := by decide +kernel
theorem d_Layout_addBand_20 : decode prog_3_method_6_code 20 = .ok (.aload_n 0, 1) := by decide +kernel
theorem d_Layout_addBand_21 : decode prog_3_method_6_code 21 = .ok (.getfield 28, 3) := by decide +kernel
theorem d_Layout_addBand_24 : decode prog_3_method_6_code 24 = .ok (.aload_n 0, 1) := by decide +kernel
theorem d_Layout_addBand_25 : decode prog_3_method_6_code 25 = .ok (.getfield 18, 3) := by decide +kernel
theorem d_Layout_addBand_28 : decode prog_3_method_6_code 28 = .ok (.iload_n 3, 1) := by decide +kernel
theorem d_Layout_addBand_29 : decode prog_3_method_6_code 29 = .ok (.iastore, 1) := by decide +kernel
theorem d_Layout_addBand_30 : decode prog_3_method_6_code 30 = .ok (.aload_n 0, 1) := by decide +kernel
theorem d_Layout_addBand_31 : decode prog_3_method_6_code 31 = .ok (.getfield 31, 3) := by decide +kernel
theorem d_Layout_addBand_34 : decode prog_3_method_6_code 34 = .ok (.aload_n 0, 1) := by decide +kernel
theorem d_Layout_addBand_35 : decode prog_3_method_6_code 35 = .ok (.getfield 18, 3) := by decide +kernel
theorem d_Layout_addBand_38 : decode prog_3_method_6_code 38 = .ok (.iload 4, 2) := by decide +kernel
theorem d_Layout_addBand_40 : decode prog_3_method_6_code 40 = .ok (.iastore, 1) := by decide +kernel
theorem d_Layout_addBand_41 : decode prog_3_method_6_code 41 = .ok (.aload_n 0, 1) := by decide +kernel
theorem d_Layout_addBand_42 : decode prog_3_method_6_code 42 = .ok (.dup, 1) := by decide +kernel
theorem d_Layout_addBand_43 : decode prog_3_method_6_code 43 = .ok (.getfield 18, 3) := by decide +kernel
theorem d_Layout_addBand_46 : decode prog_3_method_6_code 46 = .ok (.iconst 1, 1) := by decide +kernel
theorem d_Layout_addBand_47 : decode prog_3_method_6_code 47 = .ok (.iadd, 1) := by decide +kernel
theorem d_Layout_addBand_48 : decode prog_3_method_6_code 48 = .ok (.putfield 18, 3) := by decide +kernel
theorem d_Layout_addBand_51 : decode prog_3_method_6_code 51 = .ok (.return_, 1) := by decide +kernel
abbrev w_Layout_leastMultiple : List Cond := Cond.code y_Layout_leastMultiple prog_3_method_5_code 2 (some .int) :: wl
abbrev r_Layout_leastMultiple : Room := { frames := 0, cells := 0, slots := 0, locals := 0 }
set_option maxHeartbeats 4000000 in
set_option maxRecDepth 100000 in
theorem c_Layout_leastMultiple (l : Launch) (G : k_G) (sz : Nat) (v0 n0 : Int) (hv0 : 1 ≤ v0 ∧ v0 ≤ 16) (hn0 : 1 ≤ n0 ∧ n0 ≤ 8) : Met l y_Layout_leastMultiple w_Layout_leastMultiple r_Layout_leastMultiple (k_P G [.int (iv (v0)), .int (iv (n0))] [] sz) (vp_Si (fun r : Int32 => r = iv (lmI v0 n0))) 0 0 (fun _ => False) := by
  refine k_met (fun _ => vp_Si (fun r : Int32 => r = iv (lmI v0 n0))) (fun _ _ => False) (by decide) rfl (Nat.le_of_ble_eq_true rfl) (fun p e s m args below meth c ls A Q S hr hlk hnm hl hsz hP hK hD hS hA hT hQ => ?_)
  obtain ⟨hx, hb, hml, hown, hts⟩ := id S
  have hw : ∀ w ∈ wl, w.before args s = true := fun w h => hts w (List.mem_cons_of_mem _ h)
  have hl : lv_has ls 2 [(0, .int (iv (v0))), (1, .int (iv (n0)))] := hl
  refine lv_iload_n hx hb d_Layout_leastMultiple_0 rfl (lv_at hl 0 rfl) ?_
  refine lv_iload_n hx hb d_Layout_leastMultiple_1 rfl (lv_at hl 1 rfl) ?_
  refine k_iadd hx hb d_Layout_leastMultiple_2 ?_
  refine lv_iconst (v := iv (1)) hx hb d_Layout_leastMultiple_3 rfl ?_
  refine k_isub hx hb d_Layout_leastMultiple_4 ?_
  refine lv_iload_n hx hb d_Layout_leastMultiple_5 rfl (lv_at hl 1 rfl) ?_
  refine k_idiv hx hb d_Layout_leastMultiple_6 (by omega) (by omega) ?_
  refine lv_iload_n hx hb d_Layout_leastMultiple_7 rfl (lv_at hl 1 rfl) ?_
  refine k_imul hx hb d_Layout_leastMultiple_8 ?_
  exact k_iretR hx hb hr hlk hQ (rfl) d_Layout_leastMultiple_9
abbrev w_Layout_has : List Cond := Cond.code y_Layout_has prog_3_method_2_code 3 (some .boolean) :: wl
abbrev r_Layout_has : Room := { frames := 1, cells := 0, slots := 0, locals := 22 }
set_option maxHeartbeats 4000000 in
set_option maxRecDepth 100000 in
theorem c_Layout_has (l : Launch) (G : k_G) (sz : Nat) (rL rl rt rw rh rf rp rb : Nat) (x0 y0 cP cQ nb : Int) (h_x0 : -2147483648 ≤ x0 ∧ x0 < 2147483648) (h_y0 : -2147483648 ≤ y0 ∧ y0 < 2147483648) (hcP : 0 ≤ cP ∧ cP ≤ 16) (hcQ : 0 ≤ cQ ∧ cQ ≤ 16) : Met l y_Layout_has w_Layout_has r_Layout_has (k_P G [.ref rL, .int (iv (x0)), .int (iv (y0))] [(rL, .inr (1, [.int (iv (cP)), .int (iv (cQ)), .int (iv (nb)), .ref rl, .ref rt, .ref rw, .ref rh, .ref rf, .ref rp, .ref rb]))] sz) (vp_Si (fun r : Int32 => r = iv (bI ((0 ≤ x0 ∧ x0 ≤ cP - 1) ∧ 0 ≤ y0 ∧ y0 ≤ cQ - 1)))) 0 0 (fun _ => False) := by
  refine k_met (fun _ => vp_Si (fun r : Int32 => r = iv (bI ((0 ≤ x0 ∧ x0 ≤ cP - 1) ∧ 0 ≤ y0 ∧ y0 ≤ cQ - 1)))) (fun _ _ => False) (by decide) rfl (Nat.le_of_ble_eq_true rfl) (fun p e s m args below meth c ls A Q S hr hlk hnm hl hsz hP hK hD hS hA hT hQ => ?_)
  obtain ⟨hx, hb, hml, hown, hts⟩ := id S
  have hw : ∀ w ∈ wl, w.before args s = true := fun w h => hts w (List.mem_cons_of_mem _ h)
  have hl : lv_has ls 3 [(0, .ref rL), (1, .int (iv (x0))), (2, .int (iv (y0)))] := hl
  refine lv_iload_n hx hb d_Layout_has_0 rfl (lv_at hl 1 rfl) ?_
  refine lv_iconst (v := iv (0)) hx hb d_Layout_has_1 rfl ?_
  refine lv_aload_n hx hb d_Layout_has_2 rfl (lv_at hl 0 rfl) ?_
  refine va_get (D := gD G) (ci := 1) (v := .int (iv (cP))) (C := R_Layout) (T := F_Layout) (N := 10) hx hb hw in_Layout hown hK hP 0 rfl rfl 0 (by decide) (hw _ m1_78) (fun _ h => h) rfl d_Layout_has_3 ?_
  refine lv_iconst (v := iv (1)) hx hb d_Layout_has_6 rfl ?_
  refine k_isub hx hb d_Layout_has_7 ?_
  refine k_ciR (k_rsn S (c_X_within l G _ x0 0 (cP - 1) (by omega) (by omega) (by omega)) 3 m2_54 hT.2.2.2.2 m2_53 m1_1 (by decide +kernel) (by decide) rfl rfl (k_preS hK hP hD hS hA hT [] (by decide) rfl) rfl hl.1 rfl (Nat.le_of_ble_eq_true rfl) d_Layout_has_8 ⟨Nat.le_of_ble_eq_true rfl, Nat.le_of_ble_eq_true rfl⟩) (fun r8 h8 => ?_)
  subst h8
  refine k_ifb_eq (tgt := 32) hx hb d_Layout_has_11 (by decide) (fun hc11 => ?_) (fun hc11 => ?_)
  · refine lv_iconst (v := iv (0)) hx hb d_Layout_has_32 rfl ?_
    exact k_zretR hx hb hr hlk (by omega) hQ (by first | rw [bI_t (by omega)] | rw [bI_f (by omega)]) d_Layout_has_33
  · refine lv_iload_n hx hb d_Layout_has_14 rfl (lv_at hl 2 rfl) ?_
    refine lv_iconst (v := iv (0)) hx hb d_Layout_has_15 rfl ?_
    refine lv_aload_n hx hb d_Layout_has_16 rfl (lv_at hl 0 rfl) ?_
    refine va_get (D := gD G) (ci := 1) (v := .int (iv (cQ))) (C := R_Layout) (T := F_Layout) (N := 10) hx hb hw in_Layout hown hK hP 0 rfl rfl 1 (by decide) (hw _ m1_81) (fun _ h => h) rfl d_Layout_has_17 ?_
    refine lv_iconst (v := iv (1)) hx hb d_Layout_has_20 rfl ?_
    refine k_isub hx hb d_Layout_has_21 ?_
    refine k_ciR (k_rsn S (c_X_within l G _ y0 0 (cQ - 1) (by omega) (by omega) (by omega)) 3 m2_54 hT.2.2.2.2 m2_53 m1_1 (by decide +kernel) (by decide) rfl rfl (k_preS hK hP hD hS hA hT [] (by decide) rfl) rfl hl.1 rfl (Nat.le_of_ble_eq_true rfl) d_Layout_has_22 ⟨Nat.le_of_ble_eq_true rfl, Nat.le_of_ble_eq_true rfl⟩) (fun r22 h22 => ?_)
    subst h22
    refine k_ifb_eq (tgt := 32) hx hb d_Layout_has_25 (by decide) (fun hc25 => ?_) (fun hc25 => ?_)
    · refine lv_iconst (v := iv (0)) hx hb d_Layout_has_32 rfl ?_
      exact k_zretR hx hb hr hlk (by omega) hQ (by first | rw [bI_t (by omega)] | rw [bI_f (by omega)]) d_Layout_has_33
    · refine lv_iconst (v := iv (1)) hx hb d_Layout_has_28 rfl ?_
      refine lv_goto (tgt := 33) hx hb d_Layout_has_29 (by decide) ?_
      exact k_zretR hx hb hr hlk (by omega) hQ (by first | rw [bI_t (by omega)] | rw [bI_f (by omega)]) d_Layout_has_33
abbrev w_Layout_addBand : List Cond := Cond.code y_Layout_addBand prog_3_method_6_code 5 none :: wl
abbrev r_Layout_addBand : Room := { frames := 0, cells := 0, slots := 0, locals := 0 }
set_option maxHeartbeats 4000000 in
set_option maxRecDepth 100000 in
theorem c_Layout_addBand (l : Launch) (G : k_G) (sz : Nat) (rL rl rt rw rh rf rp rb : Nat) (x0 y0 w0 h0 cP cQ nb : Int) (gl gt gw gh : Int → Int) (hnb : 0 ≤ nb ∧ nb < 8) : Met l y_Layout_addBand w_Layout_addBand r_Layout_addBand (k_P G [.ref rL, .int (iv (x0)), .int (iv (y0)), .int (iv (w0)), .int (iv (h0))] [(rL, .inr (1, [.int (iv (cP)), .int (iv (cQ)), .int (iv (nb)), .ref rl, .ref rt, .ref rw, .ref rh, .ref rf, .ref rp, .ref rb])), (rl, ai (gI G) 8 (gl)), (rt, ai (gI G) 8 (gt)), (rw, ai (gI G) 8 (gw)), (rh, ai (gI G) 8 (gh))] sz) (qv G (fun u : Int × (Int → Int) × (Int → Int) × (Int → Int) × (Int → Int) => u = (nb + 1, up gl nb x0, up gt nb y0, up gw nb w0, up gh nb h0)) (fun u : Int × (Int → Int) × (Int → Int) × (Int → Int) × (Int → Int) => [(rL, .inr (1, [.int (iv (cP)), .int (iv (cQ)), .int (iv (u.1)), .ref rl, .ref rt, .ref rw, .ref rh, .ref rf, .ref rp, .ref rb])), (rl, ai (gI G) 8 (u.2.1)), (rt, ai (gI G) 8 (u.2.2.1)), (rw, ai (gI G) 8 (u.2.2.2.1)), (rh, ai (gI G) 8 (u.2.2.2.2))]) (va_A [(rL, .inr (1, [.int (iv (cP)), .int (iv (cQ)), .int (iv (nb)), .ref rl, .ref rt, .ref rw, .ref rh, .ref rf, .ref rp, .ref rb])), (rl, ai (gI G) 8 (gl)), (rt, ai (gI G) 8 (gt)), (rw, ai (gI G) 8 (gw)), (rh, ai (gI G) 8 (gh))] sz)) 0 0 (va_A [(rL, .inr (1, [.int (iv (cP)), .int (iv (cQ)), .int (iv (nb)), .ref rl, .ref rt, .ref rw, .ref rh, .ref rf, .ref rp, .ref rb])), (rl, ai (gI G) 8 (gl)), (rt, ai (gI G) 8 (gt)), (rw, ai (gI G) 8 (gw)), (rh, ai (gI G) 8 (gh))] sz) := by
  refine k_met (fun A => qv G (fun u : Int × (Int → Int) × (Int → Int) × (Int → Int) × (Int → Int) => u = (nb + 1, up gl nb x0, up gt nb y0, up gw nb w0, up gh nb h0)) (fun u : Int × (Int → Int) × (Int → Int) × (Int → Int) × (Int → Int) => [(rL, .inr (1, [.int (iv (cP)), .int (iv (cQ)), .int (iv (u.1)), .ref rl, .ref rt, .ref rw, .ref rh, .ref rf, .ref rp, .ref rb])), (rl, ai (gI G) 8 (u.2.1)), (rt, ai (gI G) 8 (u.2.2.1)), (rw, ai (gI G) 8 (u.2.2.2.1)), (rh, ai (gI G) 8 (u.2.2.2.2))]) A) (fun A => A) (by decide) rfl (Nat.le_of_ble_eq_true rfl) (fun p e s m args below meth c ls A Q S hr hlk hnm hl hsz hP hK hD hS hA hT hQ => ?_)
  obtain ⟨hx, hb, hml, hown, hts⟩ := id S
  have hw : ∀ w ∈ wl, w.before args s = true := fun w h => hts w (List.mem_cons_of_mem _ h)
  have hl : lv_has ls 5 [(0, .ref rL), (1, .int (iv (x0))), (2, .int (iv (y0))), (3, .int (iv (w0))), (4, .int (iv (h0)))] := hl
  refine lv_aload_n hx hb d_Layout_addBand_0 rfl (lv_at hl 0 rfl) ?_
  refine va_get (D := gD G) (ci := 1) (v := .ref rl) (C := R_Layout) (T := F_Layout) (N := 10) hx hb hw in_Layout hown hK hP 0 rfl rfl 3 (by decide) (hw _ m1_85) (fun _ h => h) rfl d_Layout_addBand_1 ?_
  refine lv_aload_n hx hb d_Layout_addBand_4 rfl (lv_at hl 0 rfl) ?_
  refine va_get (D := gD G) (ci := 1) (v := .int (iv (nb))) (C := R_Layout) (T := F_Layout) (N := 10) hx hb hw in_Layout hown hK hP 0 rfl rfl 2 (by decide) (hw _ m1_84) (fun _ h => h) rfl d_Layout_addBand_5 ?_
  refine lv_iload_n hx hb d_Layout_addBand_8 rfl (lv_at hl 1 rfl) ?_
  refine k_ias hx hb hK hP hD hS 1 0 rfl rfl (by decide) (by omega) d_Layout_addBand_9 (fun H locs hP hD hS => ?_)
  have hP : va_P (gD G) classes [(rL, .inr (1, [.int (iv (cP)), .int (iv (cQ)), .int (iv (nb)), .ref rl, .ref rt, .ref rw, .ref rh, .ref rf, .ref rp, .ref rb])), (rl, ai (gI G) 8 (up gl nb x0)), (rt, ai (gI G) 8 (gt)), (rw, ai (gI G) 8 (gw)), (rh, ai (gI G) 8 (gh))] H := hP
  have hD : va_D A [(rL, .inr (1, [.int (iv (cP)), .int (iv (cQ)), .int (iv (nb)), .ref rl, .ref rt, .ref rw, .ref rh, .ref rf, .ref rp, .ref rb])), (rl, ai (gI G) 8 (up gl nb x0)), (rt, ai (gI G) 8 (gt)), (rw, ai (gI G) 8 (gw)), (rh, ai (gI G) 8 (gh))] := hD
  refine lv_aload_n hx hb d_Layout_addBand_10 rfl (lv_at hl 0 rfl) ?_
  refine va_get (D := gD G) (ci := 1) (v := .ref rt) (C := R_Layout) (T := F_Layout) (N := 10) hx hb hw in_Layout hown hK hP 0 rfl rfl 4 (by decide) (hw _ m1_86) (fun _ h => h) rfl d_Layout_addBand_11 ?_
  refine lv_aload_n hx hb d_Layout_addBand_14 rfl (lv_at hl 0 rfl) ?_
  refine va_get (D := gD G) (ci := 1) (v := .int (iv (nb))) (C := R_Layout) (T := F_Layout) (N := 10) hx hb hw in_Layout hown hK hP 0 rfl rfl 2 (by decide) (hw _ m1_84) (fun _ h => h) rfl d_Layout_addBand_15 ?_
  refine lv_iload_n hx hb d_Layout_addBand_18 rfl (lv_at hl 2 rfl) ?_
  refine k_ias hx hb hK hP hD hS 2 0 rfl rfl (by decide) (by omega) d_Layout_addBand_19 (fun H locs hP hD hS => ?_)
  have hP : va_P (gD G) classes [(rL, .inr (1, [.int (iv (cP)), .int (iv (cQ)), .int (iv (nb)), .ref rl, .ref rt, .ref rw, .ref rh, .ref rf, .ref rp, .ref rb])), (rl, ai (gI G) 8 (up gl nb x0)), (rt, ai (gI G) 8 (up gt nb y0)), (rw, ai (gI G) 8 (gw)), (rh, ai (gI G) 8 (gh))] H := hP
  have hD : va_D A [(rL, .inr (1, [.int (iv (cP)), .int (iv (cQ)), .int (iv (nb)), .ref rl, .ref rt, .ref rw, .ref rh, .ref rf, .ref rp, .ref rb])), (rl, ai (gI G) 8 (up gl nb x0)), (rt, ai (gI G) 8 (up gt nb y0)), (rw, ai (gI G) 8 (gw)), (rh, ai (gI G) 8 (gh))] := hD
  refine lv_aload_n hx hb d_Layout_addBand_20 rfl (lv_at hl 0 rfl) ?_
  refine va_get (D := gD G) (ci := 1) (v := .ref rw) (C := R_Layout) (T := F_Layout) (N := 10) hx hb hw in_Layout hown hK hP 0 rfl rfl 5 (by decide) (hw _ m1_87) (fun _ h => h) rfl d_Layout_addBand_21 ?_
  refine lv_aload_n hx hb d_Layout_addBand_24 rfl (lv_at hl 0 rfl) ?_
  refine va_get (D := gD G) (ci := 1) (v := .int (iv (nb))) (C := R_Layout) (T := F_Layout) (N := 10) hx hb hw in_Layout hown hK hP 0 rfl rfl 2 (by decide) (hw _ m1_84) (fun _ h => h) rfl d_Layout_addBand_25 ?_
  refine lv_iload_n hx hb d_Layout_addBand_28 rfl (lv_at hl 3 rfl) ?_
  refine k_ias hx hb hK hP hD hS 3 0 rfl rfl (by decide) (by omega) d_Layout_addBand_29 (fun H locs hP hD hS => ?_)
  have hP : va_P (gD G) classes [(rL, .inr (1, [.int (iv (cP)), .int (iv (cQ)), .int (iv (nb)), .ref rl, .ref rt, .ref rw, .ref rh, .ref rf, .ref rp, .ref rb])), (rl, ai (gI G) 8 (up gl nb x0)), (rt, ai (gI G) 8 (up gt nb y0)), (rw, ai (gI G) 8 (up gw nb w0)), (rh, ai (gI G) 8 (gh))] H := hP
  have hD : va_D A [(rL, .inr (1, [.int (iv (cP)), .int (iv (cQ)), .int (iv (nb)), .ref rl, .ref rt, .ref rw, .ref rh, .ref rf, .ref rp, .ref rb])), (rl, ai (gI G) 8 (up gl nb x0)), (rt, ai (gI G) 8 (up gt nb y0)), (rw, ai (gI G) 8 (up gw nb w0)), (rh, ai (gI G) 8 (gh))] := hD
  refine lv_aload_n hx hb d_Layout_addBand_30 rfl (lv_at hl 0 rfl) ?_
  refine va_get (D := gD G) (ci := 1) (v := .ref rh) (C := R_Layout) (T := F_Layout) (N := 10) hx hb hw in_Layout hown hK hP 0 rfl rfl 6 (by decide) (hw _ m1_88) (fun _ h => h) rfl d_Layout_addBand_31 ?_
  refine lv_aload_n hx hb d_Layout_addBand_34 rfl (lv_at hl 0 rfl) ?_
  refine va_get (D := gD G) (ci := 1) (v := .int (iv (nb))) (C := R_Layout) (T := F_Layout) (N := 10) hx hb hw in_Layout hown hK hP 0 rfl rfl 2 (by decide) (hw _ m1_84) (fun _ h => h) rfl d_Layout_addBand_35 ?_
  refine lv_iload hx hb d_Layout_addBand_38 (lv_at hl 4 rfl) ?_
  refine k_ias hx hb hK hP hD hS 4 0 rfl rfl (by decide) (by omega) d_Layout_addBand_40 (fun H locs hP hD hS => ?_)
  have hP : va_P (gD G) classes [(rL, .inr (1, [.int (iv (cP)), .int (iv (cQ)), .int (iv (nb)), .ref rl, .ref rt, .ref rw, .ref rh, .ref rf, .ref rp, .ref rb])), (rl, ai (gI G) 8 (up gl nb x0)), (rt, ai (gI G) 8 (up gt nb y0)), (rw, ai (gI G) 8 (up gw nb w0)), (rh, ai (gI G) 8 (up gh nb h0))] H := hP
  have hD : va_D A [(rL, .inr (1, [.int (iv (cP)), .int (iv (cQ)), .int (iv (nb)), .ref rl, .ref rt, .ref rw, .ref rh, .ref rf, .ref rp, .ref rb])), (rl, ai (gI G) 8 (up gl nb x0)), (rt, ai (gI G) 8 (up gt nb y0)), (rw, ai (gI G) 8 (up gw nb w0)), (rh, ai (gI G) 8 (up gh nb h0))] := hD
  refine lv_aload_n hx hb d_Layout_addBand_41 rfl (lv_at hl 0 rfl) ?_
  refine lv_dup hx hb d_Layout_addBand_42 rfl ?_
  refine va_get (D := gD G) (ci := 1) (v := .int (iv (nb))) (C := R_Layout) (T := F_Layout) (N := 10) hx hb hw in_Layout hown hK hP 0 rfl rfl 2 (by decide) (hw _ m1_84) (fun _ h => h) rfl d_Layout_addBand_43 ?_
  refine lv_iconst (v := iv (1)) hx hb d_Layout_addBand_46 rfl ?_
  refine k_iadd hx hb d_Layout_addBand_47 ?_
  refine va_put (D := gD G) (ci := 1) (v := .int (iv (nb + 1))) (ty := .int) (C := R_Layout) (T := F_Layout) (N := 10) hx hb hw in_Layout t_Layout t_Layout_ok n_Layout hown hK hP hD hS 0 rfl rfl 2 (by decide) (hw _ m1_84) (fun _ h => h) rfl (by decide +kernel) rfl rfl (Nat.le_of_ble_eq_true rfl) d_Layout_addBand_48 (fun H locs hP hD hS => ?_)
  have hP : va_P (gD G) classes [(rL, .inr (1, [.int (iv (cP)), .int (iv (cQ)), .int (iv (nb + 1)), .ref rl, .ref rt, .ref rw, .ref rh, .ref rf, .ref rp, .ref rb])), (rl, ai (gI G) 8 (up gl nb x0)), (rt, ai (gI G) 8 (up gt nb y0)), (rw, ai (gI G) 8 (up gw nb w0)), (rh, ai (gI G) 8 (up gh nb h0))] H := hP
  have hD : va_D A [(rL, .inr (1, [.int (iv (cP)), .int (iv (cQ)), .int (iv (nb + 1)), .ref rl, .ref rt, .ref rw, .ref rh, .ref rf, .ref rp, .ref rb])), (rl, ai (gI G) 8 (up gl nb x0)), (rt, ai (gI G) 8 (up gt nb y0)), (rw, ai (gI G) 8 (up gw nb w0)), (rh, ai (gI G) 8 (up gh nb h0))] := hD
  exact k_vret hx hb hr hlk hQ ((nb + 1, up gl nb x0, up gt nb y0, up gw nb w0, up gh nb h0)) (rfl) hP hD hS d_Layout_addBand_51
