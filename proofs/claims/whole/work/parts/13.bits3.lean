theorem ptN_a {en v : Int} {x y : Int × (Int → Int)} (hy : y = it (ptg en (absI v + 1) (lg (absI v + 1))) 0 (lg (absI v + 1)) x) (h1 : lg (absI v + 1) < 26) (h2 : v = 0) : ptN en v x = pt en 1 y := by
  unfold ptN; simp only [← hy, if_pos h1, if_pos h2]
theorem ptN_b {en v : Int} {x y : Int × (Int → Int)} (hy : y = it (ptg en (absI v + 1) (lg (absI v + 1))) 0 (lg (absI v + 1)) x) (h1 : lg (absI v + 1) < 26) (h2 : v < 0) : ptN en v x = pt en 1 (pt en 1 y) := by
  unfold ptN; simp only [← hy, if_pos h1, if_pos h2, if_neg (show ¬ v = 0 by omega)]
theorem ptN_c {en v : Int} {x y : Int × (Int → Int)} (hy : y = it (ptg en (absI v + 1) (lg (absI v + 1))) 0 (lg (absI v + 1)) x) (h1 : lg (absI v + 1) < 26) (h2 : 0 < v) : ptN en v x = pt en 0 (pt en 1 y) := by
  unfold ptN; simp only [← hy, if_pos h1, if_neg (show ¬ v < 0 by omega), if_neg (show ¬ v = 0 by omega)]
theorem ptN_d {en v : Int} {x y : Int × (Int → Int)} (hy : y = it (ptg en (absI v + 1) (lg (absI v + 1))) 0 (lg (absI v + 1)) x) (h1 : ¬ lg (absI v + 1) < 26) (h2 : v = 0) : ptN en v x = y := by
  unfold ptN; simp only [← hy, if_neg h1, if_pos h2]
theorem ptN_e {en v : Int} {x y : Int × (Int → Int)} (hy : y = it (ptg en (absI v + 1) (lg (absI v + 1))) 0 (lg (absI v + 1)) x) (h1 : ¬ lg (absI v + 1) < 26) (h2 : v < 0) : ptN en v x = pt en 1 y := by
  unfold ptN; simp only [← hy, if_neg h1, if_pos h2, if_neg (show ¬ v = 0 by omega)]
theorem ptN_f {en v : Int} {x y : Int × (Int → Int)} (hy : y = it (ptg en (absI v + 1) (lg (absI v + 1))) 0 (lg (absI v + 1)) x) (h1 : ¬ lg (absI v + 1) < 26) (h2 : 0 < v) : ptN en v x = pt en 0 y := by
  unfold ptN; simp only [← hy, if_neg h1, if_neg (show ¬ v < 0 by omega), if_neg (show ¬ v = 0 by omega)]
theorem d_Bits_putNumber_0 : decode prog_2_method_7_code 0 = .ok (.iload_n 1, 1) := by decide +kernel
theorem d_Bits_putNumber_1 : decode prog_2_method_7_code 1 = .ok (.invokestatic 28, 3) := by decide +kernel
theorem d_Bits_putNumber_4 : decode prog_2_method_7_code 4 = .ok (.iconst 1, 1) := by decide +kernel
theorem d_Bits_putNumber_5 : decode prog_2_method_7_code 5 = .ok (.iadd, 1) := by decide +kernel
theorem d_Bits_putNumber_6 : decode prog_2_method_7_code 6 = .ok (.istore_n 2, 1) := by decide +kernel
theorem d_Bits_putNumber_7 : decode prog_2_method_7_code 7 = .ok (.iload_n 2, 1) := by decide +kernel
theorem d_Bits_putNumber_8 : decode prog_2_method_7_code 8 = .ok (.invokestatic 34, 3) := by decide +kernel
theorem d_Bits_putNumber_11 : decode prog_2_method_7_code 11 = .ok (.istore_n 3, 1) := by decide +kernel
theorem d_Bits_putNumber_12 : decode prog_2_method_7_code 12 = .ok (.iload_n 3, 1) := by decide +kernel
theorem d_Bits_putNumber_13 : decode prog_2_method_7_code 13 = .ok (.iconst 1, 1) := by decide +kernel
theorem d_Bits_putNumber_14 : decode prog_2_method_7_code 14 = .ok (.isub, 1) := by decide +kernel
theorem d_Bits_putNumber_15 : decode prog_2_method_7_code 15 = .ok (.istore 4, 2) := by decide +kernel
theorem d_Bits_putNumber_17 : decode prog_2_method_7_code 17 = .ok (.iload 4, 2) := by decide +kernel
theorem d_Bits_putNumber_19 : decode prog_2_method_7_code 19 = .ok (.ifCond .lt 24, 3) := by decide +kernel
theorem d_Bits_putNumber_22 : decode prog_2_method_7_code 22 = .ok (.aload_n 0, 1) := by decide +kernel
theorem d_Bits_putNumber_23 : decode prog_2_method_7_code 23 = .ok (.iconst 0, 1) := by decide +kernel
theorem d_Bits_putNumber_24 : decode prog_2_method_7_code 24 = .ok (.invokevirtual 20, 3) := by decide +kernel
theorem d_Bits_putNumber_27 : decode prog_2_method_7_code 27 = .ok (.aload_n 0, 1) := by decide +kernel
theorem d_Bits_putNumber_28 : decode prog_2_method_7_code 28 = .ok (.iload_n 2, 1) := by decide +kernel
theorem d_Bits_putNumber_29 : decode prog_2_method_7_code 29 = .ok (.iload 4, 2) := by decide +kernel
theorem d_Bits_putNumber_31 : decode prog_2_method_7_code 31 = .ok (.ishr, 1) := by decide +kernel
theorem d_Bits_putNumber_32 : decode prog_2_method_7_code 32 = .ok (.iconst 1, 1) := by decide +kernel
theorem d_Bits_putNumber_33 : decode prog_2_method_7_code 33 = .ok (.iand, 1) := by decide +kernel
theorem d_Bits_putNumber_34 : decode prog_2_method_7_code 34 = .ok (.invokevirtual 20, 3) := by decide +kernel
theorem d_Bits_putNumber_37 : decode prog_2_method_7_code 37 = .ok (.iinc 4 (-1), 3) := by decide +kernel
theorem d_Bits_putNumber_40 : decode prog_2_method_7_code 40 = .ok (.goto (-23), 3) := by decide +kernel
theorem d_Bits_putNumber_43 : decode prog_2_method_7_code 43 = .ok (.iload_n 3, 1) := by decide +kernel
theorem d_Bits_putNumber_44 : decode prog_2_method_7_code 44 = .ok (.bipush 26, 2) := by decide +kernel
theorem d_Bits_putNumber_46 : decode prog_2_method_7_code 46 = .ok (.if_icmp .ge 8, 3) := by decide +kernel
theorem d_Bits_putNumber_49 : decode prog_2_method_7_code 49 = .ok (.aload_n 0, 1) := by decide +kernel
theorem d_Bits_putNumber_50 : decode prog_2_method_7_code 50 = .ok (.iconst 1, 1) := by decide +kernel
theorem d_Bits_putNumber_51 : decode prog_2_method_7_code 51 = .ok (.invokevirtual 20, 3) := by decide +kernel
theorem d_Bits_putNumber_54 : decode prog_2_method_7_code 54 = .ok (.iload_n 1, 1) := by decide +kernel
theorem d_Bits_putNumber_55 : decode prog_2_method_7_code 55 = .ok (.ifCond .eq 16, 3) := by decide +kernel
theorem d_Bits_putNumber_58 : decode prog_2_method_7_code 58 = .ok (.aload_n 0, 1) := by decide +kernel
theorem d_Bits_putNumber_59 : decode prog_2_method_7_code 59 = .ok (.iload_n 1, 1) := by decide +kernel
theorem d_Bits_putNumber_60 : decode prog_2_method_7_code 60 = .ok (.ifCond .ge 7, 3) := by decide +kernel
theorem d_Bits_putNumber_63 : decode prog_2_method_7_code 63 = .ok (.iconst 1, 1) := by decide +kernel
theorem d_Bits_putNumber_64 : decode prog_2_method_7_code 64 = .ok (.goto 4, 3) := by decide +kernel
theorem d_Bits_putNumber_67 : decode prog_2_method_7_code 67 = .ok (.iconst 0, 1) := by decide +kernel
theorem d_Bits_putNumber_68 : decode prog_2_method_7_code 68 = .ok (.invokevirtual 20, 3) := by decide +kernel
theorem d_Bits_putNumber_71 : decode prog_2_method_7_code 71 = .ok (.return_, 1) := by decide +kernel
theorem d_Bits_takeNumber_0 : decode prog_2_method_8_code 0 = .ok (.iconst 1, 1) := by decide +kernel
theorem d_Bits_takeNumber_1 : decode prog_2_method_8_code 1 = .ok (.istore_n 1, 1) := by decide +kernel
theorem d_Bits_takeNumber_2 : decode prog_2_method_8_code 2 = .ok (.iconst 0, 1) := by decide +kernel
theorem d_Bits_takeNumber_3 : decode prog_2_method_8_code 3 = .ok (.istore_n 2, 1) := by decide +kernel
theorem d_Bits_takeNumber_4 : decode prog_2_method_8_code 4 = .ok (.iload_n 2, 1) := by decide +kernel
theorem d_Bits_takeNumber_5 : decode prog_2_method_8_code 5 = .ok (.bipush 26, 2) := by decide +kernel
theorem d_Bits_takeNumber_7 : decode prog_2_method_8_code 7 = .ok (.if_icmp .ge 29, 3) := by decide +kernel
theorem d_Bits_takeNumber_10 : decode prog_2_method_8_code 10 = .ok (.aload_n 0, 1) := by decide +kernel
theorem d_Bits_takeNumber_11 : decode prog_2_method_8_code 11 = .ok (.invokevirtual 24, 3) := by decide +kernel
theorem d_Bits_takeNumber_14 : decode prog_2_method_8_code 14 = .ok (.iconst 1, 1) := by decide +kernel
theorem d_Bits_takeNumber_15 : decode prog_2_method_8_code 15 = .ok (.if_icmp .ne 6, 3) := by decide +kernel
theorem d_Bits_takeNumber_18 : decode prog_2_method_8_code 18 = .ok (.goto 18, 3) := by decide +kernel
theorem d_Bits_takeNumber_21 : decode prog_2_method_8_code 21 = .ok (.iconst 2, 1) := by decide +kernel
theorem d_Bits_takeNumber_22 : decode prog_2_method_8_code 22 = .ok (.iload_n 1, 1) := by decide +kernel
theorem d_Bits_takeNumber_23 : decode prog_2_method_8_code 23 = .ok (.imul, 1) := by decide +kernel
theorem d_Bits_takeNumber_24 : decode prog_2_method_8_code 24 = .ok (.aload_n 0, 1) := by decide +kernel
theorem d_Bits_takeNumber_25 : decode prog_2_method_8_code 25 = .ok (.invokevirtual 24, 3) := by decide +kernel
theorem d_Bits_takeNumber_28 : decode prog_2_method_8_code 28 = .ok (.iadd, 1) := by decide +kernel
theorem d_Bits_takeNumber_29 : decode prog_2_method_8_code 29 = .ok (.istore_n 1, 1) := by decide +kernel
theorem d_Bits_takeNumber_30 : decode prog_2_method_8_code 30 = .ok (.iinc 2 1, 3) := by decide +kernel
theorem d_Bits_takeNumber_33 : decode prog_2_method_8_code 33 = .ok (.goto (-29), 3) := by decide +kernel
theorem d_Bits_takeNumber_36 : decode prog_2_method_8_code 36 = .ok (.iload_n 1, 1) := by decide +kernel
theorem d_Bits_takeNumber_37 : decode prog_2_method_8_code 37 = .ok (.iconst 1, 1) := by decide +kernel
theorem d_Bits_takeNumber_38 : decode prog_2_method_8_code 38 = .ok (.if_icmp .ne 5, 3) := by decide +kernel
theorem d_Bits_takeNumber_41 : decode prog_2_method_8_code 41 = .ok (.iconst 0, 1) := by decide +kernel
theorem d_Bits_takeNumber_42 : decode prog_2_method_8_code 42 = .ok (.ireturn, 1) := by decide +kernel
theorem d_Bits_takeNumber_43 : decode prog_2_method_8_code 43 = .ok (.aload_n 0, 1) := by decide +kernel
theorem d_Bits_takeNumber_44 : decode prog_2_method_8_code 44 = .ok (.invokevirtual 24, 3) := by decide +kernel
theorem d_Bits_takeNumber_47 : decode prog_2_method_8_code 47 = .ok (.iconst 1, 1) := by decide +kernel
theorem d_Bits_takeNumber_48 : decode prog_2_method_8_code 48 = .ok (.if_icmp .ne 9, 3) := by decide +kernel
theorem d_Bits_takeNumber_51 : decode prog_2_method_8_code 51 = .ok (.iconst 1, 1) := by decide +kernel
theorem d_Bits_takeNumber_52 : decode prog_2_method_8_code 52 = .ok (.iload_n 1, 1) := by decide +kernel
theorem d_Bits_takeNumber_53 : decode prog_2_method_8_code 53 = .ok (.isub, 1) := by decide +kernel
theorem d_Bits_takeNumber_54 : decode prog_2_method_8_code 54 = .ok (.goto 6, 3) := by decide +kernel
theorem d_Bits_takeNumber_57 : decode prog_2_method_8_code 57 = .ok (.iload_n 1, 1) := by decide +kernel
theorem d_Bits_takeNumber_58 : decode prog_2_method_8_code 58 = .ok (.iconst 1, 1) := by decide +kernel
theorem d_Bits_takeNumber_59 : decode prog_2_method_8_code 59 = .ok (.isub, 1) := by decide +kernel
theorem d_Bits_takeNumber_60 : decode prog_2_method_8_code 60 = .ok (.ireturn, 1) := by decide +kernel
abbrev w_Bits_putNumber : List Cond := Cond.code y_Bits_putNumber prog_2_method_7_code 5 none :: wl
abbrev r_Bits_putNumber : Room := { frames := 2, cells := 0, slots := 0, locals := 41 }
set_option maxHeartbeats 4000000 in
set_option maxRecDepth 100000 in
theorem c_Bits_putNumber (l : Launch) (G : k_G) (sz : Nat) (rB rst : Nat) (v0 fa fe : Int) (g : Int → Int) (hfa : 0 ≤ fa ∧ fa ≤ 16384) (hfe : 0 ≤ fe ∧ fe ≤ 16384) (hv0 : -134217726 ≤ v0 ∧ v0 ≤ 134217726) : Met l y_Bits_putNumber w_Bits_putNumber r_Bits_putNumber (k_P G [.ref rB, .int (iv (v0))] [(rB, .inr (0, [.ref rst, .int (iv (fa)), .int (iv (fe))])), (rst, ai (gI G) 2048 (g))] sz) (qv G (fun u : Int × (Int → Int) => u = ptN fe v0 (fa, g)) (fun u : Int × (Int → Int) => [(rB, .inr (0, [.ref rst, .int (iv (u.1)), .int (iv (fe))])), (rst, ai (gI G) 2048 (u.2))]) (va_A [(rB, .inr (0, [.ref rst, .int (iv (fa)), .int (iv (fe))])), (rst, ai (gI G) 2048 (g))] sz)) 0 0 (va_A [(rB, .inr (0, [.ref rst, .int (iv (fa)), .int (iv (fe))])), (rst, ai (gI G) 2048 (g))] sz) := by
  refine k_met (fun A => qv G (fun u : Int × (Int → Int) => u = ptN fe v0 (fa, g)) (fun u : Int × (Int → Int) => [(rB, .inr (0, [.ref rst, .int (iv (u.1)), .int (iv (fe))])), (rst, ai (gI G) 2048 (u.2))]) A) (fun A => A) (by decide) rfl (Nat.le_of_ble_eq_true rfl) (fun p e s m args below meth c ls A Q S hr hlk hnm hl hsz hP hK hD hS hA hT hQ => ?_)
  obtain ⟨hx, hb, hml, hown, hts⟩ := id S
  have hw : ∀ w ∈ wl, w.before args s = true := fun w h => hts w (List.mem_cons_of_mem _ h)
  have hl : lv_has ls 5 [(0, .ref rB), (1, .int (iv (v0)))] := hl
  have hab : 0 ≤ absI v0 ∧ absI v0 ≤ 134217726 := by unfold absI; split <;> omega
  have hlg := lg_r (i := absI v0 + 1) 27 134217728 (by decide) (by omega) (by omega)
  refine lv_iload_n hx hb d_Bits_putNumber_0 rfl (lv_at hl 1 rfl) ?_
  refine k_mabs hx hb (by rw [hml]; exact hl.1.symm) hown (hw _ m2_222) (hw _ m2_209) (hw _ m1_8) (hw _ m2_210) (by decide) (Nat.le_of_ble_eq_true rfl) (by decide) (by decide) (by omega) d_Bits_putNumber_1 ?_
  refine lv_iconst (v := iv (1)) hx hb d_Bits_putNumber_4 rfl ?_
  refine k_iadd hx hb d_Bits_putNumber_5 ?_
  refine lv_istore_n hx hb d_Bits_putNumber_6 rfl hl (by decide) rfl (fun ls hl => ?_)
  have hl : lv_has ls 5 [(2, .int (iv ((absI v0) + 1))), (0, .ref rB), (1, .int (iv (v0)))] := hl
  refine lv_iload_n hx hb d_Bits_putNumber_7 rfl (lv_at hl 0 rfl) ?_
  refine k_ciR (k_rs S (c_Bits_digitsAfterFirst l G _ ((absI v0) + 1) (by omega)) 1 m2_225 m2_223 m2_224 m1_7 (by decide +kernel) (by decide) rfl rfl (k_preS hK hP hD hS hA hT [] (by decide) rfl) rfl hl.1 rfl (Nat.le_of_ble_eq_true rfl) d_Bits_putNumber_8 ⟨Nat.le_of_ble_eq_true rfl, Nat.le_of_ble_eq_true rfl⟩) (fun r8 h8 => ?_)
  subst h8
  refine k_nmi (fun k0 hk0 => ?_)
  refine lv_istore_n hx hb d_Bits_putNumber_11 rfl hl (by decide) rfl (fun ls hl => ?_)
  have hl : lv_has ls 5 [(3, .int (iv (k0))), (2, .int (iv ((absI v0) + 1))), (0, .ref rB), (1, .int (iv (v0)))] := hl
  refine lv_iload_n hx hb d_Bits_putNumber_12 rfl (lv_at hl 0 rfl) ?_
  refine lv_iconst (v := iv (1)) hx hb d_Bits_putNumber_13 rfl ?_
  refine k_isub hx hb d_Bits_putNumber_14 ?_
  refine lv_istore hx hb d_Bits_putNumber_15 hl (by decide) rfl (fun ls hl => ?_)
  have hl : lv_has ls 5 [(4, .int (iv (k0 - 1))), (3, .int (iv (k0))), (2, .int (iv ((absI v0) + 1))), (0, .ref rB), (1, .int (iv (v0)))] := hl
  refine lo_dn (P := fun i => ∀ (ls : Array Slot) (H : Heap) (locs : List Loc) (fa1 : Int) (g1 : Int → Int), lv_has ls 5 [(0, .ref rB), (1, .int (iv (v0))), (2, .int (iv ((absI v0) + 1))), (3, .int (iv (k0))), (4, .int (iv (i)))] → va_P (gD G) classes [(rB, .inr (0, [.ref rst, .int (iv (fa1)), .int (iv (fe))])), (rst, ai (gI G) 2048 (g1))] H → va_D A [(rB, .inr (0, [.ref rst, .int (iv (fa1)), .int (iv (fe))])), (rst, ai (gI G) 2048 (g1))] → va_S A s.heap H locs → ((fa1, g1) = it (ptg fe (absI v0 + 1) k0) 0 (k0 - 1 - i) (fa, g)) → (0 ≤ fa1 ∧ fa1 ≤ 16384) → W p l e r_Bits_putNumber s m args below meth c H locs 0 0 Q (F0 m 17 ls [])) (a := k0 - 1) (fun i hii hji ihi => ?_) _ _ _ fa g (lv_sub hl [3, 4, 2, 1, 0] rfl) hP hD hS (by rw [Int.sub_self, it_self]) hfa
  intro ls H locs fa1 g1 hl hP hD hS hs hrg
  refine lv_iload hx hb d_Bits_putNumber_17 (lv_at hl 4 rfl) ?_
  refine k_if_lt (tgt := 43) hx hb d_Bits_putNumber_19 (by decide) (by omega) (fun hc19 => ?_) (fun hc19 => ?_)
  · refine lv_iload_n hx hb d_Bits_putNumber_43 rfl (lv_at hl 3 rfl) ?_
    refine lv_bipush (v := iv (26)) hx hb d_Bits_putNumber_44 rfl ?_
    refine k_icmp_ge (tgt := 54) hx hb d_Bits_putNumber_46 (by decide) (by omega) (by omega) (fun hc46 => ?_) (fun hc46 => ?_)
    · refine lv_iload_n hx hb d_Bits_putNumber_54 rfl (lv_at hl 1 rfl) ?_
      refine k_if_eq (tgt := 71) hx hb d_Bits_putNumber_55 (by decide) (by omega) (fun hc55 => ?_) (fun hc55 => ?_)
      · have hs : (fa1, g1) = it (ptg fe (absI v0 + 1) k0) 0 k0 (fa, g) := by rw [hs]; exact it_x _ _ (by omega) (by omega)
        subst hk0
        exact k_vret hx hb hr hlk hQ ((fa1, g1)) (by first | rw [ptN_a hs (by omega) (by omega), ← h51] | rw [ptN_b hs (by omega) (by omega), ← h51, ← h68] | rw [ptN_c hs (by omega) (by omega), ← h51, ← h68] | rw [ptN_d hs (by omega) (by omega)] | rw [ptN_e hs (by omega) (by omega), ← h68] | rw [ptN_f hs (by omega) (by omega), ← h68]) hP hD hS d_Bits_putNumber_71
      · refine lv_aload_n hx hb d_Bits_putNumber_58 rfl (lv_at hl 0 rfl) ?_
        refine lv_iload_n hx hb d_Bits_putNumber_59 rfl (lv_at hl 1 rfl) ?_
        refine k_if_ge (tgt := 67) hx hb d_Bits_putNumber_60 (by decide) (by omega) (fun hc60 => ?_) (fun hc60 => ?_)
        · refine lv_iconst (v := iv (0)) hx hb d_Bits_putNumber_67 rfl ?_
          refine k_cv (wz := fun u : Int × (Int → Int) => [(rB, .inr (0, [.ref rst, .int (iv (u.1)), .int (iv (fe))])), (rst, ai (gI G) 2048 (u.2))]) (wr := []) (k_rv S (c_Bits_put l G _ rB rst 0 fa1 fe g1 (by omega) (by omega)) 1 m3_4 m3_1 m3_2 m3_3 m1_7 (by decide +kernel) (by decide) rfl rfl (k_preV (q0 := 0) hK hP hD hS hA hT rfl rfl [0, 1] (by decide) rfl) rfl hl.1 rfl (Nat.le_of_ble_eq_true rfl) d_Bits_putNumber_68 ⟨Nat.le_of_ble_eq_true rfl, Nat.le_of_ble_eq_true rfl⟩) hP hD hS hA [0, 1] [] [0, 1] rfl rfl (by decide) (by decide) (by decide) (fun _ => rfl) (fun u68 H locs h68 hP hD hS => ?_)
          obtain ⟨fa68, g68⟩ := u68
          have hP : va_P (gD G) classes [(rB, .inr (0, [.ref rst, .int (iv (fa68)), .int (iv (fe))])), (rst, ai (gI G) 2048 (g68))] H := hP
          have hD : va_D A [(rB, .inr (0, [.ref rst, .int (iv (fa68)), .int (iv (fe))])), (rst, ai (gI G) 2048 (g68))] := hD
          try dsimp only at h68
          have hs : (fa1, g1) = it (ptg fe (absI v0 + 1) k0) 0 k0 (fa, g) := by rw [hs]; exact it_x _ _ (by omega) (by omega)
          subst hk0
          exact k_vret hx hb hr hlk hQ ((fa68, g68)) (by first | rw [ptN_a hs (by omega) (by omega), ← h51] | rw [ptN_b hs (by omega) (by omega), ← h51, ← h68] | rw [ptN_c hs (by omega) (by omega), ← h51, ← h68] | rw [ptN_d hs (by omega) (by omega)] | rw [ptN_e hs (by omega) (by omega), ← h68] | rw [ptN_f hs (by omega) (by omega), ← h68]) hP hD hS d_Bits_putNumber_71
        · refine lv_iconst (v := iv (1)) hx hb d_Bits_putNumber_63 rfl ?_
          refine lv_goto (tgt := 68) hx hb d_Bits_putNumber_64 (by decide) ?_
          refine k_cv (wz := fun u : Int × (Int → Int) => [(rB, .inr (0, [.ref rst, .int (iv (u.1)), .int (iv (fe))])), (rst, ai (gI G) 2048 (u.2))]) (wr := []) (k_rv S (c_Bits_put l G _ rB rst 1 fa1 fe g1 (by omega) (by omega)) 1 m3_4 m3_1 m3_2 m3_3 m1_7 (by decide +kernel) (by decide) rfl rfl (k_preV (q0 := 0) hK hP hD hS hA hT rfl rfl [0, 1] (by decide) rfl) rfl hl.1 rfl (Nat.le_of_ble_eq_true rfl) d_Bits_putNumber_68 ⟨Nat.le_of_ble_eq_true rfl, Nat.le_of_ble_eq_true rfl⟩) hP hD hS hA [0, 1] [] [0, 1] rfl rfl (by decide) (by decide) (by decide) (fun _ => rfl) (fun u68 H locs h68 hP hD hS => ?_)
          obtain ⟨fa68, g68⟩ := u68
          have hP : va_P (gD G) classes [(rB, .inr (0, [.ref rst, .int (iv (fa68)), .int (iv (fe))])), (rst, ai (gI G) 2048 (g68))] H := hP
          have hD : va_D A [(rB, .inr (0, [.ref rst, .int (iv (fa68)), .int (iv (fe))])), (rst, ai (gI G) 2048 (g68))] := hD
          try dsimp only at h68
          have hs : (fa1, g1) = it (ptg fe (absI v0 + 1) k0) 0 k0 (fa, g) := by rw [hs]; exact it_x _ _ (by omega) (by omega)
          subst hk0
          exact k_vret hx hb hr hlk hQ ((fa68, g68)) (by first | rw [ptN_a hs (by omega) (by omega), ← h51] | rw [ptN_b hs (by omega) (by omega), ← h51, ← h68] | rw [ptN_c hs (by omega) (by omega), ← h51, ← h68] | rw [ptN_d hs (by omega) (by omega)] | rw [ptN_e hs (by omega) (by omega), ← h68] | rw [ptN_f hs (by omega) (by omega), ← h68]) hP hD hS d_Bits_putNumber_71
    · refine lv_aload_n hx hb d_Bits_putNumber_49 rfl (lv_at hl 0 rfl) ?_
      refine lv_iconst (v := iv (1)) hx hb d_Bits_putNumber_50 rfl ?_
      refine k_cv (wz := fun u : Int × (Int → Int) => [(rB, .inr (0, [.ref rst, .int (iv (u.1)), .int (iv (fe))])), (rst, ai (gI G) 2048 (u.2))]) (wr := []) (k_rv S (c_Bits_put l G _ rB rst 1 fa1 fe g1 (by omega) (by omega)) 1 m3_4 m3_1 m3_2 m3_3 m1_7 (by decide +kernel) (by decide) rfl rfl (k_preV (q0 := 0) hK hP hD hS hA hT rfl rfl [0, 1] (by decide) rfl) rfl hl.1 rfl (Nat.le_of_ble_eq_true rfl) d_Bits_putNumber_51 ⟨Nat.le_of_ble_eq_true rfl, Nat.le_of_ble_eq_true rfl⟩) hP hD hS hA [0, 1] [] [0, 1] rfl rfl (by decide) (by decide) (by decide) (fun _ => rfl) (fun u51 H locs h51 hP hD hS => ?_)
      obtain ⟨fa51, g51⟩ := u51
      have hP : va_P (gD G) classes [(rB, .inr (0, [.ref rst, .int (iv (fa51)), .int (iv (fe))])), (rst, ai (gI G) 2048 (g51))] H := hP
      have hD : va_D A [(rB, .inr (0, [.ref rst, .int (iv (fa51)), .int (iv (fe))])), (rst, ai (gI G) 2048 (g51))] := hD
      try dsimp only at h51
      have hq1 := pt_r (b := 1) (x := (fa1, g1)) hrg hfe
      rw [← h51] at hq1
      refine lv_iload_n hx hb d_Bits_putNumber_54 rfl (lv_at hl 1 rfl) ?_
      refine k_if_eq (tgt := 71) hx hb d_Bits_putNumber_55 (by decide) (by omega) (fun hc55 => ?_) (fun hc55 => ?_)
      · have hs : (fa1, g1) = it (ptg fe (absI v0 + 1) k0) 0 k0 (fa, g) := by rw [hs]; exact it_x _ _ (by omega) (by omega)
        subst hk0
        exact k_vret hx hb hr hlk hQ ((fa51, g51)) (by first | rw [ptN_a hs (by omega) (by omega), ← h51] | rw [ptN_b hs (by omega) (by omega), ← h51, ← h68] | rw [ptN_c hs (by omega) (by omega), ← h51, ← h68] | rw [ptN_d hs (by omega) (by omega)] | rw [ptN_e hs (by omega) (by omega), ← h68] | rw [ptN_f hs (by omega) (by omega), ← h68]) hP hD hS d_Bits_putNumber_71
      · refine lv_aload_n hx hb d_Bits_putNumber_58 rfl (lv_at hl 0 rfl) ?_
        refine lv_iload_n hx hb d_Bits_putNumber_59 rfl (lv_at hl 1 rfl) ?_
        refine k_if_ge (tgt := 67) hx hb d_Bits_putNumber_60 (by decide) (by omega) (fun hc60 => ?_) (fun hc60 => ?_)
        · refine lv_iconst (v := iv (0)) hx hb d_Bits_putNumber_67 rfl ?_
          refine k_cv (wz := fun u : Int × (Int → Int) => [(rB, .inr (0, [.ref rst, .int (iv (u.1)), .int (iv (fe))])), (rst, ai (gI G) 2048 (u.2))]) (wr := []) (k_rv S (c_Bits_put l G _ rB rst 0 fa51 fe g51 (by omega) (by omega)) 1 m3_4 m3_1 m3_2 m3_3 m1_7 (by decide +kernel) (by decide) rfl rfl (k_preV (q0 := 0) hK hP hD hS hA hT rfl rfl [0, 1] (by decide) rfl) rfl hl.1 rfl (Nat.le_of_ble_eq_true rfl) d_Bits_putNumber_68 ⟨Nat.le_of_ble_eq_true rfl, Nat.le_of_ble_eq_true rfl⟩) hP hD hS hA [0, 1] [] [0, 1] rfl rfl (by decide) (by decide) (by decide) (fun _ => rfl) (fun u68 H locs h68 hP hD hS => ?_)
          obtain ⟨fa68, g68⟩ := u68
          have hP : va_P (gD G) classes [(rB, .inr (0, [.ref rst, .int (iv (fa68)), .int (iv (fe))])), (rst, ai (gI G) 2048 (g68))] H := hP
          have hD : va_D A [(rB, .inr (0, [.ref rst, .int (iv (fa68)), .int (iv (fe))])), (rst, ai (gI G) 2048 (g68))] := hD
          try dsimp only at h68
          have hs : (fa1, g1) = it (ptg fe (absI v0 + 1) k0) 0 k0 (fa, g) := by rw [hs]; exact it_x _ _ (by omega) (by omega)
          subst hk0
          exact k_vret hx hb hr hlk hQ ((fa68, g68)) (by first | rw [ptN_a hs (by omega) (by omega), ← h51] | rw [ptN_b hs (by omega) (by omega), ← h51, ← h68] | rw [ptN_c hs (by omega) (by omega), ← h51, ← h68] | rw [ptN_d hs (by omega) (by omega)] | rw [ptN_e hs (by omega) (by omega), ← h68] | rw [ptN_f hs (by omega) (by omega), ← h68]) hP hD hS d_Bits_putNumber_71
        · refine lv_iconst (v := iv (1)) hx hb d_Bits_putNumber_63 rfl ?_
          refine lv_goto (tgt := 68) hx hb d_Bits_putNumber_64 (by decide) ?_
          refine k_cv (wz := fun u : Int × (Int → Int) => [(rB, .inr (0, [.ref rst, .int (iv (u.1)), .int (iv (fe))])), (rst, ai (gI G) 2048 (u.2))]) (wr := []) (k_rv S (c_Bits_put l G _ rB rst 1 fa51 fe g51 (by omega) (by omega)) 1 m3_4 m3_1 m3_2 m3_3 m1_7 (by decide +kernel) (by decide) rfl rfl (k_preV (q0 := 0) hK hP hD hS hA hT rfl rfl [0, 1] (by decide) rfl) rfl hl.1 rfl (Nat.le_of_ble_eq_true rfl) d_Bits_putNumber_68 ⟨Nat.le_of_ble_eq_true rfl, Nat.le_of_ble_eq_true rfl⟩) hP hD hS hA [0, 1] [] [0, 1] rfl rfl (by decide) (by decide) (by decide) (fun _ => rfl) (fun u68 H locs h68 hP hD hS => ?_)
          obtain ⟨fa68, g68⟩ := u68
          have hP : va_P (gD G) classes [(rB, .inr (0, [.ref rst, .int (iv (fa68)), .int (iv (fe))])), (rst, ai (gI G) 2048 (g68))] H := hP
          have hD : va_D A [(rB, .inr (0, [.ref rst, .int (iv (fa68)), .int (iv (fe))])), (rst, ai (gI G) 2048 (g68))] := hD
          try dsimp only at h68
          have hs : (fa1, g1) = it (ptg fe (absI v0 + 1) k0) 0 k0 (fa, g) := by rw [hs]; exact it_x _ _ (by omega) (by omega)
          subst hk0
          exact k_vret hx hb hr hlk hQ ((fa68, g68)) (by first | rw [ptN_a hs (by omega) (by omega), ← h51] | rw [ptN_b hs (by omega) (by omega), ← h51, ← h68] | rw [ptN_c hs (by omega) (by omega), ← h51, ← h68] | rw [ptN_d hs (by omega) (by omega)] | rw [ptN_e hs (by omega) (by omega), ← h68] | rw [ptN_f hs (by omega) (by omega), ← h68]) hP hD hS d_Bits_putNumber_71
  · refine lv_aload_n hx hb d_Bits_putNumber_22 rfl (lv_at hl 0 rfl) ?_
    refine lv_iconst (v := iv (0)) hx hb d_Bits_putNumber_23 rfl ?_
    refine k_cv (wz := fun u : Int × (Int → Int) => [(rB, .inr (0, [.ref rst, .int (iv (u.1)), .int (iv (fe))])), (rst, ai (gI G) 2048 (u.2))]) (wr := []) (k_rv S (c_Bits_put l G _ rB rst 0 fa1 fe g1 (by omega) (by omega)) 1 m3_4 m3_1 m3_2 m3_3 m1_7 (by decide +kernel) (by decide) rfl rfl (k_preV (q0 := 0) hK hP hD hS hA hT rfl rfl [0, 1] (by decide) rfl) rfl hl.1 rfl (Nat.le_of_ble_eq_true rfl) d_Bits_putNumber_24 ⟨Nat.le_of_ble_eq_true rfl, Nat.le_of_ble_eq_true rfl⟩) hP hD hS hA [0, 1] [] [0, 1] rfl rfl (by decide) (by decide) (by decide) (fun _ => rfl) (fun u24 H locs h24 hP hD hS => ?_)
    obtain ⟨fa24, g24⟩ := u24
    have hP : va_P (gD G) classes [(rB, .inr (0, [.ref rst, .int (iv (fa24)), .int (iv (fe))])), (rst, ai (gI G) 2048 (g24))] H := hP
    have hD : va_D A [(rB, .inr (0, [.ref rst, .int (iv (fa24)), .int (iv (fe))])), (rst, ai (gI G) 2048 (g24))] := hD
    try dsimp only at h24
    have hq1 := pt_r (b := 0) (x := (fa1, g1)) hrg hfe
    rw [← h24] at hq1
    refine lv_aload_n hx hb d_Bits_putNumber_27 rfl (lv_at hl 0 rfl) ?_
    refine lv_iload_n hx hb d_Bits_putNumber_28 rfl (lv_at hl 2 rfl) ?_
    refine lv_iload hx hb d_Bits_putNumber_29 (lv_at hl 4 rfl) ?_
    refine k_ishr hx hb d_Bits_putNumber_31 (by omega) (by omega) ?_
    refine lv_iconst (v := iv (1)) hx hb d_Bits_putNumber_32 rfl ?_
    refine k_iandc 1 2 rfl (by decide) rfl hx hb d_Bits_putNumber_33 ?_
    refine k_cv (wz := fun u : Int × (Int → Int) => [(rB, .inr (0, [.ref rst, .int (iv (u.1)), .int (iv (fe))])), (rst, ai (gI G) 2048 (u.2))]) (wr := []) (k_rv S (c_Bits_put l G _ rB rst ((((absI v0) + 1) / 2 ^ (i).toNat) % 2) fa24 fe g24 (by omega) (by omega)) 1 m3_4 m3_1 m3_2 m3_3 m1_7 (by decide +kernel) (by decide) rfl rfl (k_preV (q0 := 0) hK hP hD hS hA hT rfl rfl [0, 1] (by decide) rfl) rfl hl.1 rfl (Nat.le_of_ble_eq_true rfl) d_Bits_putNumber_34 ⟨Nat.le_of_ble_eq_true rfl, Nat.le_of_ble_eq_true rfl⟩) hP hD hS hA [0, 1] [] [0, 1] rfl rfl (by decide) (by decide) (by decide) (fun _ => rfl) (fun u34 H locs h34 hP hD hS => ?_)
    obtain ⟨fa34, g34⟩ := u34
    have hP : va_P (gD G) classes [(rB, .inr (0, [.ref rst, .int (iv (fa34)), .int (iv (fe))])), (rst, ai (gI G) 2048 (g34))] H := hP
    have hD : va_D A [(rB, .inr (0, [.ref rst, .int (iv (fa34)), .int (iv (fe))])), (rst, ai (gI G) 2048 (g34))] := hD
    try dsimp only at h34
    refine lv_iinc (k := 4) (v := iv (i + (-1))) hx hb d_Bits_putNumber_37 hl rfl (iv_add _ _) (by decide) rfl (fun ls hl => ?_)
    have hl : lv_has ls 5 [(4, .int (iv (i + (-1)))), (0, .ref rB), (1, .int (iv (v0))), (2, .int (iv ((absI v0) + 1))), (3, .int (iv (k0)))] := hl
    refine lv_goto (tgt := 17) hx hb d_Bits_putNumber_40 (by decide) ?_
    have hq2 := pt_r (b := (absI v0 + 1) / 2 ^ i.toNat % 2) (x := (fa24, g24)) hq1 hfe
    rw [← h34] at hq2
    exact ihi (by omega) _ _ _ fa34 g34 (lv_sub hl [1, 2, 3, 4, 0] rfl) hP hD hS (by rw [show k0 - 1 - (i + (-1)) = (k0 - 1 - i) + 1 by omega, it_s _ _ (by omega), ← hs]; show _ = pt fe ((absI v0 + 1) / 2 ^ (k0 - 1 - (k0 - 1 - i)).toNat % 2) (pt fe 0 (fa1, g1)); rw [show k0 - 1 - (k0 - 1 - i) = i by omega, ← h24]; exact h34) hq2
abbrev w_Bits_takeNumber : List Cond := Cond.code y_Bits_takeNumber prog_2_method_8_code 3 (some .int) :: wl
abbrev r_Bits_takeNumber : Room := { frames := 1, cells := 0, slots := 0, locals := 21 }
set_option maxHeartbeats 4000000 in
set_option maxRecDepth 100000 in
theorem c_Bits_takeNumber (l : Launch) (G : k_G) (sz : Nat) (rB rst : Nat) (fa fe : Int) (g : Int → Int) (hfa : 0 ≤ fa ∧ fa ≤ 16384) (hfe : 0 ≤ fe ∧ fe ≤ 16384) (hg : ∀ j, 0 ≤ g j ∧ g j < 256) : Met l y_Bits_takeNumber w_Bits_takeNumber r_Bits_takeNumber (k_P G [.ref rB] [(rB, .inr (0, [.ref rst, .int (iv (fa)), .int (iv (fe))])), (rst, ai (gI G) 2048 (g))] sz) (qi G (fun (r : Int32) (u : Int × Int) => r = iv (u.1) ∧ (u = rdN g fe fa)) (fun u : Int × Int => [(rB, .inr (0, [.ref rst, .int (iv (u.2)), .int (iv (fe))])), (rst, ai (gI G) 2048 (g))]) (va_A [(rB, .inr (0, [.ref rst, .int (iv (fa)), .int (iv (fe))])), (rst, ai (gI G) 2048 (g))] sz)) 0 0 (va_A [(rB, .inr (0, [.ref rst, .int (iv (fa)), .int (iv (fe))])), (rst, ai (gI G) 2048 (g))] sz) := by
  refine k_met (fun A => qi G (fun (r : Int32) (u : Int × Int) => r = iv (u.1) ∧ (u = rdN g fe fa)) (fun u : Int × Int => [(rB, .inr (0, [.ref rst, .int (iv (u.2)), .int (iv (fe))])), (rst, ai (gI G) 2048 (g))]) A) (fun A => A) (by decide) rfl (Nat.le_of_ble_eq_true rfl) (fun p e s m args below meth c ls A Q S hr hlk hnm hl hsz hP hK hD hS hA hT hQ => ?_)
  obtain ⟨hx, hb, hml, hown, hts⟩ := id S
  have hw : ∀ w ∈ wl, w.before args s = true := fun w h => hts w (List.mem_cons_of_mem _ h)
  have hl : lv_has ls 3 [(0, .ref rB)] := hl
  refine lv_iconst (v := iv (1)) hx hb d_Bits_takeNumber_0 rfl ?_
  refine lv_istore_n hx hb d_Bits_takeNumber_1 rfl hl (by decide) rfl (fun ls hl => ?_)
  have hl : lv_has ls 3 [(1, .int (iv (1))), (0, .ref rB)] := hl
  refine lv_iconst (v := iv (0)) hx hb d_Bits_takeNumber_2 rfl ?_
  have hm36 : ∀ (ls : Array Slot) (H : Heap) (locs : List Loc) (nf : Int) (faf : Int), lv_has ls 3 [(0, .ref rB), (1, .int (iv (nf)))] → va_P (gD G) classes [(rB, .inr (0, [.ref rst, .int (iv (faf)), .int (iv (fe))])), (rst, ai (gI G) 2048 (g))] H → va_D A [(rB, .inr (0, [.ref rst, .int (iv (faf)), .int (iv (fe))])), (rst, ai (gI G) 2048 (g))] → va_S A s.heap H locs → (rdl g fe 26 1 fa = (nf, faf)) → (0 ≤ faf ∧ faf ≤ 16384) → W p l e r_Bits_takeNumber s m args below meth c H locs 0 0 Q (F0 m 36 ls []) := by
    intro ls H locs nf faf hl hP hD hS hF hrf
    have hm := rdl_m hF
    refine lv_iload_n hx hb d_Bits_takeNumber_36 rfl (lv_at hl 1 rfl) ?_
    refine lv_iconst (v := iv (1)) hx hb d_Bits_takeNumber_37 rfl ?_
    refine k_icmp_ne (tgt := 43) hx hb d_Bits_takeNumber_38 (by decide) (by omega) (by omega) (fun hc38 => ?_) (fun hc38 => ?_)
    · refine lv_aload_n hx hb d_Bits_takeNumber_43 rfl (lv_at hl 0 rfl) ?_
      refine k_ci (wz := fun u : Int × Int => [(rB, .inr (0, [.ref rst, .int (iv (u.2)), .int (iv (fe))])), (rst, ai (gI G) 2048 (g))]) (wr := []) (k_rv S (c_Bits_take l G _ rB rst faf fe g (by omega) (by omega) hg) 0 m3_24 m3_21 m3_22 m3_23 m1_7 (by decide +kernel) (by decide) rfl rfl (k_preV (q0 := 0) hK hP hD hS hA hT rfl rfl [0, 1] (by decide) rfl) rfl hl.1 rfl (Nat.le_of_ble_eq_true rfl) d_Bits_takeNumber_44 ⟨Nat.le_of_ble_eq_true rfl, Nat.le_of_ble_eq_true rfl⟩) hP hD hS hA [0, 1] [] [0, 1] rfl rfl (by decide) (by decide) (by decide) (fun _ => rfl) (fun r44 u44 H locs h44 hP hD hS => ?_)
      obtain ⟨b44, fa44⟩ := u44
      have hP : va_P (gD G) classes [(rB, .inr (0, [.ref rst, .int (iv (fa44)), .int (iv (fe))])), (rst, ai (gI G) 2048 (g))] H := hP
      have hD : va_D A [(rB, .inr (0, [.ref rst, .int (iv (fa44)), .int (iv (fe))])), (rst, ai (gI G) 2048 (g))] := hD
      obtain ⟨hr44, h44⟩ := h44
      subst hr44
      try dsimp only at h44
      obtain ⟨q5, q6⟩ := Prod.mk.inj h44
      have hq := tkV_01 g fe faf
      refine lv_iconst (v := iv (1)) hx hb d_Bits_takeNumber_47 rfl ?_
      refine k_icmp_ne (tgt := 57) hx hb d_Bits_takeNumber_48 (by decide) (by omega) (by omega) (fun hc48 => ?_) (fun hc48 => ?_)
      · refine lv_iload_n hx hb d_Bits_takeNumber_57 rfl (lv_at hl 1 rfl) ?_
        refine lv_iconst (v := iv (1)) hx hb d_Bits_takeNumber_58 rfl ?_
        refine k_isub hx hb d_Bits_takeNumber_59 ?_
        exact k_iret hx hb hr hlk hQ ((nf - 1, fa44)) (⟨rfl, by first | rw [rdN_n hF (by omega) (by omega), q6] | rw [rdN_p hF (by omega) (by omega), q6]⟩) hP hD hS d_Bits_takeNumber_60
      · refine lv_iconst (v := iv (1)) hx hb d_Bits_takeNumber_51 rfl ?_
        refine lv_iload_n hx hb d_Bits_takeNumber_52 rfl (lv_at hl 1 rfl) ?_
        refine k_isub hx hb d_Bits_takeNumber_53 ?_
        refine lv_goto (tgt := 60) hx hb d_Bits_takeNumber_54 (by decide) ?_
        exact k_iret hx hb hr hlk hQ ((1 - nf, fa44)) (⟨rfl, by first | rw [rdN_n hF (by omega) (by omega), q6] | rw [rdN_p hF (by omega) (by omega), q6]⟩) hP hD hS d_Bits_takeNumber_60
    · refine lv_iconst (v := iv (0)) hx hb d_Bits_takeNumber_41 rfl ?_
      exact k_iret hx hb hr hlk hQ ((0, faf)) (⟨rfl, (rdN_0 hF hc38).symm⟩) hP hD hS d_Bits_takeNumber_42
  refine lv_istore_n hx hb d_Bits_takeNumber_3 rfl hl (by decide) rfl (fun ls hl => ?_)
  have hl : lv_has ls 3 [(2, .int (iv (0))), (1, .int (iv (1))), (0, .ref rB)] := hl
  refine lo_up (P := fun i => ∀ (ls : Array Slot) (H : Heap) (locs : List Loc) (n1 : Int) (fa1 : Int), lv_has ls 3 [(0, .ref rB), (1, .int (iv (n1))), (2, .int (iv (i)))] → va_P (gD G) classes [(rB, .inr (0, [.ref rst, .int (iv (fa1)), .int (iv (fe))])), (rst, ai (gI G) 2048 (g))] H → va_D A [(rB, .inr (0, [.ref rst, .int (iv (fa1)), .int (iv (fe))])), (rst, ai (gI G) 2048 (g))] → va_S A s.heap H locs → (rdl g fe (26 - i).toNat n1 fa1 = rdl g fe 26 1 fa) → (0 ≤ fa1 ∧ fa1 ≤ 16384) → W p l e r_Bits_takeNumber s m args below meth c H locs 0 0 Q (F0 m 4 ls [])) (a := 0) (b := 26) (fun i hii hji ihi => ?_) _ _ _ 1 fa (lv_sub hl [2, 1, 0] rfl) hP hD hS rfl hfa
  intro ls H locs n1 fa1 hl hP hD hS hs hrg
  refine lv_iload_n hx hb d_Bits_takeNumber_4 rfl (lv_at hl 2 rfl) ?_
  refine lv_bipush (v := iv (26)) hx hb d_Bits_takeNumber_5 rfl ?_
  refine k_icmp_ge (tgt := 36) hx hb d_Bits_takeNumber_7 (by decide) (by omega) (by omega) (fun hc7 => ?_) (fun hc7 => ?_)
  · exact hm36 _ _ _ n1 fa1 (lv_sub hl [0, 1] rfl) hP hD hS (by first | exact hs.symm.trans (rdl_0 (by omega)) | exact hs.symm.trans ((rdl_b (by omega) (by omega)).trans (by rw [q2]))) (by first | exact hrg | exact hrg2)
  · refine lv_aload_n hx hb d_Bits_takeNumber_10 rfl (lv_at hl 0 rfl) ?_
    refine k_ci (wz := fun u : Int × Int => [(rB, .inr (0, [.ref rst, .int (iv (u.2)), .int (iv (fe))])), (rst, ai (gI G) 2048 (g))]) (wr := []) (k_rv S (c_Bits_take l G _ rB rst fa1 fe g (by omega) (by omega) hg) 0 m3_24 m3_21 m3_22 m3_23 m1_7 (by decide +kernel) (by decide) rfl rfl (k_preV (q0 := 0) hK hP hD hS hA hT rfl rfl [0, 1] (by decide) rfl) rfl hl.1 rfl (Nat.le_of_ble_eq_true rfl) d_Bits_takeNumber_11 ⟨Nat.le_of_ble_eq_true rfl, Nat.le_of_ble_eq_true rfl⟩) hP hD hS hA [0, 1] [] [0, 1] rfl rfl (by decide) (by decide) (by decide) (fun _ => rfl) (fun r11 u11 H locs h11 hP hD hS => ?_)
    obtain ⟨b11, fa11⟩ := u11
    have hP : va_P (gD G) classes [(rB, .inr (0, [.ref rst, .int (iv (fa11)), .int (iv (fe))])), (rst, ai (gI G) 2048 (g))] H := hP
    have hD : va_D A [(rB, .inr (0, [.ref rst, .int (iv (fa11)), .int (iv (fe))])), (rst, ai (gI G) 2048 (g))] := hD
    obtain ⟨hr11, h11⟩ := h11
    subst hr11
    try dsimp only at h11
    obtain ⟨q1, q2⟩ := Prod.mk.inj h11
    have hq := tkV_01 g fe fa1
    have hrg2 : 0 ≤ fa11 ∧ fa11 ≤ 16384 := by rw [q2]; exact tkA_r hrg hfe
    refine lv_iconst (v := iv (1)) hx hb d_Bits_takeNumber_14 rfl ?_
    refine k_icmp_ne (tgt := 21) hx hb d_Bits_takeNumber_15 (by decide) (by omega) (by omega) (fun hc15 => ?_) (fun hc15 => ?_)
    · refine lv_iconst (v := iv (2)) hx hb d_Bits_takeNumber_21 rfl ?_
      refine lv_iload_n hx hb d_Bits_takeNumber_22 rfl (lv_at hl 1 rfl) ?_
      refine k_imul hx hb d_Bits_takeNumber_23 ?_
      refine lv_aload_n hx hb d_Bits_takeNumber_24 rfl (lv_at hl 0 rfl) ?_
      refine k_ci (wz := fun u : Int × Int => [(rB, .inr (0, [.ref rst, .int (iv (u.2)), .int (iv (fe))])), (rst, ai (gI G) 2048 (g))]) (wr := []) (k_rv S (c_Bits_take l G _ rB rst fa11 fe g (by omega) (by omega) hg) 0 m3_24 m3_21 m3_22 m3_23 m1_7 (by decide +kernel) (by decide) rfl rfl (k_preV (q0 := 0) hK hP hD hS hA hT rfl rfl [0, 1] (by decide) rfl) rfl hl.1 rfl (Nat.le_of_ble_eq_true rfl) d_Bits_takeNumber_25 ⟨Nat.le_of_ble_eq_true rfl, Nat.le_of_ble_eq_true rfl⟩) hP hD hS hA [0, 1] [] [0, 1] rfl rfl (by decide) (by decide) (by decide) (fun _ => rfl) (fun r25 u25 H locs h25 hP hD hS => ?_)
      obtain ⟨b25, fa25⟩ := u25
      have hP : va_P (gD G) classes [(rB, .inr (0, [.ref rst, .int (iv (fa25)), .int (iv (fe))])), (rst, ai (gI G) 2048 (g))] H := hP
      have hD : va_D A [(rB, .inr (0, [.ref rst, .int (iv (fa25)), .int (iv (fe))])), (rst, ai (gI G) 2048 (g))] := hD
      obtain ⟨hr25, h25⟩ := h25
      subst hr25
      try dsimp only at h25
      obtain ⟨q3, q4⟩ := Prod.mk.inj h25
      refine k_iadd hx hb d_Bits_takeNumber_28 ?_
      refine lv_istore_n hx hb d_Bits_takeNumber_29 rfl hl (by decide) rfl (fun ls hl => ?_)
      have hl : lv_has ls 3 [(1, .int (iv ((2 * n1) + b25))), (0, .ref rB), (2, .int (iv (i)))] := hl
      refine lv_iinc (k := 2) (v := iv (i + 1)) hx hb d_Bits_takeNumber_30 hl rfl (iv_add _ _) (by decide) rfl (fun ls hl => ?_)
      have hl : lv_has ls 3 [(2, .int (iv (i + 1))), (1, .int (iv ((2 * n1) + b25))), (0, .ref rB)] := hl
      refine lv_goto (tgt := 4) hx hb d_Bits_takeNumber_33 (by decide) ?_
      exact ihi (by omega) _ _ _ ((2 * n1) + b25) fa25 (lv_sub hl [2, 1, 0] rfl) hP hD hS (by rw [← hs, rdl_g (k := (26 - i).toNat) (j := (26 - (i + 1)).toNat) (by omega) (by omega), q3, q4, q2]) (by rw [q4]; exact tkA_r hrg2 hfe)
    · refine lv_goto (tgt := 36) hx hb d_Bits_takeNumber_18 (by decide) ?_
      exact hm36 _ _ _ n1 fa11 (lv_sub hl [0, 1] rfl) hP hD hS (by first | exact hs.symm.trans (rdl_0 (by omega)) | exact hs.symm.trans ((rdl_b (by omega) (by omega)).trans (by rw [q2]))) (by first | exact hrg | exact hrg2)
