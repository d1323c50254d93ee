theorem m3_95 : Cond.code y_Trans_joinLine prog_7_method_7_code 7 none ∈ wl := wl_3 95 (by decide +kernel) (by decide +kernel)
theorem m3_98 : Cond.code y_Trans_lower prog_7_method_5_code 6 none ∈ wl := wl_3 98 (by decide +kernel) (by decide +kernel)
theorem m2_128 : Cond.code y_Trans_raise prog_7_method_4_code 6 none ∈ wl := wl_2 128 (by decide +kernel) (by decide +kernel)
theorem m2_132 : Cond.code y_Trans_splitLine prog_7_method_6_code 7 none ∈ wl := wl_2 132 (by decide +kernel) (by decide +kernel)
theorem m1_79 : Cond.fieldLink "WaveletSlices$Transform" 24 "WaveletSlices$Layout" "columns" "I" ∈ wl := wl_1 79 (by decide +kernel) (by decide +kernel)
theorem m1_82 : Cond.fieldLink "WaveletSlices$Transform" 30 "WaveletSlices$Layout" "rows" "I" ∈ wl := wl_1 82 (by decide +kernel) (by decide +kernel)
theorem m1_28 : Cond.fieldLink "WaveletSlices$Transform" 46 "WaveletSlices$Setup" "kind" "I" ∈ wl := wl_1 28 (by decide +kernel) (by decide +kernel)
theorem m1_31 : Cond.fieldLink "WaveletSlices$Transform" 33 "WaveletSlices$Setup" "levelsBoth" "I" ∈ wl := wl_1 31 (by decide +kernel) (by decide +kernel)
theorem m2_124 : Cond.fieldLink "WaveletSlices$Transform" 42 "WaveletSlices$Transform" "GAIN" "[I" ∈ wl := wl_2 124 (by decide +kernel) (by decide +kernel)
theorem m3_94 : Cond.instanceMethod y_Trans_joinLine ∈ wl := wl_3 94 (by decide +kernel) (by decide +kernel)
theorem m2_131 : Cond.instanceMethod y_Trans_splitLine ∈ wl := wl_2 131 (by decide +kernel) (by decide +kernel)
theorem m2_122 : Cond.methodLink "WaveletSlices$Transform" 18 y_Setup_levels ∈ wl := wl_2 122 (by decide +kernel) (by decide +kernel)
theorem m3_92 : Cond.methodLink "WaveletSlices$Transform" 57 y_Trans_joinLine ∈ wl := wl_3 92 (by decide +kernel) (by decide +kernel)
theorem m3_96 : Cond.methodLink "WaveletSlices$Transform" 60 y_Trans_lower ∈ wl := wl_3 96 (by decide +kernel) (by decide +kernel)
theorem m2_126 : Cond.methodLink "WaveletSlices$Transform" 49 y_Trans_raise ∈ wl := wl_2 126 (by decide +kernel) (by decide +kernel)
theorem m2_129 : Cond.methodLink "WaveletSlices$Transform" 53 y_Trans_splitLine ∈ wl := wl_2 129 (by decide +kernel) (by decide +kernel)
theorem mp_18 : Cond.selects "WaveletSlices$Transform" y_Trans_joinLine y_Trans_joinLine ∈ wl := wl_p 18 (by decide +kernel) (by decide +kernel)
theorem mp_5 : Cond.selects "WaveletSlices$Transform" y_Trans_splitLine y_Trans_splitLine ∈ wl := wl_p 5 (by decide +kernel) (by decide +kernel)
theorem m3_97 : Cond.static y_Trans_lower ∈ wl := wl_3 97 (by decide +kernel) (by decide +kernel)
theorem m2_127 : Cond.static y_Trans_raise ∈ wl := wl_2 127 (by decide +kernel) (by decide +kernel)
theorem d_Trans_toCoefficients_0 : decode prog_7_method_2_code 0 = .ok (.iconst 0, 1) := by decide +kernel
theorem d_Trans_toCoefficients_1 : decode prog_7_method_2_code 1 = .ok (.istore 4, 2) := by decide +kernel
theorem d_Trans_toCoefficients_3 : decode prog_7_method_2_code 3 = .ok (.iload 4, 2) := by decide +kernel
theorem d_Trans_toCoefficients_5 : decode prog_7_method_2_code 5 = .ok (.aload_n 2, 1) := by decide +kernel
theorem d_Trans_toCoefficients_6 : decode prog_7_method_2_code 6 = .ok (.invokevirtual 18, 3) := by decide +kernel
theorem d_Trans_toCoefficients_9 : decode prog_7_method_2_code 9 = .ok (.if_icmp .ge 127, 3) := by decide +kernel
theorem d_Trans_toCoefficients_12 : decode prog_7_method_2_code 12 = .ok (.aload_n 3, 1) := by decide +kernel
theorem d_Trans_toCoefficients_13 : decode prog_7_method_2_code 13 = .ok (.getfield 24, 3) := by decide +kernel
theorem d_Trans_toCoefficients_16 : decode prog_7_method_2_code 16 = .ok (.iload 4, 2) := by decide +kernel
theorem d_Trans_toCoefficients_18 : decode prog_7_method_2_code 18 = .ok (.ishr, 1) := by decide +kernel
theorem d_Trans_toCoefficients_19 : decode prog_7_method_2_code 19 = .ok (.istore 5, 2) := by decide +kernel
theorem d_Trans_toCoefficients_21 : decode prog_7_method_2_code 21 = .ok (.aload_n 3, 1) := by decide +kernel
theorem d_Trans_toCoefficients_22 : decode prog_7_method_2_code 22 = .ok (.getfield 30, 3) := by decide +kernel
theorem d_Trans_toCoefficients_25 : decode prog_7_method_2_code 25 = .ok (.iload 4, 2) := by decide +kernel
theorem d_Trans_toCoefficients_27 : decode prog_7_method_2_code 27 = .ok (.aload_n 2, 1) := by decide +kernel
theorem d_Trans_toCoefficients_28 : decode prog_7_method_2_code 28 = .ok (.getfield 33, 3) := by decide +kernel
theorem d_Trans_toCoefficients_31 : decode prog_7_method_2_code 31 = .ok (.invokestatic 36, 3) := by decide +kernel
theorem d_Trans_toCoefficients_34 : decode prog_7_method_2_code 34 = .ok (.ishr, 1) := by decide +kernel
theorem d_Trans_toCoefficients_35 : decode prog_7_method_2_code 35 = .ok (.istore 6, 2) := by decide +kernel
theorem d_Trans_toCoefficients_37 : decode prog_7_method_2_code 37 = .ok (.aload_n 1, 1) := by decide +kernel
theorem d_Trans_toCoefficients_38 : decode prog_7_method_2_code 38 = .ok (.iload 5, 2) := by decide +kernel
theorem d_Trans_toCoefficients_40 : decode prog_7_method_2_code 40 = .ok (.iload 6, 2) := by decide +kernel
theorem d_Trans_toCoefficients_42 : decode prog_7_method_2_code 42 = .ok (.getstatic 42, 3) := by decide +kernel
theorem d_Trans_toCoefficients_45 : decode prog_7_method_2_code 45 = .ok (.aload_n 2, 1) := by decide +kernel
theorem d_Trans_toCoefficients_46 : decode prog_7_method_2_code 46 = .ok (.getfield 46, 3) := by decide +kernel
theorem d_Trans_toCoefficients_49 : decode prog_7_method_2_code 49 = .ok (.iaload, 1) := by decide +kernel
theorem d_Trans_toCoefficients_50 : decode prog_7_method_2_code 50 = .ok (.invokestatic 49, 3) := by decide +kernel
theorem d_Trans_toCoefficients_53 : decode prog_7_method_2_code 53 = .ok (.iconst 0, 1) := by decide +kernel
theorem d_Trans_toCoefficients_54 : decode prog_7_method_2_code 54 = .ok (.istore 7, 2) := by decide +kernel
theorem d_Trans_toCoefficients_56 : decode prog_7_method_2_code 56 = .ok (.iload 7, 2) := by decide +kernel
theorem d_Trans_toCoefficients_58 : decode prog_7_method_2_code 58 = .ok (.iload 6, 2) := by decide +kernel
theorem d_Trans_toCoefficients_60 : decode prog_7_method_2_code 60 = .ok (.if_icmp .ge 28, 3) := by decide +kernel
theorem d_Trans_toCoefficients_63 : decode prog_7_method_2_code 63 = .ok (.aload_n 0, 1) := by decide +kernel
theorem d_Trans_toCoefficients_64 : decode prog_7_method_2_code 64 = .ok (.aload_n 1, 1) := by decide +kernel
theorem d_Trans_toCoefficients_65 : decode prog_7_method_2_code 65 = .ok (.iload 7, 2) := by decide +kernel
theorem d_Trans_toCoefficients_67 : decode prog_7_method_2_code 67 = .ok (.bipush 16, 2) := by decide +kernel
theorem d_Trans_toCoefficients_69 : decode prog_7_method_2_code 69 = .ok (.imul, 1) := by decide +kernel
theorem d_Trans_toCoefficients_70 : decode prog_7_method_2_code 70 = .ok (.iconst 1, 1) := by decide +kernel
theorem d_Trans_toCoefficients_71 : decode prog_7_method_2_code 71 = .ok (.iload 5, 2) := by decide +kernel
theorem d_Trans_toCoefficients_73 : decode prog_7_method_2_code 73 = .ok (.iconst 2, 1) := by decide +kernel
theorem d_Trans_toCoefficients_74 : decode prog_7_method_2_code 74 = .ok (.idiv, 1) := by decide +kernel
theorem d_Trans_toCoefficients_75 : decode prog_7_method_2_code 75 = .ok (.aload_n 2, 1) := by decide +kernel
theorem d_Trans_toCoefficients_76 : decode prog_7_method_2_code 76 = .ok (.getfield 46, 3) := by decide +kernel
theorem d_Trans_toCoefficients_79 : decode prog_7_method_2_code 79 = .ok (.invokevirtual 53, 3) := by decide +kernel
theorem d_Trans_toCoefficients_82 : decode prog_7_method_2_code 82 = .ok (.iinc 7 1, 3) := by decide +kernel
theorem d_Trans_toCoefficients_85 : decode prog_7_method_2_code 85 = .ok (.goto (-29), 3) := by decide +kernel
theorem d_Trans_toCoefficients_88 : decode prog_7_method_2_code 88 = .ok (.iload 4, 2) := by decide +kernel
theorem d_Trans_toCoefficients_90 : decode prog_7_method_2_code 90 = .ok (.aload_n 2, 1) := by decide +kernel
theorem d_Trans_toCoefficients_91 : decode prog_7_method_2_code 91 = .ok (.getfield 33, 3) := by decide +kernel
theorem d_Trans_toCoefficients_94 : decode prog_7_method_2_code 94 = .ok (.if_icmp .ge 36, 3) := by decide +kernel
theorem d_Trans_toCoefficients_97 : decode prog_7_method_2_code 97 = .ok (.iconst 0, 1) := by decide +kernel
theorem d_Trans_toCoefficients_98 : decode prog_7_method_2_code 98 = .ok (.istore 7, 2) := by decide +kernel
theorem d_Trans_toCoefficients_100 : decode prog_7_method_2_code 100 = .ok (.iload 7, 2) := by decide +kernel
theorem d_Trans_toCoefficients_102 : decode prog_7_method_2_code 102 = .ok (.iload 5, 2) := by decide +kernel
theorem d_Trans_toCoefficients_104 : decode prog_7_method_2_code 104 = .ok (.if_icmp .ge 26, 3) := by decide +kernel
theorem d_Trans_toCoefficients_107 : decode prog_7_method_2_code 107 = .ok (.aload_n 0, 1) := by decide +kernel
theorem d_Trans_toCoefficients_108 : decode prog_7_method_2_code 108 = .ok (.aload_n 1, 1) := by decide +kernel
theorem d_Trans_toCoefficients_109 : decode prog_7_method_2_code 109 = .ok (.iload 7, 2) := by decide +kernel
theorem d_Trans_toCoefficients_111 : decode prog_7_method_2_code 111 = .ok (.bipush 16, 2) := by decide +kernel
theorem d_Trans_toCoefficients_113 : decode prog_7_method_2_code 113 = .ok (.iload 6, 2) := by decide +kernel
theorem d_Trans_toCoefficients_115 : decode prog_7_method_2_code 115 = .ok (.iconst 2, 1) := by decide +kernel
theorem d_Trans_toCoefficients_116 : decode prog_7_method_2_code 116 = .ok (.idiv, 1) := by decide +kernel
theorem d_Trans_toCoefficients_117 : decode prog_7_method_2_code 117 = .ok (.aload_n 2, 1) := by decide +kernel
theorem d_Trans_toCoefficients_118 : decode prog_7_method_2_code 118 = .ok (.getfield 46, 3) := by decide +kernel
theorem d_Trans_toCoefficients_121 : decode prog_7_method_2_code 121 = .ok (.invokevirtual 53, 3) := by decide +kernel
theorem d_Trans_toCoefficients_124 : decode prog_7_method_2_code 124 = .ok (.iinc 7 1, 3) := by decide +kernel
theorem d_Trans_toCoefficients_127 : decode prog_7_method_2_code 127 = .ok (.goto (-27), 3) := by decide +kernel
theorem d_Trans_toCoefficients_130 : decode prog_7_method_2_code 130 = .ok (.iinc 4 1, 3) := by decide +kernel
theorem d_Trans_toCoefficients_133 : decode prog_7_method_2_code 133 = .ok (.goto (-130), 3) := by decide +kernel
theorem d_Trans_toCoefficients_136 : decode prog_7_method_2_code 136 = .ok (.return_, 1) := by decide +kernel
theorem d_Trans_toPicture_0 : decode prog_7_method_3_code 0 = .ok (.aload_n 2, 1) := by decide +kernel
theorem d_Trans_toPicture_1 : decode prog_7_method_3_code 1 = .ok (.invokevirtual 18, 3) := by decide +kernel
theorem d_Trans_toPicture_4 : decode prog_7_method_3_code 4 = .ok (.iconst 1, 1) := by decide +kernel
theorem d_Trans_toPicture_5 : decode prog_7_method_3_code 5 = .ok (.isub, 1) := by decide +kernel
theorem d_Trans_toPicture_6 : decode prog_7_method_3_code 6 = .ok (.istore 4, 2) := by decide +kernel
theorem d_Trans_toPicture_8 : decode prog_7_method_3_code 8 = .ok (.iload 4, 2) := by decide +kernel
theorem d_Trans_toPicture_10 : decode prog_7_method_3_code 10 = .ok (.ifCond .lt 127, 3) := by decide +kernel
theorem d_Trans_toPicture_13 : decode prog_7_method_3_code 13 = .ok (.aload_n 3, 1) := by decide +kernel
theorem d_Trans_toPicture_14 : decode prog_7_method_3_code 14 = .ok (.getfield 24, 3) := by decide +kernel
theorem d_Trans_toPicture_17 : decode prog_7_method_3_code 17 = .ok (.iload 4, 2) := by decide +kernel
theorem d_Trans_toPicture_19 : decode prog_7_method_3_code 19 = .ok (.ishr, 1) := by decide +kernel
theorem d_Trans_toPicture_20 : decode prog_7_method_3_code 20 = .ok (.istore 5, 2) := by decide +kernel
theorem d_Trans_toPicture_22 : decode prog_7_method_3_code 22 = .ok (.aload_n 3, 1) := by decide +kernel
theorem d_Trans_toPicture_23 : decode prog_7_method_3_code 23 = .ok (.getfield 30, 3) := by decide +kernel
theorem d_Trans_toPicture_26 : decode prog_7_method_3_code 26 = .ok (.iload 4, 2) := by decide +kernel
theorem d_Trans_toPicture_28 : decode prog_7_method_3_code 28 = .ok (.aload_n 2, 1) := by decide +kernel
theorem d_Trans_toPicture_29 : decode prog_7_method_3_code 29 = .ok (.getfield 33, 3) := by decide +kernel
theorem d_Trans_toPicture_32 : decode prog_7_method_3_code 32 = .ok (.invokestatic 36, 3) := by decide +kernel
theorem d_Trans_toPicture_35 : decode prog_7_method_3_code 35 = .ok (.ishr, 1) := by decide +kernel
theorem d_Trans_toPicture_36 : decode prog_7_method_3_code 36 = .ok (.istore 6, 2) := by decide +kernel
theorem d_Trans_toPicture_38 : decode prog_7_method_3_code 38 = .ok (.iload 4, 2) := by decide +kernel
theorem d_Trans_toPicture_40 : decode prog_7_method_3_code 40 = .ok (.aload_n 2, 1) := by decide +kernel
theorem d_Trans_toPicture_41 : decode prog_7_method_3_code 41 = .ok (.getfield 33, 3) := by decide +kernel
theorem d_Trans_toPicture_44 : decode prog_7_method_3_code 44 = .ok (.if_icmp .ge 36, 3) := by decide +kernel
theorem d_Trans_toPicture_47 : decode prog_7_method_3_code 47 = .ok (.iconst 0, 1) := by decide +kernel
theorem d_Trans_toPicture_48 : decode prog_7_method_3_code 48 = .ok (.istore 7, 2) := by decide +kernel
theorem d_Trans_toPicture_50 : decode prog_7_method_3_code 50 = .ok (.iload 7, 2) := by decide +kernel
theorem d_Trans_toPicture_52 : decode prog_7_method_3_code 52 = .ok (.iload 5, 2) := by decide +kernel
theorem d_Trans_toPicture_54 : decode prog_7_method_3_code 54 = .ok (.if_icmp .ge 26, 3) := by decide +kernel
theorem d_Trans_toPicture_57 : decode prog_7_method_3_code 57 = .ok (.aload_n 0, 1) := by decide +kernel
theorem d_Trans_toPicture_58 : decode prog_7_method_3_code 58 = .ok (.aload_n 1, 1) := by decide +kernel
theorem d_Trans_toPicture_59 : decode prog_7_method_3_code 59 = .ok (.iload 7, 2) := by decide +kernel
theorem d_Trans_toPicture_61 : decode prog_7_method_3_code 61 = .ok (.bipush 16, 2) := by decide +kernel
theorem d_Trans_toPicture_63 : decode prog_7_method_3_code 63 = .ok (.iload 6, 2) := by decide +kernel
theorem d_Trans_toPicture_65 : decode prog_7_method_3_code 65 = .ok (.iconst 2, 1) := by decide +kernel
theorem d_Trans_toPicture_66 : decode prog_7_method_3_code 66 = .ok (.idiv, 1) := by decide +kernel
theorem d_Trans_toPicture_67 : decode prog_7_method_3_code 67 = .ok (.aload_n 2, 1) := by decide +kernel
theorem d_Trans_toPicture_68 : decode prog_7_method_3_code 68 = .ok (.getfield 46, 3) := by decide +kernel
theorem d_Trans_toPicture_71 : decode prog_7_method_3_code 71 = .ok (.invokevirtual 57, 3) := by decide +kernel
theorem d_Trans_toPicture_74 : decode prog_7_method_3_code 74 = .ok (.iinc 7 1, 3) := by decide +kernel
theorem d_Trans_toPicture_77 : decode prog_7_method_3_code 77 = .ok (.goto (-27), 3) := by decide +kernel
theorem d_Trans_toPicture_80 : decode prog_7_method_3_code 80 = .ok (.iconst 0, 1) := by decide +kernel
theorem d_Trans_toPicture_81 : decode prog_7_method_3_code 81 = .ok (.istore 7, 2) := by decide +kernel
theorem d_Trans_toPicture_83 : decode prog_7_method_3_code 83 = .ok (.iload 7, 2) := by decide +kernel
theorem d_Trans_toPicture_85 : decode prog_7_method_3_code 85 = .ok (.iload 6, 2) := by decide +kernel
theorem d_Trans_toPicture_87 : decode prog_7_method_3_code 87 = .ok (.if_icmp .ge 28, 3) := by decide +kernel
theorem d_Trans_toPicture_90 : decode prog_7_method_3_code 90 = .ok (.aload_n 0, 1) := by decide +kernel
theorem d_Trans_toPicture_91 : decode prog_7_method_3_code 91 = .ok (.aload_n 1, 1) := by decide +kernel
theorem d_Trans_toPicture_92 : decode prog_7_method_3_code 92 = .ok (.iload 7, 2) := by decide +kernel
theorem d_Trans_toPicture_94 : decode prog_7_method_3_code 94 = .ok (.bipush 16, 2) := by decide +kernel
theorem d_Trans_toPicture_96 : decode prog_7_method_3_code 96 = .ok (.imul, 1) := by decide +kernel
theorem d_Trans_toPicture_97 : decode prog_7_method_3_code 97 = .ok (.iconst 1, 1) := by decide +kernel
theorem d_Trans_toPicture_98 : decode prog_7_method_3_code 98 = .ok (.iload 5, 2) := by decide +kernel
theorem d_Trans_toPicture_100 : decode prog_7_method_3_code 100 = .ok (.iconst 2, 1) := by decide +kernel
theorem d_Trans_toPicture_101 : decode prog_7_method_3_code 101 = .ok (.idiv, 1) := by decide +kernel
theorem d_Trans_toPicture_102 : decode prog_7_method_3_code 102 = .ok (.aload_n 2, 1) := by decide +kernel
theorem d_Trans_toPicture_103 : decode prog_7_method_3_code 103 = .ok (.getfield 46, 3) := by decide +kernel
theorem d_Trans_toPicture_106 : decode prog_7_method_3_code 106 = .ok (.invokevirtual 57, 3) := by decide +kernel
theorem d_Trans_toPicture_109 : decode prog_7_method_3_code 109 = .ok (.iinc 7 1, 3) := by decide +kernel
theorem d_Trans_toPicture_112 : decode prog_7_method_3_code 112 = .ok (.goto (-29), 3) := by decide +kernel
theorem d_Trans_toPicture_115 : decode prog_7_method_3_code 115 = .ok (.aload_n 1, 1) := by decide +kernel
theorem d_Trans_toPicture_116 : decode prog_7_method_3_code 116 = .ok (.iload 5, 2) := by decide +kernel
theorem d_Trans_toPicture_118 : decode prog_7_method_3_code 118 = .ok (.iload 6, 2) := by decide +kernel
theorem d_Trans_toPicture_120 : decode prog_7_method_3_code 120 = .ok (.getstatic 42, 3) := by decide +kernel
theorem d_Trans_toPicture_123 : decode prog_7_method_3_code 123 = .ok (.aload_n 2, 1) := by decide +kernel
theorem d_Trans_toPicture_124 : decode prog_7_method_3_code 124 = .ok (.getfield 46, 3) := by decide +kernel
theorem d_Trans_toPicture_127 : decode prog_7_method_3_code 127 = .ok (.iaload, 1) := by decide +kernel
theorem d_Trans_toPicture_128 : decode prog_7_method_3_code 128 = .ok (.invokestatic 60, 3) := by decide +kernel
theorem d_Trans_toPicture_131 : decode prog_7_method_3_code 131 = .ok (.iinc 4 (-1), 3) := by decide +kernel
theorem d_Trans_toPicture_134 : decode prog_7_method_3_code 134 = .ok (.goto (-126), 3) := by decide +kernel
theorem d_Trans_toPicture_137 : decode prog_7_method_3_code 137 = .ok (.return_, 1) := by decide +kernel
abbrev w_Trans_toCoefficients : List Cond := Cond.code y_Trans_toCoefficients prog_7_method_2_code 8 none :: wl
abbrev r_Trans_toCoefficients : Room := { frames := 4, cells := 0, slots := 0, locals := 110 }
set_option maxHeartbeats 4000000 in
set_option maxRecDepth 100000 in
theorem c_Trans_toCoefficients (l : Launch) (G : k_G) (sz : Nat) (rT ra rS rL rev rod rE rl rt rw rh rf rp rb : Nat) (kd db ew ac dn pr nu de cP cQ nb : Int) (ge go a0 : Int → Int64) (hkd : 0 ≤ kd ∧ kd ≤ 6) (hde : 0 ≤ db ∧ db ≤ 2 ∧ 0 ≤ ew ∧ ew ≤ 2 ∧ db + ew ≤ 3) (hcP : 0 ≤ cP ∧ cP ≤ 16) (hcQ : 0 ≤ cQ ∧ cQ ≤ 16) : Met l y_Trans_toCoefficients w_Trans_toCoefficients r_Trans_toCoefficients (k_P G [.ref rT, .ref ra, .ref rS, .ref rL] [(rT, .inr (5, [.ref rev, .ref rod])), (rev, al (gL G) 8 (ge)), (rod, al (gL G) 8 (go)), (ra, al (gL G) 256 (a0)), (rS, .inr (3, [.int (iv (kd)), .int (iv (db)), .int (iv (ew)), .int (iv (ac)), .int (iv (dn)), .int (iv (pr)), .ref rE, .int (iv (nu)), .int (iv (de))])), (rL, .inr (1, [.int (iv (cP)), .int (iv (cQ)), .int (iv (nb)), .ref rl, .ref rt, .ref rw, .ref rh, .ref rf, .ref rp, .ref rb]))] sz) (qv G (fun u : (Int → Int64) × (Int → Int64) × (Int → Int64) => u = fwA cP cQ db ew kd (a0, ge, go)) (fun u : (Int → Int64) × (Int → Int64) × (Int → Int64) => [(rT, .inr (5, [.ref rev, .ref rod])), (rev, al (gL G) 8 (u.2.1)), (rod, al (gL G) 8 (u.2.2)), (ra, al (gL G) 256 (u.1)), (rS, .inr (3, [.int (iv (kd)), .int (iv (db)), .int (iv (ew)), .int (iv (ac)), .int (iv (dn)), .int (iv (pr)), .ref rE, .int (iv (nu)), .int (iv (de))])), (rL, .inr (1, [.int (iv (cP)), .int (iv (cQ)), .int (iv (nb)), .ref rl, .ref rt, .ref rw, .ref rh, .ref rf, .ref rp, .ref rb]))]) (va_A [(rT, .inr (5, [.ref rev, .ref rod])), (rev, al (gL G) 8 (ge)), (rod, al (gL G) 8 (go)), (ra, al (gL G) 256 (a0)), (rS, .inr (3, [.int (iv (kd)), .int (iv (db)), .int (iv (ew)), .int (iv (ac)), .int (iv (dn)), .int (iv (pr)), .ref rE, .int (iv (nu)), .int (iv (de))])), (rL, .inr (1, [.int (iv (cP)), .int (iv (cQ)), .int (iv (nb)), .ref rl, .ref rt, .ref rw, .ref rh, .ref rf, .ref rp, .ref rb]))] sz)) 0 0 (va_A [(rT, .inr (5, [.ref rev, .ref rod])), (rev, al (gL G) 8 (ge)), (rod, al (gL G) 8 (go)), (ra, al (gL G) 256 (a0)), (rS, .inr (3, [.int (iv (kd)), .int (iv (db)), .int (iv (ew)), .int (iv (ac)), .int (iv (dn)), .int (iv (pr)), .ref rE, .int (iv (nu)), .int (iv (de))])), (rL, .inr (1, [.int (iv (cP)), .int (iv (cQ)), .int (iv (nb)), .ref rl, .ref rt, .ref rw, .ref rh, .ref rf, .ref rp, .ref rb]))] sz) := by
  refine k_met (fun A => qv G (fun u : (Int → Int64) × (Int → Int64) × (Int → Int64) => u = fwA cP cQ db ew kd (a0, ge, go)) (fun u : (Int → Int64) × (Int → Int64) × (Int → Int64) => [(rT, .inr (5, [.ref rev, .ref rod])), (rev, al (gL G) 8 (u.2.1)), (rod, al (gL G) 8 (u.2.2)), (ra, al (gL G) 256 (u.1)), (rS, .inr (3, [.int (iv (kd)), .int (iv (db)), .int (iv (ew)), .int (iv (ac)), .int (iv (dn)), .int (iv (pr)), .ref rE, .int (iv (nu)), .int (iv (de))])), (rL, .inr (1, [.int (iv (cP)), .int (iv (cQ)), .int (iv (nb)), .ref rl, .ref rt, .ref rw, .ref rh, .ref rf, .ref rp, .ref rb]))]) A) (fun A => A) (by decide) rfl (Nat.le_of_ble_eq_true rfl) (fun p e s m args below meth c ls A Q S hr hlk hnm hl hsz hP hK hD hS hA hT hQ => ?_)
  obtain ⟨hx, hb, hml, hown, hts⟩ := id S
  have hw : ∀ w ∈ wl, w.before args s = true := fun w h => hts w (List.mem_cons_of_mem _ h)
  obtain ⟨⟨tG, hztG, httG⟩, ⟨tF, hztF, httF⟩, ⟨tC, hztC, httC⟩, ⟨tS, hztS, httS⟩⟩ := hT.1
  have hl : lv_has ls 8 [(0, .ref rT), (1, .ref ra), (2, .ref rS), (3, .ref rL)] := hl
  have c1 := gainT_r kd
  refine lv_iconst (v := iv (0)) hx hb d_Trans_toCoefficients_0 rfl ?_
  refine lv_istore hx hb d_Trans_toCoefficients_1 hl (by decide) rfl (fun ls hl => ?_)
  have hl : lv_has ls 8 [(4, .int (iv (0))), (0, .ref rT), (1, .ref ra), (2, .ref rS), (3, .ref rL)] := hl
  refine lo_up (P := fun lv => ∀ (ls : Array Slot) (H : Heap) (locs : List Loc) (a1 : Int → Int64) (ge1 : Int → Int64) (go1 : Int → Int64), lv_has ls 8 [(0, .ref rT), (1, .ref ra), (2, .ref rS), (3, .ref rL), (4, .int (iv (lv)))] → va_P (gD G) classes [(rT, .inr (5, [.ref rev, .ref rod])), (rev, al (gL G) 8 (ge1)), (rod, al (gL G) 8 (go1)), (ra, al (gL G) 256 (a1)), (rS, .inr (3, [.int (iv (kd)), .int (iv (db)), .int (iv (ew)), .int (iv (ac)), .int (iv (dn)), .int (iv (pr)), .ref rE, .int (iv (nu)), .int (iv (de))])), (rL, .inr (1, [.int (iv (cP)), .int (iv (cQ)), .int (iv (nb)), .ref rl, .ref rt, .ref rw, .ref rh, .ref rf, .ref rp, .ref rb]))] H → va_D A [(rT, .inr (5, [.ref rev, .ref rod])), (rev, al (gL G) 8 (ge1)), (rod, al (gL G) 8 (go1)), (ra, al (gL G) 256 (a1)), (rS, .inr (3, [.int (iv (kd)), .int (iv (db)), .int (iv (ew)), .int (iv (ac)), .int (iv (dn)), .int (iv (pr)), .ref rE, .int (iv (nu)), .int (iv (de))])), (rL, .inr (1, [.int (iv (cP)), .int (iv (cQ)), .int (iv (nb)), .ref rl, .ref rt, .ref rw, .ref rh, .ref rf, .ref rp, .ref rb]))] → va_S A s.heap H locs → ((a1, ge1, go1) = it (fwf cP cQ db kd) 0 lv (a0, ge, go)) → W p l e r_Trans_toCoefficients s m args below meth c H locs 0 0 Q (F0 m 3 ls [])) (a := 0) (b := db + ew) (fun lv hilv hjlv ihlv => ?_) _ _ _ a0 ge go (lv_sub hl [1, 2, 3, 4, 0] rfl) hP hD hS (it_self _ _ _).symm
  intro ls H locs a1 ge1 go1 hl hP hD hS hs
  refine lv_iload hx hb d_Trans_toCoefficients_3 (lv_at hl 4 rfl) ?_
  refine lv_aload_n hx hb d_Trans_toCoefficients_5 rfl (lv_at hl 2 rfl) ?_
  refine k_ciR (k_rv S (c_Setup_levels l G _ rS rE kd db ew ac dn pr nu de ) 0 m1_224 m2_122 m1_222 m1_223 m1_2 (by decide +kernel) (by decide) rfl rfl (k_preV (q0 := 4) hK hP hD hS hA hT rfl rfl [4] (by decide) rfl) rfl hl.1 rfl (Nat.le_of_ble_eq_true rfl) d_Trans_toCoefficients_6 ⟨Nat.le_of_ble_eq_true rfl, Nat.le_of_ble_eq_true rfl⟩) (fun r6 h6 => ?_)
  subst h6
  refine k_icmp_ge (tgt := 136) hx hb d_Trans_toCoefficients_9 (by decide) (by omega) (by omega) (fun hc9 => ?_) (fun hc9 => ?_)
  · exact k_vret hx hb hr hlk hQ ((a1, ge1, go1)) (by rw [hs]; exact it_x _ _ hc9 hjlv) hP hD hS d_Trans_toCoefficients_136
  · have k1 := lv_r (c := cP) (lv := lv) hcP
    have k2 := lv_r (c := cQ) (lv := min lv db) hcQ
    refine lv_aload_n hx hb d_Trans_toCoefficients_12 rfl (lv_at hl 3 rfl) ?_
    refine va_get (D := gD G) (ci := 1) (v := .int (iv (cP))) (C := R_Layout) (T := F_Layout) (N := 10) hx hb hw in_Layout hown hK hP 5 rfl rfl 0 (by decide) (hw _ m1_79) (fun _ h => h) rfl d_Trans_toCoefficients_13 ?_
    refine lv_iload hx hb d_Trans_toCoefficients_16 (lv_at hl 4 rfl) ?_
    refine k_ishr hx hb d_Trans_toCoefficients_18 (by omega) (by omega) ?_
    refine k_nmi (fun w1 hw1 => ?_)
    refine lv_istore hx hb d_Trans_toCoefficients_19 hl (by decide) rfl (fun ls hl => ?_)
    have hl : lv_has ls 8 [(5, .int (iv (w1))), (0, .ref rT), (1, .ref ra), (2, .ref rS), (3, .ref rL), (4, .int (iv (lv)))] := hl
    refine lv_aload_n hx hb d_Trans_toCoefficients_21 rfl (lv_at hl 4 rfl) ?_
    refine va_get (D := gD G) (ci := 1) (v := .int (iv (cQ))) (C := R_Layout) (T := F_Layout) (N := 10) hx hb hw in_Layout hown hK hP 5 rfl rfl 1 (by decide) (hw _ m1_82) (fun _ h => h) rfl d_Trans_toCoefficients_22 ?_
    refine lv_iload hx hb d_Trans_toCoefficients_25 (lv_at hl 5 rfl) ?_
    refine lv_aload_n hx hb d_Trans_toCoefficients_27 rfl (lv_at hl 3 rfl) ?_
    refine va_get (D := gD G) (ci := 3) (v := .int (iv (db))) (C := R_Setup) (T := F_Setup) (N := 9) hx hb hw in_Setup hown hK hP 4 rfl rfl 1 (by decide) (hw _ m1_31) (fun _ h => h) rfl d_Trans_toCoefficients_28 ?_
    refine k_mmin hx hb (by rw [hml]; exact hl.1.symm) hown (hw _ m2_123) (hw _ m1_212) (hw _ m1_8) (hw _ m1_213) (by decide) (Nat.le_of_ble_eq_true rfl) (by decide) (by decide) (by omega) (by omega) d_Trans_toCoefficients_31 ?_
    refine k_ishr hx hb d_Trans_toCoefficients_34 (by omega) (by omega) ?_
    refine k_nmi (fun h1 hh1 => ?_)
    rw [← hw1] at k1
    rw [← hh1] at k2
    have hW : lvW cP lv = w1 := hw1.symm
    have hH : lvH cQ db lv = h1 := hh1.symm
    refine lv_istore hx hb d_Trans_toCoefficients_35 hl (by decide) rfl (fun ls hl => ?_)
    have hl : lv_has ls 8 [(6, .int (iv (h1))), (5, .int (iv (w1))), (0, .ref rT), (1, .ref ra), (2, .ref rS), (3, .ref rL), (4, .int (iv (lv)))] := hl
    refine lv_aload_n hx hb d_Trans_toCoefficients_37 rfl (lv_at hl 3 rfl) ?_
    refine lv_iload hx hb d_Trans_toCoefficients_38 (lv_at hl 1 rfl) ?_
    refine lv_iload hx hb d_Trans_toCoefficients_40 (lv_at hl 0 rfl) ?_
    refine va_gets hx hb hztG hS hown (hw _ m2_124) (fun _ h => h) d_Trans_toCoefficients_42 ?_
    refine lv_aload_n hx hb d_Trans_toCoefficients_45 rfl (lv_at hl 4 rfl) ?_
    refine va_get (D := gD G) (ci := 3) (v := .int (iv (kd))) (C := R_Setup) (T := F_Setup) (N := 9) hx hb hw in_Setup hown hK hP 4 rfl rfl 0 (by decide) (hw _ m1_28) (fun _ h => h) rfl d_Trans_toCoefficients_46 ?_
    refine k_tab (f := gainT) hx hb httG hS (by omega) d_Trans_toCoefficients_49 ?_
    refine k_cv (wz := fun u : Int → Int64 => [(rT, .inr (5, [.ref rev, .ref rod])), (rev, al (gL G) 8 (ge1)), (rod, al (gL G) 8 (go1)), (ra, al (gL G) 256 (u)), (rS, .inr (3, [.int (iv (kd)), .int (iv (db)), .int (iv (ew)), .int (iv (ac)), .int (iv (dn)), .int (iv (pr)), .ref rE, .int (iv (nu)), .int (iv (de))])), (rL, .inr (1, [.int (iv (cP)), .int (iv (cQ)), .int (iv (nb)), .ref rl, .ref rt, .ref rw, .ref rh, .ref rf, .ref rp, .ref rb]))]) (wr := [(rT, .inr (5, [.ref rev, .ref rod])), (rev, al (gL G) 8 (ge1)), (rod, al (gL G) 8 (go1)), (rS, .inr (3, [.int (iv (kd)), .int (iv (db)), .int (iv (ew)), .int (iv (ac)), .int (iv (dn)), .int (iv (pr)), .ref rE, .int (iv (nu)), .int (iv (de))])), (rL, .inr (1, [.int (iv (cP)), .int (iv (cQ)), .int (iv (nb)), .ref rl, .ref rt, .ref rw, .ref rh, .ref rf, .ref rp, .ref rb]))]) (k_rs S (c_Trans_raise l G _ ra w1 h1 (gainT kd) a1 (by omega) (by omega) (by omega)) 4 m2_128 m2_126 m2_127 m1_4 (by decide +kernel) (by decide) rfl rfl (k_preS hK hP hD hS hA hT [3] (by decide) rfl) rfl hl.1 rfl (Nat.le_of_ble_eq_true rfl) d_Trans_toCoefficients_50 ⟨Nat.le_of_ble_eq_true rfl, Nat.le_of_ble_eq_true rfl⟩) hP hD hS hA [3] [0, 1, 2, 4, 5] [0, 1, 2, 5, 3, 4] rfl rfl (by decide) (by decide) (by decide) (fun _ => rfl) (fun u50 H locs h50 hP hD hS => ?_)
    obtain ⟨a50, hu50⟩ : ∃ z, z = u50 := ⟨_, rfl⟩
    subst hu50
    have hP : va_P (gD G) classes [(rT, .inr (5, [.ref rev, .ref rod])), (rev, al (gL G) 8 (ge1)), (rod, al (gL G) 8 (go1)), (ra, al (gL G) 256 (a50)), (rS, .inr (3, [.int (iv (kd)), .int (iv (db)), .int (iv (ew)), .int (iv (ac)), .int (iv (dn)), .int (iv (pr)), .ref rE, .int (iv (nu)), .int (iv (de))])), (rL, .inr (1, [.int (iv (cP)), .int (iv (cQ)), .int (iv (nb)), .ref rl, .ref rt, .ref rw, .ref rh, .ref rf, .ref rp, .ref rb]))] H := hP
    have hD : va_D A [(rT, .inr (5, [.ref rev, .ref rod])), (rev, al (gL G) 8 (ge1)), (rod, al (gL G) 8 (go1)), (ra, al (gL G) 256 (a50)), (rS, .inr (3, [.int (iv (kd)), .int (iv (db)), .int (iv (ew)), .int (iv (ac)), .int (iv (dn)), .int (iv (pr)), .ref rE, .int (iv (nu)), .int (iv (de))])), (rL, .inr (1, [.int (iv (cP)), .int (iv (cQ)), .int (iv (nb)), .ref rl, .ref rt, .ref rw, .ref rh, .ref rf, .ref rp, .ref rb]))] := hD
    try dsimp only at h50
    refine lv_iconst (v := iv (0)) hx hb d_Trans_toCoefficients_53 rfl ?_
    refine lv_istore hx hb d_Trans_toCoefficients_54 hl (by decide) rfl (fun ls hl => ?_)
    have hl : lv_has ls 8 [(7, .int (iv (0))), (6, .int (iv (h1))), (5, .int (iv (w1))), (0, .ref rT), (1, .ref ra), (2, .ref rS), (3, .ref rL), (4, .int (iv (lv)))] := hl
    refine lo_up (P := fun y => ∀ (ls : Array Slot) (H : Heap) (locs : List Loc) (a2 : Int → Int64) (ge2 : Int → Int64) (go2 : Int → Int64), lv_has ls 8 [(0, .ref rT), (1, .ref ra), (2, .ref rS), (3, .ref rL), (4, .int (iv (lv))), (5, .int (iv (w1))), (6, .int (iv (h1))), (7, .int (iv (y)))] → va_P (gD G) classes [(rT, .inr (5, [.ref rev, .ref rod])), (rev, al (gL G) 8 (ge2)), (rod, al (gL G) 8 (go2)), (ra, al (gL G) 256 (a2)), (rS, .inr (3, [.int (iv (kd)), .int (iv (db)), .int (iv (ew)), .int (iv (ac)), .int (iv (dn)), .int (iv (pr)), .ref rE, .int (iv (nu)), .int (iv (de))])), (rL, .inr (1, [.int (iv (cP)), .int (iv (cQ)), .int (iv (nb)), .ref rl, .ref rt, .ref rw, .ref rh, .ref rf, .ref rp, .ref rb]))] H → va_D A [(rT, .inr (5, [.ref rev, .ref rod])), (rev, al (gL G) 8 (ge2)), (rod, al (gL G) 8 (go2)), (ra, al (gL G) 256 (a2)), (rS, .inr (3, [.int (iv (kd)), .int (iv (db)), .int (iv (ew)), .int (iv (ac)), .int (iv (dn)), .int (iv (pr)), .ref rE, .int (iv (nu)), .int (iv (de))])), (rL, .inr (1, [.int (iv (cP)), .int (iv (cQ)), .int (iv (nb)), .ref rl, .ref rt, .ref rw, .ref rh, .ref rf, .ref rp, .ref rb]))] → va_S A s.heap H locs → ((a2, ge2, go2) = it (fun y z => spL (y * 16) 1 (w1 / 2) kd z) 0 y (a50, ge1, go1)) → W p l e r_Trans_toCoefficients s m args below meth c H locs 0 0 Q (F0 m 56 ls [])) (a := 0) (b := h1) (fun y hiy hjy ihy => ?_) _ _ _ a50 ge1 go1 (lv_sub hl [3, 4, 5, 6, 7, 2, 1, 0] rfl) hP hD hS (it_self _ _ _).symm
    intro ls H locs a2 ge2 go2 hl hP hD hS hs2
    refine lv_iload hx hb d_Trans_toCoefficients_56 (lv_at hl 7 rfl) ?_
    refine lv_iload hx hb d_Trans_toCoefficients_58 (lv_at hl 6 rfl) ?_
    refine k_icmp_ge (tgt := 88) hx hb d_Trans_toCoefficients_60 (by decide) (by omega) (by omega) (fun hc60 => ?_) (fun hc60 => ?_)
    · have e2 : (a2, ge2, go2) = spR w1 h1 kd (a50, ge1, go1) := by rw [hs2]; unfold spR; exact it_x _ _ hc60 hjy
      refine lv_iload hx hb d_Trans_toCoefficients_88 (lv_at hl 4 rfl) ?_
      refine lv_aload_n hx hb d_Trans_toCoefficients_90 rfl (lv_at hl 2 rfl) ?_
      refine va_get (D := gD G) (ci := 3) (v := .int (iv (db))) (C := R_Setup) (T := F_Setup) (N := 9) hx hb hw in_Setup hown hK hP 4 rfl rfl 1 (by decide) (hw _ m1_31) (fun _ h => h) rfl d_Trans_toCoefficients_91 ?_
      refine k_icmp_ge (tgt := 130) hx hb d_Trans_toCoefficients_94 (by decide) (by omega) (by omega) (fun hc94 => ?_) (fun hc94 => ?_)
      · refine lv_iinc (k := 4) (v := iv (lv + 1)) hx hb d_Trans_toCoefficients_130 hl rfl (iv_add _ _) (by decide) rfl (fun ls hl => ?_)
        have hl : lv_has ls 8 [(4, .int (iv (lv + 1))), (0, .ref rT), (1, .ref ra), (2, .ref rS), (3, .ref rL), (5, .int (iv (w1))), (6, .int (iv (h1))), (7, .int (iv (y)))] := hl
        refine lv_goto (tgt := 3) hx hb d_Trans_toCoefficients_133 (by decide) ?_
        exact ihlv (by omega) _ _ _ a2 ge2 go2 (lv_sub hl [1, 2, 3, 4, 0] rfl) hP hD hS (by rw [it_s _ _ hilv, ← hs]; unfold fwf; dsimp only; rw [hW, hH, ← h50, ← e2]; first | rw [if_neg (by omega)] | (rw [if_pos (by omega), hs3]; unfold spC; exact it_x _ _ hc104 hjx))
      · refine lv_iconst (v := iv (0)) hx hb d_Trans_toCoefficients_97 rfl ?_
        refine lv_istore hx hb d_Trans_toCoefficients_98 hl (by decide) rfl (fun ls hl => ?_)
        have hl : lv_has ls 8 [(7, .int (iv (0))), (0, .ref rT), (1, .ref ra), (2, .ref rS), (3, .ref rL), (4, .int (iv (lv))), (5, .int (iv (w1))), (6, .int (iv (h1)))] := hl
        refine lo_up (P := fun x => ∀ (ls : Array Slot) (H : Heap) (locs : List Loc) (a3 : Int → Int64) (ge3 : Int → Int64) (go3 : Int → Int64), lv_has ls 8 [(0, .ref rT), (1, .ref ra), (2, .ref rS), (3, .ref rL), (4, .int (iv (lv))), (5, .int (iv (w1))), (6, .int (iv (h1))), (7, .int (iv (x)))] → va_P (gD G) classes [(rT, .inr (5, [.ref rev, .ref rod])), (rev, al (gL G) 8 (ge3)), (rod, al (gL G) 8 (go3)), (ra, al (gL G) 256 (a3)), (rS, .inr (3, [.int (iv (kd)), .int (iv (db)), .int (iv (ew)), .int (iv (ac)), .int (iv (dn)), .int (iv (pr)), .ref rE, .int (iv (nu)), .int (iv (de))])), (rL, .inr (1, [.int (iv (cP)), .int (iv (cQ)), .int (iv (nb)), .ref rl, .ref rt, .ref rw, .ref rh, .ref rf, .ref rp, .ref rb]))] H → va_D A [(rT, .inr (5, [.ref rev, .ref rod])), (rev, al (gL G) 8 (ge3)), (rod, al (gL G) 8 (go3)), (ra, al (gL G) 256 (a3)), (rS, .inr (3, [.int (iv (kd)), .int (iv (db)), .int (iv (ew)), .int (iv (ac)), .int (iv (dn)), .int (iv (pr)), .ref rE, .int (iv (nu)), .int (iv (de))])), (rL, .inr (1, [.int (iv (cP)), .int (iv (cQ)), .int (iv (nb)), .ref rl, .ref rt, .ref rw, .ref rh, .ref rf, .ref rp, .ref rb]))] → va_S A s.heap H locs → ((a3, ge3, go3) = it (fun y z => spL y 16 (h1 / 2) kd z) 0 x (a2, ge2, go2)) → W p l e r_Trans_toCoefficients s m args below meth c H locs 0 0 Q (F0 m 100 ls [])) (a := 0) (b := w1) (fun x hix hjx ihx => ?_) _ _ _ a2 ge2 go2 (lv_sub hl [1, 2, 3, 4, 5, 6, 7, 0] rfl) hP hD hS (it_self _ _ _).symm
        intro ls H locs a3 ge3 go3 hl hP hD hS hs3
        refine lv_iload hx hb d_Trans_toCoefficients_100 (lv_at hl 7 rfl) ?_
        refine lv_iload hx hb d_Trans_toCoefficients_102 (lv_at hl 5 rfl) ?_
        refine k_icmp_ge (tgt := 130) hx hb d_Trans_toCoefficients_104 (by decide) (by omega) (by omega) (fun hc104 => ?_) (fun hc104 => ?_)
        · refine lv_iinc (k := 4) (v := iv (lv + 1)) hx hb d_Trans_toCoefficients_130 hl rfl (iv_add _ _) (by decide) rfl (fun ls hl => ?_)
          have hl : lv_has ls 8 [(4, .int (iv (lv + 1))), (0, .ref rT), (1, .ref ra), (2, .ref rS), (3, .ref rL), (5, .int (iv (w1))), (6, .int (iv (h1))), (7, .int (iv (x)))] := hl
          refine lv_goto (tgt := 3) hx hb d_Trans_toCoefficients_133 (by decide) ?_
          exact ihlv (by omega) _ _ _ a3 ge3 go3 (lv_sub hl [1, 2, 3, 4, 0] rfl) hP hD hS (by rw [it_s _ _ hilv, ← hs]; unfold fwf; dsimp only; rw [hW, hH, ← h50, ← e2]; first | rw [if_neg (by omega)] | (rw [if_pos (by omega), hs3]; unfold spC; exact it_x _ _ hc104 hjx))
        · refine lv_aload_n hx hb d_Trans_toCoefficients_107 rfl (lv_at hl 0 rfl) ?_
          refine lv_aload_n hx hb d_Trans_toCoefficients_108 rfl (lv_at hl 1 rfl) ?_
          refine lv_iload hx hb d_Trans_toCoefficients_109 (lv_at hl 7 rfl) ?_
          refine lv_bipush (v := iv (16)) hx hb d_Trans_toCoefficients_111 rfl ?_
          refine lv_iload hx hb d_Trans_toCoefficients_113 (lv_at hl 6 rfl) ?_
          refine lv_iconst (v := iv (2)) hx hb d_Trans_toCoefficients_115 rfl ?_
          refine k_idiv hx hb d_Trans_toCoefficients_116 (by omega) (by omega) ?_
          refine lv_aload_n hx hb d_Trans_toCoefficients_117 rfl (lv_at hl 2 rfl) ?_
          refine va_get (D := gD G) (ci := 3) (v := .int (iv (kd))) (C := R_Setup) (T := F_Setup) (N := 9) hx hb hw in_Setup hown hK hP 4 rfl rfl 0 (by decide) (hw _ m1_28) (fun _ h => h) rfl d_Trans_toCoefficients_118 ?_
          refine k_cv (wz := fun u : (Int → Int64) × (Int → Int64) × (Int → Int64) => [(rT, .inr (5, [.ref rev, .ref rod])), (rev, al (gL G) 8 (u.2.1)), (rod, al (gL G) 8 (u.2.2)), (ra, al (gL G) 256 (u.1)), (rS, .inr (3, [.int (iv (kd)), .int (iv (db)), .int (iv (ew)), .int (iv (ac)), .int (iv (dn)), .int (iv (pr)), .ref rE, .int (iv (nu)), .int (iv (de))])), (rL, .inr (1, [.int (iv (cP)), .int (iv (cQ)), .int (iv (nb)), .ref rl, .ref rt, .ref rw, .ref rh, .ref rf, .ref rp, .ref rb]))]) (wr := [(rS, .inr (3, [.int (iv (kd)), .int (iv (db)), .int (iv (ew)), .int (iv (ac)), .int (iv (dn)), .int (iv (pr)), .ref rE, .int (iv (nu)), .int (iv (de))])), (rL, .inr (1, [.int (iv (cP)), .int (iv (cQ)), .int (iv (nb)), .ref rl, .ref rt, .ref rw, .ref rh, .ref rf, .ref rp, .ref rb]))]) (k_rv S (c_Trans_splitLine l G _ rT ra rev rod x 16 (h1 / 2) kd ge3 go3 a3 (by omega) (by omega) (fun m a b => by omega)) 5 m2_132 m2_129 m2_131 mp_5 m1_4 (by decide +kernel) (by decide) rfl rfl (k_preV (q0 := 0) hK hP hD hS hA hT rfl rfl [0, 1, 2, 3] (by decide) rfl) rfl hl.1 rfl (Nat.le_of_ble_eq_true rfl) d_Trans_toCoefficients_121 ⟨Nat.le_of_ble_eq_true rfl, Nat.le_of_ble_eq_true rfl⟩) hP hD hS hA [0, 1, 2, 3] [4, 5] [2, 3, 4, 5, 0, 1] rfl rfl (by decide) (by decide) (by decide) (fun _ => rfl) (fun u121 H locs h121 hP hD hS => ?_)
          obtain ⟨a121, ge121, go121⟩ := u121
          have hP : va_P (gD G) classes [(rT, .inr (5, [.ref rev, .ref rod])), (rev, al (gL G) 8 (ge121)), (rod, al (gL G) 8 (go121)), (ra, al (gL G) 256 (a121)), (rS, .inr (3, [.int (iv (kd)), .int (iv (db)), .int (iv (ew)), .int (iv (ac)), .int (iv (dn)), .int (iv (pr)), .ref rE, .int (iv (nu)), .int (iv (de))])), (rL, .inr (1, [.int (iv (cP)), .int (iv (cQ)), .int (iv (nb)), .ref rl, .ref rt, .ref rw, .ref rh, .ref rf, .ref rp, .ref rb]))] H := hP
          have hD : va_D A [(rT, .inr (5, [.ref rev, .ref rod])), (rev, al (gL G) 8 (ge121)), (rod, al (gL G) 8 (go121)), (ra, al (gL G) 256 (a121)), (rS, .inr (3, [.int (iv (kd)), .int (iv (db)), .int (iv (ew)), .int (iv (ac)), .int (iv (dn)), .int (iv (pr)), .ref rE, .int (iv (nu)), .int (iv (de))])), (rL, .inr (1, [.int (iv (cP)), .int (iv (cQ)), .int (iv (nb)), .ref rl, .ref rt, .ref rw, .ref rh, .ref rf, .ref rp, .ref rb]))] := hD
          try dsimp only at h121
          refine lv_iinc (k := 7) (v := iv (x + 1)) hx hb d_Trans_toCoefficients_124 hl rfl (iv_add _ _) (by decide) rfl (fun ls hl => ?_)
          have hl : lv_has ls 8 [(7, .int (iv (x + 1))), (0, .ref rT), (1, .ref ra), (2, .ref rS), (3, .ref rL), (4, .int (iv (lv))), (5, .int (iv (w1))), (6, .int (iv (h1)))] := hl
          refine lv_goto (tgt := 100) hx hb d_Trans_toCoefficients_127 (by decide) ?_
          exact ihx (by omega) _ _ _ a121 ge121 go121 (lv_sub hl [1, 2, 3, 4, 5, 6, 7, 0] rfl) hP hD hS (by rw [it_s _ _ hix, ← hs3]; exact h121)
    · refine lv_aload_n hx hb d_Trans_toCoefficients_63 rfl (lv_at hl 0 rfl) ?_
      refine lv_aload_n hx hb d_Trans_toCoefficients_64 rfl (lv_at hl 1 rfl) ?_
      refine lv_iload hx hb d_Trans_toCoefficients_65 (lv_at hl 7 rfl) ?_
      refine lv_bipush (v := iv (16)) hx hb d_Trans_toCoefficients_67 rfl ?_
      refine k_imul hx hb d_Trans_toCoefficients_69 ?_
      refine lv_iconst (v := iv (1)) hx hb d_Trans_toCoefficients_70 rfl ?_
      refine lv_iload hx hb d_Trans_toCoefficients_71 (lv_at hl 5 rfl) ?_
      refine lv_iconst (v := iv (2)) hx hb d_Trans_toCoefficients_73 rfl ?_
      refine k_idiv hx hb d_Trans_toCoefficients_74 (by omega) (by omega) ?_
      refine lv_aload_n hx hb d_Trans_toCoefficients_75 rfl (lv_at hl 2 rfl) ?_
      refine va_get (D := gD G) (ci := 3) (v := .int (iv (kd))) (C := R_Setup) (T := F_Setup) (N := 9) hx hb hw in_Setup hown hK hP 4 rfl rfl 0 (by decide) (hw _ m1_28) (fun _ h => h) rfl d_Trans_toCoefficients_76 ?_
      refine k_cv (wz := fun u : (Int → Int64) × (Int → Int64) × (Int → Int64) => [(rT, .inr (5, [.ref rev, .ref rod])), (rev, al (gL G) 8 (u.2.1)), (rod, al (gL G) 8 (u.2.2)), (ra, al (gL G) 256 (u.1)), (rS, .inr (3, [.int (iv (kd)), .int (iv (db)), .int (iv (ew)), .int (iv (ac)), .int (iv (dn)), .int (iv (pr)), .ref rE, .int (iv (nu)), .int (iv (de))])), (rL, .inr (1, [.int (iv (cP)), .int (iv (cQ)), .int (iv (nb)), .ref rl, .ref rt, .ref rw, .ref rh, .ref rf, .ref rp, .ref rb]))]) (wr := [(rS, .inr (3, [.int (iv (kd)), .int (iv (db)), .int (iv (ew)), .int (iv (ac)), .int (iv (dn)), .int (iv (pr)), .ref rE, .int (iv (nu)), .int (iv (de))])), (rL, .inr (1, [.int (iv (cP)), .int (iv (cQ)), .int (iv (nb)), .ref rl, .ref rt, .ref rw, .ref rh, .ref rf, .ref rp, .ref rb]))]) (k_rv S (c_Trans_splitLine l G _ rT ra rev rod (y * 16) 1 (w1 / 2) kd ge2 go2 a2 (by omega) (by omega) (fun m a b => by omega)) 5 m2_132 m2_129 m2_131 mp_5 m1_4 (by decide +kernel) (by decide) rfl rfl (k_preV (q0 := 0) hK hP hD hS hA hT rfl rfl [0, 1, 2, 3] (by decide) rfl) rfl hl.1 rfl (Nat.le_of_ble_eq_true rfl) d_Trans_toCoefficients_79 ⟨Nat.le_of_ble_eq_true rfl, Nat.le_of_ble_eq_true rfl⟩) hP hD hS hA [0, 1, 2, 3] [4, 5] [2, 3, 4, 5, 0, 1] rfl rfl (by decide) (by decide) (by decide) (fun _ => rfl) (fun u79 H locs h79 hP hD hS => ?_)
      obtain ⟨a79, ge79, go79⟩ := u79
      have hP : va_P (gD G) classes [(rT, .inr (5, [.ref rev, .ref rod])), (rev, al (gL G) 8 (ge79)), (rod, al (gL G) 8 (go79)), (ra, al (gL G) 256 (a79)), (rS, .inr (3, [.int (iv (kd)), .int (iv (db)), .int (iv (ew)), .int (iv (ac)), .int (iv (dn)), .int (iv (pr)), .ref rE, .int (iv (nu)), .int (iv (de))])), (rL, .inr (1, [.int (iv (cP)), .int (iv (cQ)), .int (iv (nb)), .ref rl, .ref rt, .ref rw, .ref rh, .ref rf, .ref rp, .ref rb]))] H := hP
      have hD : va_D A [(rT, .inr (5, [.ref rev, .ref rod])), (rev, al (gL G) 8 (ge79)), (rod, al (gL G) 8 (go79)), (ra, al (gL G) 256 (a79)), (rS, .inr (3, [.int (iv (kd)), .int (iv (db)), .int (iv (ew)), .int (iv (ac)), .int (iv (dn)), .int (iv (pr)), .ref rE, .int (iv (nu)), .int (iv (de))])), (rL, .inr (1, [.int (iv (cP)), .int (iv (cQ)), .int (iv (nb)), .ref rl, .ref rt, .ref rw, .ref rh, .ref rf, .ref rp, .ref rb]))] := hD
      try dsimp only at h79
      refine lv_iinc (k := 7) (v := iv (y + 1)) hx hb d_Trans_toCoefficients_82 hl rfl (iv_add _ _) (by decide) rfl (fun ls hl => ?_)
      have hl : lv_has ls 8 [(7, .int (iv (y + 1))), (0, .ref rT), (1, .ref ra), (2, .ref rS), (3, .ref rL), (4, .int (iv (lv))), (5, .int (iv (w1))), (6, .int (iv (h1)))] := hl
      refine lv_goto (tgt := 56) hx hb d_Trans_toCoefficients_85 (by decide) ?_
      exact ihy (by omega) _ _ _ a79 ge79 go79 (lv_sub hl [1, 2, 3, 4, 5, 6, 7, 0] rfl) hP hD hS (by rw [it_s _ _ hiy, ← hs2]; exact h79)
abbrev w_Trans_toPicture : List Cond := Cond.code y_Trans_toPicture prog_7_method_3_code 8 none :: wl
abbrev r_Trans_toPicture : Room := { frames := 4, cells := 0, slots := 0, locals := 110 }
set_option maxHeartbeats 4000000 in
set_option maxRecDepth 100000 in
theorem c_Trans_toPicture (l : Launch) (G : k_G) (sz : Nat) (rT ra rS rL rev rod rE rl rt rw rh rf rp rb : Nat) (kd db ew ac dn pr nu de cP cQ nb : Int) (ge go a0 : Int → Int64) (hkd : 0 ≤ kd ∧ kd ≤ 6) (hde : 0 ≤ db ∧ db ≤ 2 ∧ 0 ≤ ew ∧ ew ≤ 2 ∧ db + ew ≤ 3) (hcP : 0 ≤ cP ∧ cP ≤ 16) (hcQ : 0 ≤ cQ ∧ cQ ≤ 16) : Met l y_Trans_toPicture w_Trans_toPicture r_Trans_toPicture (k_P G [.ref rT, .ref ra, .ref rS, .ref rL] [(rT, .inr (5, [.ref rev, .ref rod])), (rev, al (gL G) 8 (ge)), (rod, al (gL G) 8 (go)), (ra, al (gL G) 256 (a0)), (rS, .inr (3, [.int (iv (kd)), .int (iv (db)), .int (iv (ew)), .int (iv (ac)), .int (iv (dn)), .int (iv (pr)), .ref rE, .int (iv (nu)), .int (iv (de))])), (rL, .inr (1, [.int (iv (cP)), .int (iv (cQ)), .int (iv (nb)), .ref rl, .ref rt, .ref rw, .ref rh, .ref rf, .ref rp, .ref rb]))] sz) (qv G (fun u : (Int → Int64) × (Int → Int64) × (Int → Int64) => u = bwA cP cQ db ew kd (a0, ge, go)) (fun u : (Int → Int64) × (Int → Int64) × (Int → Int64) => [(rT, .inr (5, [.ref rev, .ref rod])), (rev, al (gL G) 8 (u.2.1)), (rod, al (gL G) 8 (u.2.2)), (ra, al (gL G) 256 (u.1)), (rS, .inr (3, [.int (iv (kd)), .int (iv (db)), .int (iv (ew)), .int (iv (ac)), .int (iv (dn)), .int (iv (pr)), .ref rE, .int (iv (nu)), .int (iv (de))])), (rL, .inr (1, [.int (iv (cP)), .int (iv (cQ)), .int (iv (nb)), .ref rl, .ref rt, .ref rw, .ref rh, .ref rf, .ref rp, .ref rb]))]) (va_A [(rT, .inr (5, [.ref rev, .ref rod])), (rev, al (gL G) 8 (ge)), (rod, al (gL G) 8 (go)), (ra, al (gL G) 256 (a0)), (rS, .inr (3, [.int (iv (kd)), .int (iv (db)), .int (iv (ew)), .int (iv (ac)), .int (iv (dn)), .int (iv (pr)), .ref rE, .int (iv (nu)), .int (iv (de))])), (rL, .inr (1, [.int (iv (cP)), .int (iv (cQ)), .int (iv (nb)), .ref rl, .ref rt, .ref rw, .ref rh, .ref rf, .ref rp, .ref rb]))] sz)) 0 0 (va_A [(rT, .inr (5, [.ref rev, .ref rod])), (rev, al (gL G) 8 (ge)), (rod, al (gL G) 8 (go)), (ra, al (gL G) 256 (a0)), (rS, .inr (3, [.int (iv (kd)), .int (iv (db)), .int (iv (ew)), .int (iv (ac)), .int (iv (dn)), .int (iv (pr)), .ref rE, .int (iv (nu)), .int (iv (de))])), (rL, .inr (1, [.int (iv (cP)), .int (iv (cQ)), .int (iv (nb)), .ref rl, .ref rt, .ref rw, .ref rh, .ref rf, .ref rp, .ref rb]))] sz) := by
  refine k_met (fun A => qv G (fun u : (Int → Int64) × (Int → Int64) × (Int → Int64) => u = bwA cP cQ db ew kd (a0, ge, go)) (fun u : (Int → Int64) × (Int → Int64) × (Int → Int64) => [(rT, .inr (5, [.ref rev, .ref rod])), (rev, al (gL G) 8 (u.2.1)), (rod, al (gL G) 8 (u.2.2)), (ra, al (gL G) 256 (u.1)), (rS, .inr (3, [.int (iv (kd)), .int (iv (db)), .int (iv (ew)), .int (iv (ac)), .int (iv (dn)), .int (iv (pr)), .ref rE, .int (iv (nu)), .int (iv (de))])), (rL, .inr (1, [.int (iv (cP)), .int (iv (cQ)), .int (iv (nb)), .ref rl, .ref rt, .ref rw, .ref rh, .ref rf, .ref rp, .ref rb]))]) A) (fun A => A) (by decide) rfl (Nat.le_of_ble_eq_true rfl) (fun p e s m args below meth c ls A Q S hr hlk hnm hl hsz hP hK hD hS hA hT hQ => ?_)
  obtain ⟨hx, hb, hml, hown, hts⟩ := id S
  have hw : ∀ w ∈ wl, w.before args s = true := fun w h => hts w (List.mem_cons_of_mem _ h)
  obtain ⟨⟨tG, hztG, httG⟩, ⟨tF, hztF, httF⟩, ⟨tC, hztC, httC⟩, ⟨tS, hztS, httS⟩⟩ := hT.1
  have hl : lv_has ls 8 [(0, .ref rT), (1, .ref ra), (2, .ref rS), (3, .ref rL)] := hl
  have c1 := gainT_r kd
  refine lv_aload_n hx hb d_Trans_toPicture_0 rfl (lv_at hl 2 rfl) ?_
  refine k_ciR (k_rv S (c_Setup_levels l G _ rS rE kd db ew ac dn pr nu de ) 0 m1_224 m2_122 m1_222 m1_223 m1_2 (by decide +kernel) (by decide) rfl rfl (k_preV (q0 := 4) hK hP hD hS hA hT rfl rfl [4] (by decide) rfl) rfl hl.1 rfl (Nat.le_of_ble_eq_true rfl) d_Trans_toPicture_1 ⟨Nat.le_of_ble_eq_true rfl, Nat.le_of_ble_eq_true rfl⟩) (fun r1 h1 => ?_)
  subst h1
  refine lv_iconst (v := iv (1)) hx hb d_Trans_toPicture_4 rfl ?_
  refine k_isub hx hb d_Trans_toPicture_5 ?_
  refine lv_istore hx hb d_Trans_toPicture_6 hl (by decide) rfl (fun ls hl => ?_)
  have hl : lv_has ls 8 [(4, .int (iv ((db + ew) - 1))), (0, .ref rT), (1, .ref ra), (2, .ref rS), (3, .ref rL)] := hl
  refine lo_dn (P := fun lv => ∀ (ls : Array Slot) (H : Heap) (locs : List Loc) (a1 : Int → Int64) (ge1 : Int → Int64) (go1 : Int → Int64), lv_has ls 8 [(0, .ref rT), (1, .ref ra), (2, .ref rS), (3, .ref rL), (4, .int (iv (lv)))] → va_P (gD G) classes [(rT, .inr (5, [.ref rev, .ref rod])), (rev, al (gL G) 8 (ge1)), (rod, al (gL G) 8 (go1)), (ra, al (gL G) 256 (a1)), (rS, .inr (3, [.int (iv (kd)), .int (iv (db)), .int (iv (ew)), .int (iv (ac)), .int (iv (dn)), .int (iv (pr)), .ref rE, .int (iv (nu)), .int (iv (de))])), (rL, .inr (1, [.int (iv (cP)), .int (iv (cQ)), .int (iv (nb)), .ref rl, .ref rt, .ref rw, .ref rh, .ref rf, .ref rp, .ref rb]))] H → va_D A [(rT, .inr (5, [.ref rev, .ref rod])), (rev, al (gL G) 8 (ge1)), (rod, al (gL G) 8 (go1)), (ra, al (gL G) 256 (a1)), (rS, .inr (3, [.int (iv (kd)), .int (iv (db)), .int (iv (ew)), .int (iv (ac)), .int (iv (dn)), .int (iv (pr)), .ref rE, .int (iv (nu)), .int (iv (de))])), (rL, .inr (1, [.int (iv (cP)), .int (iv (cQ)), .int (iv (nb)), .ref rl, .ref rt, .ref rw, .ref rh, .ref rf, .ref rp, .ref rb]))] → va_S A s.heap H locs → ((a1, ge1, go1) = it (fun k y => bwf cP cQ db kd (db + ew - 1 - k) y) 0 (db + ew - 1 - lv) (a0, ge, go)) → W p l e r_Trans_toPicture s m args below meth c H locs 0 0 Q (F0 m 8 ls [])) (a := db + ew - 1) (fun lv hilv hjlv ihlv => ?_) _ _ _ a0 ge go (lv_sub hl [1, 2, 3, 4, 0] rfl) hP hD hS (by rw [Int.sub_self, it_self])
  intro ls H locs a1 ge1 go1 hl hP hD hS hs
  refine lv_iload hx hb d_Trans_toPicture_8 (lv_at hl 4 rfl) ?_
  refine k_if_lt (tgt := 137) hx hb d_Trans_toPicture_10 (by decide) (by omega) (fun hc10 => ?_) (fun hc10 => ?_)
  · exact k_vret hx hb hr hlk hQ ((a1, ge1, go1)) (by rw [hs]; exact it_x _ _ (by omega) (by omega)) hP hD hS d_Trans_toPicture_137
  · have k1 := lv_r (c := cP) (lv := lv) hcP
    have k2 := lv_r (c := cQ) (lv := min lv db) hcQ
    refine lv_aload_n hx hb d_Trans_toPicture_13 rfl (lv_at hl 3 rfl) ?_
    refine va_get (D := gD G) (ci := 1) (v := .int (iv (cP))) (C := R_Layout) (T := F_Layout) (N := 10) hx hb hw in_Layout hown hK hP 5 rfl rfl 0 (by decide) (hw _ m1_79) (fun _ h => h) rfl d_Trans_toPicture_14 ?_
    refine lv_iload hx hb d_Trans_toPicture_17 (lv_at hl 4 rfl) ?_
    refine k_ishr hx hb d_Trans_toPicture_19 (by omega) (by omega) ?_
    refine k_nmi (fun w1 hw1 => ?_)
    refine lv_istore hx hb d_Trans_toPicture_20 hl (by decide) rfl (fun ls hl => ?_)
    have hl : lv_has ls 8 [(5, .int (iv (w1))), (0, .ref rT), (1, .ref ra), (2, .ref rS), (3, .ref rL), (4, .int (iv (lv)))] := hl
    refine lv_aload_n hx hb d_Trans_toPicture_22 rfl (lv_at hl 4 rfl) ?_
    refine va_get (D := gD G) (ci := 1) (v := .int (iv (cQ))) (C := R_Layout) (T := F_Layout) (N := 10) hx hb hw in_Layout hown hK hP 5 rfl rfl 1 (by decide) (hw _ m1_82) (fun _ h => h) rfl d_Trans_toPicture_23 ?_
    refine lv_iload hx hb d_Trans_toPicture_26 (lv_at hl 5 rfl) ?_
    refine lv_aload_n hx hb d_Trans_toPicture_28 rfl (lv_at hl 3 rfl) ?_
    refine va_get (D := gD G) (ci := 3) (v := .int (iv (db))) (C := R_Setup) (T := F_Setup) (N := 9) hx hb hw in_Setup hown hK hP 4 rfl rfl 1 (by decide) (hw _ m1_31) (fun _ h => h) rfl d_Trans_toPicture_29 ?_
    refine k_mmin hx hb (by rw [hml]; exact hl.1.symm) hown (hw _ m2_123) (hw _ m1_212) (hw _ m1_8) (hw _ m1_213) (by decide) (Nat.le_of_ble_eq_true rfl) (by decide) (by decide) (by omega) (by omega) d_Trans_toPicture_32 ?_
    refine k_ishr hx hb d_Trans_toPicture_35 (by omega) (by omega) ?_
    refine k_nmi (fun h1 hh1 => ?_)
    rw [← hw1] at k1
    rw [← hh1] at k2
    have hW : lvW cP lv = w1 := hw1.symm
    have hH : lvH cQ db lv = h1 := hh1.symm
    refine lv_istore hx hb d_Trans_toPicture_36 hl (by decide) rfl (fun ls hl => ?_)
    have hl : lv_has ls 8 [(6, .int (iv (h1))), (5, .int (iv (w1))), (0, .ref rT), (1, .ref ra), (2, .ref rS), (3, .ref rL), (4, .int (iv (lv)))] := hl
    refine lv_iload hx hb d_Trans_toPicture_38 (lv_at hl 6 rfl) ?_
    refine lv_aload_n hx hb d_Trans_toPicture_40 rfl (lv_at hl 4 rfl) ?_
    refine va_get (D := gD G) (ci := 3) (v := .int (iv (db))) (C := R_Setup) (T := F_Setup) (N := 9) hx hb hw in_Setup hown hK hP 4 rfl rfl 1 (by decide) (hw _ m1_31) (fun _ h => h) rfl d_Trans_toPicture_41 ?_
    refine k_icmp_ge (tgt := 80) hx hb d_Trans_toPicture_44 (by decide) (by omega) (by omega) (fun hc44 => ?_) (fun hc44 => ?_)
    · refine lv_iconst (v := iv (0)) hx hb d_Trans_toPicture_80 rfl ?_
      refine lv_istore hx hb d_Trans_toPicture_81 hl (by decide) rfl (fun ls hl => ?_)
      have hl : lv_has ls 8 [(7, .int (iv (0))), (6, .int (iv (h1))), (5, .int (iv (w1))), (0, .ref rT), (1, .ref ra), (2, .ref rS), (3, .ref rL), (4, .int (iv (lv)))] := hl
      refine lo_up (P := fun y => ∀ (ls : Array Slot) (H : Heap) (locs : List Loc) (a3 : Int → Int64) (ge3 : Int → Int64) (go3 : Int → Int64), lv_has ls 8 [(0, .ref rT), (1, .ref ra), (2, .ref rS), (3, .ref rL), (4, .int (iv (lv))), (5, .int (iv (w1))), (6, .int (iv (h1))), (7, .int (iv (y)))] → va_P (gD G) classes [(rT, .inr (5, [.ref rev, .ref rod])), (rev, al (gL G) 8 (ge3)), (rod, al (gL G) 8 (go3)), (ra, al (gL G) 256 (a3)), (rS, .inr (3, [.int (iv (kd)), .int (iv (db)), .int (iv (ew)), .int (iv (ac)), .int (iv (dn)), .int (iv (pr)), .ref rE, .int (iv (nu)), .int (iv (de))])), (rL, .inr (1, [.int (iv (cP)), .int (iv (cQ)), .int (iv (nb)), .ref rl, .ref rt, .ref rw, .ref rh, .ref rf, .ref rp, .ref rb]))] H → va_D A [(rT, .inr (5, [.ref rev, .ref rod])), (rev, al (gL G) 8 (ge3)), (rod, al (gL G) 8 (go3)), (ra, al (gL G) 256 (a3)), (rS, .inr (3, [.int (iv (kd)), .int (iv (db)), .int (iv (ew)), .int (iv (ac)), .int (iv (dn)), .int (iv (pr)), .ref rE, .int (iv (nu)), .int (iv (de))])), (rL, .inr (1, [.int (iv (cP)), .int (iv (cQ)), .int (iv (nb)), .ref rl, .ref rt, .ref rw, .ref rh, .ref rf, .ref rp, .ref rb]))] → va_S A s.heap H locs → ((a3, ge3, go3) = it (fun y z => jnL (y * 16) 1 (w1 / 2) kd z) 0 y (a1, ge1, go1)) → W p l e r_Trans_toPicture s m args below meth c H locs 0 0 Q (F0 m 83 ls [])) (a := 0) (b := h1) (fun y hiy hjy ihy => ?_) _ _ _ a1 ge1 go1 (lv_sub hl [3, 4, 5, 6, 7, 2, 1, 0] rfl) hP hD hS (it_self _ _ _).symm
      intro ls H locs a3 ge3 go3 hl hP hD hS hs3
      refine lv_iload hx hb d_Trans_toPicture_83 (lv_at hl 7 rfl) ?_
      refine lv_iload hx hb d_Trans_toPicture_85 (lv_at hl 6 rfl) ?_
      refine k_icmp_ge (tgt := 115) hx hb d_Trans_toPicture_87 (by decide) (by omega) (by omega) (fun hc87 => ?_) (fun hc87 => ?_)
      · have e3 := hs3.trans (it_x _ _ hc87 hjy)
        refine lv_aload_n hx hb d_Trans_toPicture_115 rfl (lv_at hl 1 rfl) ?_
        refine lv_iload hx hb d_Trans_toPicture_116 (lv_at hl 5 rfl) ?_
        refine lv_iload hx hb d_Trans_toPicture_118 (lv_at hl 6 rfl) ?_
        refine va_gets hx hb hztG hS hown (hw _ m2_124) (fun _ h => h) d_Trans_toPicture_120 ?_
        refine lv_aload_n hx hb d_Trans_toPicture_123 rfl (lv_at hl 2 rfl) ?_
        refine va_get (D := gD G) (ci := 3) (v := .int (iv (kd))) (C := R_Setup) (T := F_Setup) (N := 9) hx hb hw in_Setup hown hK hP 4 rfl rfl 0 (by decide) (hw _ m1_28) (fun _ h => h) rfl d_Trans_toPicture_124 ?_
        refine k_tab (f := gainT) hx hb httG hS (by omega) d_Trans_toPicture_127 ?_
        refine k_cv (wz := fun u : Int → Int64 => [(rT, .inr (5, [.ref rev, .ref rod])), (rev, al (gL G) 8 (ge3)), (rod, al (gL G) 8 (go3)), (ra, al (gL G) 256 (u)), (rS, .inr (3, [.int (iv (kd)), .int (iv (db)), .int (iv (ew)), .int (iv (ac)), .int (iv (dn)), .int (iv (pr)), .ref rE, .int (iv (nu)), .int (iv (de))])), (rL, .inr (1, [.int (iv (cP)), .int (iv (cQ)), .int (iv (nb)), .ref rl, .ref rt, .ref rw, .ref rh, .ref rf, .ref rp, .ref rb]))]) (wr := [(rT, .inr (5, [.ref rev, .ref rod])), (rev, al (gL G) 8 (ge3)), (rod, al (gL G) 8 (go3)), (rS, .inr (3, [.int (iv (kd)), .int (iv (db)), .int (iv (ew)), .int (iv (ac)), .int (iv (dn)), .int (iv (pr)), .ref rE, .int (iv (nu)), .int (iv (de))])), (rL, .inr (1, [.int (iv (cP)), .int (iv (cQ)), .int (iv (nb)), .ref rl, .ref rt, .ref rw, .ref rh, .ref rf, .ref rp, .ref rb]))]) (k_rs S (c_Trans_lower l G _ ra w1 h1 (gainT kd) a3 (by omega) (by omega) (by omega)) 4 m3_98 m3_96 m3_97 m1_4 (by decide +kernel) (by decide) rfl rfl (k_preS hK hP hD hS hA hT [3] (by decide) rfl) rfl hl.1 rfl (Nat.le_of_ble_eq_true rfl) d_Trans_toPicture_128 ⟨Nat.le_of_ble_eq_true rfl, Nat.le_of_ble_eq_true rfl⟩) hP hD hS hA [3] [0, 1, 2, 4, 5] [0, 1, 2, 5, 3, 4] rfl rfl (by decide) (by decide) (by decide) (fun _ => rfl) (fun u128 H locs h128 hP hD hS => ?_)
        obtain ⟨a128, hu128⟩ : ∃ z, z = u128 := ⟨_, rfl⟩
        subst hu128
        have hP : va_P (gD G) classes [(rT, .inr (5, [.ref rev, .ref rod])), (rev, al (gL G) 8 (ge3)), (rod, al (gL G) 8 (go3)), (ra, al (gL G) 256 (a128)), (rS, .inr (3, [.int (iv (kd)), .int (iv (db)), .int (iv (ew)), .int (iv (ac)), .int (iv (dn)), .int (iv (pr)), .ref rE, .int (iv (nu)), .int (iv (de))])), (rL, .inr (1, [.int (iv (cP)), .int (iv (cQ)), .int (iv (nb)), .ref rl, .ref rt, .ref rw, .ref rh, .ref rf, .ref rp, .ref rb]))] H := hP
        have hD : va_D A [(rT, .inr (5, [.ref rev, .ref rod])), (rev, al (gL G) 8 (ge3)), (rod, al (gL G) 8 (go3)), (ra, al (gL G) 256 (a128)), (rS, .inr (3, [.int (iv (kd)), .int (iv (db)), .int (iv (ew)), .int (iv (ac)), .int (iv (dn)), .int (iv (pr)), .ref rE, .int (iv (nu)), .int (iv (de))])), (rL, .inr (1, [.int (iv (cP)), .int (iv (cQ)), .int (iv (nb)), .ref rl, .ref rt, .ref rw, .ref rh, .ref rf, .ref rp, .ref rb]))] := hD
        try dsimp only at h128
        refine lv_iinc (k := 4) (v := iv (lv + (-1))) hx hb d_Trans_toPicture_131 hl rfl (iv_add _ _) (by decide) rfl (fun ls hl => ?_)
        have hl : lv_has ls 8 [(4, .int (iv (lv + (-1)))), (0, .ref rT), (1, .ref ra), (2, .ref rS), (3, .ref rL), (5, .int (iv (w1))), (6, .int (iv (h1))), (7, .int (iv (y)))] := hl
        refine lv_goto (tgt := 8) hx hb d_Trans_toPicture_134 (by decide) ?_
        exact ihlv (by omega) _ _ _ a128 ge3 go3 (lv_sub hl [1, 2, 3, 4, 0] rfl) hP hD hS (by rw [show db + ew - 1 - (lv + (-1)) = (db + ew - 1 - lv) + 1 by omega, it_s _ _ (by omega), ← hs]; show _ = bwf cP cQ db kd (db + ew - 1 - (db + ew - 1 - lv)) (a1, ge1, go1); rw [show db + ew - 1 - (db + ew - 1 - lv) = lv by omega]; unfold bwf; dsimp only; rw [hW, hH]; first | (rw [if_neg (by omega), show jnR w1 h1 kd (a1, ge1, go1) = (a3, ge3, go3) from e3.symm, ← h128]) | (rw [if_pos (by omega), show jnC w1 h1 kd (a1, ge1, go1) = (a2, ge2, go2) from (by rw [hs2]; unfold jnC; exact (it_x _ _ hc54 hjx).symm), show jnR w1 h1 kd (a2, ge2, go2) = (a3, ge3, go3) from e3.symm, ← h128]))
      · refine lv_aload_n hx hb d_Trans_toPicture_90 rfl (lv_at hl 0 rfl) ?_
        refine lv_aload_n hx hb d_Trans_toPicture_91 rfl (lv_at hl 1 rfl) ?_
        refine lv_iload hx hb d_Trans_toPicture_92 (lv_at hl 7 rfl) ?_
        refine lv_bipush (v := iv (16)) hx hb d_Trans_toPicture_94 rfl ?_
        refine k_imul hx hb d_Trans_toPicture_96 ?_
        refine lv_iconst (v := iv (1)) hx hb d_Trans_toPicture_97 rfl ?_
        refine lv_iload hx hb d_Trans_toPicture_98 (lv_at hl 5 rfl) ?_
        refine lv_iconst (v := iv (2)) hx hb d_Trans_toPicture_100 rfl ?_
        refine k_idiv hx hb d_Trans_toPicture_101 (by omega) (by omega) ?_
        refine lv_aload_n hx hb d_Trans_toPicture_102 rfl (lv_at hl 2 rfl) ?_
        refine va_get (D := gD G) (ci := 3) (v := .int (iv (kd))) (C := R_Setup) (T := F_Setup) (N := 9) hx hb hw in_Setup hown hK hP 4 rfl rfl 0 (by decide) (hw _ m1_28) (fun _ h => h) rfl d_Trans_toPicture_103 ?_
        refine k_cv (wz := fun u : (Int → Int64) × (Int → Int64) × (Int → Int64) => [(rT, .inr (5, [.ref rev, .ref rod])), (rev, al (gL G) 8 (u.2.1)), (rod, al (gL G) 8 (u.2.2)), (ra, al (gL G) 256 (u.1)), (rS, .inr (3, [.int (iv (kd)), .int (iv (db)), .int (iv (ew)), .int (iv (ac)), .int (iv (dn)), .int (iv (pr)), .ref rE, .int (iv (nu)), .int (iv (de))])), (rL, .inr (1, [.int (iv (cP)), .int (iv (cQ)), .int (iv (nb)), .ref rl, .ref rt, .ref rw, .ref rh, .ref rf, .ref rp, .ref rb]))]) (wr := [(rS, .inr (3, [.int (iv (kd)), .int (iv (db)), .int (iv (ew)), .int (iv (ac)), .int (iv (dn)), .int (iv (pr)), .ref rE, .int (iv (nu)), .int (iv (de))])), (rL, .inr (1, [.int (iv (cP)), .int (iv (cQ)), .int (iv (nb)), .ref rl, .ref rt, .ref rw, .ref rh, .ref rf, .ref rp, .ref rb]))]) (k_rv S (c_Trans_joinLine l G _ rT ra rev rod (y * 16) 1 (w1 / 2) kd ge3 go3 a3 (by omega) (by omega) (fun m a b => by omega)) 5 m3_95 m3_92 m3_94 mp_18 m1_4 (by decide +kernel) (by decide) rfl rfl (k_preV (q0 := 0) hK hP hD hS hA hT rfl rfl [0, 1, 2, 3] (by decide) rfl) rfl hl.1 rfl (Nat.le_of_ble_eq_true rfl) d_Trans_toPicture_106 ⟨Nat.le_of_ble_eq_true rfl, Nat.le_of_ble_eq_true rfl⟩) hP hD hS hA [0, 1, 2, 3] [4, 5] [2, 3, 4, 5, 0, 1] rfl rfl (by decide) (by decide) (by decide) (fun _ => rfl) (fun u106 H locs h106 hP hD hS => ?_)
        obtain ⟨a106, ge106, go106⟩ := u106
        have hP : va_P (gD G) classes [(rT, .inr (5, [.ref rev, .ref rod])), (rev, al (gL G) 8 (ge106)), (rod, al (gL G) 8 (go106)), (ra, al (gL G) 256 (a106)), (rS, .inr (3, [.int (iv (kd)), .int (iv (db)), .int (iv (ew)), .int (iv (ac)), .int (iv (dn)), .int (iv (pr)), .ref rE, .int (iv (nu)), .int (iv (de))])), (rL, .inr (1, [.int (iv (cP)), .int (iv (cQ)), .int (iv (nb)), .ref rl, .ref rt, .ref rw, .ref rh, .ref rf, .ref rp, .ref rb]))] H := hP
        have hD : va_D A [(rT, .inr (5, [.ref rev, .ref rod])), (rev, al (gL G) 8 (ge106)), (rod, al (gL G) 8 (go106)), (ra, al (gL G) 256 (a106)), (rS, .inr (3, [.int (iv (kd)), .int (iv (db)), .int (iv (ew)), .int (iv (ac)), .int (iv (dn)), .int (iv (pr)), .ref rE, .int (iv (nu)), .int (iv (de))])), (rL, .inr (1, [.int (iv (cP)), .int (iv (cQ)), .int (iv (nb)), .ref rl, .ref rt, .ref rw, .ref rh, .ref rf, .ref rp, .ref rb]))] := hD
        try dsimp only at h106
        refine lv_iinc (k := 7) (v := iv (y + 1)) hx hb d_Trans_toPicture_109 hl rfl (iv_add _ _) (by decide) rfl (fun ls hl => ?_)
        have hl : lv_has ls 8 [(7, .int (iv (y + 1))), (0, .ref rT), (1, .ref ra), (2, .ref rS), (3, .ref rL), (4, .int (iv (lv))), (5, .int (iv (w1))), (6, .int (iv (h1)))] := hl
        refine lv_goto (tgt := 83) hx hb d_Trans_toPicture_112 (by decide) ?_
        exact ihy (by omega) _ _ _ a106 ge106 go106 (lv_sub hl [1, 2, 3, 4, 5, 6, 7, 0] rfl) hP hD hS (by rw [it_s _ _ hiy, ← hs3]; exact h106)
    · refine lv_iconst (v := iv (0)) hx hb d_Trans_toPicture_47 rfl ?_
      refine lv_istore hx hb d_Trans_toPicture_48 hl (by decide) rfl (fun ls hl => ?_)
      have hl : lv_has ls 8 [(7, .int (iv (0))), (6, .int (iv (h1))), (5, .int (iv (w1))), (0, .ref rT), (1, .ref ra), (2, .ref rS), (3, .ref rL), (4, .int (iv (lv)))] := hl
      refine lo_up (P := fun x => ∀ (ls : Array Slot) (H : Heap) (locs : List Loc) (a2 : Int → Int64) (ge2 : Int → Int64) (go2 : Int → Int64), lv_has ls 8 [(0, .ref rT), (1, .ref ra), (2, .ref rS), (3, .ref rL), (4, .int (iv (lv))), (5, .int (iv (w1))), (6, .int (iv (h1))), (7, .int (iv (x)))] → va_P (gD G) classes [(rT, .inr (5, [.ref rev, .ref rod])), (rev, al (gL G) 8 (ge2)), (rod, al (gL G) 8 (go2)), (ra, al (gL G) 256 (a2)), (rS, .inr (3, [.int (iv (kd)), .int (iv (db)), .int (iv (ew)), .int (iv (ac)), .int (iv (dn)), .int (iv (pr)), .ref rE, .int (iv (nu)), .int (iv (de))])), (rL, .inr (1, [.int (iv (cP)), .int (iv (cQ)), .int (iv (nb)), .ref rl, .ref rt, .ref rw, .ref rh, .ref rf, .ref rp, .ref rb]))] H → va_D A [(rT, .inr (5, [.ref rev, .ref rod])), (rev, al (gL G) 8 (ge2)), (rod, al (gL G) 8 (go2)), (ra, al (gL G) 256 (a2)), (rS, .inr (3, [.int (iv (kd)), .int (iv (db)), .int (iv (ew)), .int (iv (ac)), .int (iv (dn)), .int (iv (pr)), .ref rE, .int (iv (nu)), .int (iv (de))])), (rL, .inr (1, [.int (iv (cP)), .int (iv (cQ)), .int (iv (nb)), .ref rl, .ref rt, .ref rw, .ref rh, .ref rf, .ref rp, .ref rb]))] → va_S A s.heap H locs → ((a2, ge2, go2) = it (fun y z => jnL y 16 (h1 / 2) kd z) 0 x (a1, ge1, go1)) → W p l e r_Trans_toPicture s m args below meth c H locs 0 0 Q (F0 m 50 ls [])) (a := 0) (b := w1) (fun x hix hjx ihx => ?_) _ _ _ a1 ge1 go1 (lv_sub hl [3, 4, 5, 6, 7, 2, 1, 0] rfl) hP hD hS (it_self _ _ _).symm
      intro ls H locs a2 ge2 go2 hl hP hD hS hs2
      refine lv_iload hx hb d_Trans_toPicture_50 (lv_at hl 7 rfl) ?_
      refine lv_iload hx hb d_Trans_toPicture_52 (lv_at hl 5 rfl) ?_
      refine k_icmp_ge (tgt := 80) hx hb d_Trans_toPicture_54 (by decide) (by omega) (by omega) (fun hc54 => ?_) (fun hc54 => ?_)
      · refine lv_iconst (v := iv (0)) hx hb d_Trans_toPicture_80 rfl ?_
        refine lv_istore hx hb d_Trans_toPicture_81 hl (by decide) rfl (fun ls hl => ?_)
        have hl : lv_has ls 8 [(7, .int (iv (0))), (0, .ref rT), (1, .ref ra), (2, .ref rS), (3, .ref rL), (4, .int (iv (lv))), (5, .int (iv (w1))), (6, .int (iv (h1)))] := hl
        refine lo_up (P := fun y => ∀ (ls : Array Slot) (H : Heap) (locs : List Loc) (a3 : Int → Int64) (ge3 : Int → Int64) (go3 : Int → Int64), lv_has ls 8 [(0, .ref rT), (1, .ref ra), (2, .ref rS), (3, .ref rL), (4, .int (iv (lv))), (5, .int (iv (w1))), (6, .int (iv (h1))), (7, .int (iv (y)))] → va_P (gD G) classes [(rT, .inr (5, [.ref rev, .ref rod])), (rev, al (gL G) 8 (ge3)), (rod, al (gL G) 8 (go3)), (ra, al (gL G) 256 (a3)), (rS, .inr (3, [.int (iv (kd)), .int (iv (db)), .int (iv (ew)), .int (iv (ac)), .int (iv (dn)), .int (iv (pr)), .ref rE, .int (iv (nu)), .int (iv (de))])), (rL, .inr (1, [.int (iv (cP)), .int (iv (cQ)), .int (iv (nb)), .ref rl, .ref rt, .ref rw, .ref rh, .ref rf, .ref rp, .ref rb]))] H → va_D A [(rT, .inr (5, [.ref rev, .ref rod])), (rev, al (gL G) 8 (ge3)), (rod, al (gL G) 8 (go3)), (ra, al (gL G) 256 (a3)), (rS, .inr (3, [.int (iv (kd)), .int (iv (db)), .int (iv (ew)), .int (iv (ac)), .int (iv (dn)), .int (iv (pr)), .ref rE, .int (iv (nu)), .int (iv (de))])), (rL, .inr (1, [.int (iv (cP)), .int (iv (cQ)), .int (iv (nb)), .ref rl, .ref rt, .ref rw, .ref rh, .ref rf, .ref rp, .ref rb]))] → va_S A s.heap H locs → ((a3, ge3, go3) = it (fun y z => jnL (y * 16) 1 (w1 / 2) kd z) 0 y (a2, ge2, go2)) → W p l e r_Trans_toPicture s m args below meth c H locs 0 0 Q (F0 m 83 ls [])) (a := 0) (b := h1) (fun y hiy hjy ihy => ?_) _ _ _ a2 ge2 go2 (lv_sub hl [1, 2, 3, 4, 5, 6, 7, 0] rfl) hP hD hS (it_self _ _ _).symm
        intro ls H locs a3 ge3 go3 hl hP hD hS hs3
        refine lv_iload hx hb d_Trans_toPicture_83 (lv_at hl 7 rfl) ?_
        refine lv_iload hx hb d_Trans_toPicture_85 (lv_at hl 6 rfl) ?_
        refine k_icmp_ge (tgt := 115) hx hb d_Trans_toPicture_87 (by decide) (by omega) (by omega) (fun hc87 => ?_) (fun hc87 => ?_)
        · have e3 := hs3.trans (it_x _ _ hc87 hjy)
          refine lv_aload_n hx hb d_Trans_toPicture_115 rfl (lv_at hl 1 rfl) ?_
          refine lv_iload hx hb d_Trans_toPicture_116 (lv_at hl 5 rfl) ?_
          refine lv_iload hx hb d_Trans_toPicture_118 (lv_at hl 6 rfl) ?_
          refine va_gets hx hb hztG hS hown (hw _ m2_124) (fun _ h => h) d_Trans_toPicture_120 ?_
          refine lv_aload_n hx hb d_Trans_toPicture_123 rfl (lv_at hl 2 rfl) ?_
          refine va_get (D := gD G) (ci := 3) (v := .int (iv (kd))) (C := R_Setup) (T := F_Setup) (N := 9) hx hb hw in_Setup hown hK hP 4 rfl rfl 0 (by decide) (hw _ m1_28) (fun _ h => h) rfl d_Trans_toPicture_124 ?_
          refine k_tab (f := gainT) hx hb httG hS (by omega) d_Trans_toPicture_127 ?_
          refine k_cv (wz := fun u : Int → Int64 => [(rT, .inr (5, [.ref rev, .ref rod])), (rev, al (gL G) 8 (ge3)), (rod, al (gL G) 8 (go3)), (ra, al (gL G) 256 (u)), (rS, .inr (3, [.int (iv (kd)), .int (iv (db)), .int (iv (ew)), .int (iv (ac)), .int (iv (dn)), .int (iv (pr)), .ref rE, .int (iv (nu)), .int (iv (de))])), (rL, .inr (1, [.int (iv (cP)), .int (iv (cQ)), .int (iv (nb)), .ref rl, .ref rt, .ref rw, .ref rh, .ref rf, .ref rp, .ref rb]))]) (wr := [(rT, .inr (5, [.ref rev, .ref rod])), (rev, al (gL G) 8 (ge3)), (rod, al (gL G) 8 (go3)), (rS, .inr (3, [.int (iv (kd)), .int (iv (db)), .int (iv (ew)), .int (iv (ac)), .int (iv (dn)), .int (iv (pr)), .ref rE, .int (iv (nu)), .int (iv (de))])), (rL, .inr (1, [.int (iv (cP)), .int (iv (cQ)), .int (iv (nb)), .ref rl, .ref rt, .ref rw, .ref rh, .ref rf, .ref rp, .ref rb]))]) (k_rs S (c_Trans_lower l G _ ra w1 h1 (gainT kd) a3 (by omega) (by omega) (by omega)) 4 m3_98 m3_96 m3_97 m1_4 (by decide +kernel) (by decide) rfl rfl (k_preS hK hP hD hS hA hT [3] (by decide) rfl) rfl hl.1 rfl (Nat.le_of_ble_eq_true rfl) d_Trans_toPicture_128 ⟨Nat.le_of_ble_eq_true rfl, Nat.le_of_ble_eq_true rfl⟩) hP hD hS hA [3] [0, 1, 2, 4, 5] [0, 1, 2, 5, 3, 4] rfl rfl (by decide) (by decide) (by decide) (fun _ => rfl) (fun u128 H locs h128 hP hD hS => ?_)
          obtain ⟨a128, hu128⟩ : ∃ z, z = u128 := ⟨_, rfl⟩
          subst hu128
          have hP : va_P (gD G) classes [(rT, .inr (5, [.ref rev, .ref rod])), (rev, al (gL G) 8 (ge3)), (rod, al (gL G) 8 (go3)), (ra, al (gL G) 256 (a128)), (rS, .inr (3, [.int (iv (kd)), .int (iv (db)), .int (iv (ew)), .int (iv (ac)), .int (iv (dn)), .int (iv (pr)), .ref rE, .int (iv (nu)), .int (iv (de))])), (rL, .inr (1, [.int (iv (cP)), .int (iv (cQ)), .int (iv (nb)), .ref rl, .ref rt, .ref rw, .ref rh, .ref rf, .ref rp, .ref rb]))] H := hP
          have hD : va_D A [(rT, .inr (5, [.ref rev, .ref rod])), (rev, al (gL G) 8 (ge3)), (rod, al (gL G) 8 (go3)), (ra, al (gL G) 256 (a128)), (rS, .inr (3, [.int (iv (kd)), .int (iv (db)), .int (iv (ew)), .int (iv (ac)), .int (iv (dn)), .int (iv (pr)), .ref rE, .int (iv (nu)), .int (iv (de))])), (rL, .inr (1, [.int (iv (cP)), .int (iv (cQ)), .int (iv (nb)), .ref rl, .ref rt, .ref rw, .ref rh, .ref rf, .ref rp, .ref rb]))] := hD
          try dsimp only at h128
          refine lv_iinc (k := 4) (v := iv (lv + (-1))) hx hb d_Trans_toPicture_131 hl rfl (iv_add _ _) (by decide) rfl (fun ls hl => ?_)
          have hl : lv_has ls 8 [(4, .int (iv (lv + (-1)))), (0, .ref rT), (1, .ref ra), (2, .ref rS), (3, .ref rL), (5, .int (iv (w1))), (6, .int (iv (h1))), (7, .int (iv (y)))] := hl
          refine lv_goto (tgt := 8) hx hb d_Trans_toPicture_134 (by decide) ?_
          exact ihlv (by omega) _ _ _ a128 ge3 go3 (lv_sub hl [1, 2, 3, 4, 0] rfl) hP hD hS (by rw [show db + ew - 1 - (lv + (-1)) = (db + ew - 1 - lv) + 1 by omega, it_s _ _ (by omega), ← hs]; show _ = bwf cP cQ db kd (db + ew - 1 - (db + ew - 1 - lv)) (a1, ge1, go1); rw [show db + ew - 1 - (db + ew - 1 - lv) = lv by omega]; unfold bwf; dsimp only; rw [hW, hH]; first | (rw [if_neg (by omega), show jnR w1 h1 kd (a1, ge1, go1) = (a3, ge3, go3) from e3.symm, ← h128]) | (rw [if_pos (by omega), show jnC w1 h1 kd (a1, ge1, go1) = (a2, ge2, go2) from (by rw [hs2]; unfold jnC; exact (it_x _ _ hc54 hjx).symm), show jnR w1 h1 kd (a2, ge2, go2) = (a3, ge3, go3) from e3.symm, ← h128]))
        · refine lv_aload_n hx hb d_Trans_toPicture_90 rfl (lv_at hl 0 rfl) ?_
          refine lv_aload_n hx hb d_Trans_toPicture_91 rfl (lv_at hl 1 rfl) ?_
          refine lv_iload hx hb d_Trans_toPicture_92 (lv_at hl 7 rfl) ?_
          refine lv_bipush (v := iv (16)) hx hb d_Trans_toPicture_94 rfl ?_
          refine k_imul hx hb d_Trans_toPicture_96 ?_
          refine lv_iconst (v := iv (1)) hx hb d_Trans_toPicture_97 rfl ?_
          refine lv_iload hx hb d_Trans_toPicture_98 (lv_at hl 5 rfl) ?_
          refine lv_iconst (v := iv (2)) hx hb d_Trans_toPicture_100 rfl ?_
          refine k_idiv hx hb d_Trans_toPicture_101 (by omega) (by omega) ?_
          refine lv_aload_n hx hb d_Trans_toPicture_102 rfl (lv_at hl 2 rfl) ?_
          refine va_get (D := gD G) (ci := 3) (v := .int (iv (kd))) (C := R_Setup) (T := F_Setup) (N := 9) hx hb hw in_Setup hown hK hP 4 rfl rfl 0 (by decide) (hw _ m1_28) (fun _ h => h) rfl d_Trans_toPicture_103 ?_
          refine k_cv (wz := fun u : (Int → Int64) × (Int → Int64) × (Int → Int64) => [(rT, .inr (5, [.ref rev, .ref rod])), (rev, al (gL G) 8 (u.2.1)), (rod, al (gL G) 8 (u.2.2)), (ra, al (gL G) 256 (u.1)), (rS, .inr (3, [.int (iv (kd)), .int (iv (db)), .int (iv (ew)), .int (iv (ac)), .int (iv (dn)), .int (iv (pr)), .ref rE, .int (iv (nu)), .int (iv (de))])), (rL, .inr (1, [.int (iv (cP)), .int (iv (cQ)), .int (iv (nb)), .ref rl, .ref rt, .ref rw, .ref rh, .ref rf, .ref rp, .ref rb]))]) (wr := [(rS, .inr (3, [.int (iv (kd)), .int (iv (db)), .int (iv (ew)), .int (iv (ac)), .int (iv (dn)), .int (iv (pr)), .ref rE, .int (iv (nu)), .int (iv (de))])), (rL, .inr (1, [.int (iv (cP)), .int (iv (cQ)), .int (iv (nb)), .ref rl, .ref rt, .ref rw, .ref rh, .ref rf, .ref rp, .ref rb]))]) (k_rv S (c_Trans_joinLine l G _ rT ra rev rod (y * 16) 1 (w1 / 2) kd ge3 go3 a3 (by omega) (by omega) (fun m a b => by omega)) 5 m3_95 m3_92 m3_94 mp_18 m1_4 (by decide +kernel) (by decide) rfl rfl (k_preV (q0 := 0) hK hP hD hS hA hT rfl rfl [0, 1, 2, 3] (by decide) rfl) rfl hl.1 rfl (Nat.le_of_ble_eq_true rfl) d_Trans_toPicture_106 ⟨Nat.le_of_ble_eq_true rfl, Nat.le_of_ble_eq_true rfl⟩) hP hD hS hA [0, 1, 2, 3] [4, 5] [2, 3, 4, 5, 0, 1] rfl rfl (by decide) (by decide) (by decide) (fun _ => rfl) (fun u106 H locs h106 hP hD hS => ?_)
          obtain ⟨a106, ge106, go106⟩ := u106
          have hP : va_P (gD G) classes [(rT, .inr (5, [.ref rev, .ref rod])), (rev, al (gL G) 8 (ge106)), (rod, al (gL G) 8 (go106)), (ra, al (gL G) 256 (a106)), (rS, .inr (3, [.int (iv (kd)), .int (iv (db)), .int (iv (ew)), .int (iv (ac)), .int (iv (dn)), .int (iv (pr)), .ref rE, .int (iv (nu)), .int (iv (de))])), (rL, .inr (1, [.int (iv (cP)), .int (iv (cQ)), .int (iv (nb)), .ref rl, .ref rt, .ref rw, .ref rh, .ref rf, .ref rp, .ref rb]))] H := hP
          have hD : va_D A [(rT, .inr (5, [.ref rev, .ref rod])), (rev, al (gL G) 8 (ge106)), (rod, al (gL G) 8 (go106)), (ra, al (gL G) 256 (a106)), (rS, .inr (3, [.int (iv (kd)), .int (iv (db)), .int (iv (ew)), .int (iv (ac)), .int (iv (dn)), .int (iv (pr)), .ref rE, .int (iv (nu)), .int (iv (de))])), (rL, .inr (1, [.int (iv (cP)), .int (iv (cQ)), .int (iv (nb)), .ref rl, .ref rt, .ref rw, .ref rh, .ref rf, .ref rp, .ref rb]))] := hD
          try dsimp only at h106
          refine lv_iinc (k := 7) (v := iv (y + 1)) hx hb d_Trans_toPicture_109 hl rfl (iv_add _ _) (by decide) rfl (fun ls hl => ?_)
          have hl : lv_has ls 8 [(7, .int (iv (y + 1))), (0, .ref rT), (1, .ref ra), (2, .ref rS), (3, .ref rL), (4, .int (iv (lv))), (5, .int (iv (w1))), (6, .int (iv (h1)))] := hl
          refine lv_goto (tgt := 83) hx hb d_Trans_toPicture_112 (by decide) ?_
          exact ihy (by omega) _ _ _ a106 ge106 go106 (lv_sub hl [1, 2, 3, 4, 5, 6, 7, 0] rfl) hP hD hS (by rw [it_s _ _ hiy, ← hs3]; exact h106)
      · refine lv_aload_n hx hb d_Trans_toPicture_57 rfl (lv_at hl 0 rfl) ?_
        refine lv_aload_n hx hb d_Trans_toPicture_58 rfl (lv_at hl 1 rfl) ?_
        refine lv_iload hx hb d_Trans_toPicture_59 (lv_at hl 7 rfl) ?_
        refine lv_bipush (v := iv (16)) hx hb d_Trans_toPicture_61 rfl ?_
        refine lv_iload hx hb d_Trans_toPicture_63 (lv_at hl 6 rfl) ?_
        refine lv_iconst (v := iv (2)) hx hb d_Trans_toPicture_65 rfl ?_
        refine k_idiv hx hb d_Trans_toPicture_66 (by omega) (by omega) ?_
        refine lv_aload_n hx hb d_Trans_toPicture_67 rfl (lv_at hl 2 rfl) ?_
        refine va_get (D := gD G) (ci := 3) (v := .int (iv (kd))) (C := R_Setup) (T := F_Setup) (N := 9) hx hb hw in_Setup hown hK hP 4 rfl rfl 0 (by decide) (hw _ m1_28) (fun _ h => h) rfl d_Trans_toPicture_68 ?_
        refine k_cv (wz := fun u : (Int → Int64) × (Int → Int64) × (Int → Int64) => [(rT, .inr (5, [.ref rev, .ref rod])), (rev, al (gL G) 8 (u.2.1)), (rod, al (gL G) 8 (u.2.2)), (ra, al (gL G) 256 (u.1)), (rS, .inr (3, [.int (iv (kd)), .int (iv (db)), .int (iv (ew)), .int (iv (ac)), .int (iv (dn)), .int (iv (pr)), .ref rE, .int (iv (nu)), .int (iv (de))])), (rL, .inr (1, [.int (iv (cP)), .int (iv (cQ)), .int (iv (nb)), .ref rl, .ref rt, .ref rw, .ref rh, .ref rf, .ref rp, .ref rb]))]) (wr := [(rS, .inr (3, [.int (iv (kd)), .int (iv (db)), .int (iv (ew)), .int (iv (ac)), .int (iv (dn)), .int (iv (pr)), .ref rE, .int (iv (nu)), .int (iv (de))])), (rL, .inr (1, [.int (iv (cP)), .int (iv (cQ)), .int (iv (nb)), .ref rl, .ref rt, .ref rw, .ref rh, .ref rf, .ref rp, .ref rb]))]) (k_rv S (c_Trans_joinLine l G _ rT ra rev rod x 16 (h1 / 2) kd ge2 go2 a2 (by omega) (by omega) (fun m a b => by omega)) 5 m3_95 m3_92 m3_94 mp_18 m1_4 (by decide +kernel) (by decide) rfl rfl (k_preV (q0 := 0) hK hP hD hS hA hT rfl rfl [0, 1, 2, 3] (by decide) rfl) rfl hl.1 rfl (Nat.le_of_ble_eq_true rfl) d_Trans_toPicture_71 ⟨Nat.le_of_ble_eq_true rfl, Nat.le_of_ble_eq_true rfl⟩) hP hD hS hA [0, 1, 2, 3] [4, 5] [2, 3, 4, 5, 0, 1] rfl rfl (by decide) (by decide) (by decide) (fun _ => rfl) (fun u71 H locs h71 hP hD hS => ?_)
        obtain ⟨a71, ge71, go71⟩ := u71
        have hP : va_P (gD G) classes [(rT, .inr (5, [.ref rev, .ref rod])), (rev, al (gL G) 8 (ge71)), (rod, al (gL G) 8 (go71)), (ra, al (gL G) 256 (a71)), (rS, .inr (3, [.int (iv (kd)), .int (iv (db)), .int (iv (ew)), .int (iv (ac)), .int (iv (dn)), .int (iv (pr)), .ref rE, .int (iv (nu)), .int (iv (de))])), (rL, .inr (1, [.int (iv (cP)), .int (iv (cQ)), .int (iv (nb)), .ref rl, .ref rt, .ref rw, .ref rh, .ref rf, .ref rp, .ref rb]))] H := hP
        have hD : va_D A [(rT, .inr (5, [.ref rev, .ref rod])), (rev, al (gL G) 8 (ge71)), (rod, al (gL G) 8 (go71)), (ra, al (gL G) 256 (a71)), (rS, .inr (3, [.int (iv (kd)), .int (iv (db)), .int (iv (ew)), .int (iv (ac)), .int (iv (dn)), .int (iv (pr)), .ref rE, .int (iv (nu)), .int (iv (de))])), (rL, .inr (1, [.int (iv (cP)), .int (iv (cQ)), .int (iv (nb)), .ref rl, .ref rt, .ref rw, .ref rh, .ref rf, .ref rp, .ref rb]))] := hD
        try dsimp only at h71
        refine lv_iinc (k := 7) (v := iv (x + 1)) hx hb d_Trans_toPicture_74 hl rfl (iv_add _ _) (by decide) rfl (fun ls hl => ?_)
        have hl : lv_has ls 8 [(7, .int (iv (x + 1))), (0, .ref rT), (1, .ref ra), (2, .ref rS), (3, .ref rL), (4, .int (iv (lv))), (5, .int (iv (w1))), (6, .int (iv (h1)))] := hl
        refine lv_goto (tgt := 50) hx hb d_Trans_toPicture_77 (by decide) ?_
        exact ihx (by omega) _ _ _ a71 ge71 go71 (lv_sub hl [1, 2, 3, 4, 5, 6, 7, 0] rfl) hP hD hS (by rw [it_s _ _ hix, ← hs2]; exact h71)
