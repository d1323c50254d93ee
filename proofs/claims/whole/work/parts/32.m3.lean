theorem hv_r {db ew b : Int} (h : 0 ≤ db ∧ db ≤ 2 ∧ 0 ≤ ew ∧ ew ≤ 2 ∧ db + ew ≤ 3) (hb : 0 ≤ b ∧ b < nBd db ew) : (0 ≤ hvW db ew b ∧ hvW db ew b ≤ 3) ∧ 0 ≤ hvH db ew b ∧ hvH db ew b ≤ 3 := by
  unfold nBd at hb
  unfold hvW hvH
  repeat' split
  all_goals omega
theorem m4_45 : Cond.code y_Mod_columns prog_9_method_13_code 2 (some .int) ∈ wl := wl_4 45 (by decide +kernel) (by decide +kernel)
theorem m4_53 : Cond.code y_Mod_forward prog_9_method_22_code 6 none ∈ wl := wl_4 53 (by decide +kernel) (by decide +kernel)
theorem m4_117 : Cond.code y_Mod_halvings prog_9_method_26_code 3 (some .int) ∈ wl := wl_4 117 (by decide +kernel) (by decide +kernel)
theorem m4_41 : Cond.code y_Mod_isCoefficient prog_9_method_24_code 3 (some .boolean) ∈ wl := wl_4 41 (by decide +kernel) (by decide +kernel)
theorem m4_57 : Cond.code y_Mod_region prog_9_method_21_code 7 none ∈ wl := wl_4 57 (by decide +kernel) (by decide +kernel)
theorem m4_49 : Cond.code y_Mod_rows prog_9_method_14_code 2 (some .int) ∈ wl := wl_4 49 (by decide +kernel) (by decide +kernel)
theorem m4_44 : Cond.instanceMethod y_Mod_columns ∈ wl := wl_4 44 (by decide +kernel) (by decide +kernel)
theorem m4_52 : Cond.instanceMethod y_Mod_forward ∈ wl := wl_4 52 (by decide +kernel) (by decide +kernel)
theorem m4_116 : Cond.instanceMethod y_Mod_halvings ∈ wl := wl_4 116 (by decide +kernel) (by decide +kernel)
theorem m4_40 : Cond.instanceMethod y_Mod_isCoefficient ∈ wl := wl_4 40 (by decide +kernel) (by decide +kernel)
theorem m4_56 : Cond.instanceMethod y_Mod_region ∈ wl := wl_4 56 (by decide +kernel) (by decide +kernel)
theorem m4_48 : Cond.instanceMethod y_Mod_rows ∈ wl := wl_4 48 (by decide +kernel) (by decide +kernel)
theorem m4_42 : Cond.methodLink "WaveletSlicesModel" 160 y_Mod_columns ∈ wl := wl_4 42 (by decide +kernel) (by decide +kernel)
theorem m4_50 : Cond.methodLink "WaveletSlicesModel" 173 y_Mod_forward ∈ wl := wl_4 50 (by decide +kernel) (by decide +kernel)
theorem m4_114 : Cond.methodLink "WaveletSlicesModel" 176 y_Mod_halvings ∈ wl := wl_4 114 (by decide +kernel) (by decide +kernel)
theorem m4_38 : Cond.methodLink "WaveletSlicesModel" 170 y_Mod_isCoefficient ∈ wl := wl_4 38 (by decide +kernel) (by decide +kernel)
theorem m4_54 : Cond.methodLink "WaveletSlicesModel" 166 y_Mod_region ∈ wl := wl_4 54 (by decide +kernel) (by decide +kernel)
theorem m4_46 : Cond.methodLink "WaveletSlicesModel" 163 y_Mod_rows ∈ wl := wl_4 46 (by decide +kernel) (by decide +kernel)
theorem mp_23 : Cond.selects "WaveletSlicesModel" y_Mod_columns y_Mod_columns ∈ wl := wl_p 23 (by decide +kernel) (by decide +kernel)
theorem mp_25 : Cond.selects "WaveletSlicesModel" y_Mod_forward y_Mod_forward ∈ wl := wl_p 25 (by decide +kernel) (by decide +kernel)
theorem mp_36 : Cond.selects "WaveletSlicesModel" y_Mod_halvings y_Mod_halvings ∈ wl := wl_p 36 (by decide +kernel) (by decide +kernel)
theorem mp_22 : Cond.selects "WaveletSlicesModel" y_Mod_isCoefficient y_Mod_isCoefficient ∈ wl := wl_p 22 (by decide +kernel) (by decide +kernel)
theorem mp_26 : Cond.selects "WaveletSlicesModel" y_Mod_region y_Mod_region ∈ wl := wl_p 26 (by decide +kernel) (by decide +kernel)
theorem mp_24 : Cond.selects "WaveletSlicesModel" y_Mod_rows y_Mod_rows ∈ wl := wl_p 24 (by decide +kernel) (by decide +kernel)
theorem d_Mod_isCoefficient_0 : decode prog_9_method_24_code 0 = .ok (.iload_n 1, 1) := by decide +kernel
theorem d_Mod_isCoefficient_1 : decode prog_9_method_24_code 1 = .ok (.ifCond .lt 27, 3) := by decide +kernel
theorem d_Mod_isCoefficient_4 : decode prog_9_method_24_code 4 = .ok (.iload_n 1, 1) := by decide +kernel
theorem d_Mod_isCoefficient_5 : decode prog_9_method_24_code 5 = .ok (.aload_n 0, 1) := by decide +kernel
theorem d_Mod_isCoefficient_6 : decode prog_9_method_24_code 6 = .ok (.invokevirtual 160, 3) := by decide +kernel
theorem d_Mod_isCoefficient_9 : decode prog_9_method_24_code 9 = .ok (.if_icmp .ge 19, 3) := by decide +kernel
theorem d_Mod_isCoefficient_12 : decode prog_9_method_24_code 12 = .ok (.iload_n 2, 1) := by decide +kernel
theorem d_Mod_isCoefficient_13 : decode prog_9_method_24_code 13 = .ok (.ifCond .lt 15, 3) := by decide +kernel
theorem d_Mod_isCoefficient_16 : decode prog_9_method_24_code 16 = .ok (.iload_n 2, 1) := by decide +kernel
theorem d_Mod_isCoefficient_17 : decode prog_9_method_24_code 17 = .ok (.aload_n 0, 1) := by decide +kernel
theorem d_Mod_isCoefficient_18 : decode prog_9_method_24_code 18 = .ok (.invokevirtual 163, 3) := by decide +kernel
theorem d_Mod_isCoefficient_21 : decode prog_9_method_24_code 21 = .ok (.if_icmp .ge 7, 3) := by decide +kernel
theorem d_Mod_isCoefficient_24 : decode prog_9_method_24_code 24 = .ok (.iconst 1, 1) := by decide +kernel
theorem d_Mod_isCoefficient_25 : decode prog_9_method_24_code 25 = .ok (.goto 4, 3) := by decide +kernel
theorem d_Mod_isCoefficient_28 : decode prog_9_method_24_code 28 = .ok (.iconst 0, 1) := by decide +kernel
theorem d_Mod_isCoefficient_29 : decode prog_9_method_24_code 29 = .ok (.ireturn, 1) := by decide +kernel
theorem d_Mod_forward_0 : decode prog_9_method_22_code 0 = .ok (.aload_n 0, 1) := by decide +kernel
theorem d_Mod_forward_1 : decode prog_9_method_22_code 1 = .ok (.invokevirtual 160, 3) := by decide +kernel
theorem d_Mod_forward_4 : decode prog_9_method_22_code 4 = .ok (.istore_n 1, 1) := by decide +kernel
theorem d_Mod_forward_5 : decode prog_9_method_22_code 5 = .ok (.aload_n 0, 1) := by decide +kernel
theorem d_Mod_forward_6 : decode prog_9_method_22_code 6 = .ok (.invokevirtual 163, 3) := by decide +kernel
theorem d_Mod_forward_9 : decode prog_9_method_22_code 9 = .ok (.istore_n 2, 1) := by decide +kernel
theorem d_Mod_forward_10 : decode prog_9_method_22_code 10 = .ok (.iconst 0, 1) := by decide +kernel
theorem d_Mod_forward_11 : decode prog_9_method_22_code 11 = .ok (.istore_n 3, 1) := by decide +kernel
theorem d_Mod_forward_12 : decode prog_9_method_22_code 12 = .ok (.iload_n 3, 1) := by decide +kernel
theorem d_Mod_forward_13 : decode prog_9_method_22_code 13 = .ok (.iload_n 2, 1) := by decide +kernel
theorem d_Mod_forward_14 : decode prog_9_method_22_code 14 = .ok (.if_icmp .ge 88, 3) := by decide +kernel
theorem d_Mod_forward_17 : decode prog_9_method_22_code 17 = .ok (.iconst 0, 1) := by decide +kernel
theorem d_Mod_forward_18 : decode prog_9_method_22_code 18 = .ok (.istore 4, 2) := by decide +kernel
theorem d_Mod_forward_20 : decode prog_9_method_22_code 20 = .ok (.iload 4, 2) := by decide +kernel
theorem d_Mod_forward_22 : decode prog_9_method_22_code 22 = .ok (.iload_n 1, 1) := by decide +kernel
theorem d_Mod_forward_23 : decode prog_9_method_22_code 23 = .ok (.if_icmp .ge 73, 3) := by decide +kernel
theorem d_Mod_forward_26 : decode prog_9_method_22_code 26 = .ok (.bipush 16, 2) := by decide +kernel
theorem d_Mod_forward_28 : decode prog_9_method_22_code 28 = .ok (.iload_n 3, 1) := by decide +kernel
theorem d_Mod_forward_29 : decode prog_9_method_22_code 29 = .ok (.aload_n 0, 1) := by decide +kernel
theorem d_Mod_forward_30 : decode prog_9_method_22_code 30 = .ok (.getfield 67, 3) := by decide +kernel
theorem d_Mod_forward_33 : decode prog_9_method_22_code 33 = .ok (.if_icmp .ge 7, 3) := by decide +kernel
theorem d_Mod_forward_36 : decode prog_9_method_22_code 36 = .ok (.iload_n 3, 1) := by decide +kernel
theorem d_Mod_forward_37 : decode prog_9_method_22_code 37 = .ok (.goto 9, 3) := by decide +kernel
theorem d_Mod_forward_40 : decode prog_9_method_22_code 40 = .ok (.aload_n 0, 1) := by decide +kernel
theorem d_Mod_forward_41 : decode prog_9_method_22_code 41 = .ok (.getfield 67, 3) := by decide +kernel
theorem d_Mod_forward_44 : decode prog_9_method_22_code 44 = .ok (.iconst 1, 1) := by decide +kernel
theorem d_Mod_forward_45 : decode prog_9_method_22_code 45 = .ok (.isub, 1) := by decide +kernel
theorem d_Mod_forward_46 : decode prog_9_method_22_code 46 = .ok (.imul, 1) := by decide +kernel
theorem d_Mod_forward_47 : decode prog_9_method_22_code 47 = .ok (.iload 4, 2) := by decide +kernel
theorem d_Mod_forward_49 : decode prog_9_method_22_code 49 = .ok (.aload_n 0, 1) := by decide +kernel
theorem d_Mod_forward_50 : decode prog_9_method_22_code 50 = .ok (.getfield 64, 3) := by decide +kernel
theorem d_Mod_forward_53 : decode prog_9_method_22_code 53 = .ok (.if_icmp .ge 8, 3) := by decide +kernel
theorem d_Mod_forward_56 : decode prog_9_method_22_code 56 = .ok (.iload 4, 2) := by decide +kernel
theorem d_Mod_forward_58 : decode prog_9_method_22_code 58 = .ok (.goto 9, 3) := by decide +kernel
theorem d_Mod_forward_61 : decode prog_9_method_22_code 61 = .ok (.aload_n 0, 1) := by decide +kernel
theorem d_Mod_forward_62 : decode prog_9_method_22_code 62 = .ok (.getfield 64, 3) := by decide +kernel
theorem d_Mod_forward_65 : decode prog_9_method_22_code 65 = .ok (.iconst 1, 1) := by decide +kernel
theorem d_Mod_forward_66 : decode prog_9_method_22_code 66 = .ok (.isub, 1) := by decide +kernel
theorem d_Mod_forward_67 : decode prog_9_method_22_code 67 = .ok (.iadd, 1) := by decide +kernel
theorem d_Mod_forward_68 : decode prog_9_method_22_code 68 = .ok (.istore 5, 2) := by decide +kernel
theorem d_Mod_forward_70 : decode prog_9_method_22_code 70 = .ok (.aload_n 0, 1) := by decide +kernel
theorem d_Mod_forward_71 : decode prog_9_method_22_code 71 = .ok (.getfield 16, 3) := by decide +kernel
theorem d_Mod_forward_74 : decode prog_9_method_22_code 74 = .ok (.bipush 16, 2) := by decide +kernel
theorem d_Mod_forward_76 : decode prog_9_method_22_code 76 = .ok (.iload_n 3, 1) := by decide +kernel
theorem d_Mod_forward_77 : decode prog_9_method_22_code 77 = .ok (.imul, 1) := by decide +kernel
theorem d_Mod_forward_78 : decode prog_9_method_22_code 78 = .ok (.iload 4, 2) := by decide +kernel
theorem d_Mod_forward_80 : decode prog_9_method_22_code 80 = .ok (.iadd, 1) := by decide +kernel
theorem d_Mod_forward_81 : decode prog_9_method_22_code 81 = .ok (.aload_n 0, 1) := by decide +kernel
theorem d_Mod_forward_82 : decode prog_9_method_22_code 82 = .ok (.getfield 7, 3) := by decide +kernel
theorem d_Mod_forward_85 : decode prog_9_method_22_code 85 = .ok (.iload 5, 2) := by decide +kernel
theorem d_Mod_forward_87 : decode prog_9_method_22_code 87 = .ok (.iaload, 1) := by decide +kernel
theorem d_Mod_forward_88 : decode prog_9_method_22_code 88 = .ok (.i2l, 1) := by decide +kernel
theorem d_Mod_forward_89 : decode prog_9_method_22_code 89 = .ok (.lastore, 1) := by decide +kernel
theorem d_Mod_forward_90 : decode prog_9_method_22_code 90 = .ok (.iinc 4 1, 3) := by decide +kernel
theorem d_Mod_forward_93 : decode prog_9_method_22_code 93 = .ok (.goto (-73), 3) := by decide +kernel
theorem d_Mod_forward_96 : decode prog_9_method_22_code 96 = .ok (.iinc 3 1, 3) := by decide +kernel
theorem d_Mod_forward_99 : decode prog_9_method_22_code 99 = .ok (.goto (-87), 3) := by decide +kernel
theorem d_Mod_forward_102 : decode prog_9_method_22_code 102 = .ok (.iconst 0, 1) := by decide +kernel
theorem d_Mod_forward_103 : decode prog_9_method_22_code 103 = .ok (.istore_n 3, 1) := by decide +kernel
theorem d_Mod_forward_104 : decode prog_9_method_22_code 104 = .ok (.iload_n 3, 1) := by decide +kernel
theorem d_Mod_forward_105 : decode prog_9_method_22_code 105 = .ok (.aload_n 0, 1) := by decide +kernel
theorem d_Mod_forward_106 : decode prog_9_method_22_code 106 = .ok (.getfield 26, 3) := by decide +kernel
theorem d_Mod_forward_109 : decode prog_9_method_22_code 109 = .ok (.if_icmp .ge 21, 3) := by decide +kernel
theorem d_Mod_forward_112 : decode prog_9_method_22_code 112 = .ok (.aload_n 0, 1) := by decide +kernel
theorem d_Mod_forward_113 : decode prog_9_method_22_code 113 = .ok (.iload_n 1, 1) := by decide +kernel
theorem d_Mod_forward_114 : decode prog_9_method_22_code 114 = .ok (.iload_n 3, 1) := by decide +kernel
theorem d_Mod_forward_115 : decode prog_9_method_22_code 115 = .ok (.ishr, 1) := by decide +kernel
theorem d_Mod_forward_116 : decode prog_9_method_22_code 116 = .ok (.iload_n 2, 1) := by decide +kernel
theorem d_Mod_forward_117 : decode prog_9_method_22_code 117 = .ok (.iload_n 3, 1) := by decide +kernel
theorem d_Mod_forward_118 : decode prog_9_method_22_code 118 = .ok (.ishr, 1) := by decide +kernel
theorem d_Mod_forward_119 : decode prog_9_method_22_code 119 = .ok (.iconst 1, 1) := by decide +kernel
theorem d_Mod_forward_120 : decode prog_9_method_22_code 120 = .ok (.iconst 0, 1) := by decide +kernel
theorem d_Mod_forward_121 : decode prog_9_method_22_code 121 = .ok (.invokevirtual 166, 3) := by decide +kernel
theorem d_Mod_forward_124 : decode prog_9_method_22_code 124 = .ok (.iinc 3 1, 3) := by decide +kernel
theorem d_Mod_forward_127 : decode prog_9_method_22_code 127 = .ok (.goto (-23), 3) := by decide +kernel
theorem d_Mod_forward_130 : decode prog_9_method_22_code 130 = .ok (.aload_n 0, 1) := by decide +kernel
theorem d_Mod_forward_131 : decode prog_9_method_22_code 131 = .ok (.getfield 26, 3) := by decide +kernel
theorem d_Mod_forward_134 : decode prog_9_method_22_code 134 = .ok (.istore_n 3, 1) := by decide +kernel
theorem d_Mod_forward_135 : decode prog_9_method_22_code 135 = .ok (.iload_n 3, 1) := by decide +kernel
theorem d_Mod_forward_136 : decode prog_9_method_22_code 136 = .ok (.aload_n 0, 1) := by decide +kernel
theorem d_Mod_forward_137 : decode prog_9_method_22_code 137 = .ok (.getfield 26, 3) := by decide +kernel
theorem d_Mod_forward_140 : decode prog_9_method_22_code 140 = .ok (.aload_n 0, 1) := by decide +kernel
theorem d_Mod_forward_141 : decode prog_9_method_22_code 141 = .ok (.getfield 92, 3) := by decide +kernel
theorem d_Mod_forward_144 : decode prog_9_method_22_code 144 = .ok (.iadd, 1) := by decide +kernel
theorem d_Mod_forward_145 : decode prog_9_method_22_code 145 = .ok (.if_icmp .ge 24, 3) := by decide +kernel
theorem d_Mod_forward_148 : decode prog_9_method_22_code 148 = .ok (.aload_n 0, 1) := by decide +kernel
theorem d_Mod_forward_149 : decode prog_9_method_22_code 149 = .ok (.iload_n 1, 1) := by decide +kernel
theorem d_Mod_forward_150 : decode prog_9_method_22_code 150 = .ok (.iload_n 3, 1) := by decide +kernel
theorem d_Mod_forward_151 : decode prog_9_method_22_code 151 = .ok (.ishr, 1) := by decide +kernel
theorem d_Mod_forward_152 : decode prog_9_method_22_code 152 = .ok (.iload_n 2, 1) := by decide +kernel
theorem d_Mod_forward_153 : decode prog_9_method_22_code 153 = .ok (.aload_n 0, 1) := by decide +kernel
theorem d_Mod_forward_154 : decode prog_9_method_22_code 154 = .ok (.getfield 26, 3) := by decide +kernel
theorem d_Mod_forward_157 : decode prog_9_method_22_code 157 = .ok (.ishr, 1) := by decide +kernel
theorem d_Mod_forward_158 : decode prog_9_method_22_code 158 = .ok (.iconst 0, 1) := by decide +kernel
theorem d_Mod_forward_159 : decode prog_9_method_22_code 159 = .ok (.iconst 0, 1) := by decide +kernel
theorem d_Mod_forward_160 : decode prog_9_method_22_code 160 = .ok (.invokevirtual 166, 3) := by decide +kernel
theorem d_Mod_forward_163 : decode prog_9_method_22_code 163 = .ok (.iinc 3 1, 3) := by decide +kernel
theorem d_Mod_forward_166 : decode prog_9_method_22_code 166 = .ok (.goto (-31), 3) := by decide +kernel
theorem d_Mod_forward_169 : decode prog_9_method_22_code 169 = .ok (.return_, 1) := by decide +kernel
theorem d_Mod_backward_0 : decode prog_9_method_23_code 0 = .ok (.aload_n 0, 1) := by decide +kernel
theorem d_Mod_backward_1 : decode prog_9_method_23_code 1 = .ok (.invokevirtual 160, 3) := by decide +kernel
theorem d_Mod_backward_4 : decode prog_9_method_23_code 4 = .ok (.istore_n 1, 1) := by decide +kernel
theorem d_Mod_backward_5 : decode prog_9_method_23_code 5 = .ok (.aload_n 0, 1) := by decide +kernel
theorem d_Mod_backward_6 : decode prog_9_method_23_code 6 = .ok (.invokevirtual 163, 3) := by decide +kernel
theorem d_Mod_backward_9 : decode prog_9_method_23_code 9 = .ok (.istore_n 2, 1) := by decide +kernel
theorem d_Mod_backward_10 : decode prog_9_method_23_code 10 = .ok (.aload_n 0, 1) := by decide +kernel
theorem d_Mod_backward_11 : decode prog_9_method_23_code 11 = .ok (.getfield 26, 3) := by decide +kernel
theorem d_Mod_backward_14 : decode prog_9_method_23_code 14 = .ok (.aload_n 0, 1) := by decide +kernel
theorem d_Mod_backward_15 : decode prog_9_method_23_code 15 = .ok (.getfield 92, 3) := by decide +kernel
theorem d_Mod_backward_18 : decode prog_9_method_23_code 18 = .ok (.iadd, 1) := by decide +kernel
theorem d_Mod_backward_19 : decode prog_9_method_23_code 19 = .ok (.iconst 1, 1) := by decide +kernel
theorem d_Mod_backward_20 : decode prog_9_method_23_code 20 = .ok (.isub, 1) := by decide +kernel
theorem d_Mod_backward_21 : decode prog_9_method_23_code 21 = .ok (.istore_n 3, 1) := by decide +kernel
theorem d_Mod_backward_22 : decode prog_9_method_23_code 22 = .ok (.iload_n 3, 1) := by decide +kernel
theorem d_Mod_backward_23 : decode prog_9_method_23_code 23 = .ok (.aload_n 0, 1) := by decide +kernel
theorem d_Mod_backward_24 : decode prog_9_method_23_code 24 = .ok (.getfield 26, 3) := by decide +kernel
theorem d_Mod_backward_27 : decode prog_9_method_23_code 27 = .ok (.if_icmp .lt 24, 3) := by decide +kernel
theorem d_Mod_backward_30 : decode prog_9_method_23_code 30 = .ok (.aload_n 0, 1) := by decide +kernel
theorem d_Mod_backward_31 : decode prog_9_method_23_code 31 = .ok (.iload_n 1, 1) := by decide +kernel
theorem d_Mod_backward_32 : decode prog_9_method_23_code 32 = .ok (.iload_n 3, 1) := by decide +kernel
theorem d_Mod_backward_33 : decode prog_9_method_23_code 33 = .ok (.ishr, 1) := by decide +kernel
theorem d_Mod_backward_34 : decode prog_9_method_23_code 34 = .ok (.iload_n 2, 1) := by decide +kernel
theorem d_Mod_backward_35 : decode prog_9_method_23_code 35 = .ok (.aload_n 0, 1) := by decide +kernel
theorem d_Mod_backward_36 : decode prog_9_method_23_code 36 = .ok (.getfield 26, 3) := by decide +kernel
theorem d_Mod_backward_39 : decode prog_9_method_23_code 39 = .ok (.ishr, 1) := by decide +kernel
theorem d_Mod_backward_40 : decode prog_9_method_23_code 40 = .ok (.iconst 0, 1) := by decide +kernel
theorem d_Mod_backward_41 : decode prog_9_method_23_code 41 = .ok (.iconst 1, 1) := by decide +kernel
theorem d_Mod_backward_42 : decode prog_9_method_23_code 42 = .ok (.invokevirtual 166, 3) := by decide +kernel
theorem d_Mod_backward_45 : decode prog_9_method_23_code 45 = .ok (.iinc 3 (-1), 3) := by decide +kernel
theorem d_Mod_backward_48 : decode prog_9_method_23_code 48 = .ok (.goto (-26), 3) := by decide +kernel
theorem d_Mod_backward_51 : decode prog_9_method_23_code 51 = .ok (.aload_n 0, 1) := by decide +kernel
theorem d_Mod_backward_52 : decode prog_9_method_23_code 52 = .ok (.getfield 26, 3) := by decide +kernel
theorem d_Mod_backward_55 : decode prog_9_method_23_code 55 = .ok (.iconst 1, 1) := by decide +kernel
theorem d_Mod_backward_56 : decode prog_9_method_23_code 56 = .ok (.isub, 1) := by decide +kernel
theorem d_Mod_backward_57 : decode prog_9_method_23_code 57 = .ok (.istore_n 3, 1) := by decide +kernel
theorem d_Mod_backward_58 : decode prog_9_method_23_code 58 = .ok (.iload_n 3, 1) := by decide +kernel
theorem d_Mod_backward_59 : decode prog_9_method_23_code 59 = .ok (.ifCond .lt 21, 3) := by decide +kernel
theorem d_Mod_backward_62 : decode prog_9_method_23_code 62 = .ok (.aload_n 0, 1) := by decide +kernel
theorem d_Mod_backward_63 : decode prog_9_method_23_code 63 = .ok (.iload_n 1, 1) := by decide +kernel
theorem d_Mod_backward_64 : decode prog_9_method_23_code 64 = .ok (.iload_n 3, 1) := by decide +kernel
theorem d_Mod_backward_65 : decode prog_9_method_23_code 65 = .ok (.ishr, 1) := by decide +kernel
theorem d_Mod_backward_66 : decode prog_9_method_23_code 66 = .ok (.iload_n 2, 1) := by decide +kernel
theorem d_Mod_backward_67 : decode prog_9_method_23_code 67 = .ok (.iload_n 3, 1) := by decide +kernel
theorem d_Mod_backward_68 : decode prog_9_method_23_code 68 = .ok (.ishr, 1) := by decide +kernel
theorem d_Mod_backward_69 : decode prog_9_method_23_code 69 = .ok (.iconst 1, 1) := by decide +kernel
theorem d_Mod_backward_70 : decode prog_9_method_23_code 70 = .ok (.iconst 1, 1) := by decide +kernel
theorem d_Mod_backward_71 : decode prog_9_method_23_code 71 = .ok (.invokevirtual 166, 3) := by decide +kernel
theorem d_Mod_backward_74 : decode prog_9_method_23_code 74 = .ok (.iinc 3 (-1), 3) := by decide +kernel
theorem d_Mod_backward_77 : decode prog_9_method_23_code 77 = .ok (.goto (-19), 3) := by decide +kernel
theorem d_Mod_backward_80 : decode prog_9_method_23_code 80 = .ok (.return_, 1) := by decide +kernel
theorem d_Mod_coefficient_0 : decode prog_9_method_25_code 0 = .ok (.aload_n 0, 1) := by decide +kernel
theorem d_Mod_coefficient_1 : decode prog_9_method_25_code 1 = .ok (.iload_n 1, 1) := by decide +kernel
theorem d_Mod_coefficient_2 : decode prog_9_method_25_code 2 = .ok (.iload_n 2, 1) := by decide +kernel
theorem d_Mod_coefficient_3 : decode prog_9_method_25_code 3 = .ok (.invokevirtual 170, 3) := by decide +kernel
theorem d_Mod_coefficient_6 : decode prog_9_method_25_code 6 = .ok (.ifCond .ne 5, 3) := by decide +kernel
theorem d_Mod_coefficient_9 : decode prog_9_method_25_code 9 = .ok (.lconst 0, 1) := by decide +kernel
theorem d_Mod_coefficient_10 : decode prog_9_method_25_code 10 = .ok (.lreturn, 1) := by decide +kernel
theorem d_Mod_coefficient_11 : decode prog_9_method_25_code 11 = .ok (.aload_n 0, 1) := by decide +kernel
theorem d_Mod_coefficient_12 : decode prog_9_method_25_code 12 = .ok (.invokevirtual 173, 3) := by decide +kernel
theorem d_Mod_coefficient_15 : decode prog_9_method_25_code 15 = .ok (.aload_n 0, 1) := by decide +kernel
theorem d_Mod_coefficient_16 : decode prog_9_method_25_code 16 = .ok (.getfield 16, 3) := by decide +kernel
theorem d_Mod_coefficient_19 : decode prog_9_method_25_code 19 = .ok (.bipush 16, 2) := by decide +kernel
theorem d_Mod_coefficient_21 : decode prog_9_method_25_code 21 = .ok (.iload_n 2, 1) := by decide +kernel
theorem d_Mod_coefficient_22 : decode prog_9_method_25_code 22 = .ok (.imul, 1) := by decide +kernel
theorem d_Mod_coefficient_23 : decode prog_9_method_25_code 23 = .ok (.iload_n 1, 1) := by decide +kernel
theorem d_Mod_coefficient_24 : decode prog_9_method_25_code 24 = .ok (.iadd, 1) := by decide +kernel
theorem d_Mod_coefficient_25 : decode prog_9_method_25_code 25 = .ok (.laload, 1) := by decide +kernel
theorem d_Mod_coefficient_26 : decode prog_9_method_25_code 26 = .ok (.lreturn, 1) := by decide +kernel
theorem d_Mod_halvings_0 : decode prog_9_method_26_code 0 = .ok (.iload_n 1, 1) := by decide +kernel
theorem d_Mod_halvings_1 : decode prog_9_method_26_code 1 = .ok (.ifCond .ne 24, 3) := by decide +kernel
theorem d_Mod_halvings_4 : decode prog_9_method_26_code 4 = .ok (.iload_n 2, 1) := by decide +kernel
theorem d_Mod_halvings_5 : decode prog_9_method_26_code 5 = .ok (.ifCond .eq 15, 3) := by decide +kernel
theorem d_Mod_halvings_8 : decode prog_9_method_26_code 8 = .ok (.aload_n 0, 1) := by decide +kernel
theorem d_Mod_halvings_9 : decode prog_9_method_26_code 9 = .ok (.getfield 26, 3) := by decide +kernel
theorem d_Mod_halvings_12 : decode prog_9_method_26_code 12 = .ok (.aload_n 0, 1) := by decide +kernel
theorem d_Mod_halvings_13 : decode prog_9_method_26_code 13 = .ok (.getfield 92, 3) := by decide +kernel
theorem d_Mod_halvings_16 : decode prog_9_method_26_code 16 = .ok (.iadd, 1) := by decide +kernel
theorem d_Mod_halvings_17 : decode prog_9_method_26_code 17 = .ok (.goto 7, 3) := by decide +kernel
theorem d_Mod_halvings_20 : decode prog_9_method_26_code 20 = .ok (.aload_n 0, 1) := by decide +kernel
theorem d_Mod_halvings_21 : decode prog_9_method_26_code 21 = .ok (.getfield 26, 3) := by decide +kernel
theorem d_Mod_halvings_24 : decode prog_9_method_26_code 24 = .ok (.ireturn, 1) := by decide +kernel
theorem d_Mod_halvings_25 : decode prog_9_method_26_code 25 = .ok (.iload_n 1, 1) := by decide +kernel
theorem d_Mod_halvings_26 : decode prog_9_method_26_code 26 = .ok (.aload_n 0, 1) := by decide +kernel
theorem d_Mod_halvings_27 : decode prog_9_method_26_code 27 = .ok (.getfield 92, 3) := by decide +kernel
theorem d_Mod_halvings_30 : decode prog_9_method_26_code 30 = .ok (.if_icmp .gt 28, 3) := by decide +kernel
theorem d_Mod_halvings_33 : decode prog_9_method_26_code 33 = .ok (.iload_n 2, 1) := by decide +kernel
theorem d_Mod_halvings_34 : decode prog_9_method_26_code 34 = .ok (.ifCond .eq 19, 3) := by decide +kernel
theorem d_Mod_halvings_37 : decode prog_9_method_26_code 37 = .ok (.aload_n 0, 1) := by decide +kernel
theorem d_Mod_halvings_38 : decode prog_9_method_26_code 38 = .ok (.getfield 26, 3) := by decide +kernel
theorem d_Mod_halvings_41 : decode prog_9_method_26_code 41 = .ok (.aload_n 0, 1) := by decide +kernel
theorem d_Mod_halvings_42 : decode prog_9_method_26_code 42 = .ok (.getfield 92, 3) := by decide +kernel
theorem d_Mod_halvings_45 : decode prog_9_method_26_code 45 = .ok (.iadd, 1) := by decide +kernel
theorem d_Mod_halvings_46 : decode prog_9_method_26_code 46 = .ok (.iload_n 1, 1) := by decide +kernel
theorem d_Mod_halvings_47 : decode prog_9_method_26_code 47 = .ok (.isub, 1) := by decide +kernel
theorem d_Mod_halvings_48 : decode prog_9_method_26_code 48 = .ok (.iconst 1, 1) := by decide +kernel
theorem d_Mod_halvings_49 : decode prog_9_method_26_code 49 = .ok (.iadd, 1) := by decide +kernel
theorem d_Mod_halvings_50 : decode prog_9_method_26_code 50 = .ok (.goto 7, 3) := by decide +kernel
theorem d_Mod_halvings_53 : decode prog_9_method_26_code 53 = .ok (.aload_n 0, 1) := by decide +kernel
theorem d_Mod_halvings_54 : decode prog_9_method_26_code 54 = .ok (.getfield 26, 3) := by decide +kernel
theorem d_Mod_halvings_57 : decode prog_9_method_26_code 57 = .ok (.ireturn, 1) := by decide +kernel
theorem d_Mod_halvings_58 : decode prog_9_method_26_code 58 = .ok (.aload_n 0, 1) := by decide +kernel
theorem d_Mod_halvings_59 : decode prog_9_method_26_code 59 = .ok (.getfield 26, 3) := by decide +kernel
theorem d_Mod_halvings_62 : decode prog_9_method_26_code 62 = .ok (.iload_n 1, 1) := by decide +kernel
theorem d_Mod_halvings_63 : decode prog_9_method_26_code 63 = .ok (.aload_n 0, 1) := by decide +kernel
theorem d_Mod_halvings_64 : decode prog_9_method_26_code 64 = .ok (.getfield 92, 3) := by decide +kernel
theorem d_Mod_halvings_67 : decode prog_9_method_26_code 67 = .ok (.isub, 1) := by decide +kernel
theorem d_Mod_halvings_68 : decode prog_9_method_26_code 68 = .ok (.iconst 1, 1) := by decide +kernel
theorem d_Mod_halvings_69 : decode prog_9_method_26_code 69 = .ok (.isub, 1) := by decide +kernel
theorem d_Mod_halvings_70 : decode prog_9_method_26_code 70 = .ok (.iconst 3, 1) := by decide +kernel
theorem d_Mod_halvings_71 : decode prog_9_method_26_code 71 = .ok (.idiv, 1) := by decide +kernel
theorem d_Mod_halvings_72 : decode prog_9_method_26_code 72 = .ok (.isub, 1) := by decide +kernel
theorem d_Mod_halvings_73 : decode prog_9_method_26_code 73 = .ok (.ireturn, 1) := by decide +kernel
theorem d_Mod_left_0 : decode prog_9_method_27_code 0 = .ok (.aload_n 0, 1) := by decide +kernel
theorem d_Mod_left_1 : decode prog_9_method_27_code 1 = .ok (.invokevirtual 160, 3) := by decide +kernel
theorem d_Mod_left_4 : decode prog_9_method_27_code 4 = .ok (.aload_n 0, 1) := by decide +kernel
theorem d_Mod_left_5 : decode prog_9_method_27_code 5 = .ok (.iload_n 1, 1) := by decide +kernel
theorem d_Mod_left_6 : decode prog_9_method_27_code 6 = .ok (.iconst 1, 1) := by decide +kernel
theorem d_Mod_left_7 : decode prog_9_method_27_code 7 = .ok (.invokevirtual 176, 3) := by decide +kernel
theorem d_Mod_left_10 : decode prog_9_method_27_code 10 = .ok (.ishr, 1) := by decide +kernel
theorem d_Mod_left_11 : decode prog_9_method_27_code 11 = .ok (.istore_n 2, 1) := by decide +kernel
theorem d_Mod_left_12 : decode prog_9_method_27_code 12 = .ok (.iload_n 1, 1) := by decide +kernel
theorem d_Mod_left_13 : decode prog_9_method_27_code 13 = .ok (.ifCond .le 29, 3) := by decide +kernel
theorem d_Mod_left_16 : decode prog_9_method_27_code 16 = .ok (.iload_n 1, 1) := by decide +kernel
theorem d_Mod_left_17 : decode prog_9_method_27_code 17 = .ok (.aload_n 0, 1) := by decide +kernel
theorem d_Mod_left_18 : decode prog_9_method_27_code 18 = .ok (.getfield 92, 3) := by decide +kernel
theorem d_Mod_left_21 : decode prog_9_method_27_code 21 = .ok (.if_icmp .le 17, 3) := by decide +kernel
theorem d_Mod_left_24 : decode prog_9_method_27_code 24 = .ok (.iload_n 1, 1) := by decide +kernel
theorem d_Mod_left_25 : decode prog_9_method_27_code 25 = .ok (.aload_n 0, 1) := by decide +kernel
theorem d_Mod_left_26 : decode prog_9_method_27_code 26 = .ok (.getfield 92, 3) := by decide +kernel
theorem d_Mod_left_29 : decode prog_9_method_27_code 29 = .ok (.isub, 1) := by decide +kernel
theorem d_Mod_left_30 : decode prog_9_method_27_code 30 = .ok (.iconst 1, 1) := by decide +kernel
theorem d_Mod_left_31 : decode prog_9_method_27_code 31 = .ok (.isub, 1) := by decide +kernel
theorem d_Mod_left_32 : decode prog_9_method_27_code 32 = .ok (.iconst 3, 1) := by decide +kernel
theorem d_Mod_left_33 : decode prog_9_method_27_code 33 = .ok (.irem, 1) := by decide +kernel
theorem d_Mod_left_34 : decode prog_9_method_27_code 34 = .ok (.iconst 1, 1) := by decide +kernel
theorem d_Mod_left_35 : decode prog_9_method_27_code 35 = .ok (.if_icmp .eq 7, 3) := by decide +kernel
theorem d_Mod_left_38 : decode prog_9_method_27_code 38 = .ok (.iconst 1, 1) := by decide +kernel
theorem d_Mod_left_39 : decode prog_9_method_27_code 39 = .ok (.goto 4, 3) := by decide +kernel
theorem d_Mod_left_42 : decode prog_9_method_27_code 42 = .ok (.iconst 0, 1) := by decide +kernel
theorem d_Mod_left_43 : decode prog_9_method_27_code 43 = .ok (.istore_n 3, 1) := by decide +kernel
theorem d_Mod_left_44 : decode prog_9_method_27_code 44 = .ok (.iload_n 3, 1) := by decide +kernel
theorem d_Mod_left_45 : decode prog_9_method_27_code 45 = .ok (.ifCond .eq 7, 3) := by decide +kernel
theorem d_Mod_left_48 : decode prog_9_method_27_code 48 = .ok (.iload_n 2, 1) := by decide +kernel
theorem d_Mod_left_49 : decode prog_9_method_27_code 49 = .ok (.goto 4, 3) := by decide +kernel
theorem d_Mod_left_52 : decode prog_9_method_27_code 52 = .ok (.iconst 0, 1) := by decide +kernel
theorem d_Mod_left_53 : decode prog_9_method_27_code 53 = .ok (.ireturn, 1) := by decide +kernel
theorem d_Mod_top_0 : decode prog_9_method_28_code 0 = .ok (.aload_n 0, 1) := by decide +kernel
theorem d_Mod_top_1 : decode prog_9_method_28_code 1 = .ok (.invokevirtual 163, 3) := by decide +kernel
theorem d_Mod_top_4 : decode prog_9_method_28_code 4 = .ok (.aload_n 0, 1) := by decide +kernel
theorem d_Mod_top_5 : decode prog_9_method_28_code 5 = .ok (.iload_n 1, 1) := by decide +kernel
theorem d_Mod_top_6 : decode prog_9_method_28_code 6 = .ok (.iconst 0, 1) := by decide +kernel
theorem d_Mod_top_7 : decode prog_9_method_28_code 7 = .ok (.invokevirtual 176, 3) := by decide +kernel
theorem d_Mod_top_10 : decode prog_9_method_28_code 10 = .ok (.ishr, 1) := by decide +kernel
theorem d_Mod_top_11 : decode prog_9_method_28_code 11 = .ok (.istore_n 2, 1) := by decide +kernel
theorem d_Mod_top_12 : decode prog_9_method_28_code 12 = .ok (.iload_n 1, 1) := by decide +kernel
theorem d_Mod_top_13 : decode prog_9_method_28_code 13 = .ok (.aload_n 0, 1) := by decide +kernel
theorem d_Mod_top_14 : decode prog_9_method_28_code 14 = .ok (.getfield 92, 3) := by decide +kernel
theorem d_Mod_top_17 : decode prog_9_method_28_code 17 = .ok (.if_icmp .le 20, 3) := by decide +kernel
theorem d_Mod_top_20 : decode prog_9_method_28_code 20 = .ok (.iload_n 1, 1) := by decide +kernel
theorem d_Mod_top_21 : decode prog_9_method_28_code 21 = .ok (.aload_n 0, 1) := by decide +kernel
theorem d_Mod_top_22 : decode prog_9_method_28_code 22 = .ok (.getfield 92, 3) := by decide +kernel
theorem d_Mod_top_25 : decode prog_9_method_28_code 25 = .ok (.isub, 1) := by decide +kernel
theorem d_Mod_top_26 : decode prog_9_method_28_code 26 = .ok (.iconst 1, 1) := by decide +kernel
theorem d_Mod_top_27 : decode prog_9_method_28_code 27 = .ok (.isub, 1) := by decide +kernel
theorem d_Mod_top_28 : decode prog_9_method_28_code 28 = .ok (.iconst 3, 1) := by decide +kernel
theorem d_Mod_top_29 : decode prog_9_method_28_code 29 = .ok (.irem, 1) := by decide +kernel
theorem d_Mod_top_30 : decode prog_9_method_28_code 30 = .ok (.ifCond .eq 7, 3) := by decide +kernel
theorem d_Mod_top_33 : decode prog_9_method_28_code 33 = .ok (.iload_n 2, 1) := by decide +kernel
theorem d_Mod_top_34 : decode prog_9_method_28_code 34 = .ok (.goto 4, 3) := by decide +kernel
theorem d_Mod_top_37 : decode prog_9_method_28_code 37 = .ok (.iconst 0, 1) := by decide +kernel
theorem d_Mod_top_38 : decode prog_9_method_28_code 38 = .ok (.ireturn, 1) := by decide +kernel
abbrev w_Mod_isCoefficient : List Cond := Cond.code y_Mod_isCoefficient prog_9_method_24_code 3 (some .boolean) :: wl
abbrev r_Mod_isCoefficient : Room := { frames := 1, cells := 0, slots := 0, locals := 21 }
set_option maxHeartbeats 4000000 in
set_option maxRecDepth 100000 in
theorem c_Mod_isCoefficient (l : Launch) (G : k_G) (sz : Nat) (rM rP rk rG rW rK rE rst rev rod rp rb rbl : Nat) (x0 y0 wd ht kd db ew ac dn pr nu de wr rd cn ba sz1 lb rm cu sp nz sl uz : Int) (h_x0 : -2147483648 ≤ x0 ∧ x0 < 2147483648) (h_y0 : -2147483648 ≤ y0 ∧ y0 < 2147483648) (hwd : 1 ≤ wd ∧ wd ≤ 16) (hht : 1 ≤ ht ∧ ht ≤ 16) (hde : 0 ≤ db ∧ db ≤ 2 ∧ 0 ≤ ew ∧ ew ≤ 2 ∧ db + ew ≤ 3) : Met l y_Mod_isCoefficient w_Mod_isCoefficient r_Mod_isCoefficient (k_P G [.ref rM, .int (iv (x0)), .int (iv (y0))] [o_Mod rM wd ht rP rk rG rW rK kd db ew ac dn pr nu de rE rst wr rd rev rod cn rp rb ba sz1 lb rm cu sp nz rbl sl uz] sz) (vp_Si (fun r : Int32 => r = iv (bI ((0 ≤ x0 ∧ x0 ≤ lmI wd (2 ^ (db + ew).toNat) - 1) ∧ 0 ≤ y0 ∧ y0 ≤ lmI ht (2 ^ db.toNat) - 1)))) 0 0 (fun _ => False) := by
  refine k_met (fun _ => vp_Si (fun r : Int32 => r = iv (bI ((0 ≤ x0 ∧ x0 ≤ lmI wd (2 ^ (db + ew).toNat) - 1) ∧ 0 ≤ y0 ∧ y0 ≤ lmI ht (2 ^ db.toNat) - 1)))) (fun _ _ => False) (by decide) rfl (Nat.le_of_ble_eq_true rfl) (fun p e s m args below meth c ls A Q S hr hlk hnm hl hsz hP hK hD hS hA hT hQ => ?_)
  obtain ⟨hx, hb, hml, hown, hts⟩ := id S
  have hw : ∀ w ∈ wl, w.before args s = true := fun w h => hts w (List.mem_cons_of_mem _ h)
  have hl : lv_has ls 3 [(0, .ref rM), (1, .int (iv (x0))), (2, .int (iv (y0)))] := hl
  have e1 := lmI_r hwd (p2_c (k := db + ew) (by omega))
  have e2 := lmI_r hht (p2_c (k := db) (by omega))
  refine lv_iload_n hx hb d_Mod_isCoefficient_0 rfl (lv_at hl 1 rfl) ?_
  refine k_if_lt (tgt := 28) hx hb d_Mod_isCoefficient_1 (by decide) (by omega) (fun hc1 => ?_) (fun hc1 => ?_)
  · refine lv_iconst (v := iv (0)) hx hb d_Mod_isCoefficient_28 rfl ?_
    exact k_zretR hx hb hr hlk (by omega) hQ (by first | rw [bI_t (by omega)] | rw [bI_f (by omega)]) d_Mod_isCoefficient_29
  · refine lv_iload_n hx hb d_Mod_isCoefficient_4 rfl (lv_at hl 1 rfl) ?_
    refine lv_aload_n hx hb d_Mod_isCoefficient_5 rfl (lv_at hl 0 rfl) ?_
    refine k_ciR (k_rv S (c_Mod_columns l G _ rM rP rk rG rW rK rE rst rev rod rp rb rbl wd ht kd db ew ac dn pr nu de wr rd cn ba sz1 lb rm cu sp nz sl uz (by omega) (by omega) (by omega)) 0 m4_45 m4_42 m4_44 mp_23 m1_9 (by decide +kernel) (by decide) rfl rfl (k_preV (q0 := 0) hK hP hD hS hA hT rfl rfl [0] (by decide) rfl) rfl hl.1 rfl (Nat.le_of_ble_eq_true rfl) d_Mod_isCoefficient_6 ⟨Nat.le_of_ble_eq_true rfl, Nat.le_of_ble_eq_true rfl⟩) (fun r6 h6 => ?_)
    subst h6
    refine k_icmp_ge (tgt := 28) hx hb d_Mod_isCoefficient_9 (by decide) (by omega) (by omega) (fun hc9 => ?_) (fun hc9 => ?_)
    · refine lv_iconst (v := iv (0)) hx hb d_Mod_isCoefficient_28 rfl ?_
      exact k_zretR hx hb hr hlk (by omega) hQ (by first | rw [bI_t (by omega)] | rw [bI_f (by omega)]) d_Mod_isCoefficient_29
    · refine lv_iload_n hx hb d_Mod_isCoefficient_12 rfl (lv_at hl 2 rfl) ?_
      refine k_if_lt (tgt := 28) hx hb d_Mod_isCoefficient_13 (by decide) (by omega) (fun hc13 => ?_) (fun hc13 => ?_)
      · refine lv_iconst (v := iv (0)) hx hb d_Mod_isCoefficient_28 rfl ?_
        exact k_zretR hx hb hr hlk (by omega) hQ (by first | rw [bI_t (by omega)] | rw [bI_f (by omega)]) d_Mod_isCoefficient_29
      · refine lv_iload_n hx hb d_Mod_isCoefficient_16 rfl (lv_at hl 2 rfl) ?_
        refine lv_aload_n hx hb d_Mod_isCoefficient_17 rfl (lv_at hl 0 rfl) ?_
        refine k_ciR (k_rv S (c_Mod_rows l G _ rM rP rk rG rW rK rE rst rev rod rp rb rbl wd ht kd db ew ac dn pr nu de wr rd cn ba sz1 lb rm cu sp nz sl uz (by omega) (by omega) (by omega)) 0 m4_49 m4_46 m4_48 mp_24 m1_9 (by decide +kernel) (by decide) rfl rfl (k_preV (q0 := 0) hK hP hD hS hA hT rfl rfl [0] (by decide) rfl) rfl hl.1 rfl (Nat.le_of_ble_eq_true rfl) d_Mod_isCoefficient_18 ⟨Nat.le_of_ble_eq_true rfl, Nat.le_of_ble_eq_true rfl⟩) (fun r18 h18 => ?_)
        subst h18
        refine k_icmp_ge (tgt := 28) hx hb d_Mod_isCoefficient_21 (by decide) (by omega) (by omega) (fun hc21 => ?_) (fun hc21 => ?_)
        · refine lv_iconst (v := iv (0)) hx hb d_Mod_isCoefficient_28 rfl ?_
          exact k_zretR hx hb hr hlk (by omega) hQ (by first | rw [bI_t (by omega)] | rw [bI_f (by omega)]) d_Mod_isCoefficient_29
        · refine lv_iconst (v := iv (1)) hx hb d_Mod_isCoefficient_24 rfl ?_
          refine lv_goto (tgt := 29) hx hb d_Mod_isCoefficient_25 (by decide) ?_
          exact k_zretR hx hb hr hlk (by omega) hQ (by first | rw [bI_t (by omega)] | rw [bI_f (by omega)]) d_Mod_isCoefficient_29
abbrev w_Mod_forward : List Cond := Cond.code y_Mod_forward prog_9_method_22_code 6 none :: wl
abbrev r_Mod_forward : Room := { frames := 5, cells := 0, slots := 0, locals := 142 }
set_option maxHeartbeats 4000000 in
set_option maxRecDepth 100000 in
theorem c_Mod_forward (l : Launch) (G : k_G) (sz : Nat) (rM rP rk rG rW rK rE rst rev rod rp rb rbl : Nat) (wd ht kd db ew ac dn pr nu de wr rd cn ba sz1 lb rm cu sp nz sl uz : Int) (pic : Int → Int) (gg ge go : Int → Int64) (hwd : 1 ≤ wd ∧ wd ≤ 16) (hht : 1 ≤ ht ∧ ht ≤ 16) (hde : 0 ≤ db ∧ db ≤ 2 ∧ 0 ≤ ew ∧ ew ≤ 2 ∧ db + ew ≤ 3) (hkd : 0 ≤ kd ∧ kd ≤ 6) (hpic : ∀ j, -128 ≤ pic j ∧ pic j ≤ 127) : Met l y_Mod_forward w_Mod_forward r_Mod_forward (k_P G [.ref rM] [o_Mod rM wd ht rP rk rG rW rK kd db ew ac dn pr nu de rE rst wr rd rev rod cn rp rb ba sz1 lb rm cu sp nz rbl sl uz, (rG, al (gL G) 256 (gg)), (rev, al (gL G) 8 (ge)), (rod, al (gL G) 8 (go)), (rP, ai (gI G) 256 (pic))] sz) (qv G (fun u : (Int → Int64) × (Int → Int64) × (Int → Int64) => u = fmW (lmI wd (2 ^ (db + ew).toNat)) (lmI ht (2 ^ db.toNat)) db ew kd (fmA wd ht (lmI wd (2 ^ (db + ew).toNat)) (lmI ht (2 ^ db.toNat)) pic gg, ge, go)) (fun u : (Int → Int64) × (Int → Int64) × (Int → Int64) => [o_Mod rM wd ht rP rk rG rW rK kd db ew ac dn pr nu de rE rst wr rd rev rod cn rp rb ba sz1 lb rm cu sp nz rbl sl uz, (rG, al (gL G) 256 (u.1)), (rev, al (gL G) 8 (u.2.1)), (rod, al (gL G) 8 (u.2.2)), (rP, ai (gI G) 256 (pic))]) (va_A [o_Mod rM wd ht rP rk rG rW rK kd db ew ac dn pr nu de rE rst wr rd rev rod cn rp rb ba sz1 lb rm cu sp nz rbl sl uz, (rG, al (gL G) 256 (gg)), (rev, al (gL G) 8 (ge)), (rod, al (gL G) 8 (go)), (rP, ai (gI G) 256 (pic))] sz)) 0 0 (va_A [o_Mod rM wd ht rP rk rG rW rK kd db ew ac dn pr nu de rE rst wr rd rev rod cn rp rb ba sz1 lb rm cu sp nz rbl sl uz, (rG, al (gL G) 256 (gg)), (rev, al (gL G) 8 (ge)), (rod, al (gL G) 8 (go)), (rP, ai (gI G) 256 (pic))] sz) := by
  refine k_met (fun A => qv G (fun u : (Int → Int64) × (Int → Int64) × (Int → Int64) => u = fmW (lmI wd (2 ^ (db + ew).toNat)) (lmI ht (2 ^ db.toNat)) db ew kd (fmA wd ht (lmI wd (2 ^ (db + ew).toNat)) (lmI ht (2 ^ db.toNat)) pic gg, ge, go)) (fun u : (Int → Int64) × (Int → Int64) × (Int → Int64) => [o_Mod rM wd ht rP rk rG rW rK kd db ew ac dn pr nu de rE rst wr rd rev rod cn rp rb ba sz1 lb rm cu sp nz rbl sl uz, (rG, al (gL G) 256 (u.1)), (rev, al (gL G) 8 (u.2.1)), (rod, al (gL G) 8 (u.2.2)), (rP, ai (gI G) 256 (pic))]) A) (fun A => A) (by decide) rfl (Nat.le_of_ble_eq_true rfl) (fun p e s m args below meth c ls A Q S hr hlk hnm hl hsz hP hK hD hS hA hT hQ => ?_)
  obtain ⟨hx, hb, hml, hown, hts⟩ := id S
  have hw : ∀ w ∈ wl, w.before args s = true := fun w h => hts w (List.mem_cons_of_mem _ h)
  have hl : lv_has ls 6 [(0, .ref rM)] := hl
  have e1 := lmI_r hwd (p2_c (k := db + ew) (by omega))
  have e2 := lmI_r hht (p2_c (k := db) (by omega))
  obtain ⟨cP, hcP⟩ : ∃ z, z = lmI wd (2 ^ (db + ew).toNat) := ⟨_, rfl⟩
  obtain ⟨cQ, hcQ⟩ : ∃ z, z = lmI ht (2 ^ db.toNat) := ⟨_, rfl⟩
  rw [← hcP] at e1
  rw [← hcQ] at e2
  refine lv_aload_n hx hb d_Mod_forward_0 rfl (lv_at hl 0 rfl) ?_
  refine k_ciR (k_rv S (c_Mod_columns l G _ rM rP rk rG rW rK rE rst rev rod rp rb rbl wd ht kd db ew ac dn pr nu de wr rd cn ba sz1 lb rm cu sp nz sl uz (by omega) (by omega) (by omega)) 0 m4_45 m4_42 m4_44 mp_23 m1_9 (by decide +kernel) (by decide) rfl rfl (k_preV (q0 := 0) hK hP hD hS hA hT rfl rfl [0] (by decide) rfl) rfl hl.1 rfl (Nat.le_of_ble_eq_true rfl) d_Mod_forward_1 ⟨Nat.le_of_ble_eq_true rfl, Nat.le_of_ble_eq_true rfl⟩) (fun r1 h1 => ?_)
  subst h1
  refine k_eqi (b := cP) (by rw [hcP]) ?_
  refine lv_istore_n hx hb d_Mod_forward_4 rfl hl (by decide) rfl (fun ls hl => ?_)
  have hl : lv_has ls 6 [(1, .int (iv (cP))), (0, .ref rM)] := hl
  refine lv_aload_n hx hb d_Mod_forward_5 rfl (lv_at hl 1 rfl) ?_
  refine k_ciR (k_rv S (c_Mod_rows l G _ rM rP rk rG rW rK rE rst rev rod rp rb rbl wd ht kd db ew ac dn pr nu de wr rd cn ba sz1 lb rm cu sp nz sl uz (by omega) (by omega) (by omega)) 0 m4_49 m4_46 m4_48 mp_24 m1_9 (by decide +kernel) (by decide) rfl rfl (k_preV (q0 := 0) hK hP hD hS hA hT rfl rfl [0] (by decide) rfl) rfl hl.1 rfl (Nat.le_of_ble_eq_true rfl) d_Mod_forward_6 ⟨Nat.le_of_ble_eq_true rfl, Nat.le_of_ble_eq_true rfl⟩) (fun r6 h6 => ?_)
  subst h6
  refine k_eqi (b := cQ) (by rw [hcQ]) ?_
  refine lv_istore_n hx hb d_Mod_forward_9 rfl hl (by decide) rfl (fun ls hl => ?_)
  have hl : lv_has ls 6 [(2, .int (iv (cQ))), (1, .int (iv (cP))), (0, .ref rM)] := hl
  refine lv_iconst (v := iv (0)) hx hb d_Mod_forward_10 rfl ?_
  refine lv_istore_n hx hb d_Mod_forward_11 rfl hl (by decide) rfl (fun ls hl => ?_)
  have hl : lv_has ls 6 [(3, .int (iv (0))), (2, .int (iv (cQ))), (1, .int (iv (cP))), (0, .ref rM)] := hl
  refine lo_up (P := fun y => ∀ (ls : Array Slot) (H : Heap) (locs : List Loc) (b1 : Int → Int64), lv_has ls 6 [(0, .ref rM), (1, .int (iv (cP))), (2, .int (iv (cQ))), (3, .int (iv (y)))] → va_P (gD G) classes [o_Mod rM wd ht rP rk rG rW rK kd db ew ac dn pr nu de rE rst wr rd rev rod cn rp rb ba sz1 lb rm cu sp nz rbl sl uz, (rG, al (gL G) 256 (b1)), (rev, al (gL G) 8 (ge)), (rod, al (gL G) 8 (go)), (rP, ai (gI G) 256 (pic))] H → va_D A [o_Mod rM wd ht rP rk rG rW rK kd db ew ac dn pr nu de rE rst wr rd rev rod cn rp rb ba sz1 lb rm cu sp nz rbl sl uz, (rG, al (gL G) 256 (b1)), (rev, al (gL G) 8 (ge)), (rod, al (gL G) 8 (go)), (rP, ai (gI G) 256 (pic))] → va_S A s.heap H locs → (b1 = fmA wd ht cP y pic gg) → W p l e r_Mod_forward s m args below meth c H locs 0 0 Q (F0 m 12 ls [])) (a := 0) (b := cQ) (fun y hiy hjy ihy => ?_) _ _ _ gg (lv_sub hl [3, 2, 1, 0] rfl) hP hD hS (it_self _ _ _).symm
  intro ls H locs b1 hl hP hD hS hs
  refine lv_iload_n hx hb d_Mod_forward_12 rfl (lv_at hl 3 rfl) ?_
  refine lv_iload_n hx hb d_Mod_forward_13 rfl (lv_at hl 2 rfl) ?_
  refine k_icmp_ge (tgt := 102) hx hb d_Mod_forward_14 (by decide) (by omega) (by omega) (fun hc14 => ?_) (fun hc14 => ?_)
  · have f1 : b1 = fmA wd ht cP cQ pic gg := by rw [hs]; unfold fmA; exact it_x _ _ hc14 hjy
    refine lv_iconst (v := iv (0)) hx hb d_Mod_forward_102 rfl ?_
    refine lv_istore_n hx hb d_Mod_forward_103 rfl hl (by decide) rfl (fun ls hl => ?_)
    have hl : lv_has ls 6 [(3, .int (iv (0))), (0, .ref rM), (1, .int (iv (cP))), (2, .int (iv (cQ)))] := hl
    refine lo_up (P := fun l1 => ∀ (ls : Array Slot) (H : Heap) (locs : List Loc) (a3 : Int → Int64) (ge3 : Int → Int64) (go3 : Int → Int64), lv_has ls 6 [(0, .ref rM), (1, .int (iv (cP))), (2, .int (iv (cQ))), (3, .int (iv (l1)))] → va_P (gD G) classes [o_Mod rM wd ht rP rk rG rW rK kd db ew ac dn pr nu de rE rst wr rd rev rod cn rp rb ba sz1 lb rm cu sp nz rbl sl uz, (rG, al (gL G) 256 (a3)), (rev, al (gL G) 8 (ge3)), (rod, al (gL G) 8 (go3)), (rP, ai (gI G) 256 (pic))] H → va_D A [o_Mod rM wd ht rP rk rG rW rK kd db ew ac dn pr nu de rE rst wr rd rev rod cn rp rb ba sz1 lb rm cu sp nz rbl sl uz, (rG, al (gL G) 256 (a3)), (rev, al (gL G) 8 (ge3)), (rod, al (gL G) 8 (go3)), (rP, ai (gI G) 256 (pic))] → va_S A s.heap H locs → ((a3, ge3, go3) = it (fmL1 cP cQ kd) 0 l1 (b1, ge, go)) → W p l e r_Mod_forward s m args below meth c H locs 0 0 Q (F0 m 104 ls [])) (a := 0) (b := db) (fun l1 hil1 hjl1 ihl1 => ?_) _ _ _ b1 ge go (lv_sub hl [1, 2, 3, 0] rfl) hP hD hS (it_self _ _ _).symm
    intro ls H locs a3 ge3 go3 hl hP hD hS hs3
    refine lv_iload_n hx hb d_Mod_forward_104 rfl (lv_at hl 3 rfl) ?_
    refine lv_aload_n hx hb d_Mod_forward_105 rfl (lv_at hl 0 rfl) ?_
    refine va_get (D := gD G) (ci := 7) (v := .int (iv (db))) (C := R_Mod) (T := F_Mod) (N := 34) hx hb hw in_Mod hown hK hP 0 rfl rfl 8 (by decide) (hw _ m3_132) (fun _ h => h) rfl d_Mod_forward_106 ?_
    refine k_icmp_ge (tgt := 130) hx hb d_Mod_forward_109 (by decide) (by omega) (by omega) (fun hc109 => ?_) (fun hc109 => ?_)
    · have f2 : (a3, ge3, go3) = it (fmL1 cP cQ kd) 0 db (b1, ge, go) := by rw [hs3]; exact it_x _ _ hc109 hjl1
      refine lv_aload_n hx hb d_Mod_forward_130 rfl (lv_at hl 0 rfl) ?_
      refine va_get (D := gD G) (ci := 7) (v := .int (iv (db))) (C := R_Mod) (T := F_Mod) (N := 34) hx hb hw in_Mod hown hK hP 0 rfl rfl 8 (by decide) (hw _ m3_132) (fun _ h => h) rfl d_Mod_forward_131 ?_
      refine lv_istore_n hx hb d_Mod_forward_134 rfl hl (by decide) rfl (fun ls hl => ?_)
      have hl : lv_has ls 6 [(3, .int (iv (db))), (0, .ref rM), (1, .int (iv (cP))), (2, .int (iv (cQ)))] := hl
      refine lo_up (P := fun l1 => ∀ (ls : Array Slot) (H : Heap) (locs : List Loc) (a4 : Int → Int64) (ge4 : Int → Int64) (go4 : Int → Int64), lv_has ls 6 [(0, .ref rM), (1, .int (iv (cP))), (2, .int (iv (cQ))), (3, .int (iv (l1)))] → va_P (gD G) classes [o_Mod rM wd ht rP rk rG rW rK kd db ew ac dn pr nu de rE rst wr rd rev rod cn rp rb ba sz1 lb rm cu sp nz rbl sl uz, (rG, al (gL G) 256 (a4)), (rev, al (gL G) 8 (ge4)), (rod, al (gL G) 8 (go4)), (rP, ai (gI G) 256 (pic))] H → va_D A [o_Mod rM wd ht rP rk rG rW rK kd db ew ac dn pr nu de rE rst wr rd rev rod cn rp rb ba sz1 lb rm cu sp nz rbl sl uz, (rG, al (gL G) 256 (a4)), (rev, al (gL G) 8 (ge4)), (rod, al (gL G) 8 (go4)), (rP, ai (gI G) 256 (pic))] → va_S A s.heap H locs → ((a4, ge4, go4) = it (fmL2 cP cQ db kd) db l1 (a3, ge3, go3)) → W p l e r_Mod_forward s m args below meth c H locs 0 0 Q (F0 m 135 ls [])) (a := db) (b := db + ew) (fun l1 hil1 hjl1 ihl1 => ?_) _ _ _ a3 ge3 go3 (lv_sub hl [1, 2, 3, 0] rfl) hP hD hS (it_self _ _ _).symm
      intro ls H locs a4 ge4 go4 hl hP hD hS hs4
      refine lv_iload_n hx hb d_Mod_forward_135 rfl (lv_at hl 3 rfl) ?_
      refine lv_aload_n hx hb d_Mod_forward_136 rfl (lv_at hl 0 rfl) ?_
      refine va_get (D := gD G) (ci := 7) (v := .int (iv (db))) (C := R_Mod) (T := F_Mod) (N := 34) hx hb hw in_Mod hown hK hP 0 rfl rfl 8 (by decide) (hw _ m3_132) (fun _ h => h) rfl d_Mod_forward_137 ?_
      refine lv_aload_n hx hb d_Mod_forward_140 rfl (lv_at hl 0 rfl) ?_
      refine va_get (D := gD G) (ci := 7) (v := .int (iv (ew))) (C := R_Mod) (T := F_Mod) (N := 34) hx hb hw in_Mod hown hK hP 0 rfl rfl 9 (by decide) (hw _ m3_133) (fun _ h => h) rfl d_Mod_forward_141 ?_
      refine k_iadd hx hb d_Mod_forward_144 ?_
      refine k_icmp_ge (tgt := 169) hx hb d_Mod_forward_145 (by decide) (by omega) (by omega) (fun hc145 => ?_) (fun hc145 => ?_)
      · exact k_vret hx hb hr hlk hQ ((a4, ge4, go4)) (by rw [← hcP, ← hcQ, ← f1]; unfold fmW; rw [← f2, hs4]; exact it_x _ _ hc145 hjl1) hP hD hS d_Mod_forward_169
      · have k1 := lv_r (c := cP) (lv := l1) (by omega)
        have k2 := lv_r (c := cQ) (lv := l1) (by omega)
        have k3 := lv_r (c := cQ) (lv := db) (by omega)
        refine lv_aload_n hx hb d_Mod_forward_148 rfl (lv_at hl 0 rfl) ?_
        refine lv_iload_n hx hb d_Mod_forward_149 rfl (lv_at hl 1 rfl) ?_
        refine lv_iload_n hx hb d_Mod_forward_150 rfl (lv_at hl 3 rfl) ?_
        refine k_ishr hx hb d_Mod_forward_151 (by omega) (by omega) ?_
        refine lv_iload_n hx hb d_Mod_forward_152 rfl (lv_at hl 2 rfl) ?_
        refine lv_aload_n hx hb d_Mod_forward_153 rfl (lv_at hl 0 rfl) ?_
        refine va_get (D := gD G) (ci := 7) (v := .int (iv (db))) (C := R_Mod) (T := F_Mod) (N := 34) hx hb hw in_Mod hown hK hP 0 rfl rfl 8 (by decide) (hw _ m3_132) (fun _ h => h) rfl d_Mod_forward_154 ?_
        refine k_ishr hx hb d_Mod_forward_157 (by omega) (by omega) ?_
        refine lv_iconst (v := iv (0)) hx hb d_Mod_forward_158 rfl ?_
        refine lv_iconst (v := iv (0)) hx hb d_Mod_forward_159 rfl ?_
        refine k_cv (wz := fun u : (Int → Int64) × (Int → Int64) × (Int → Int64) => [o_Mod rM wd ht rP rk rG rW rK kd db ew ac dn pr nu de rE rst wr rd rev rod cn rp rb ba sz1 lb rm cu sp nz rbl sl uz, (rG, al (gL G) 256 (u.1)), (rev, al (gL G) 8 (u.2.1)), (rod, al (gL G) 8 (u.2.2)), (rP, ai (gI G) 256 (pic))]) (wr := [(rP, ai (gI G) 256 (pic))]) (k_rv S (c_Mod_region l G _ rM rP rk rG rW rK rE rst rev rod rp rb rbl (cP / 2 ^ (l1).toNat) (cQ / 2 ^ (db).toNat) 0 0 wd ht kd db ew ac dn pr nu de wr rd cn ba sz1 lb rm cu sp nz sl uz a4 ge4 go4 (by omega) (by omega) (by omega) (by omega) (by omega)) 4 m4_57 m4_54 m4_56 mp_26 m1_9 (by decide +kernel) (by decide) rfl rfl (k_preV (q0 := 0) hK hP hD hS hA hT rfl rfl [0, 1, 2, 3] (by decide) rfl) rfl hl.1 rfl (Nat.le_of_ble_eq_true rfl) d_Mod_forward_160 ⟨Nat.le_of_ble_eq_true rfl, Nat.le_of_ble_eq_true rfl⟩) hP hD hS hA [0, 1, 2, 3] [4] [1, 2, 3, 4, 0] rfl rfl (by decide) (by decide) (by decide) (fun _ => rfl) (fun u160 H locs h160 hP hD hS => ?_)
        obtain ⟨a160, ge160, go160⟩ := u160
        have hP : va_P (gD G) classes [o_Mod rM wd ht rP rk rG rW rK kd db ew ac dn pr nu de rE rst wr rd rev rod cn rp rb ba sz1 lb rm cu sp nz rbl sl uz, (rG, al (gL G) 256 (a160)), (rev, al (gL G) 8 (ge160)), (rod, al (gL G) 8 (go160)), (rP, ai (gI G) 256 (pic))] H := hP
        have hD : va_D A [o_Mod rM wd ht rP rk rG rW rK kd db ew ac dn pr nu de rE rst wr rd rev rod cn rp rb ba sz1 lb rm cu sp nz rbl sl uz, (rG, al (gL G) 256 (a160)), (rev, al (gL G) 8 (ge160)), (rod, al (gL G) 8 (go160)), (rP, ai (gI G) 256 (pic))] := hD
        try dsimp only at h160
        refine lv_iinc (k := 3) (v := iv (l1 + 1)) hx hb d_Mod_forward_163 hl rfl (iv_add _ _) (by decide) rfl (fun ls hl => ?_)
        have hl : lv_has ls 6 [(3, .int (iv (l1 + 1))), (0, .ref rM), (1, .int (iv (cP))), (2, .int (iv (cQ)))] := hl
        refine lv_goto (tgt := 135) hx hb d_Mod_forward_166 (by decide) ?_
        exact ihl1 (by omega) _ _ _ a160 ge160 go160 (lv_sub hl [1, 2, 3, 0] rfl) hP hD hS (by rw [it_s _ _ hil1, ← hs4]; exact h160)
    · have k1 := lv_r (c := cP) (lv := l1) (by omega)
      have k2 := lv_r (c := cQ) (lv := l1) (by omega)
      have k3 := lv_r (c := cQ) (lv := db) (by omega)
      refine lv_aload_n hx hb d_Mod_forward_112 rfl (lv_at hl 0 rfl) ?_
      refine lv_iload_n hx hb d_Mod_forward_113 rfl (lv_at hl 1 rfl) ?_
      refine lv_iload_n hx hb d_Mod_forward_114 rfl (lv_at hl 3 rfl) ?_
      refine k_ishr hx hb d_Mod_forward_115 (by omega) (by omega) ?_
      refine lv_iload_n hx hb d_Mod_forward_116 rfl (lv_at hl 2 rfl) ?_
      refine lv_iload_n hx hb d_Mod_forward_117 rfl (lv_at hl 3 rfl) ?_
      refine k_ishr hx hb d_Mod_forward_118 (by omega) (by omega) ?_
      refine lv_iconst (v := iv (1)) hx hb d_Mod_forward_119 rfl ?_
      refine lv_iconst (v := iv (0)) hx hb d_Mod_forward_120 rfl ?_
      refine k_cv (wz := fun u : (Int → Int64) × (Int → Int64) × (Int → Int64) => [o_Mod rM wd ht rP rk rG rW rK kd db ew ac dn pr nu de rE rst wr rd rev rod cn rp rb ba sz1 lb rm cu sp nz rbl sl uz, (rG, al (gL G) 256 (u.1)), (rev, al (gL G) 8 (u.2.1)), (rod, al (gL G) 8 (u.2.2)), (rP, ai (gI G) 256 (pic))]) (wr := [(rP, ai (gI G) 256 (pic))]) (k_rv S (c_Mod_region l G _ rM rP rk rG rW rK rE rst rev rod rp rb rbl (cP / 2 ^ (l1).toNat) (cQ / 2 ^ (l1).toNat) 1 0 wd ht kd db ew ac dn pr nu de wr rd cn ba sz1 lb rm cu sp nz sl uz a3 ge3 go3 (by omega) (by omega) (by omega) (by omega) (by omega)) 4 m4_57 m4_54 m4_56 mp_26 m1_9 (by decide +kernel) (by decide) rfl rfl (k_preV (q0 := 0) hK hP hD hS hA hT rfl rfl [0, 1, 2, 3] (by decide) rfl) rfl hl.1 rfl (Nat.le_of_ble_eq_true rfl) d_Mod_forward_121 ⟨Nat.le_of_ble_eq_true rfl, Nat.le_of_ble_eq_true rfl⟩) hP hD hS hA [0, 1, 2, 3] [4] [1, 2, 3, 4, 0] rfl rfl (by decide) (by decide) (by decide) (fun _ => rfl) (fun u121 H locs h121 hP hD hS => ?_)
      obtain ⟨a121, ge121, go121⟩ := u121
      have hP : va_P (gD G) classes [o_Mod rM wd ht rP rk rG rW rK kd db ew ac dn pr nu de rE rst wr rd rev rod cn rp rb ba sz1 lb rm cu sp nz rbl sl uz, (rG, al (gL G) 256 (a121)), (rev, al (gL G) 8 (ge121)), (rod, al (gL G) 8 (go121)), (rP, ai (gI G) 256 (pic))] H := hP
      have hD : va_D A [o_Mod rM wd ht rP rk rG rW rK kd db ew ac dn pr nu de rE rst wr rd rev rod cn rp rb ba sz1 lb rm cu sp nz rbl sl uz, (rG, al (gL G) 256 (a121)), (rev, al (gL G) 8 (ge121)), (rod, al (gL G) 8 (go121)), (rP, ai (gI G) 256 (pic))] := hD
      try dsimp only at h121
      refine lv_iinc (k := 3) (v := iv (l1 + 1)) hx hb d_Mod_forward_124 hl rfl (iv_add _ _) (by decide) rfl (fun ls hl => ?_)
      have hl : lv_has ls 6 [(3, .int (iv (l1 + 1))), (0, .ref rM), (1, .int (iv (cP))), (2, .int (iv (cQ)))] := hl
      refine lv_goto (tgt := 104) hx hb d_Mod_forward_127 (by decide) ?_
      exact ihl1 (by omega) _ _ _ a121 ge121 go121 (lv_sub hl [1, 2, 3, 0] rfl) hP hD hS (by rw [it_s _ _ hil1, ← hs3]; exact h121)
  · refine lv_iconst (v := iv (0)) hx hb d_Mod_forward_17 rfl ?_
    refine lv_istore hx hb d_Mod_forward_18 hl (by decide) rfl (fun ls hl => ?_)
    have hl : lv_has ls 6 [(4, .int (iv (0))), (0, .ref rM), (1, .int (iv (cP))), (2, .int (iv (cQ))), (3, .int (iv (y)))] := hl
    refine lo_up (P := fun x => ∀ (ls : Array Slot) (H : Heap) (locs : List Loc) (b2 : Int → Int64), lv_has ls 6 [(0, .ref rM), (1, .int (iv (cP))), (2, .int (iv (cQ))), (3, .int (iv (y))), (4, .int (iv (x)))] → va_P (gD G) classes [o_Mod rM wd ht rP rk rG rW rK kd db ew ac dn pr nu de rE rst wr rd rev rod cn rp rb ba sz1 lb rm cu sp nz rbl sl uz, (rG, al (gL G) 256 (b2)), (rev, al (gL G) 8 (ge)), (rod, al (gL G) 8 (go)), (rP, ai (gI G) 256 (pic))] H → va_D A [o_Mod rM wd ht rP rk rG rW rK kd db ew ac dn pr nu de rE rst wr rd rev rod cn rp rb ba sz1 lb rm cu sp nz rbl sl uz, (rG, al (gL G) 256 (b2)), (rev, al (gL G) 8 (ge)), (rod, al (gL G) 8 (go)), (rP, ai (gI G) 256 (pic))] → va_S A s.heap H locs → (b2 = it (fun x f => up f (16 * y + x) (lw (pic (min y (ht - 1) * 16 + min x (wd - 1))))) 0 x b1) → W p l e r_Mod_forward s m args below meth c H locs 0 0 Q (F0 m 20 ls [])) (a := 0) (b := cP) (fun x hix hjx ihx => ?_) _ _ _ b1 (lv_sub hl [1, 2, 3, 4, 0] rfl) hP hD hS (it_self _ _ _).symm
    intro ls H locs b2 hl hP hD hS hs2
    refine lv_iload hx hb d_Mod_forward_20 (lv_at hl 4 rfl) ?_
    refine lv_iload_n hx hb d_Mod_forward_22 rfl (lv_at hl 1 rfl) ?_
    refine k_icmp_ge (tgt := 96) hx hb d_Mod_forward_23 (by decide) (by omega) (by omega) (fun hc23 => ?_) (fun hc23 => ?_)
    · refine lv_iinc (k := 3) (v := iv (y + 1)) hx hb d_Mod_forward_96 hl rfl (iv_add _ _) (by decide) rfl (fun ls hl => ?_)
      have hl : lv_has ls 6 [(3, .int (iv (y + 1))), (0, .ref rM), (1, .int (iv (cP))), (2, .int (iv (cQ))), (4, .int (iv (x)))] := hl
      refine lv_goto (tgt := 12) hx hb d_Mod_forward_99 (by decide) ?_
      exact ihy (by omega) _ _ _ b2 (lv_sub hl [1, 2, 3, 0] rfl) hP hD hS (by unfold fmA; rw [it_s _ _ hiy]; show _ = it (fun x f => up f (16 * y + x) (lw (pic (min y (ht - 1) * 16 + min x (wd - 1))))) 0 cP (fmA wd ht cP y pic gg); rw [← hs, hs2]; exact it_x _ _ hc23 hjx)
    · refine lv_bipush (v := iv (16)) hx hb d_Mod_forward_26 rfl ?_
      refine lv_iload_n hx hb d_Mod_forward_28 rfl (lv_at hl 3 rfl) ?_
      refine lv_aload_n hx hb d_Mod_forward_29 rfl (lv_at hl 0 rfl) ?_
      refine va_get (D := gD G) (ci := 7) (v := .int (iv (ht))) (C := R_Mod) (T := F_Mod) (N := 34) hx hb hw in_Mod hown hK hP 0 rfl rfl 1 (by decide) (hw _ m3_125) (fun _ h => h) rfl d_Mod_forward_30 ?_
      refine k_icmp_ge (tgt := 40) hx hb d_Mod_forward_33 (by decide) (by omega) (by omega) (fun hc33 => ?_) (fun hc33 => ?_)
      · refine lv_aload_n hx hb d_Mod_forward_40 rfl (lv_at hl 0 rfl) ?_
        refine va_get (D := gD G) (ci := 7) (v := .int (iv (ht))) (C := R_Mod) (T := F_Mod) (N := 34) hx hb hw in_Mod hown hK hP 0 rfl rfl 1 (by decide) (hw _ m3_125) (fun _ h => h) rfl d_Mod_forward_41 ?_
        refine lv_iconst (v := iv (1)) hx hb d_Mod_forward_44 rfl ?_
        refine k_isub hx hb d_Mod_forward_45 ?_
        refine k_imul hx hb d_Mod_forward_46 ?_
        refine lv_iload hx hb d_Mod_forward_47 (lv_at hl 4 rfl) ?_
        refine lv_aload_n hx hb d_Mod_forward_49 rfl (lv_at hl 0 rfl) ?_
        refine va_get (D := gD G) (ci := 7) (v := .int (iv (wd))) (C := R_Mod) (T := F_Mod) (N := 34) hx hb hw in_Mod hown hK hP 0 rfl rfl 0 (by decide) (hw _ m3_124) (fun _ h => h) rfl d_Mod_forward_50 ?_
        refine k_icmp_ge (tgt := 61) hx hb d_Mod_forward_53 (by decide) (by omega) (by omega) (fun hc53 => ?_) (fun hc53 => ?_)
        · refine lv_aload_n hx hb d_Mod_forward_61 rfl (lv_at hl 0 rfl) ?_
          refine va_get (D := gD G) (ci := 7) (v := .int (iv (wd))) (C := R_Mod) (T := F_Mod) (N := 34) hx hb hw in_Mod hown hK hP 0 rfl rfl 0 (by decide) (hw _ m3_124) (fun _ h => h) rfl d_Mod_forward_62 ?_
          refine lv_iconst (v := iv (1)) hx hb d_Mod_forward_65 rfl ?_
          refine k_isub hx hb d_Mod_forward_66 ?_
          refine k_iadd hx hb d_Mod_forward_67 ?_
          refine k_eqi (b := min y (ht - 1) * 16 + min x (wd - 1)) (by omega) ?_
          refine lv_istore hx hb d_Mod_forward_68 hl (by decide) rfl (fun ls hl => ?_)
          have hl : lv_has ls 6 [(5, .int (iv (min y (ht - 1) * 16 + min x (wd - 1)))), (0, .ref rM), (1, .int (iv (cP))), (2, .int (iv (cQ))), (3, .int (iv (y))), (4, .int (iv (x)))] := hl
          refine lv_aload_n hx hb d_Mod_forward_70 rfl (lv_at hl 1 rfl) ?_
          refine va_get (D := gD G) (ci := 7) (v := .ref rG) (C := R_Mod) (T := F_Mod) (N := 34) hx hb hw in_Mod hown hK hP 0 rfl rfl 4 (by decide) (hw _ m3_128) (fun _ h => h) rfl d_Mod_forward_71 ?_
          refine lv_bipush (v := iv (16)) hx hb d_Mod_forward_74 rfl ?_
          refine lv_iload_n hx hb d_Mod_forward_76 rfl (lv_at hl 4 rfl) ?_
          refine k_imul hx hb d_Mod_forward_77 ?_
          refine lv_iload hx hb d_Mod_forward_78 (lv_at hl 5 rfl) ?_
          refine k_iadd hx hb d_Mod_forward_80 ?_
          refine lv_aload_n hx hb d_Mod_forward_81 rfl (lv_at hl 1 rfl) ?_
          refine va_get (D := gD G) (ci := 7) (v := .ref rP) (C := R_Mod) (T := F_Mod) (N := 34) hx hb hw in_Mod hown hK hP 0 rfl rfl 2 (by decide) (hw _ m3_126) (fun _ h => h) rfl d_Mod_forward_82 ?_
          refine lv_iload hx hb d_Mod_forward_85 (lv_at hl 0 rfl) ?_
          refine k_ial hx hb hK hP 4 0 rfl rfl (by decide) (by omega) d_Mod_forward_87 ?_
          have b9 := hpic (min y (ht - 1) * 16 + min x (wd - 1))
          refine k_i2l hx hb d_Mod_forward_88 (by omega) ?_
          refine k_las hx hb hK hP hD hS 1 1 rfl rfl (by decide) (by omega) d_Mod_forward_89 (fun H locs hP hD hS => ?_)
          have hP : va_P (gD G) classes [o_Mod rM wd ht rP rk rG rW rK kd db ew ac dn pr nu de rE rst wr rd rev rod cn rp rb ba sz1 lb rm cu sp nz rbl sl uz, (rG, al (gL G) 256 (up b2 ((16 * y) + x) (lw (pic (min y (ht - 1) * 16 + min x (wd - 1)))))), (rev, al (gL G) 8 (ge)), (rod, al (gL G) 8 (go)), (rP, ai (gI G) 256 (pic))] H := hP
          have hD : va_D A [o_Mod rM wd ht rP rk rG rW rK kd db ew ac dn pr nu de rE rst wr rd rev rod cn rp rb ba sz1 lb rm cu sp nz rbl sl uz, (rG, al (gL G) 256 (up b2 ((16 * y) + x) (lw (pic (min y (ht - 1) * 16 + min x (wd - 1)))))), (rev, al (gL G) 8 (ge)), (rod, al (gL G) 8 (go)), (rP, ai (gI G) 256 (pic))] := hD
          refine lv_iinc (k := 5) (v := iv (x + 1)) hx hb d_Mod_forward_90 hl rfl (iv_add _ _) (by decide) rfl (fun ls hl => ?_)
          have hl : lv_has ls 6 [(4, .int (iv (x + 1))), (5, .int (iv (min y (ht - 1) * 16 + min x (wd - 1)))), (0, .ref rM), (1, .int (iv (cP))), (2, .int (iv (cQ))), (3, .int (iv (y)))] := hl
          refine lv_goto (tgt := 20) hx hb d_Mod_forward_93 (by decide) ?_
          exact ihx (by omega) _ _ _ (up b2 ((16 * y) + x) (lw (pic (min y (ht - 1) * 16 + min x (wd - 1))))) (lv_sub hl [2, 3, 4, 5, 0] rfl) hP hD hS (by rw [it_s _ _ hix, ← hs2])
        · refine lv_iload hx hb d_Mod_forward_56 (lv_at hl 4 rfl) ?_
          refine lv_goto (tgt := 67) hx hb d_Mod_forward_58 (by decide) ?_
          refine k_iadd hx hb d_Mod_forward_67 ?_
          refine k_eqi (b := min y (ht - 1) * 16 + min x (wd - 1)) (by omega) ?_
          refine lv_istore hx hb d_Mod_forward_68 hl (by decide) rfl (fun ls hl => ?_)
          have hl : lv_has ls 6 [(5, .int (iv (min y (ht - 1) * 16 + min x (wd - 1)))), (0, .ref rM), (1, .int (iv (cP))), (2, .int (iv (cQ))), (3, .int (iv (y))), (4, .int (iv (x)))] := hl
          refine lv_aload_n hx hb d_Mod_forward_70 rfl (lv_at hl 1 rfl) ?_
          refine va_get (D := gD G) (ci := 7) (v := .ref rG) (C := R_Mod) (T := F_Mod) (N := 34) hx hb hw in_Mod hown hK hP 0 rfl rfl 4 (by decide) (hw _ m3_128) (fun _ h => h) rfl d_Mod_forward_71 ?_
          refine lv_bipush (v := iv (16)) hx hb d_Mod_forward_74 rfl ?_
          refine lv_iload_n hx hb d_Mod_forward_76 rfl (lv_at hl 4 rfl) ?_
          refine k_imul hx hb d_Mod_forward_77 ?_
          refine lv_iload hx hb d_Mod_forward_78 (lv_at hl 5 rfl) ?_
          refine k_iadd hx hb d_Mod_forward_80 ?_
          refine lv_aload_n hx hb d_Mod_forward_81 rfl (lv_at hl 1 rfl) ?_
          refine va_get (D := gD G) (ci := 7) (v := .ref rP) (C := R_Mod) (T := F_Mod) (N := 34) hx hb hw in_Mod hown hK hP 0 rfl rfl 2 (by decide) (hw _ m3_126) (fun _ h => h) rfl d_Mod_forward_82 ?_
          refine lv_iload hx hb d_Mod_forward_85 (lv_at hl 0 rfl) ?_
          refine k_ial hx hb hK hP 4 0 rfl rfl (by decide) (by omega) d_Mod_forward_87 ?_
          have b9 := hpic (min y (ht - 1) * 16 + min x (wd - 1))
          refine k_i2l hx hb d_Mod_forward_88 (by omega) ?_
          refine k_las hx hb hK hP hD hS 1 1 rfl rfl (by decide) (by omega) d_Mod_forward_89 (fun H locs hP hD hS => ?_)
          have hP : va_P (gD G) classes [o_Mod rM wd ht rP rk rG rW rK kd db ew ac dn pr nu de rE rst wr rd rev rod cn rp rb ba sz1 lb rm cu sp nz rbl sl uz, (rG, al (gL G) 256 (up b2 ((16 * y) + x) (lw (pic (min y (ht - 1) * 16 + min x (wd - 1)))))), (rev, al (gL G) 8 (ge)), (rod, al (gL G) 8 (go)), (rP, ai (gI G) 256 (pic))] H := hP
          have hD : va_D A [o_Mod rM wd ht rP rk rG rW rK kd db ew ac dn pr nu de rE rst wr rd rev rod cn rp rb ba sz1 lb rm cu sp nz rbl sl uz, (rG, al (gL G) 256 (up b2 ((16 * y) + x) (lw (pic (min y (ht - 1) * 16 + min x (wd - 1)))))), (rev, al (gL G) 8 (ge)), (rod, al (gL G) 8 (go)), (rP, ai (gI G) 256 (pic))] := hD
          refine lv_iinc (k := 5) (v := iv (x + 1)) hx hb d_Mod_forward_90 hl rfl (iv_add _ _) (by decide) rfl (fun ls hl => ?_)
          have hl : lv_has ls 6 [(4, .int (iv (x + 1))), (5, .int (iv (min y (ht - 1) * 16 + min x (wd - 1)))), (0, .ref rM), (1, .int (iv (cP))), (2, .int (iv (cQ))), (3, .int (iv (y)))] := hl
          refine lv_goto (tgt := 20) hx hb d_Mod_forward_93 (by decide) ?_
          exact ihx (by omega) _ _ _ (up b2 ((16 * y) + x) (lw (pic (min y (ht - 1) * 16 + min x (wd - 1))))) (lv_sub hl [2, 3, 4, 5, 0] rfl) hP hD hS (by rw [it_s _ _ hix, ← hs2])
      · refine lv_iload_n hx hb d_Mod_forward_36 rfl (lv_at hl 3 rfl) ?_
        refine lv_goto (tgt := 46) hx hb d_Mod_forward_37 (by decide) ?_
        refine k_imul hx hb d_Mod_forward_46 ?_
        refine lv_iload hx hb d_Mod_forward_47 (lv_at hl 4 rfl) ?_
        refine lv_aload_n hx hb d_Mod_forward_49 rfl (lv_at hl 0 rfl) ?_
        refine va_get (D := gD G) (ci := 7) (v := .int (iv (wd))) (C := R_Mod) (T := F_Mod) (N := 34) hx hb hw in_Mod hown hK hP 0 rfl rfl 0 (by decide) (hw _ m3_124) (fun _ h => h) rfl d_Mod_forward_50 ?_
        refine k_icmp_ge (tgt := 61) hx hb d_Mod_forward_53 (by decide) (by omega) (by omega) (fun hc53 => ?_) (fun hc53 => ?_)
        · refine lv_aload_n hx hb d_Mod_forward_61 rfl (lv_at hl 0 rfl) ?_
          refine va_get (D := gD G) (ci := 7) (v := .int (iv (wd))) (C := R_Mod) (T := F_Mod) (N := 34) hx hb hw in_Mod hown hK hP 0 rfl rfl 0 (by decide) (hw _ m3_124) (fun _ h => h) rfl d_Mod_forward_62 ?_
          refine lv_iconst (v := iv (1)) hx hb d_Mod_forward_65 rfl ?_
          refine k_isub hx hb d_Mod_forward_66 ?_
          refine k_iadd hx hb d_Mod_forward_67 ?_
          refine k_eqi (b := min y (ht - 1) * 16 + min x (wd - 1)) (by omega) ?_
          refine lv_istore hx hb d_Mod_forward_68 hl (by decide) rfl (fun ls hl => ?_)
          have hl : lv_has ls 6 [(5, .int (iv (min y (ht - 1) * 16 + min x (wd - 1)))), (0, .ref rM), (1, .int (iv (cP))), (2, .int (iv (cQ))), (3, .int (iv (y))), (4, .int (iv (x)))] := hl
          refine lv_aload_n hx hb d_Mod_forward_70 rfl (lv_at hl 1 rfl) ?_
          refine va_get (D := gD G) (ci := 7) (v := .ref rG) (C := R_Mod) (T := F_Mod) (N := 34) hx hb hw in_Mod hown hK hP 0 rfl rfl 4 (by decide) (hw _ m3_128) (fun _ h => h) rfl d_Mod_forward_71 ?_
          refine lv_bipush (v := iv (16)) hx hb d_Mod_forward_74 rfl ?_
          refine lv_iload_n hx hb d_Mod_forward_76 rfl (lv_at hl 4 rfl) ?_
          refine k_imul hx hb d_Mod_forward_77 ?_
          refine lv_iload hx hb d_Mod_forward_78 (lv_at hl 5 rfl) ?_
          refine k_iadd hx hb d_Mod_forward_80 ?_
          refine lv_aload_n hx hb d_Mod_forward_81 rfl (lv_at hl 1 rfl) ?_
          refine va_get (D := gD G) (ci := 7) (v := .ref rP) (C := R_Mod) (T := F_Mod) (N := 34) hx hb hw in_Mod hown hK hP 0 rfl rfl 2 (by decide) (hw _ m3_126) (fun _ h => h) rfl d_Mod_forward_82 ?_
          refine lv_iload hx hb d_Mod_forward_85 (lv_at hl 0 rfl) ?_
          refine k_ial hx hb hK hP 4 0 rfl rfl (by decide) (by omega) d_Mod_forward_87 ?_
          have b9 := hpic (min y (ht - 1) * 16 + min x (wd - 1))
          refine k_i2l hx hb d_Mod_forward_88 (by omega) ?_
          refine k_las hx hb hK hP hD hS 1 1 rfl rfl (by decide) (by omega) d_Mod_forward_89 (fun H locs hP hD hS => ?_)
          have hP : va_P (gD G) classes [o_Mod rM wd ht rP rk rG rW rK kd db ew ac dn pr nu de rE rst wr rd rev rod cn rp rb ba sz1 lb rm cu sp nz rbl sl uz, (rG, al (gL G) 256 (up b2 ((16 * y) + x) (lw (pic (min y (ht - 1) * 16 + min x (wd - 1)))))), (rev, al (gL G) 8 (ge)), (rod, al (gL G) 8 (go)), (rP, ai (gI G) 256 (pic))] H := hP
          have hD : va_D A [o_Mod rM wd ht rP rk rG rW rK kd db ew ac dn pr nu de rE rst wr rd rev rod cn rp rb ba sz1 lb rm cu sp nz rbl sl uz, (rG, al (gL G) 256 (up b2 ((16 * y) + x) (lw (pic (min y (ht - 1) * 16 + min x (wd - 1)))))), (rev, al (gL G) 8 (ge)), (rod, al (gL G) 8 (go)), (rP, ai (gI G) 256 (pic))] := hD
          refine lv_iinc (k := 5) (v := iv (x + 1)) hx hb d_Mod_forward_90 hl rfl (iv_add _ _) (by decide) rfl (fun ls hl => ?_)
          have hl : lv_has ls 6 [(4, .int (iv (x + 1))), (5, .int (iv (min y (ht - 1) * 16 + min x (wd - 1)))), (0, .ref rM), (1, .int (iv (cP))), (2, .int (iv (cQ))), (3, .int (iv (y)))] := hl
          refine lv_goto (tgt := 20) hx hb d_Mod_forward_93 (by decide) ?_
          exact ihx (by omega) _ _ _ (up b2 ((16 * y) + x) (lw (pic (min y (ht - 1) * 16 + min x (wd - 1))))) (lv_sub hl [2, 3, 4, 5, 0] rfl) hP hD hS (by rw [it_s _ _ hix, ← hs2])
        · refine lv_iload hx hb d_Mod_forward_56 (lv_at hl 4 rfl) ?_
          refine lv_goto (tgt := 67) hx hb d_Mod_forward_58 (by decide) ?_
          refine k_iadd hx hb d_Mod_forward_67 ?_
          refine k_eqi (b := min y (ht - 1) * 16 + min x (wd - 1)) (by omega) ?_
          refine lv_istore hx hb d_Mod_forward_68 hl (by decide) rfl (fun ls hl => ?_)
          have hl : lv_has ls 6 [(5, .int (iv (min y (ht - 1) * 16 + min x (wd - 1)))), (0, .ref rM), (1, .int (iv (cP))), (2, .int (iv (cQ))), (3, .int (iv (y))), (4, .int (iv (x)))] := hl
          refine lv_aload_n hx hb d_Mod_forward_70 rfl (lv_at hl 1 rfl) ?_
          refine va_get (D := gD G) (ci := 7) (v := .ref rG) (C := R_Mod) (T := F_Mod) (N := 34) hx hb hw in_Mod hown hK hP 0 rfl rfl 4 (by decide) (hw _ m3_128) (fun _ h => h) rfl d_Mod_forward_71 ?_
          refine lv_bipush (v := iv (16)) hx hb d_Mod_forward_74 rfl ?_
          refine lv_iload_n hx hb d_Mod_forward_76 rfl (lv_at hl 4 rfl) ?_
          refine k_imul hx hb d_Mod_forward_77 ?_
          refine lv_iload hx hb d_Mod_forward_78 (lv_at hl 5 rfl) ?_
          refine k_iadd hx hb d_Mod_forward_80 ?_
          refine lv_aload_n hx hb d_Mod_forward_81 rfl (lv_at hl 1 rfl) ?_
          refine va_get (D := gD G) (ci := 7) (v := .ref rP) (C := R_Mod) (T := F_Mod) (N := 34) hx hb hw in_Mod hown hK hP 0 rfl rfl 2 (by decide) (hw _ m3_126) (fun _ h => h) rfl d_Mod_forward_82 ?_
          refine lv_iload hx hb d_Mod_forward_85 (lv_at hl 0 rfl) ?_
          refine k_ial hx hb hK hP 4 0 rfl rfl (by decide) (by omega) d_Mod_forward_87 ?_
          have b9 := hpic (min y (ht - 1) * 16 + min x (wd - 1))
          refine k_i2l hx hb d_Mod_forward_88 (by omega) ?_
          refine k_las hx hb hK hP hD hS 1 1 rfl rfl (by decide) (by omega) d_Mod_forward_89 (fun H locs hP hD hS => ?_)
          have hP : va_P (gD G) classes [o_Mod rM wd ht rP rk rG rW rK kd db ew ac dn pr nu de rE rst wr rd rev rod cn rp rb ba sz1 lb rm cu sp nz rbl sl uz, (rG, al (gL G) 256 (up b2 ((16 * y) + x) (lw (pic (min y (ht - 1) * 16 + min x (wd - 1)))))), (rev, al (gL G) 8 (ge)), (rod, al (gL G) 8 (go)), (rP, ai (gI G) 256 (pic))] H := hP
          have hD : va_D A [o_Mod rM wd ht rP rk rG rW rK kd db ew ac dn pr nu de rE rst wr rd rev rod cn rp rb ba sz1 lb rm cu sp nz rbl sl uz, (rG, al (gL G) 256 (up b2 ((16 * y) + x) (lw (pic (min y (ht - 1) * 16 + min x (wd - 1)))))), (rev, al (gL G) 8 (ge)), (rod, al (gL G) 8 (go)), (rP, ai (gI G) 256 (pic))] := hD
          refine lv_iinc (k := 5) (v := iv (x + 1)) hx hb d_Mod_forward_90 hl rfl (iv_add _ _) (by decide) rfl (fun ls hl => ?_)
          have hl : lv_has ls 6 [(4, .int (iv (x + 1))), (5, .int (iv (min y (ht - 1) * 16 + min x (wd - 1)))), (0, .ref rM), (1, .int (iv (cP))), (2, .int (iv (cQ))), (3, .int (iv (y)))] := hl
          refine lv_goto (tgt := 20) hx hb d_Mod_forward_93 (by decide) ?_
          exact ihx (by omega) _ _ _ (up b2 ((16 * y) + x) (lw (pic (min y (ht - 1) * 16 + min x (wd - 1))))) (lv_sub hl [2, 3, 4, 5, 0] rfl) hP hD hS (by rw [it_s _ _ hix, ← hs2])
abbrev w_Mod_backward : List Cond := Cond.code y_Mod_backward prog_9_method_23_code 4 none :: wl
abbrev r_Mod_backward : Room := { frames := 5, cells := 0, slots := 0, locals := 142 }
set_option maxHeartbeats 4000000 in
set_option maxRecDepth 100000 in
theorem c_Mod_backward (l : Launch) (G : k_G) (sz : Nat) (rM rP rk rG rW rK rE rst rev rod rp rb rbl : Nat) (wd ht kd db ew ac dn pr nu de wr rd cn ba sz1 lb rm cu sp nz sl uz : Int) (gg ge go : Int → Int64) (hwd : 1 ≤ wd ∧ wd ≤ 16) (hht : 1 ≤ ht ∧ ht ≤ 16) (hde : 0 ≤ db ∧ db ≤ 2 ∧ 0 ≤ ew ∧ ew ≤ 2 ∧ db + ew ≤ 3) (hkd : 0 ≤ kd ∧ kd ≤ 6) : Met l y_Mod_backward w_Mod_backward r_Mod_backward (k_P G [.ref rM] [o_Mod rM wd ht rP rk rG rW rK kd db ew ac dn pr nu de rE rst wr rd rev rod cn rp rb ba sz1 lb rm cu sp nz rbl sl uz, (rG, al (gL G) 256 (gg)), (rev, al (gL G) 8 (ge)), (rod, al (gL G) 8 (go))] sz) (qv G (fun u : (Int → Int64) × (Int → Int64) × (Int → Int64) => u = bmW (lmI wd (2 ^ (db + ew).toNat)) (lmI ht (2 ^ db.toNat)) db ew kd (gg, ge, go)) (fun u : (Int → Int64) × (Int → Int64) × (Int → Int64) => [o_Mod rM wd ht rP rk rG rW rK kd db ew ac dn pr nu de rE rst wr rd rev rod cn rp rb ba sz1 lb rm cu sp nz rbl sl uz, (rG, al (gL G) 256 (u.1)), (rev, al (gL G) 8 (u.2.1)), (rod, al (gL G) 8 (u.2.2))]) (va_A [o_Mod rM wd ht rP rk rG rW rK kd db ew ac dn pr nu de rE rst wr rd rev rod cn rp rb ba sz1 lb rm cu sp nz rbl sl uz, (rG, al (gL G) 256 (gg)), (rev, al (gL G) 8 (ge)), (rod, al (gL G) 8 (go))] sz)) 0 0 (va_A [o_Mod rM wd ht rP rk rG rW rK kd db ew ac dn pr nu de rE rst wr rd rev rod cn rp rb ba sz1 lb rm cu sp nz rbl sl uz, (rG, al (gL G) 256 (gg)), (rev, al (gL G) 8 (ge)), (rod, al (gL G) 8 (go))] sz) := by
  refine k_met (fun A => qv G (fun u : (Int → Int64) × (Int → Int64) × (Int → Int64) => u = bmW (lmI wd (2 ^ (db + ew).toNat)) (lmI ht (2 ^ db.toNat)) db ew kd (gg, ge, go)) (fun u : (Int → Int64) × (Int → Int64) × (Int → Int64) => [o_Mod rM wd ht rP rk rG rW rK kd db ew ac dn pr nu de rE rst wr rd rev rod cn rp rb ba sz1 lb rm cu sp nz rbl sl uz, (rG, al (gL G) 256 (u.1)), (rev, al (gL G) 8 (u.2.1)), (rod, al (gL G) 8 (u.2.2))]) A) (fun A => A) (by decide) rfl (Nat.le_of_ble_eq_true rfl) (fun p e s m args below meth c ls A Q S hr hlk hnm hl hsz hP hK hD hS hA hT hQ => ?_)
  obtain ⟨hx, hb, hml, hown, hts⟩ := id S
  have hw : ∀ w ∈ wl, w.before args s = true := fun w h => hts w (List.mem_cons_of_mem _ h)
  have hl : lv_has ls 4 [(0, .ref rM)] := hl
  have e1 := lmI_r hwd (p2_c (k := db + ew) (by omega))
  have e2 := lmI_r hht (p2_c (k := db) (by omega))
  obtain ⟨cP, hcP⟩ : ∃ z, z = lmI wd (2 ^ (db + ew).toNat) := ⟨_, rfl⟩
  obtain ⟨cQ, hcQ⟩ : ∃ z, z = lmI ht (2 ^ db.toNat) := ⟨_, rfl⟩
  rw [← hcP] at e1
  rw [← hcQ] at e2
  refine lv_aload_n hx hb d_Mod_backward_0 rfl (lv_at hl 0 rfl) ?_
  refine k_ciR (k_rv S (c_Mod_columns l G _ rM rP rk rG rW rK rE rst rev rod rp rb rbl wd ht kd db ew ac dn pr nu de wr rd cn ba sz1 lb rm cu sp nz sl uz (by omega) (by omega) (by omega)) 0 m4_45 m4_42 m4_44 mp_23 m1_9 (by decide +kernel) (by decide) rfl rfl (k_preV (q0 := 0) hK hP hD hS hA hT rfl rfl [0] (by decide) rfl) rfl hl.1 rfl (Nat.le_of_ble_eq_true rfl) d_Mod_backward_1 ⟨Nat.le_of_ble_eq_true rfl, Nat.le_of_ble_eq_true rfl⟩) (fun r1 h1 => ?_)
  subst h1
  refine k_eqi (b := cP) (by rw [hcP]) ?_
  refine lv_istore_n hx hb d_Mod_backward_4 rfl hl (by decide) rfl (fun ls hl => ?_)
  have hl : lv_has ls 4 [(1, .int (iv (cP))), (0, .ref rM)] := hl
  refine lv_aload_n hx hb d_Mod_backward_5 rfl (lv_at hl 1 rfl) ?_
  refine k_ciR (k_rv S (c_Mod_rows l G _ rM rP rk rG rW rK rE rst rev rod rp rb rbl wd ht kd db ew ac dn pr nu de wr rd cn ba sz1 lb rm cu sp nz sl uz (by omega) (by omega) (by omega)) 0 m4_49 m4_46 m4_48 mp_24 m1_9 (by decide +kernel) (by decide) rfl rfl (k_preV (q0 := 0) hK hP hD hS hA hT rfl rfl [0] (by decide) rfl) rfl hl.1 rfl (Nat.le_of_ble_eq_true rfl) d_Mod_backward_6 ⟨Nat.le_of_ble_eq_true rfl, Nat.le_of_ble_eq_true rfl⟩) (fun r6 h6 => ?_)
  subst h6
  refine k_eqi (b := cQ) (by rw [hcQ]) ?_
  refine lv_istore_n hx hb d_Mod_backward_9 rfl hl (by decide) rfl (fun ls hl => ?_)
  have hl : lv_has ls 4 [(2, .int (iv (cQ))), (1, .int (iv (cP))), (0, .ref rM)] := hl
  refine lv_aload_n hx hb d_Mod_backward_10 rfl (lv_at hl 2 rfl) ?_
  refine va_get (D := gD G) (ci := 7) (v := .int (iv (db))) (C := R_Mod) (T := F_Mod) (N := 34) hx hb hw in_Mod hown hK hP 0 rfl rfl 8 (by decide) (hw _ m3_132) (fun _ h => h) rfl d_Mod_backward_11 ?_
  refine lv_aload_n hx hb d_Mod_backward_14 rfl (lv_at hl 2 rfl) ?_
  refine va_get (D := gD G) (ci := 7) (v := .int (iv (ew))) (C := R_Mod) (T := F_Mod) (N := 34) hx hb hw in_Mod hown hK hP 0 rfl rfl 9 (by decide) (hw _ m3_133) (fun _ h => h) rfl d_Mod_backward_15 ?_
  refine k_iadd hx hb d_Mod_backward_18 ?_
  refine lv_iconst (v := iv (1)) hx hb d_Mod_backward_19 rfl ?_
  refine k_isub hx hb d_Mod_backward_20 ?_
  refine lv_istore_n hx hb d_Mod_backward_21 rfl hl (by decide) rfl (fun ls hl => ?_)
  have hl : lv_has ls 4 [(3, .int (iv ((db + ew) - 1))), (2, .int (iv (cQ))), (1, .int (iv (cP))), (0, .ref rM)] := hl
  refine lo_db (P := fun l1 => ∀ (ls : Array Slot) (H : Heap) (locs : List Loc) (a3 : Int → Int64) (ge3 : Int → Int64) (go3 : Int → Int64), lv_has ls 4 [(0, .ref rM), (1, .int (iv (cP))), (2, .int (iv (cQ))), (3, .int (iv (l1)))] → va_P (gD G) classes [o_Mod rM wd ht rP rk rG rW rK kd db ew ac dn pr nu de rE rst wr rd rev rod cn rp rb ba sz1 lb rm cu sp nz rbl sl uz, (rG, al (gL G) 256 (a3)), (rev, al (gL G) 8 (ge3)), (rod, al (gL G) 8 (go3))] H → va_D A [o_Mod rM wd ht rP rk rG rW rK kd db ew ac dn pr nu de rE rst wr rd rev rod cn rp rb ba sz1 lb rm cu sp nz rbl sl uz, (rG, al (gL G) 256 (a3)), (rev, al (gL G) 8 (ge3)), (rod, al (gL G) 8 (go3))] → va_S A s.heap H locs → ((a3, ge3, go3) = it (fun k y => bmL1 cP cQ db kd (db + ew - 1 - k) y) 0 (db + ew - 1 - l1) (gg, ge, go)) → W p l e r_Mod_backward s m args below meth c H locs 0 0 Q (F0 m 22 ls [])) (a := db + ew - 1) (b := db) (fun l1 hil1 hjl1 ihl1 => ?_) _ _ _ gg ge go (lv_sub hl [3, 2, 1, 0] rfl) hP hD hS (by rw [Int.sub_self, it_self])
  intro ls H locs a3 ge3 go3 hl hP hD hS hs3
  refine lv_iload_n hx hb d_Mod_backward_22 rfl (lv_at hl 3 rfl) ?_
  refine lv_aload_n hx hb d_Mod_backward_23 rfl (lv_at hl 0 rfl) ?_
  refine va_get (D := gD G) (ci := 7) (v := .int (iv (db))) (C := R_Mod) (T := F_Mod) (N := 34) hx hb hw in_Mod hown hK hP 0 rfl rfl 8 (by decide) (hw _ m3_132) (fun _ h => h) rfl d_Mod_backward_24 ?_
  refine k_icmp_lt (tgt := 51) hx hb d_Mod_backward_27 (by decide) (by omega) (by omega) (fun hc27 => ?_) (fun hc27 => ?_)
  · have f2 : (a3, ge3, go3) = it (fun k y => bmL1 cP cQ db kd (db + ew - 1 - k) y) 0 ew (gg, ge, go) := by rw [hs3]; exact it_x _ _ (by omega) (by omega)
    refine lv_aload_n hx hb d_Mod_backward_51 rfl (lv_at hl 0 rfl) ?_
    refine va_get (D := gD G) (ci := 7) (v := .int (iv (db))) (C := R_Mod) (T := F_Mod) (N := 34) hx hb hw in_Mod hown hK hP 0 rfl rfl 8 (by decide) (hw _ m3_132) (fun _ h => h) rfl d_Mod_backward_52 ?_
    refine lv_iconst (v := iv (1)) hx hb d_Mod_backward_55 rfl ?_
    refine k_isub hx hb d_Mod_backward_56 ?_
    refine lv_istore_n hx hb d_Mod_backward_57 rfl hl (by decide) rfl (fun ls hl => ?_)
    have hl : lv_has ls 4 [(3, .int (iv (db - 1))), (0, .ref rM), (1, .int (iv (cP))), (2, .int (iv (cQ)))] := hl
    refine lo_dn (P := fun l1 => ∀ (ls : Array Slot) (H : Heap) (locs : List Loc) (a4 : Int → Int64) (ge4 : Int → Int64) (go4 : Int → Int64), lv_has ls 4 [(0, .ref rM), (1, .int (iv (cP))), (2, .int (iv (cQ))), (3, .int (iv (l1)))] → va_P (gD G) classes [o_Mod rM wd ht rP rk rG rW rK kd db ew ac dn pr nu de rE rst wr rd rev rod cn rp rb ba sz1 lb rm cu sp nz rbl sl uz, (rG, al (gL G) 256 (a4)), (rev, al (gL G) 8 (ge4)), (rod, al (gL G) 8 (go4))] H → va_D A [o_Mod rM wd ht rP rk rG rW rK kd db ew ac dn pr nu de rE rst wr rd rev rod cn rp rb ba sz1 lb rm cu sp nz rbl sl uz, (rG, al (gL G) 256 (a4)), (rev, al (gL G) 8 (ge4)), (rod, al (gL G) 8 (go4))] → va_S A s.heap H locs → ((a4, ge4, go4) = it (fun k y => bmL2 cP cQ kd (db - 1 - k) y) 0 (db - 1 - l1) (a3, ge3, go3)) → W p l e r_Mod_backward s m args below meth c H locs 0 0 Q (F0 m 58 ls [])) (a := db - 1) (fun l1 hil1 hjl1 ihl1 => ?_) _ _ _ a3 ge3 go3 (lv_sub hl [1, 2, 3, 0] rfl) hP hD hS (by rw [Int.sub_self, it_self])
    intro ls H locs a4 ge4 go4 hl hP hD hS hs4
    refine lv_iload_n hx hb d_Mod_backward_58 rfl (lv_at hl 3 rfl) ?_
    refine k_if_lt (tgt := 80) hx hb d_Mod_backward_59 (by decide) (by omega) (fun hc59 => ?_) (fun hc59 => ?_)
    · exact k_vret hx hb hr hlk hQ ((a4, ge4, go4)) (by rw [← hcP, ← hcQ]; unfold bmW; rw [← f2, hs4]; exact it_x _ _ (by omega) (by omega)) hP hD hS d_Mod_backward_80
    · have k1 := lv_r (c := cP) (lv := l1) (by omega)
      have k2 := lv_r (c := cQ) (lv := l1) (by omega)
      have k3 := lv_r (c := cQ) (lv := db) (by omega)
      refine lv_aload_n hx hb d_Mod_backward_62 rfl (lv_at hl 0 rfl) ?_
      refine lv_iload_n hx hb d_Mod_backward_63 rfl (lv_at hl 1 rfl) ?_
      refine lv_iload_n hx hb d_Mod_backward_64 rfl (lv_at hl 3 rfl) ?_
      refine k_ishr hx hb d_Mod_backward_65 (by omega) (by omega) ?_
      refine lv_iload_n hx hb d_Mod_backward_66 rfl (lv_at hl 2 rfl) ?_
      refine lv_iload_n hx hb d_Mod_backward_67 rfl (lv_at hl 3 rfl) ?_
      refine k_ishr hx hb d_Mod_backward_68 (by omega) (by omega) ?_
      refine lv_iconst (v := iv (1)) hx hb d_Mod_backward_69 rfl ?_
      refine lv_iconst (v := iv (1)) hx hb d_Mod_backward_70 rfl ?_
      refine k_cv (wz := fun u : (Int → Int64) × (Int → Int64) × (Int → Int64) => [o_Mod rM wd ht rP rk rG rW rK kd db ew ac dn pr nu de rE rst wr rd rev rod cn rp rb ba sz1 lb rm cu sp nz rbl sl uz, (rG, al (gL G) 256 (u.1)), (rev, al (gL G) 8 (u.2.1)), (rod, al (gL G) 8 (u.2.2))]) (wr := []) (k_rv S (c_Mod_region l G _ rM rP rk rG rW rK rE rst rev rod rp rb rbl (cP / 2 ^ (l1).toNat) (cQ / 2 ^ (l1).toNat) 1 1 wd ht kd db ew ac dn pr nu de wr rd cn ba sz1 lb rm cu sp nz sl uz a4 ge4 go4 (by omega) (by omega) (by omega) (by omega) (by omega)) 4 m4_57 m4_54 m4_56 mp_26 m1_9 (by decide +kernel) (by decide) rfl rfl (k_preV (q0 := 0) hK hP hD hS hA hT rfl rfl [0, 1, 2, 3] (by decide) rfl) rfl hl.1 rfl (Nat.le_of_ble_eq_true rfl) d_Mod_backward_71 ⟨Nat.le_of_ble_eq_true rfl, Nat.le_of_ble_eq_true rfl⟩) hP hD hS hA [0, 1, 2, 3] [] [0, 1, 2, 3] rfl rfl (by decide) (by decide) (by decide) (fun _ => rfl) (fun u71 H locs h71 hP hD hS => ?_)
      obtain ⟨a71, ge71, go71⟩ := u71
      have hP : va_P (gD G) classes [o_Mod rM wd ht rP rk rG rW rK kd db ew ac dn pr nu de rE rst wr rd rev rod cn rp rb ba sz1 lb rm cu sp nz rbl sl uz, (rG, al (gL G) 256 (a71)), (rev, al (gL G) 8 (ge71)), (rod, al (gL G) 8 (go71))] H := hP
      have hD : va_D A [o_Mod rM wd ht rP rk rG rW rK kd db ew ac dn pr nu de rE rst wr rd rev rod cn rp rb ba sz1 lb rm cu sp nz rbl sl uz, (rG, al (gL G) 256 (a71)), (rev, al (gL G) 8 (ge71)), (rod, al (gL G) 8 (go71))] := hD
      try dsimp only at h71
      refine lv_iinc (k := 3) (v := iv (l1 + (-1))) hx hb d_Mod_backward_74 hl rfl (iv_add _ _) (by decide) rfl (fun ls hl => ?_)
      have hl : lv_has ls 4 [(3, .int (iv (l1 + (-1)))), (0, .ref rM), (1, .int (iv (cP))), (2, .int (iv (cQ)))] := hl
      refine lv_goto (tgt := 58) hx hb d_Mod_backward_77 (by decide) ?_
      exact ihl1 (by omega) _ _ _ a71 ge71 go71 (lv_sub hl [1, 2, 3, 0] rfl) hP hD hS (by rw [show db - 1 - (l1 + (-1)) = (db - 1 - l1) + 1 by omega, it_s _ _ (by omega), ← hs4, show db - 1 - (db - 1 - l1) = l1 by omega]; exact h71)
  · have k1 := lv_r (c := cP) (lv := l1) (by omega)
    have k2 := lv_r (c := cQ) (lv := l1) (by omega)
    have k3 := lv_r (c := cQ) (lv := db) (by omega)
    refine lv_aload_n hx hb d_Mod_backward_30 rfl (lv_at hl 0 rfl) ?_
    refine lv_iload_n hx hb d_Mod_backward_31 rfl (lv_at hl 1 rfl) ?_
    refine lv_iload_n hx hb d_Mod_backward_32 rfl (lv_at hl 3 rfl) ?_
    refine k_ishr hx hb d_Mod_backward_33 (by omega) (by omega) ?_
    refine lv_iload_n hx hb d_Mod_backward_34 rfl (lv_at hl 2 rfl) ?_
    refine lv_aload_n hx hb d_Mod_backward_35 rfl (lv_at hl 0 rfl) ?_
    refine va_get (D := gD G) (ci := 7) (v := .int (iv (db))) (C := R_Mod) (T := F_Mod) (N := 34) hx hb hw in_Mod hown hK hP 0 rfl rfl 8 (by decide) (hw _ m3_132) (fun _ h => h) rfl d_Mod_backward_36 ?_
    refine k_ishr hx hb d_Mod_backward_39 (by omega) (by omega) ?_
    refine lv_iconst (v := iv (0)) hx hb d_Mod_backward_40 rfl ?_
    refine lv_iconst (v := iv (1)) hx hb d_Mod_backward_41 rfl ?_
    refine k_cv (wz := fun u : (Int → Int64) × (Int → Int64) × (Int → Int64) => [o_Mod rM wd ht rP rk rG rW rK kd db ew ac dn pr nu de rE rst wr rd rev rod cn rp rb ba sz1 lb rm cu sp nz rbl sl uz, (rG, al (gL G) 256 (u.1)), (rev, al (gL G) 8 (u.2.1)), (rod, al (gL G) 8 (u.2.2))]) (wr := []) (k_rv S (c_Mod_region l G _ rM rP rk rG rW rK rE rst rev rod rp rb rbl (cP / 2 ^ (l1).toNat) (cQ / 2 ^ (db).toNat) 0 1 wd ht kd db ew ac dn pr nu de wr rd cn ba sz1 lb rm cu sp nz sl uz a3 ge3 go3 (by omega) (by omega) (by omega) (by omega) (by omega)) 4 m4_57 m4_54 m4_56 mp_26 m1_9 (by decide +kernel) (by decide) rfl rfl (k_preV (q0 := 0) hK hP hD hS hA hT rfl rfl [0, 1, 2, 3] (by decide) rfl) rfl hl.1 rfl (Nat.le_of_ble_eq_true rfl) d_Mod_backward_42 ⟨Nat.le_of_ble_eq_true rfl, Nat.le_of_ble_eq_true rfl⟩) hP hD hS hA [0, 1, 2, 3] [] [0, 1, 2, 3] rfl rfl (by decide) (by decide) (by decide) (fun _ => rfl) (fun u42 H locs h42 hP hD hS => ?_)
    obtain ⟨a42, ge42, go42⟩ := u42
    have hP : va_P (gD G) classes [o_Mod rM wd ht rP rk rG rW rK kd db ew ac dn pr nu de rE rst wr rd rev rod cn rp rb ba sz1 lb rm cu sp nz rbl sl uz, (rG, al (gL G) 256 (a42)), (rev, al (gL G) 8 (ge42)), (rod, al (gL G) 8 (go42))] H := hP
    have hD : va_D A [o_Mod rM wd ht rP rk rG rW rK kd db ew ac dn pr nu de rE rst wr rd rev rod cn rp rb ba sz1 lb rm cu sp nz rbl sl uz, (rG, al (gL G) 256 (a42)), (rev, al (gL G) 8 (ge42)), (rod, al (gL G) 8 (go42))] := hD
    try dsimp only at h42
    refine lv_iinc (k := 3) (v := iv (l1 + (-1))) hx hb d_Mod_backward_45 hl rfl (iv_add _ _) (by decide) rfl (fun ls hl => ?_)
    have hl : lv_has ls 4 [(3, .int (iv (l1 + (-1)))), (0, .ref rM), (1, .int (iv (cP))), (2, .int (iv (cQ)))] := hl
    refine lv_goto (tgt := 22) hx hb d_Mod_backward_48 (by decide) ?_
    exact ihl1 (by omega) _ _ _ a42 ge42 go42 (lv_sub hl [1, 2, 3, 0] rfl) hP hD hS (by rw [show db + ew - 1 - (l1 + (-1)) = (db + ew - 1 - l1) + 1 by omega, it_s _ _ (by omega), ← hs3, show db + ew - 1 - (db + ew - 1 - l1) = l1 by omega]; exact h42)
abbrev w_Mod_coefficient : List Cond := Cond.code y_Mod_coefficient prog_9_method_25_code 3 (some .long) :: wl
abbrev r_Mod_coefficient : Room := { frames := 6, cells := 0, slots := 0, locals := 167 }
set_option maxHeartbeats 4000000 in
set_option maxRecDepth 100000 in
theorem c_Mod_coefficient (l : Launch) (G : k_G) (sz : Nat) (rM rP rk rG rW rK rE rst rev rod rp rb rbl : Nat) (x0 y0 wd ht kd db ew ac dn pr nu de wr rd cn ba sz1 lb rm cu sp nz sl uz : Int) (pic : Int → Int) (gg ge go : Int → Int64) (h_x0 : -2147483648 ≤ x0 ∧ x0 < 2147483648) (h_y0 : -2147483648 ≤ y0 ∧ y0 < 2147483648) (hwd : 1 ≤ wd ∧ wd ≤ 16) (hht : 1 ≤ ht ∧ ht ≤ 16) (hde : 0 ≤ db ∧ db ≤ 2 ∧ 0 ≤ ew ∧ ew ≤ 2 ∧ db + ew ≤ 3) (hkd : 0 ≤ kd ∧ kd ≤ 6) (hpic : ∀ j, -128 ≤ pic j ∧ pic j ≤ 127) : Met l y_Mod_coefficient w_Mod_coefficient r_Mod_coefficient (k_P G [.ref rM, .int (iv (x0)), .int (iv (y0))] [o_Mod rM wd ht rP rk rG rW rK kd db ew ac dn pr nu de rE rst wr rd rev rod cn rp rb ba sz1 lb rm cu sp nz rbl sl uz, (rG, al (gL G) 256 (gg)), (rev, al (gL G) 8 (ge)), (rod, al (gL G) 8 (go)), (rP, ai (gI G) 256 (pic))] sz) (ql G (fun (r : Int64) (u : Int64 × (Int → Int64) × (Int → Int64) × (Int → Int64)) => r = u.1 ∧ (u.1 = if (0 ≤ x0 ∧ x0 ≤ lmI wd (2 ^ (db + ew).toNat) - 1) ∧ 0 ≤ y0 ∧ y0 ≤ lmI ht (2 ^ db.toNat) - 1 then (fmW (lmI wd (2 ^ (db + ew).toNat)) (lmI ht (2 ^ db.toNat)) db ew kd (fmA wd ht (lmI wd (2 ^ (db + ew).toNat)) (lmI ht (2 ^ db.toNat)) pic gg, ge, go)).1 (16 * y0 + x0) else 0)) (fun u : Int64 × (Int → Int64) × (Int → Int64) × (Int → Int64) => [o_Mod rM wd ht rP rk rG rW rK kd db ew ac dn pr nu de rE rst wr rd rev rod cn rp rb ba sz1 lb rm cu sp nz rbl sl uz, (rG, al (gL G) 256 (u.2.1)), (rev, al (gL G) 8 (u.2.2.1)), (rod, al (gL G) 8 (u.2.2.2)), (rP, ai (gI G) 256 (pic))]) (va_A [o_Mod rM wd ht rP rk rG rW rK kd db ew ac dn pr nu de rE rst wr rd rev rod cn rp rb ba sz1 lb rm cu sp nz rbl sl uz, (rG, al (gL G) 256 (gg)), (rev, al (gL G) 8 (ge)), (rod, al (gL G) 8 (go)), (rP, ai (gI G) 256 (pic))] sz)) 0 0 (va_A [o_Mod rM wd ht rP rk rG rW rK kd db ew ac dn pr nu de rE rst wr rd rev rod cn rp rb ba sz1 lb rm cu sp nz rbl sl uz, (rG, al (gL G) 256 (gg)), (rev, al (gL G) 8 (ge)), (rod, al (gL G) 8 (go)), (rP, ai (gI G) 256 (pic))] sz) := by
  refine k_met (fun A => ql G (fun (r : Int64) (u : Int64 × (Int → Int64) × (Int → Int64) × (Int → Int64)) => r = u.1 ∧ (u.1 = if (0 ≤ x0 ∧ x0 ≤ lmI wd (2 ^ (db + ew).toNat) - 1) ∧ 0 ≤ y0 ∧ y0 ≤ lmI ht (2 ^ db.toNat) - 1 then (fmW (lmI wd (2 ^ (db + ew).toNat)) (lmI ht (2 ^ db.toNat)) db ew kd (fmA wd ht (lmI wd (2 ^ (db + ew).toNat)) (lmI ht (2 ^ db.toNat)) pic gg, ge, go)).1 (16 * y0 + x0) else 0)) (fun u : Int64 × (Int → Int64) × (Int → Int64) × (Int → Int64) => [o_Mod rM wd ht rP rk rG rW rK kd db ew ac dn pr nu de rE rst wr rd rev rod cn rp rb ba sz1 lb rm cu sp nz rbl sl uz, (rG, al (gL G) 256 (u.2.1)), (rev, al (gL G) 8 (u.2.2.1)), (rod, al (gL G) 8 (u.2.2.2)), (rP, ai (gI G) 256 (pic))]) A) (fun A => A) (by decide) rfl (Nat.le_of_ble_eq_true rfl) (fun p e s m args below meth c ls A Q S hr hlk hnm hl hsz hP hK hD hS hA hT hQ => ?_)
  obtain ⟨hx, hb, hml, hown, hts⟩ := id S
  have hw : ∀ w ∈ wl, w.before args s = true := fun w h => hts w (List.mem_cons_of_mem _ h)
  have hl : lv_has ls 3 [(0, .ref rM), (1, .int (iv (x0))), (2, .int (iv (y0)))] := hl
  have e1 := lmI_r hwd (p2_c (k := db + ew) (by omega))
  have e2 := lmI_r hht (p2_c (k := db) (by omega))
  refine lv_aload_n hx hb d_Mod_coefficient_0 rfl (lv_at hl 0 rfl) ?_
  refine lv_iload_n hx hb d_Mod_coefficient_1 rfl (lv_at hl 1 rfl) ?_
  refine lv_iload_n hx hb d_Mod_coefficient_2 rfl (lv_at hl 2 rfl) ?_
  refine k_ciR (k_rv S (c_Mod_isCoefficient l G _ rM rP rk rG rW rK rE rst rev rod rp rb rbl x0 y0 wd ht kd db ew ac dn pr nu de wr rd cn ba sz1 lb rm cu sp nz sl uz (by omega) (by omega) (by omega) (by omega) (by omega)) 2 m4_41 m4_38 m4_40 mp_22 m1_9 (by decide +kernel) (by decide) rfl rfl (k_preV (q0 := 0) hK hP hD hS hA hT rfl rfl [0] (by decide) rfl) rfl hl.1 rfl (Nat.le_of_ble_eq_true rfl) d_Mod_coefficient_3 ⟨Nat.le_of_ble_eq_true rfl, Nat.le_of_ble_eq_true rfl⟩) (fun r3 h3 => ?_)
  subst h3
  refine k_ifb_ne (tgt := 11) hx hb d_Mod_coefficient_6 (by decide) (fun hc6 => ?_) (fun hc6 => ?_)
  · refine lv_aload_n hx hb d_Mod_coefficient_11 rfl (lv_at hl 0 rfl) ?_
    refine k_cv (wz := fun u : (Int → Int64) × (Int → Int64) × (Int → Int64) => [o_Mod rM wd ht rP rk rG rW rK kd db ew ac dn pr nu de rE rst wr rd rev rod cn rp rb ba sz1 lb rm cu sp nz rbl sl uz, (rG, al (gL G) 256 (u.1)), (rev, al (gL G) 8 (u.2.1)), (rod, al (gL G) 8 (u.2.2)), (rP, ai (gI G) 256 (pic))]) (wr := []) (k_rv S (c_Mod_forward l G _ rM rP rk rG rW rK rE rst rev rod rp rb rbl wd ht kd db ew ac dn pr nu de wr rd cn ba sz1 lb rm cu sp nz sl uz pic gg ge go (by assumption) (by assumption) (by assumption) (by assumption) (by assumption)) 0 m4_53 m4_50 m4_52 mp_25 m1_9 (by decide +kernel) (by decide) rfl rfl (k_preV (q0 := 0) hK hP hD hS hA hT rfl rfl [0, 1, 2, 3, 4] (by decide) rfl) rfl hl.1 rfl (Nat.le_of_ble_eq_true rfl) d_Mod_coefficient_12 ⟨Nat.le_of_ble_eq_true rfl, Nat.le_of_ble_eq_true rfl⟩) hP hD hS hA [0, 1, 2, 3, 4] [] [0, 1, 2, 3, 4] rfl rfl (by decide) (by decide) (by decide) (fun _ => rfl) (fun u12 H locs h12 hP hD hS => ?_)
    obtain ⟨a12, ge12, go12⟩ := u12
    have hP : va_P (gD G) classes [o_Mod rM wd ht rP rk rG rW rK kd db ew ac dn pr nu de rE rst wr rd rev rod cn rp rb ba sz1 lb rm cu sp nz rbl sl uz, (rG, al (gL G) 256 (a12)), (rev, al (gL G) 8 (ge12)), (rod, al (gL G) 8 (go12)), (rP, ai (gI G) 256 (pic))] H := hP
    have hD : va_D A [o_Mod rM wd ht rP rk rG rW rK kd db ew ac dn pr nu de rE rst wr rd rev rod cn rp rb ba sz1 lb rm cu sp nz rbl sl uz, (rG, al (gL G) 256 (a12)), (rev, al (gL G) 8 (ge12)), (rod, al (gL G) 8 (go12)), (rP, ai (gI G) 256 (pic))] := hD
    try dsimp only at h12
    refine lv_aload_n hx hb d_Mod_coefficient_15 rfl (lv_at hl 0 rfl) ?_
    refine va_get (D := gD G) (ci := 7) (v := .ref rG) (C := R_Mod) (T := F_Mod) (N := 34) hx hb hw in_Mod hown hK hP 0 rfl rfl 4 (by decide) (hw _ m3_128) (fun _ h => h) rfl d_Mod_coefficient_16 ?_
    refine lv_bipush (v := iv (16)) hx hb d_Mod_coefficient_19 rfl ?_
    refine lv_iload_n hx hb d_Mod_coefficient_21 rfl (lv_at hl 2 rfl) ?_
    refine k_imul hx hb d_Mod_coefficient_22 ?_
    refine lv_iload_n hx hb d_Mod_coefficient_23 rfl (lv_at hl 1 rfl) ?_
    refine k_iadd hx hb d_Mod_coefficient_24 ?_
    refine k_lal hx hb hK hP 1 1 rfl rfl (by decide) (by omega) d_Mod_coefficient_25 ?_
    exact k_lret hx hb hr hlk hQ ((a12 ((16 * y0) + x0), a12, ge12, go12)) (⟨rfl, by rw [if_pos (by omega), show fmW (lmI wd (2 ^ (db + ew).toNat)) (lmI ht (2 ^ db.toNat)) db ew kd (fmA wd ht (lmI wd (2 ^ (db + ew).toNat)) (lmI ht (2 ^ db.toNat)) pic gg, ge, go) = (a12, ge12, go12) from h12.symm]⟩) hP hD hS d_Mod_coefficient_26
  · refine lv_lconst (v := 0) hx hb d_Mod_coefficient_9 rfl ?_
    exact k_lret hx hb hr hlk hQ (((0 : Int64), gg, ge, go)) (⟨rfl, by rw [if_neg (by omega)]⟩) hP hD hS d_Mod_coefficient_10
abbrev w_Mod_halvings : List Cond := Cond.code y_Mod_halvings prog_9_method_26_code 3 (some .int) :: wl
abbrev r_Mod_halvings : Room := { frames := 0, cells := 0, slots := 0, locals := 0 }
set_option maxHeartbeats 4000000 in
set_option maxRecDepth 100000 in
theorem c_Mod_halvings (l : Launch) (G : k_G) (sz : Nat) (rM rP rk rG rW rK rE rst rev rod rp rb rbl : Nat) (b0 to wd ht kd db ew ac dn pr nu de wr rd cn ba sz1 lb rm cu sp nz sl uz : Int) (hde : 0 ≤ db ∧ db ≤ 2 ∧ 0 ≤ ew ∧ ew ≤ 2 ∧ db + ew ≤ 3) (hb0 : 0 ≤ b0 ∧ b0 < nBd db ew) (hto : to = 0 ∨ to = 1) : Met l y_Mod_halvings w_Mod_halvings r_Mod_halvings (k_P G [.ref rM, .int (iv (b0)), .int (iv (to))] [o_Mod rM wd ht rP rk rG rW rK kd db ew ac dn pr nu de rE rst wr rd rev rod cn rp rb ba sz1 lb rm cu sp nz rbl sl uz] sz) (vp_Si (fun r : Int32 => r = iv (if to = 0 then hvH db ew b0 else hvW db ew b0))) 0 0 (fun _ => False) := by
  refine k_met (fun _ => vp_Si (fun r : Int32 => r = iv (if to = 0 then hvH db ew b0 else hvW db ew b0))) (fun _ _ => False) (by decide) rfl (Nat.le_of_ble_eq_true rfl) (fun p e s m args below meth c ls A Q S hr hlk hnm hl hsz hP hK hD hS hA hT hQ => ?_)
  obtain ⟨hx, hb, hml, hown, hts⟩ := id S
  have hw : ∀ w ∈ wl, w.before args s = true := fun w h => hts w (List.mem_cons_of_mem _ h)
  have hl : lv_has ls 3 [(0, .ref rM), (1, .int (iv (b0))), (2, .int (iv (to)))] := hl
  have n1 : nBd db ew = 1 + ew + 3 * db := rfl
  refine lv_iload_n hx hb d_Mod_halvings_0 rfl (lv_at hl 1 rfl) ?_
  refine k_if_ne (tgt := 25) hx hb d_Mod_halvings_1 (by decide) (by omega) (fun hc1 => ?_) (fun hc1 => ?_)
  · refine lv_iload_n hx hb d_Mod_halvings_25 rfl (lv_at hl 1 rfl) ?_
    refine lv_aload_n hx hb d_Mod_halvings_26 rfl (lv_at hl 0 rfl) ?_
    refine va_get (D := gD G) (ci := 7) (v := .int (iv (ew))) (C := R_Mod) (T := F_Mod) (N := 34) hx hb hw in_Mod hown hK hP 0 rfl rfl 9 (by decide) (hw _ m3_133) (fun _ h => h) rfl d_Mod_halvings_27 ?_
    refine k_icmp_gt (tgt := 58) hx hb d_Mod_halvings_30 (by decide) (by omega) (by omega) (fun hc30 => ?_) (fun hc30 => ?_)
    · refine lv_aload_n hx hb d_Mod_halvings_58 rfl (lv_at hl 0 rfl) ?_
      refine va_get (D := gD G) (ci := 7) (v := .int (iv (db))) (C := R_Mod) (T := F_Mod) (N := 34) hx hb hw in_Mod hown hK hP 0 rfl rfl 8 (by decide) (hw _ m3_132) (fun _ h => h) rfl d_Mod_halvings_59 ?_
      refine lv_iload_n hx hb d_Mod_halvings_62 rfl (lv_at hl 1 rfl) ?_
      refine lv_aload_n hx hb d_Mod_halvings_63 rfl (lv_at hl 0 rfl) ?_
      refine va_get (D := gD G) (ci := 7) (v := .int (iv (ew))) (C := R_Mod) (T := F_Mod) (N := 34) hx hb hw in_Mod hown hK hP 0 rfl rfl 9 (by decide) (hw _ m3_133) (fun _ h => h) rfl d_Mod_halvings_64 ?_
      refine k_isub hx hb d_Mod_halvings_67 ?_
      refine lv_iconst (v := iv (1)) hx hb d_Mod_halvings_68 rfl ?_
      refine k_isub hx hb d_Mod_halvings_69 ?_
      refine lv_iconst (v := iv (3)) hx hb d_Mod_halvings_70 rfl ?_
      refine k_idiv hx hb d_Mod_halvings_71 (by omega) (by omega) ?_
      refine k_isub hx hb d_Mod_halvings_72 ?_
      exact k_iretR hx hb hr hlk hQ (by unfold hvH hvW; congr 1; (repeat' split) <;> omega) d_Mod_halvings_73
    · refine lv_iload_n hx hb d_Mod_halvings_33 rfl (lv_at hl 2 rfl) ?_
      refine k_if_eq (tgt := 53) hx hb d_Mod_halvings_34 (by decide) (by omega) (fun hc34 => ?_) (fun hc34 => ?_)
      · refine lv_aload_n hx hb d_Mod_halvings_53 rfl (lv_at hl 0 rfl) ?_
        refine va_get (D := gD G) (ci := 7) (v := .int (iv (db))) (C := R_Mod) (T := F_Mod) (N := 34) hx hb hw in_Mod hown hK hP 0 rfl rfl 8 (by decide) (hw _ m3_132) (fun _ h => h) rfl d_Mod_halvings_54 ?_
        exact k_iretR hx hb hr hlk hQ (by unfold hvH hvW; congr 1; (repeat' split) <;> omega) d_Mod_halvings_57
      · refine lv_aload_n hx hb d_Mod_halvings_37 rfl (lv_at hl 0 rfl) ?_
        refine va_get (D := gD G) (ci := 7) (v := .int (iv (db))) (C := R_Mod) (T := F_Mod) (N := 34) hx hb hw in_Mod hown hK hP 0 rfl rfl 8 (by decide) (hw _ m3_132) (fun _ h => h) rfl d_Mod_halvings_38 ?_
        refine lv_aload_n hx hb d_Mod_halvings_41 rfl (lv_at hl 0 rfl) ?_
        refine va_get (D := gD G) (ci := 7) (v := .int (iv (ew))) (C := R_Mod) (T := F_Mod) (N := 34) hx hb hw in_Mod hown hK hP 0 rfl rfl 9 (by decide) (hw _ m3_133) (fun _ h => h) rfl d_Mod_halvings_42 ?_
        refine k_iadd hx hb d_Mod_halvings_45 ?_
        refine lv_iload_n hx hb d_Mod_halvings_46 rfl (lv_at hl 1 rfl) ?_
        refine k_isub hx hb d_Mod_halvings_47 ?_
        refine lv_iconst (v := iv (1)) hx hb d_Mod_halvings_48 rfl ?_
        refine k_iadd hx hb d_Mod_halvings_49 ?_
        refine lv_goto (tgt := 57) hx hb d_Mod_halvings_50 (by decide) ?_
        exact k_iretR hx hb hr hlk hQ (by unfold hvH hvW; congr 1; (repeat' split) <;> omega) d_Mod_halvings_57
  · refine lv_iload_n hx hb d_Mod_halvings_4 rfl (lv_at hl 2 rfl) ?_
    refine k_if_eq (tgt := 20) hx hb d_Mod_halvings_5 (by decide) (by omega) (fun hc5 => ?_) (fun hc5 => ?_)
    · refine lv_aload_n hx hb d_Mod_halvings_20 rfl (lv_at hl 0 rfl) ?_
      refine va_get (D := gD G) (ci := 7) (v := .int (iv (db))) (C := R_Mod) (T := F_Mod) (N := 34) hx hb hw in_Mod hown hK hP 0 rfl rfl 8 (by decide) (hw _ m3_132) (fun _ h => h) rfl d_Mod_halvings_21 ?_
      exact k_iretR hx hb hr hlk hQ (by unfold hvH hvW; congr 1; (repeat' split) <;> omega) d_Mod_halvings_24
    · refine lv_aload_n hx hb d_Mod_halvings_8 rfl (lv_at hl 0 rfl) ?_
      refine va_get (D := gD G) (ci := 7) (v := .int (iv (db))) (C := R_Mod) (T := F_Mod) (N := 34) hx hb hw in_Mod hown hK hP 0 rfl rfl 8 (by decide) (hw _ m3_132) (fun _ h => h) rfl d_Mod_halvings_9 ?_
      refine lv_aload_n hx hb d_Mod_halvings_12 rfl (lv_at hl 0 rfl) ?_
      refine va_get (D := gD G) (ci := 7) (v := .int (iv (ew))) (C := R_Mod) (T := F_Mod) (N := 34) hx hb hw in_Mod hown hK hP 0 rfl rfl 9 (by decide) (hw _ m3_133) (fun _ h => h) rfl d_Mod_halvings_13 ?_
      refine k_iadd hx hb d_Mod_halvings_16 ?_
      refine lv_goto (tgt := 24) hx hb d_Mod_halvings_17 (by decide) ?_
      exact k_iretR hx hb hr hlk hQ (by unfold hvH hvW; congr 1; (repeat' split) <;> omega) d_Mod_halvings_24
abbrev w_Mod_left : List Cond := Cond.code y_Mod_left prog_9_method_27_code 4 (some .int) :: wl
abbrev r_Mod_left : Room := { frames := 1, cells := 0, slots := 0, locals := 22 }
set_option maxHeartbeats 4000000 in
set_option maxRecDepth 100000 in
theorem c_Mod_left (l : Launch) (G : k_G) (sz : Nat) (rM rP rk rG rW rK rE rst rev rod rp rb rbl : Nat) (b0 wd ht kd db ew ac dn pr nu de wr rd cn ba sz1 lb rm cu sp nz sl uz : Int) (hwd : 1 ≤ wd ∧ wd ≤ 16) (hht : 1 ≤ ht ∧ ht ≤ 16) (hde : 0 ≤ db ∧ db ≤ 2 ∧ 0 ≤ ew ∧ ew ≤ 2 ∧ db + ew ≤ 3) (hb0 : 0 ≤ b0 ∧ b0 < nBd db ew) : Met l y_Mod_left w_Mod_left r_Mod_left (k_P G [.ref rM, .int (iv (b0))] [o_Mod rM wd ht rP rk rG rW rK kd db ew ac dn pr nu de rE rst wr rd rev rod cn rp rb ba sz1 lb rm cu sp nz rbl sl uz] sz) (vp_Si (fun r : Int32 => r = iv (bLf (lmI wd (2 ^ (db + ew).toNat)) db ew b0))) 0 0 (fun _ => False) := by
  refine k_met (fun _ => vp_Si (fun r : Int32 => r = iv (bLf (lmI wd (2 ^ (db + ew).toNat)) db ew b0))) (fun _ _ => False) (by decide) rfl (Nat.le_of_ble_eq_true rfl) (fun p e s m args below meth c ls A Q S hr hlk hnm hl hsz hP hK hD hS hA hT hQ => ?_)
  obtain ⟨hx, hb, hml, hown, hts⟩ := id S
  have hw : ∀ w ∈ wl, w.before args s = true := fun w h => hts w (List.mem_cons_of_mem _ h)
  have hl : lv_has ls 4 [(0, .ref rM), (1, .int (iv (b0)))] := hl
  have n1 : nBd db ew = 1 + ew + 3 * db := rfl
  have n2 := hv_r hde hb0
  have e1 := lmI_r hwd (p2_c (k := db + ew) (by omega))
  have e2 := lmI_r hht (p2_c (k := db) (by omega))
  refine lv_aload_n hx hb d_Mod_left_0 rfl (lv_at hl 0 rfl) ?_
  refine k_ciR (k_rv S (c_Mod_columns l G _ rM rP rk rG rW rK rE rst rev rod rp rb rbl wd ht kd db ew ac dn pr nu de wr rd cn ba sz1 lb rm cu sp nz sl uz (by omega) (by omega) (by omega)) 0 m4_45 m4_42 m4_44 mp_23 m1_9 (by decide +kernel) (by decide) rfl rfl (k_preV (q0 := 0) hK hP hD hS hA hT rfl rfl [0] (by decide) rfl) rfl hl.1 rfl (Nat.le_of_ble_eq_true rfl) d_Mod_left_1 ⟨Nat.le_of_ble_eq_true rfl, Nat.le_of_ble_eq_true rfl⟩) (fun r1 h1 => ?_)
  subst h1
  refine lv_aload_n hx hb d_Mod_left_4 rfl (lv_at hl 0 rfl) ?_
  refine lv_iload_n hx hb d_Mod_left_5 rfl (lv_at hl 1 rfl) ?_
  refine lv_iconst (v := iv (1)) hx hb d_Mod_left_6 rfl ?_
  refine k_ciR (k_rv S (c_Mod_halvings l G _ rM rP rk rG rW rK rE rst rev rod rp rb rbl b0 1 wd ht kd db ew ac dn pr nu de wr rd cn ba sz1 lb rm cu sp nz sl uz (by omega) (by omega) (by omega)) 2 m4_117 m4_114 m4_116 mp_36 m1_9 (by decide +kernel) (by decide) rfl rfl (k_preV (q0 := 0) hK hP hD hS hA hT rfl rfl [0] (by decide) rfl) rfl hl.1 rfl (Nat.le_of_ble_eq_true rfl) d_Mod_left_7 ⟨Nat.le_of_ble_eq_true rfl, Nat.le_of_ble_eq_true rfl⟩) (fun r7 h7 => ?_)
  subst h7
  refine k_eqi (b := hvW db ew b0) (by rw [if_neg (by decide)]) ?_
  refine k_ishr hx hb d_Mod_left_10 (by omega) (by omega) ?_
  refine lv_istore_n hx hb d_Mod_left_11 rfl hl (by decide) rfl (fun ls hl => ?_)
  have hl : lv_has ls 4 [(2, .int (iv ((lmI wd (2 ^ (db + ew).toNat)) / 2 ^ (hvW db ew b0).toNat))), (0, .ref rM), (1, .int (iv (b0)))] := hl
  refine lv_iload_n hx hb d_Mod_left_12 rfl (lv_at hl 2 rfl) ?_
  refine k_if_le (tgt := 42) hx hb d_Mod_left_13 (by decide) (by omega) (fun hc13 => ?_) (fun hc13 => ?_)
  · refine lv_iconst (v := iv (0)) hx hb d_Mod_left_42 rfl ?_
    refine lv_istore_n hx hb d_Mod_left_43 rfl hl (by decide) rfl (fun ls hl => ?_)
    have hl : lv_has ls 4 [(3, .int (iv (0))), (2, .int (iv ((lmI wd (2 ^ (db + ew).toNat)) / 2 ^ (hvW db ew b0).toNat))), (0, .ref rM), (1, .int (iv (b0)))] := hl
    refine lv_iload_n hx hb d_Mod_left_44 rfl (lv_at hl 0 rfl) ?_
    refine k_if_eq (tgt := 52) hx hb d_Mod_left_45 (by decide) (by omega) (fun hc45 => ?_) (fun hc45 => absurd hc45 (by omega))
    refine lv_iconst (v := iv (0)) hx hb d_Mod_left_52 rfl ?_
    exact k_iretR hx hb hr hlk hQ (by unfold bLf; first | (rw [if_pos (by omega)]; rfl) | rw [if_neg (by omega)]) d_Mod_left_53
  · refine lv_iload_n hx hb d_Mod_left_16 rfl (lv_at hl 2 rfl) ?_
    refine lv_aload_n hx hb d_Mod_left_17 rfl (lv_at hl 1 rfl) ?_
    refine va_get (D := gD G) (ci := 7) (v := .int (iv (ew))) (C := R_Mod) (T := F_Mod) (N := 34) hx hb hw in_Mod hown hK hP 0 rfl rfl 9 (by decide) (hw _ m3_133) (fun _ h => h) rfl d_Mod_left_18 ?_
    refine k_icmp_le (tgt := 38) hx hb d_Mod_left_21 (by decide) (by omega) (by omega) (fun hc21 => ?_) (fun hc21 => ?_)
    · refine lv_iconst (v := iv (1)) hx hb d_Mod_left_38 rfl ?_
      refine lv_goto (tgt := 43) hx hb d_Mod_left_39 (by decide) ?_
      refine lv_istore_n hx hb d_Mod_left_43 rfl hl (by decide) rfl (fun ls hl => ?_)
      have hl : lv_has ls 4 [(3, .int (iv (1))), (2, .int (iv ((lmI wd (2 ^ (db + ew).toNat)) / 2 ^ (hvW db ew b0).toNat))), (0, .ref rM), (1, .int (iv (b0)))] := hl
      refine lv_iload_n hx hb d_Mod_left_44 rfl (lv_at hl 0 rfl) ?_
      refine k_if_eq (tgt := 52) hx hb d_Mod_left_45 (by decide) (by omega) (fun hc45 => absurd hc45 (by omega)) (fun hc45 => ?_)
      refine lv_iload_n hx hb d_Mod_left_48 rfl (lv_at hl 1 rfl) ?_
      refine lv_goto (tgt := 53) hx hb d_Mod_left_49 (by decide) ?_
      exact k_iretR hx hb hr hlk hQ (by unfold bLf; first | (rw [if_pos (by omega)]; rfl) | rw [if_neg (by omega)]) d_Mod_left_53
    · refine lv_iload_n hx hb d_Mod_left_24 rfl (lv_at hl 2 rfl) ?_
      refine lv_aload_n hx hb d_Mod_left_25 rfl (lv_at hl 1 rfl) ?_
      refine va_get (D := gD G) (ci := 7) (v := .int (iv (ew))) (C := R_Mod) (T := F_Mod) (N := 34) hx hb hw in_Mod hown hK hP 0 rfl rfl 9 (by decide) (hw _ m3_133) (fun _ h => h) rfl d_Mod_left_26 ?_
      refine k_isub hx hb d_Mod_left_29 ?_
      refine lv_iconst (v := iv (1)) hx hb d_Mod_left_30 rfl ?_
      refine k_isub hx hb d_Mod_left_31 ?_
      refine lv_iconst (v := iv (3)) hx hb d_Mod_left_32 rfl ?_
      refine k_irem hx hb d_Mod_left_33 (by omega) (by omega) ?_
      refine lv_iconst (v := iv (1)) hx hb d_Mod_left_34 rfl ?_
      refine k_icmp_eq (tgt := 42) hx hb d_Mod_left_35 (by decide) (by omega) (by omega) (fun hc35 => ?_) (fun hc35 => ?_)
      · refine lv_iconst (v := iv (0)) hx hb d_Mod_left_42 rfl ?_
        refine lv_istore_n hx hb d_Mod_left_43 rfl hl (by decide) rfl (fun ls hl => ?_)
        have hl : lv_has ls 4 [(3, .int (iv (0))), (2, .int (iv ((lmI wd (2 ^ (db + ew).toNat)) / 2 ^ (hvW db ew b0).toNat))), (0, .ref rM), (1, .int (iv (b0)))] := hl
        refine lv_iload_n hx hb d_Mod_left_44 rfl (lv_at hl 0 rfl) ?_
        refine k_if_eq (tgt := 52) hx hb d_Mod_left_45 (by decide) (by omega) (fun hc45 => ?_) (fun hc45 => absurd hc45 (by omega))
        refine lv_iconst (v := iv (0)) hx hb d_Mod_left_52 rfl ?_
        exact k_iretR hx hb hr hlk hQ (by unfold bLf; first | (rw [if_pos (by omega)]; rfl) | rw [if_neg (by omega)]) d_Mod_left_53
      · refine lv_iconst (v := iv (1)) hx hb d_Mod_left_38 rfl ?_
        refine lv_goto (tgt := 43) hx hb d_Mod_left_39 (by decide) ?_
        refine lv_istore_n hx hb d_Mod_left_43 rfl hl (by decide) rfl (fun ls hl => ?_)
        have hl : lv_has ls 4 [(3, .int (iv (1))), (2, .int (iv ((lmI wd (2 ^ (db + ew).toNat)) / 2 ^ (hvW db ew b0).toNat))), (0, .ref rM), (1, .int (iv (b0)))] := hl
        refine lv_iload_n hx hb d_Mod_left_44 rfl (lv_at hl 0 rfl) ?_
        refine k_if_eq (tgt := 52) hx hb d_Mod_left_45 (by decide) (by omega) (fun hc45 => absurd hc45 (by omega)) (fun hc45 => ?_)
        refine lv_iload_n hx hb d_Mod_left_48 rfl (lv_at hl 1 rfl) ?_
        refine lv_goto (tgt := 53) hx hb d_Mod_left_49 (by decide) ?_
        exact k_iretR hx hb hr hlk hQ (by unfold bLf; first | (rw [if_pos (by omega)]; rfl) | rw [if_neg (by omega)]) d_Mod_left_53
abbrev w_Mod_top : List Cond := Cond.code y_Mod_top prog_9_method_28_code 3 (some .int) :: wl
abbrev r_Mod_top : Room := { frames := 1, cells := 0, slots := 0, locals := 22 }
set_option maxHeartbeats 4000000 in
set_option maxRecDepth 100000 in
theorem c_Mod_top (l : Launch) (G : k_G) (sz : Nat) (rM rP rk rG rW rK rE rst rev rod rp rb rbl : Nat) (b0 wd ht kd db ew ac dn pr nu de wr rd cn ba sz1 lb rm cu sp nz sl uz : Int) (hwd : 1 ≤ wd ∧ wd ≤ 16) (hht : 1 ≤ ht ∧ ht ≤ 16) (hde : 0 ≤ db ∧ db ≤ 2 ∧ 0 ≤ ew ∧ ew ≤ 2 ∧ db + ew ≤ 3) (hb0 : 0 ≤ b0 ∧ b0 < nBd db ew) : Met l y_Mod_top w_Mod_top r_Mod_top (k_P G [.ref rM, .int (iv (b0))] [o_Mod rM wd ht rP rk rG rW rK kd db ew ac dn pr nu de rE rst wr rd rev rod cn rp rb ba sz1 lb rm cu sp nz rbl sl uz] sz) (vp_Si (fun r : Int32 => r = iv (bTp (lmI ht (2 ^ db.toNat)) db ew b0))) 0 0 (fun _ => False) := by
  refine k_met (fun _ => vp_Si (fun r : Int32 => r = iv (bTp (lmI ht (2 ^ db.toNat)) db ew b0))) (fun _ _ => False) (by decide) rfl (Nat.le_of_ble_eq_true rfl) (fun p e s m args below meth c ls A Q S hr hlk hnm hl hsz hP hK hD hS hA hT hQ => ?_)
  obtain ⟨hx, hb, hml, hown, hts⟩ := id S
  have hw : ∀ w ∈ wl, w.before args s = true := fun w h => hts w (List.mem_cons_of_mem _ h)
  have hl : lv_has ls 3 [(0, .ref rM), (1, .int (iv (b0)))] := hl
  have n1 : nBd db ew = 1 + ew + 3 * db := rfl
  have n2 := hv_r hde hb0
  have e1 := lmI_r hwd (p2_c (k := db + ew) (by omega))
  have e2 := lmI_r hht (p2_c (k := db) (by omega))
  refine lv_aload_n hx hb d_Mod_top_0 rfl (lv_at hl 0 rfl) ?_
  refine k_ciR (k_rv S (c_Mod_rows l G _ rM rP rk rG rW rK rE rst rev rod rp rb rbl wd ht kd db ew ac dn pr nu de wr rd cn ba sz1 lb rm cu sp nz sl uz (by omega) (by omega) (by omega)) 0 m4_49 m4_46 m4_48 mp_24 m1_9 (by decide +kernel) (by decide) rfl rfl (k_preV (q0 := 0) hK hP hD hS hA hT rfl rfl [0] (by decide) rfl) rfl hl.1 rfl (Nat.le_of_ble_eq_true rfl) d_Mod_top_1 ⟨Nat.le_of_ble_eq_true rfl, Nat.le_of_ble_eq_true rfl⟩) (fun r1 h1 => ?_)
  subst h1
  refine lv_aload_n hx hb d_Mod_top_4 rfl (lv_at hl 0 rfl) ?_
  refine lv_iload_n hx hb d_Mod_top_5 rfl (lv_at hl 1 rfl) ?_
  refine lv_iconst (v := iv (0)) hx hb d_Mod_top_6 rfl ?_
  refine k_ciR (k_rv S (c_Mod_halvings l G _ rM rP rk rG rW rK rE rst rev rod rp rb rbl b0 0 wd ht kd db ew ac dn pr nu de wr rd cn ba sz1 lb rm cu sp nz sl uz (by omega) (by omega) (by omega)) 2 m4_117 m4_114 m4_116 mp_36 m1_9 (by decide +kernel) (by decide) rfl rfl (k_preV (q0 := 0) hK hP hD hS hA hT rfl rfl [0] (by decide) rfl) rfl hl.1 rfl (Nat.le_of_ble_eq_true rfl) d_Mod_top_7 ⟨Nat.le_of_ble_eq_true rfl, Nat.le_of_ble_eq_true rfl⟩) (fun r7 h7 => ?_)
  subst h7
  refine k_eqi (b := hvH db ew b0) (by rw [if_pos (by decide)]) ?_
  refine k_ishr hx hb d_Mod_top_10 (by omega) (by omega) ?_
  refine lv_istore_n hx hb d_Mod_top_11 rfl hl (by decide) rfl (fun ls hl => ?_)
  have hl : lv_has ls 3 [(2, .int (iv ((lmI ht (2 ^ db.toNat)) / 2 ^ (hvH db ew b0).toNat))), (0, .ref rM), (1, .int (iv (b0)))] := hl
  refine lv_iload_n hx hb d_Mod_top_12 rfl (lv_at hl 2 rfl) ?_
  refine lv_aload_n hx hb d_Mod_top_13 rfl (lv_at hl 1 rfl) ?_
  refine va_get (D := gD G) (ci := 7) (v := .int (iv (ew))) (C := R_Mod) (T := F_Mod) (N := 34) hx hb hw in_Mod hown hK hP 0 rfl rfl 9 (by decide) (hw _ m3_133) (fun _ h => h) rfl d_Mod_top_14 ?_
  refine k_icmp_le (tgt := 37) hx hb d_Mod_top_17 (by decide) (by omega) (by omega) (fun hc17 => ?_) (fun hc17 => ?_)
  · refine lv_iconst (v := iv (0)) hx hb d_Mod_top_37 rfl ?_
    exact k_iretR hx hb hr hlk hQ (by unfold bTp; first | (rw [if_pos (by omega)]; rfl) | rw [if_neg (by omega)]) d_Mod_top_38
  · refine lv_iload_n hx hb d_Mod_top_20 rfl (lv_at hl 2 rfl) ?_
    refine lv_aload_n hx hb d_Mod_top_21 rfl (lv_at hl 1 rfl) ?_
    refine va_get (D := gD G) (ci := 7) (v := .int (iv (ew))) (C := R_Mod) (T := F_Mod) (N := 34) hx hb hw in_Mod hown hK hP 0 rfl rfl 9 (by decide) (hw _ m3_133) (fun _ h => h) rfl d_Mod_top_22 ?_
    refine k_isub hx hb d_Mod_top_25 ?_
    refine lv_iconst (v := iv (1)) hx hb d_Mod_top_26 rfl ?_
    refine k_isub hx hb d_Mod_top_27 ?_
    refine lv_iconst (v := iv (3)) hx hb d_Mod_top_28 rfl ?_
    refine k_irem hx hb d_Mod_top_29 (by omega) (by omega) ?_
    refine k_if_eq (tgt := 37) hx hb d_Mod_top_30 (by decide) (by omega) (fun hc30 => ?_) (fun hc30 => ?_)
    · refine lv_iconst (v := iv (0)) hx hb d_Mod_top_37 rfl ?_
      exact k_iretR hx hb hr hlk hQ (by unfold bTp; first | (rw [if_pos (by omega)]; rfl) | rw [if_neg (by omega)]) d_Mod_top_38
    · refine lv_iload_n hx hb d_Mod_top_33 rfl (lv_at hl 0 rfl) ?_
      refine lv_goto (tgt := 38) hx hb d_Mod_top_34 (by decide) ?_
      exact k_iretR hx hb hr hlk hQ (by unfold bTp; first | (rw [if_pos (by omega)]; rfl) | rw [if_neg (by omega)]) d_Mod_top_38
