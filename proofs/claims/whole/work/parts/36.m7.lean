theorem m4_235 : Cond.code y_Mod_backward prog_9_method_23_code 4 none ∈ wl := wl_4 235 (by decide +kernel) (by decide +kernel)
theorem m4_207 : Cond.code y_Mod_isByte prog_9_method_50_code 2 (some .boolean) ∈ wl := wl_4 207 (by decide +kernel) (by decide +kernel)
theorem m4_219 : Cond.code y_Mod_isSlice prog_9_method_30_code 2 (some .boolean) ∈ wl := wl_4 219 (by decide +kernel) (by decide +kernel)
theorem m3_127 : Cond.fieldLink "WaveletSlicesModel" 13 "WaveletSlicesModel" "back" "[I" ∈ wl := wl_3 127 (by decide +kernel) (by decide +kernel)
theorem m3_130 : Cond.fieldLink "WaveletSlicesModel" 23 "WaveletSlicesModel" "kept" "[J" ∈ wl := wl_3 130 (by decide +kernel) (by decide +kernel)
theorem m4_234 : Cond.instanceMethod y_Mod_backward ∈ wl := wl_4 234 (by decide +kernel) (by decide +kernel)
theorem m4_206 : Cond.instanceMethod y_Mod_isByte ∈ wl := wl_4 206 (by decide +kernel) (by decide +kernel)
theorem m4_218 : Cond.instanceMethod y_Mod_isSlice ∈ wl := wl_4 218 (by decide +kernel) (by decide +kernel)
theorem m4_232 : Cond.methodLink "WaveletSlicesModel" 316 y_Mod_backward ∈ wl := wl_4 232 (by decide +kernel) (by decide +kernel)
theorem m4_204 : Cond.methodLink "WaveletSlicesModel" 310 y_Mod_isByte ∈ wl := wl_4 204 (by decide +kernel) (by decide +kernel)
theorem m4_216 : Cond.methodLink "WaveletSlicesModel" 313 y_Mod_isSlice ∈ wl := wl_4 216 (by decide +kernel) (by decide +kernel)
theorem mp_53 : Cond.selects "WaveletSlicesModel" y_Mod_backward y_Mod_backward ∈ wl := wl_p 53 (by decide +kernel) (by decide +kernel)
theorem mp_51 : Cond.selects "WaveletSlicesModel" y_Mod_isByte y_Mod_isByte ∈ wl := wl_p 51 (by decide +kernel) (by decide +kernel)
theorem mp_52 : Cond.selects "WaveletSlicesModel" y_Mod_isSlice y_Mod_isSlice ∈ wl := wl_p 52 (by decide +kernel) (by decide +kernel)
theorem d_Mod_isByte_0 : decode prog_9_method_50_code 0 = .ok (.aload_n 0, 1) := by decide +kernel
theorem d_Mod_isByte_1 : decode prog_9_method_50_code 1 = .ok (.getfield 82, 3) := by decide +kernel
theorem d_Mod_isByte_4 : decode prog_9_method_50_code 4 = .ok (.ifCond .eq 34, 3) := by decide +kernel
theorem d_Mod_isByte_7 : decode prog_9_method_50_code 7 = .ok (.iload_n 1, 1) := by decide +kernel
theorem d_Mod_isByte_8 : decode prog_9_method_50_code 8 = .ok (.ifCond .lt 30, 3) := by decide +kernel
theorem d_Mod_isByte_11 : decode prog_9_method_50_code 11 = .ok (.iload_n 1, 1) := by decide +kernel
theorem d_Mod_isByte_12 : decode prog_9_method_50_code 12 = .ok (.aload_n 0, 1) := by decide +kernel
theorem d_Mod_isByte_13 : decode prog_9_method_50_code 13 = .ok (.getfield 30, 3) := by decide +kernel
theorem d_Mod_isByte_16 : decode prog_9_method_50_code 16 = .ok (.aload_n 0, 1) := by decide +kernel
theorem d_Mod_isByte_17 : decode prog_9_method_50_code 17 = .ok (.getfield 33, 3) := by decide +kernel
theorem d_Mod_isByte_20 : decode prog_9_method_50_code 20 = .ok (.imul, 1) := by decide +kernel
theorem d_Mod_isByte_21 : decode prog_9_method_50_code 21 = .ok (.aload_n 0, 1) := by decide +kernel
theorem d_Mod_isByte_22 : decode prog_9_method_50_code 22 = .ok (.getfield 36, 3) := by decide +kernel
theorem d_Mod_isByte_25 : decode prog_9_method_50_code 25 = .ok (.imul, 1) := by decide +kernel
theorem d_Mod_isByte_26 : decode prog_9_method_50_code 26 = .ok (.aload_n 0, 1) := by decide +kernel
theorem d_Mod_isByte_27 : decode prog_9_method_50_code 27 = .ok (.getfield 39, 3) := by decide +kernel
theorem d_Mod_isByte_30 : decode prog_9_method_50_code 30 = .ok (.idiv, 1) := by decide +kernel
theorem d_Mod_isByte_31 : decode prog_9_method_50_code 31 = .ok (.if_icmp .ge 7, 3) := by decide +kernel
theorem d_Mod_isByte_34 : decode prog_9_method_50_code 34 = .ok (.iconst 1, 1) := by decide +kernel
theorem d_Mod_isByte_35 : decode prog_9_method_50_code 35 = .ok (.goto 4, 3) := by decide +kernel
theorem d_Mod_isByte_38 : decode prog_9_method_50_code 38 = .ok (.iconst 0, 1) := by decide +kernel
theorem d_Mod_isByte_39 : decode prog_9_method_50_code 39 = .ok (.ireturn, 1) := by decide +kernel
theorem d_Mod_byteAt_0 : decode prog_9_method_51_code 0 = .ok (.aload_n 0, 1) := by decide +kernel
theorem d_Mod_byteAt_1 : decode prog_9_method_51_code 1 = .ok (.iload_n 1, 1) := by decide +kernel
theorem d_Mod_byteAt_2 : decode prog_9_method_51_code 2 = .ok (.invokevirtual 310, 3) := by decide +kernel
theorem d_Mod_byteAt_5 : decode prog_9_method_51_code 5 = .ok (.ifCond .eq 16, 3) := by decide +kernel
theorem d_Mod_byteAt_8 : decode prog_9_method_51_code 8 = .ok (.aload_n 0, 1) := by decide +kernel
theorem d_Mod_byteAt_9 : decode prog_9_method_51_code 9 = .ok (.getfield 45, 3) := by decide +kernel
theorem d_Mod_byteAt_12 : decode prog_9_method_51_code 12 = .ok (.iload_n 1, 1) := by decide +kernel
theorem d_Mod_byteAt_13 : decode prog_9_method_51_code 13 = .ok (.baload, 1) := by decide +kernel
theorem d_Mod_byteAt_14 : decode prog_9_method_51_code 14 = .ok (.sipush 255, 3) := by decide +kernel
theorem d_Mod_byteAt_17 : decode prog_9_method_51_code 17 = .ok (.iand, 1) := by decide +kernel
theorem d_Mod_byteAt_18 : decode prog_9_method_51_code 18 = .ok (.goto 4, 3) := by decide +kernel
theorem d_Mod_byteAt_21 : decode prog_9_method_51_code 21 = .ok (.iconst (-1), 1) := by decide +kernel
theorem d_Mod_byteAt_22 : decode prog_9_method_51_code 22 = .ok (.ireturn, 1) := by decide +kernel
theorem d_Mod_poke_0 : decode prog_9_method_52_code 0 = .ok (.aload_n 0, 1) := by decide +kernel
theorem d_Mod_poke_1 : decode prog_9_method_52_code 1 = .ok (.iload_n 1, 1) := by decide +kernel
theorem d_Mod_poke_2 : decode prog_9_method_52_code 2 = .ok (.invokevirtual 310, 3) := by decide +kernel
theorem d_Mod_poke_5 : decode prog_9_method_52_code 5 = .ok (.ifCond .eq 14, 3) := by decide +kernel
theorem d_Mod_poke_8 : decode prog_9_method_52_code 8 = .ok (.iload_n 2, 1) := by decide +kernel
theorem d_Mod_poke_9 : decode prog_9_method_52_code 9 = .ok (.ifCond .lt 10, 3) := by decide +kernel
theorem d_Mod_poke_12 : decode prog_9_method_52_code 12 = .ok (.iload_n 2, 1) := by decide +kernel
theorem d_Mod_poke_13 : decode prog_9_method_52_code 13 = .ok (.sipush 255, 3) := by decide +kernel
theorem d_Mod_poke_16 : decode prog_9_method_52_code 16 = .ok (.if_icmp .le 5, 3) := by decide +kernel
theorem d_Mod_poke_19 : decode prog_9_method_52_code 19 = .ok (.iconst 0, 1) := by decide +kernel
theorem d_Mod_poke_20 : decode prog_9_method_52_code 20 = .ok (.ireturn, 1) := by decide +kernel
theorem d_Mod_poke_21 : decode prog_9_method_52_code 21 = .ok (.aload_n 0, 1) := by decide +kernel
theorem d_Mod_poke_22 : decode prog_9_method_52_code 22 = .ok (.getfield 45, 3) := by decide +kernel
theorem d_Mod_poke_25 : decode prog_9_method_52_code 25 = .ok (.iload_n 1, 1) := by decide +kernel
theorem d_Mod_poke_26 : decode prog_9_method_52_code 26 = .ok (.iload_n 2, 1) := by decide +kernel
theorem d_Mod_poke_27 : decode prog_9_method_52_code 27 = .ok (.i2b, 1) := by decide +kernel
theorem d_Mod_poke_28 : decode prog_9_method_52_code 28 = .ok (.bastore, 1) := by decide +kernel
theorem d_Mod_poke_29 : decode prog_9_method_52_code 29 = .ok (.iconst 1, 1) := by decide +kernel
theorem d_Mod_poke_30 : decode prog_9_method_52_code 30 = .ok (.ireturn, 1) := by decide +kernel
theorem d_Mod_index_0 : decode prog_9_method_53_code 0 = .ok (.aload_n 0, 1) := by decide +kernel
theorem d_Mod_index_1 : decode prog_9_method_53_code 1 = .ok (.iload_n 1, 1) := by decide +kernel
theorem d_Mod_index_2 : decode prog_9_method_53_code 2 = .ok (.invokevirtual 313, 3) := by decide +kernel
theorem d_Mod_index_5 : decode prog_9_method_53_code 5 = .ok (.ifCond .ne 5, 3) := by decide +kernel
theorem d_Mod_index_8 : decode prog_9_method_53_code 8 = .ok (.iconst (-1), 1) := by decide +kernel
theorem d_Mod_index_9 : decode prog_9_method_53_code 9 = .ok (.ireturn, 1) := by decide +kernel
theorem d_Mod_index_10 : decode prog_9_method_53_code 10 = .ok (.aload_n 0, 1) := by decide +kernel
theorem d_Mod_index_11 : decode prog_9_method_53_code 11 = .ok (.iload_n 1, 1) := by decide +kernel
theorem d_Mod_index_12 : decode prog_9_method_53_code 12 = .ok (.invokevirtual 237, 3) := by decide +kernel
theorem d_Mod_index_15 : decode prog_9_method_53_code 15 = .ok (.aload_n 0, 1) := by decide +kernel
theorem d_Mod_index_16 : decode prog_9_method_53_code 16 = .ok (.iconst 0, 1) := by decide +kernel
theorem d_Mod_index_17 : decode prog_9_method_53_code 17 = .ok (.iconst 5, 1) := by decide +kernel
theorem d_Mod_index_18 : decode prog_9_method_53_code 18 = .ok (.invokevirtual 241, 3) := by decide +kernel
theorem d_Mod_index_21 : decode prog_9_method_53_code 21 = .ok (.ireturn, 1) := by decide +kernel
theorem d_Mod_used_0 : decode prog_9_method_54_code 0 = .ok (.aload_n 0, 1) := by decide +kernel
theorem d_Mod_used_1 : decode prog_9_method_54_code 1 = .ok (.iload_n 1, 1) := by decide +kernel
theorem d_Mod_used_2 : decode prog_9_method_54_code 2 = .ok (.invokevirtual 313, 3) := by decide +kernel
theorem d_Mod_used_5 : decode prog_9_method_54_code 5 = .ok (.ifCond .eq 11, 3) := by decide +kernel
theorem d_Mod_used_8 : decode prog_9_method_54_code 8 = .ok (.aload_n 0, 1) := by decide +kernel
theorem d_Mod_used_9 : decode prog_9_method_54_code 9 = .ok (.iload_n 1, 1) := by decide +kernel
theorem d_Mod_used_10 : decode prog_9_method_54_code 10 = .ok (.invokevirtual 254, 3) := by decide +kernel
theorem d_Mod_used_13 : decode prog_9_method_54_code 13 = .ok (.goto 4, 3) := by decide +kernel
theorem d_Mod_used_16 : decode prog_9_method_54_code 16 = .ok (.iconst (-1), 1) := by decide +kernel
theorem d_Mod_used_17 : decode prog_9_method_54_code 17 = .ok (.ireturn, 1) := by decide +kernel
theorem d_Mod_nonzero_0 : decode prog_9_method_55_code 0 = .ok (.aload_n 0, 1) := by decide +kernel
theorem d_Mod_nonzero_1 : decode prog_9_method_55_code 1 = .ok (.iload_n 1, 1) := by decide +kernel
theorem d_Mod_nonzero_2 : decode prog_9_method_55_code 2 = .ok (.invokevirtual 313, 3) := by decide +kernel
theorem d_Mod_nonzero_5 : decode prog_9_method_55_code 5 = .ok (.ifCond .ne 5, 3) := by decide +kernel
theorem d_Mod_nonzero_8 : decode prog_9_method_55_code 8 = .ok (.iconst (-1), 1) := by decide +kernel
theorem d_Mod_nonzero_9 : decode prog_9_method_55_code 9 = .ok (.ireturn, 1) := by decide +kernel
theorem d_Mod_nonzero_10 : decode prog_9_method_55_code 10 = .ok (.aload_n 0, 1) := by decide +kernel
theorem d_Mod_nonzero_11 : decode prog_9_method_55_code 11 = .ok (.iload_n 1, 1) := by decide +kernel
theorem d_Mod_nonzero_12 : decode prog_9_method_55_code 12 = .ok (.invokevirtual 304, 3) := by decide +kernel
theorem d_Mod_nonzero_15 : decode prog_9_method_55_code 15 = .ok (.aload_n 0, 1) := by decide +kernel
theorem d_Mod_nonzero_16 : decode prog_9_method_55_code 16 = .ok (.getfield 257, 3) := by decide +kernel
theorem d_Mod_nonzero_19 : decode prog_9_method_55_code 19 = .ok (.ireturn, 1) := by decide +kernel
theorem d_Mod_decode_0 : decode prog_9_method_56_code 0 = .ok (.aload_n 0, 1) := by decide +kernel
theorem d_Mod_decode_1 : decode prog_9_method_56_code 1 = .ok (.getfield 82, 3) := by decide +kernel
theorem d_Mod_decode_4 : decode prog_9_method_56_code 4 = .ok (.ifCond .ne 5, 3) := by decide +kernel
theorem d_Mod_decode_7 : decode prog_9_method_56_code 7 = .ok (.iconst (-1), 1) := by decide +kernel
theorem d_Mod_decode_8 : decode prog_9_method_56_code 8 = .ok (.ireturn, 1) := by decide +kernel
theorem d_Mod_decode_9 : decode prog_9_method_56_code 9 = .ok (.iconst 0, 1) := by decide +kernel
theorem d_Mod_decode_10 : decode prog_9_method_56_code 10 = .ok (.istore_n 1, 1) := by decide +kernel
theorem d_Mod_decode_11 : decode prog_9_method_56_code 11 = .ok (.iload_n 1, 1) := by decide +kernel
theorem d_Mod_decode_12 : decode prog_9_method_56_code 12 = .ok (.aload_n 0, 1) := by decide +kernel
theorem d_Mod_decode_13 : decode prog_9_method_56_code 13 = .ok (.getfield 30, 3) := by decide +kernel
theorem d_Mod_decode_16 : decode prog_9_method_56_code 16 = .ok (.aload_n 0, 1) := by decide +kernel
theorem d_Mod_decode_17 : decode prog_9_method_56_code 17 = .ok (.getfield 33, 3) := by decide +kernel
theorem d_Mod_decode_20 : decode prog_9_method_56_code 20 = .ok (.imul, 1) := by decide +kernel
theorem d_Mod_decode_21 : decode prog_9_method_56_code 21 = .ok (.if_icmp .ge 14, 3) := by decide +kernel
theorem d_Mod_decode_24 : decode prog_9_method_56_code 24 = .ok (.aload_n 0, 1) := by decide +kernel
theorem d_Mod_decode_25 : decode prog_9_method_56_code 25 = .ok (.iload_n 1, 1) := by decide +kernel
theorem d_Mod_decode_26 : decode prog_9_method_56_code 26 = .ok (.invokevirtual 304, 3) := by decide +kernel
theorem d_Mod_decode_29 : decode prog_9_method_56_code 29 = .ok (.iinc 1 1, 3) := by decide +kernel
theorem d_Mod_decode_32 : decode prog_9_method_56_code 32 = .ok (.goto (-21), 3) := by decide +kernel
theorem d_Mod_decode_35 : decode prog_9_method_56_code 35 = .ok (.iconst 0, 1) := by decide +kernel
theorem d_Mod_decode_36 : decode prog_9_method_56_code 36 = .ok (.istore_n 1, 1) := by decide +kernel
theorem d_Mod_decode_37 : decode prog_9_method_56_code 37 = .ok (.iload_n 1, 1) := by decide +kernel
theorem d_Mod_decode_38 : decode prog_9_method_56_code 38 = .ok (.sipush 256, 3) := by decide +kernel
theorem d_Mod_decode_41 : decode prog_9_method_56_code 41 = .ok (.if_icmp .ge 54, 3) := by decide +kernel
theorem d_Mod_decode_44 : decode prog_9_method_56_code 44 = .ok (.aload_n 0, 1) := by decide +kernel
theorem d_Mod_decode_45 : decode prog_9_method_56_code 45 = .ok (.iload_n 1, 1) := by decide +kernel
theorem d_Mod_decode_46 : decode prog_9_method_56_code 46 = .ok (.bipush 16, 2) := by decide +kernel
theorem d_Mod_decode_48 : decode prog_9_method_56_code 48 = .ok (.irem, 1) := by decide +kernel
theorem d_Mod_decode_49 : decode prog_9_method_56_code 49 = .ok (.iload_n 1, 1) := by decide +kernel
theorem d_Mod_decode_50 : decode prog_9_method_56_code 50 = .ok (.bipush 16, 2) := by decide +kernel
theorem d_Mod_decode_52 : decode prog_9_method_56_code 52 = .ok (.idiv, 1) := by decide +kernel
theorem d_Mod_decode_53 : decode prog_9_method_56_code 53 = .ok (.invokevirtual 170, 3) := by decide +kernel
theorem d_Mod_decode_56 : decode prog_9_method_56_code 56 = .ok (.istore_n 2, 1) := by decide +kernel
theorem d_Mod_decode_57 : decode prog_9_method_56_code 57 = .ok (.aload_n 0, 1) := by decide +kernel
theorem d_Mod_decode_58 : decode prog_9_method_56_code 58 = .ok (.getfield 23, 3) := by decide +kernel
theorem d_Mod_decode_61 : decode prog_9_method_56_code 61 = .ok (.iload_n 1, 1) := by decide +kernel
theorem d_Mod_decode_62 : decode prog_9_method_56_code 62 = .ok (.iload_n 2, 1) := by decide +kernel
theorem d_Mod_decode_63 : decode prog_9_method_56_code 63 = .ok (.ifCond .eq 12, 3) := by decide +kernel
theorem d_Mod_decode_66 : decode prog_9_method_56_code 66 = .ok (.aload_n 0, 1) := by decide +kernel
theorem d_Mod_decode_67 : decode prog_9_method_56_code 67 = .ok (.getfield 20, 3) := by decide +kernel
theorem d_Mod_decode_70 : decode prog_9_method_56_code 70 = .ok (.iload_n 1, 1) := by decide +kernel
theorem d_Mod_decode_71 : decode prog_9_method_56_code 71 = .ok (.laload, 1) := by decide +kernel
theorem d_Mod_decode_72 : decode prog_9_method_56_code 72 = .ok (.goto 4, 3) := by decide +kernel
theorem d_Mod_decode_75 : decode prog_9_method_56_code 75 = .ok (.lconst 0, 1) := by decide +kernel
theorem d_Mod_decode_76 : decode prog_9_method_56_code 76 = .ok (.lastore, 1) := by decide +kernel
theorem d_Mod_decode_77 : decode prog_9_method_56_code 77 = .ok (.aload_n 0, 1) := by decide +kernel
theorem d_Mod_decode_78 : decode prog_9_method_56_code 78 = .ok (.getfield 16, 3) := by decide +kernel
theorem d_Mod_decode_81 : decode prog_9_method_56_code 81 = .ok (.iload_n 1, 1) := by decide +kernel
theorem d_Mod_decode_82 : decode prog_9_method_56_code 82 = .ok (.aload_n 0, 1) := by decide +kernel
theorem d_Mod_decode_83 : decode prog_9_method_56_code 83 = .ok (.getfield 23, 3) := by decide +kernel
theorem d_Mod_decode_86 : decode prog_9_method_56_code 86 = .ok (.iload_n 1, 1) := by decide +kernel
theorem d_Mod_decode_87 : decode prog_9_method_56_code 87 = .ok (.laload, 1) := by decide +kernel
theorem d_Mod_decode_88 : decode prog_9_method_56_code 88 = .ok (.lastore, 1) := by decide +kernel
theorem d_Mod_decode_89 : decode prog_9_method_56_code 89 = .ok (.iinc 1 1, 3) := by decide +kernel
theorem d_Mod_decode_92 : decode prog_9_method_56_code 92 = .ok (.goto (-55), 3) := by decide +kernel
theorem d_Mod_decode_95 : decode prog_9_method_56_code 95 = .ok (.aload_n 0, 1) := by decide +kernel
theorem d_Mod_decode_96 : decode prog_9_method_56_code 96 = .ok (.invokevirtual 316, 3) := by decide +kernel
theorem d_Mod_decode_99 : decode prog_9_method_56_code 99 = .ok (.iconst 0, 1) := by decide +kernel
theorem d_Mod_decode_100 : decode prog_9_method_56_code 100 = .ok (.istore_n 1, 1) := by decide +kernel
theorem d_Mod_decode_101 : decode prog_9_method_56_code 101 = .ok (.iconst 0, 1) := by decide +kernel
theorem d_Mod_decode_102 : decode prog_9_method_56_code 102 = .ok (.istore_n 2, 1) := by decide +kernel
theorem d_Mod_decode_103 : decode prog_9_method_56_code 103 = .ok (.iload_n 2, 1) := by decide +kernel
theorem d_Mod_decode_104 : decode prog_9_method_56_code 104 = .ok (.sipush 256, 3) := by decide +kernel
theorem d_Mod_decode_107 : decode prog_9_method_56_code 107 = .ok (.if_icmp .ge 72, 3) := by decide +kernel
theorem d_Mod_decode_110 : decode prog_9_method_56_code 110 = .ok (.aload_n 0, 1) := by decide +kernel
theorem d_Mod_decode_111 : decode prog_9_method_56_code 111 = .ok (.iload_n 2, 1) := by decide +kernel
theorem d_Mod_decode_112 : decode prog_9_method_56_code 112 = .ok (.bipush 16, 2) := by decide +kernel
theorem d_Mod_decode_114 : decode prog_9_method_56_code 114 = .ok (.irem, 1) := by decide +kernel
theorem d_Mod_decode_115 : decode prog_9_method_56_code 115 = .ok (.iload_n 2, 1) := by decide +kernel
theorem d_Mod_decode_116 : decode prog_9_method_56_code 116 = .ok (.bipush 16, 2) := by decide +kernel
theorem d_Mod_decode_118 : decode prog_9_method_56_code 118 = .ok (.idiv, 1) := by decide +kernel
theorem d_Mod_decode_119 : decode prog_9_method_56_code 119 = .ok (.invokevirtual 74, 3) := by decide +kernel
theorem d_Mod_decode_122 : decode prog_9_method_56_code 122 = .ok (.istore_n 3, 1) := by decide +kernel
theorem d_Mod_decode_123 : decode prog_9_method_56_code 123 = .ok (.aload_n 0, 1) := by decide +kernel
theorem d_Mod_decode_124 : decode prog_9_method_56_code 124 = .ok (.getfield 13, 3) := by decide +kernel
theorem d_Mod_decode_127 : decode prog_9_method_56_code 127 = .ok (.iload_n 2, 1) := by decide +kernel
theorem d_Mod_decode_128 : decode prog_9_method_56_code 128 = .ok (.iload_n 3, 1) := by decide +kernel
theorem d_Mod_decode_129 : decode prog_9_method_56_code 129 = .ok (.ifCond .eq 15, 3) := by decide +kernel
theorem d_Mod_decode_132 : decode prog_9_method_56_code 132 = .ok (.aload_n 0, 1) := by decide +kernel
theorem d_Mod_decode_133 : decode prog_9_method_56_code 133 = .ok (.getfield 16, 3) := by decide +kernel
theorem d_Mod_decode_136 : decode prog_9_method_56_code 136 = .ok (.iload_n 2, 1) := by decide +kernel
theorem d_Mod_decode_137 : decode prog_9_method_56_code 137 = .ok (.laload, 1) := by decide +kernel
theorem d_Mod_decode_138 : decode prog_9_method_56_code 138 = .ok (.invokestatic 78, 3) := by decide +kernel
theorem d_Mod_decode_141 : decode prog_9_method_56_code 141 = .ok (.goto 4, 3) := by decide +kernel
theorem d_Mod_decode_144 : decode prog_9_method_56_code 144 = .ok (.iconst 0, 1) := by decide +kernel
theorem d_Mod_decode_145 : decode prog_9_method_56_code 145 = .ok (.iastore, 1) := by decide +kernel
theorem d_Mod_decode_146 : decode prog_9_method_56_code 146 = .ok (.iload_n 1, 1) := by decide +kernel
theorem d_Mod_decode_147 : decode prog_9_method_56_code 147 = .ok (.iload_n 3, 1) := by decide +kernel
theorem d_Mod_decode_148 : decode prog_9_method_56_code 148 = .ok (.ifCond .eq 22, 3) := by decide +kernel
theorem d_Mod_decode_151 : decode prog_9_method_56_code 151 = .ok (.aload_n 0, 1) := by decide +kernel
theorem d_Mod_decode_152 : decode prog_9_method_56_code 152 = .ok (.getfield 13, 3) := by decide +kernel
theorem d_Mod_decode_155 : decode prog_9_method_56_code 155 = .ok (.iload_n 2, 1) := by decide +kernel
theorem d_Mod_decode_156 : decode prog_9_method_56_code 156 = .ok (.iaload, 1) := by decide +kernel
theorem d_Mod_decode_157 : decode prog_9_method_56_code 157 = .ok (.aload_n 0, 1) := by decide +kernel
theorem d_Mod_decode_158 : decode prog_9_method_56_code 158 = .ok (.getfield 7, 3) := by decide +kernel
theorem d_Mod_decode_161 : decode prog_9_method_56_code 161 = .ok (.iload_n 2, 1) := by decide +kernel
theorem d_Mod_decode_162 : decode prog_9_method_56_code 162 = .ok (.iaload, 1) := by decide +kernel
theorem d_Mod_decode_163 : decode prog_9_method_56_code 163 = .ok (.if_icmp .eq 7, 3) := by decide +kernel
theorem d_Mod_decode_166 : decode prog_9_method_56_code 166 = .ok (.iconst 1, 1) := by decide +kernel
theorem d_Mod_decode_167 : decode prog_9_method_56_code 167 = .ok (.goto 4, 3) := by decide +kernel
theorem d_Mod_decode_170 : decode prog_9_method_56_code 170 = .ok (.iconst 0, 1) := by decide +kernel
theorem d_Mod_decode_171 : decode prog_9_method_56_code 171 = .ok (.iadd, 1) := by decide +kernel
theorem d_Mod_decode_172 : decode prog_9_method_56_code 172 = .ok (.istore_n 1, 1) := by decide +kernel
theorem d_Mod_decode_173 : decode prog_9_method_56_code 173 = .ok (.iinc 2 1, 3) := by decide +kernel
theorem d_Mod_decode_176 : decode prog_9_method_56_code 176 = .ok (.goto (-73), 3) := by decide +kernel
theorem d_Mod_decode_179 : decode prog_9_method_56_code 179 = .ok (.aload_n 0, 1) := by decide +kernel
theorem d_Mod_decode_180 : decode prog_9_method_56_code 180 = .ok (.iconst 1, 1) := by decide +kernel
theorem d_Mod_decode_181 : decode prog_9_method_56_code 181 = .ok (.putfield 86, 3) := by decide +kernel
theorem d_Mod_decode_184 : decode prog_9_method_56_code 184 = .ok (.iload_n 1, 1) := by decide +kernel
theorem d_Mod_decode_185 : decode prog_9_method_56_code 185 = .ok (.ireturn, 1) := by decide +kernel
theorem d_Mod_decoded_0 : decode prog_9_method_57_code 0 = .ok (.aload_n 0, 1) := by decide +kernel
theorem d_Mod_decoded_1 : decode prog_9_method_57_code 1 = .ok (.getfield 86, 3) := by decide +kernel
theorem d_Mod_decoded_4 : decode prog_9_method_57_code 4 = .ok (.ifCond .eq 26, 3) := by decide +kernel
theorem d_Mod_decoded_7 : decode prog_9_method_57_code 7 = .ok (.aload_n 0, 1) := by decide +kernel
theorem d_Mod_decoded_8 : decode prog_9_method_57_code 8 = .ok (.iload_n 1, 1) := by decide +kernel
theorem d_Mod_decoded_9 : decode prog_9_method_57_code 9 = .ok (.iload_n 2, 1) := by decide +kernel
theorem d_Mod_decoded_10 : decode prog_9_method_57_code 10 = .ok (.invokevirtual 74, 3) := by decide +kernel
theorem d_Mod_decoded_13 : decode prog_9_method_57_code 13 = .ok (.ifCond .eq 17, 3) := by decide +kernel
theorem d_Mod_decoded_16 : decode prog_9_method_57_code 16 = .ok (.aload_n 0, 1) := by decide +kernel
theorem d_Mod_decoded_17 : decode prog_9_method_57_code 17 = .ok (.getfield 13, 3) := by decide +kernel
theorem d_Mod_decoded_20 : decode prog_9_method_57_code 20 = .ok (.bipush 16, 2) := by decide +kernel
theorem d_Mod_decoded_22 : decode prog_9_method_57_code 22 = .ok (.iload_n 2, 1) := by decide +kernel
theorem d_Mod_decoded_23 : decode prog_9_method_57_code 23 = .ok (.imul, 1) := by decide +kernel
theorem d_Mod_decoded_24 : decode prog_9_method_57_code 24 = .ok (.iload_n 1, 1) := by decide +kernel
theorem d_Mod_decoded_25 : decode prog_9_method_57_code 25 = .ok (.iadd, 1) := by decide +kernel
theorem d_Mod_decoded_26 : decode prog_9_method_57_code 26 = .ok (.iaload, 1) := by decide +kernel
theorem d_Mod_decoded_27 : decode prog_9_method_57_code 27 = .ok (.goto 6, 3) := by decide +kernel
theorem d_Mod_decoded_30 : decode prog_9_method_57_code 30 = .ok (.sipush (-1000), 3) := by decide +kernel
theorem d_Mod_decoded_33 : decode prog_9_method_57_code 33 = .ok (.ireturn, 1) := by decide +kernel
theorem d_Mod_rebuilt_0 : decode prog_9_method_58_code 0 = .ok (.aload_n 0, 1) := by decide +kernel
theorem d_Mod_rebuilt_1 : decode prog_9_method_58_code 1 = .ok (.getfield 86, 3) := by decide +kernel
theorem d_Mod_rebuilt_4 : decode prog_9_method_58_code 4 = .ok (.ifCond .eq 26, 3) := by decide +kernel
theorem d_Mod_rebuilt_7 : decode prog_9_method_58_code 7 = .ok (.aload_n 0, 1) := by decide +kernel
theorem d_Mod_rebuilt_8 : decode prog_9_method_58_code 8 = .ok (.iload_n 1, 1) := by decide +kernel
theorem d_Mod_rebuilt_9 : decode prog_9_method_58_code 9 = .ok (.iload_n 2, 1) := by decide +kernel
theorem d_Mod_rebuilt_10 : decode prog_9_method_58_code 10 = .ok (.invokevirtual 170, 3) := by decide +kernel
theorem d_Mod_rebuilt_13 : decode prog_9_method_58_code 13 = .ok (.ifCond .eq 17, 3) := by decide +kernel
theorem d_Mod_rebuilt_16 : decode prog_9_method_58_code 16 = .ok (.aload_n 0, 1) := by decide +kernel
theorem d_Mod_rebuilt_17 : decode prog_9_method_58_code 17 = .ok (.getfield 23, 3) := by decide +kernel
theorem d_Mod_rebuilt_20 : decode prog_9_method_58_code 20 = .ok (.bipush 16, 2) := by decide +kernel
theorem d_Mod_rebuilt_22 : decode prog_9_method_58_code 22 = .ok (.iload_n 2, 1) := by decide +kernel
theorem d_Mod_rebuilt_23 : decode prog_9_method_58_code 23 = .ok (.imul, 1) := by decide +kernel
theorem d_Mod_rebuilt_24 : decode prog_9_method_58_code 24 = .ok (.iload_n 1, 1) := by decide +kernel
theorem d_Mod_rebuilt_25 : decode prog_9_method_58_code 25 = .ok (.iadd, 1) := by decide +kernel
theorem d_Mod_rebuilt_26 : decode prog_9_method_58_code 26 = .ok (.laload, 1) := by decide +kernel
theorem d_Mod_rebuilt_27 : decode prog_9_method_58_code 27 = .ok (.goto 4, 3) := by decide +kernel
theorem d_Mod_rebuilt_30 : decode prog_9_method_58_code 30 = .ok (.lconst 0, 1) := by decide +kernel
theorem d_Mod_rebuilt_31 : decode prog_9_method_58_code 31 = .ok (.lreturn, 1) := by decide +kernel
theorem d_Mod_error_0 : decode prog_9_method_59_code 0 = .ok (.aload_n 0, 1) := by decide +kernel
theorem d_Mod_error_1 : decode prog_9_method_59_code 1 = .ok (.getfield 86, 3) := by decide +kernel
theorem d_Mod_error_4 : decode prog_9_method_59_code 4 = .ok (.ifCond .ne 5, 3) := by decide +kernel
theorem d_Mod_error_7 : decode prog_9_method_59_code 7 = .ok (.iconst (-1), 1) := by decide +kernel
theorem d_Mod_error_8 : decode prog_9_method_59_code 8 = .ok (.ireturn, 1) := by decide +kernel
theorem d_Mod_error_9 : decode prog_9_method_59_code 9 = .ok (.iconst 0, 1) := by decide +kernel
theorem d_Mod_error_10 : decode prog_9_method_59_code 10 = .ok (.istore_n 1, 1) := by decide +kernel
theorem d_Mod_error_11 : decode prog_9_method_59_code 11 = .ok (.iconst 0, 1) := by decide +kernel
theorem d_Mod_error_12 : decode prog_9_method_59_code 12 = .ok (.istore_n 2, 1) := by decide +kernel
theorem d_Mod_error_13 : decode prog_9_method_59_code 13 = .ok (.iload_n 2, 1) := by decide +kernel
theorem d_Mod_error_14 : decode prog_9_method_59_code 14 = .ok (.sipush 256, 3) := by decide +kernel
theorem d_Mod_error_17 : decode prog_9_method_59_code 17 = .ok (.if_icmp .ge 44, 3) := by decide +kernel
theorem d_Mod_error_20 : decode prog_9_method_59_code 20 = .ok (.aload_n 0, 1) := by decide +kernel
theorem d_Mod_error_21 : decode prog_9_method_59_code 21 = .ok (.iload_n 2, 1) := by decide +kernel
theorem d_Mod_error_22 : decode prog_9_method_59_code 22 = .ok (.bipush 16, 2) := by decide +kernel
theorem d_Mod_error_24 : decode prog_9_method_59_code 24 = .ok (.irem, 1) := by decide +kernel
theorem d_Mod_error_25 : decode prog_9_method_59_code 25 = .ok (.iload_n 2, 1) := by decide +kernel
theorem d_Mod_error_26 : decode prog_9_method_59_code 26 = .ok (.bipush 16, 2) := by decide +kernel
theorem d_Mod_error_28 : decode prog_9_method_59_code 28 = .ok (.idiv, 1) := by decide +kernel
theorem d_Mod_error_29 : decode prog_9_method_59_code 29 = .ok (.invokevirtual 74, 3) := by decide +kernel
theorem d_Mod_error_32 : decode prog_9_method_59_code 32 = .ok (.ifCond .eq 23, 3) := by decide +kernel
theorem d_Mod_error_35 : decode prog_9_method_59_code 35 = .ok (.aload_n 0, 1) := by decide +kernel
theorem d_Mod_error_36 : decode prog_9_method_59_code 36 = .ok (.getfield 13, 3) := by decide +kernel
theorem d_Mod_error_39 : decode prog_9_method_59_code 39 = .ok (.iload_n 2, 1) := by decide +kernel
theorem d_Mod_error_40 : decode prog_9_method_59_code 40 = .ok (.iaload, 1) := by decide +kernel
theorem d_Mod_error_41 : decode prog_9_method_59_code 41 = .ok (.aload_n 0, 1) := by decide +kernel
theorem d_Mod_error_42 : decode prog_9_method_59_code 42 = .ok (.getfield 7, 3) := by decide +kernel
theorem d_Mod_error_45 : decode prog_9_method_59_code 45 = .ok (.iload_n 2, 1) := by decide +kernel
theorem d_Mod_error_46 : decode prog_9_method_59_code 46 = .ok (.iaload, 1) := by decide +kernel
theorem d_Mod_error_47 : decode prog_9_method_59_code 47 = .ok (.isub, 1) := by decide +kernel
theorem d_Mod_error_48 : decode prog_9_method_59_code 48 = .ok (.istore_n 3, 1) := by decide +kernel
theorem d_Mod_error_49 : decode prog_9_method_59_code 49 = .ok (.iload_n 1, 1) := by decide +kernel
theorem d_Mod_error_50 : decode prog_9_method_59_code 50 = .ok (.iload_n 3, 1) := by decide +kernel
theorem d_Mod_error_51 : decode prog_9_method_59_code 51 = .ok (.iload_n 3, 1) := by decide +kernel
theorem d_Mod_error_52 : decode prog_9_method_59_code 52 = .ok (.imul, 1) := by decide +kernel
theorem d_Mod_error_53 : decode prog_9_method_59_code 53 = .ok (.iadd, 1) := by decide +kernel
theorem d_Mod_error_54 : decode prog_9_method_59_code 54 = .ok (.istore_n 1, 1) := by decide +kernel
theorem d_Mod_error_55 : decode prog_9_method_59_code 55 = .ok (.iinc 2 1, 3) := by decide +kernel
theorem d_Mod_error_58 : decode prog_9_method_59_code 58 = .ok (.goto (-45), 3) := by decide +kernel
theorem d_Mod_error_61 : decode prog_9_method_59_code 61 = .ok (.iload_n 1, 1) := by decide +kernel
theorem d_Mod_error_62 : decode prog_9_method_59_code 62 = .ok (.ireturn, 1) := by decide +kernel
abbrev w_Mod_isByte : List Cond := Cond.code y_Mod_isByte prog_9_method_50_code 2 (some .boolean) :: wl
abbrev r_Mod_isByte : Room := { frames := 0, cells := 0, slots := 0, locals := 0 }
set_option maxHeartbeats 4000000 in
set_option maxRecDepth 100000 in
theorem c_Mod_isByte (l : Launch) (G : k_G) (sz : Nat) (rM rP rk rG rW rK rE rst rev rod rp rb rbl : Nat) (k0 wd ht kd db ew ac dn pr nu de wr rd cn ba sz1 lb rm cu sp nz sl uz : Int) (hok : okR nu de) (hac : 1 ≤ ac ∧ ac ≤ 4) (hdn : 1 ≤ dn ∧ dn ≤ 4) (hwr : wr = 0 ∨ wr = 1) (h_k0 : -2147483648 ≤ k0 ∧ k0 < 2147483648) : Met l y_Mod_isByte w_Mod_isByte r_Mod_isByte (k_P G [.ref rM, .int (iv (k0))] [o_Mod rM wd ht rP rk rG rW rK kd db ew ac dn pr nu de rE rst wr rd rev rod cn rp rb ba sz1 lb rm cu sp nz rbl sl uz] sz) (vp_Si (fun r : Int32 => r = iv (bI (wr = 1 ∧ 0 ≤ k0 ∧ k0 ≤ sBy nu de (ac * dn) - 1)))) 0 0 (fun _ => False) := by
  refine k_met (fun _ => vp_Si (fun r : Int32 => r = iv (bI (wr = 1 ∧ 0 ≤ k0 ∧ k0 ≤ sBy nu de (ac * dn) - 1)))) (fun _ _ => False) (by decide) rfl (Nat.le_of_ble_eq_true rfl) (fun p e s m args below meth c ls A Q S hr hlk hnm hl hsz hP hK hD hS hA hT hQ => ?_)
  obtain ⟨hx, hb, hml, hown, hts⟩ := id S
  have hw : ∀ w ∈ wl, w.before args s = true := fun w h => hts w (List.mem_cons_of_mem _ h)
  have hl : lv_has ls 2 [(0, .ref rM), (1, .int (iv (k0)))] := hl
  have n1 := mul_r (a := ac) (b := dn) (A := 4) (B := 4) (by omega) (by omega)
  have n2 : 1 ≤ ac * dn := Int.mul_pos (by omega) (by omega)
  have n3 := sBy_r hok (s := ac * dn) (by omega)
  have n4 := hok.1
  have n5 := hok.2.1
  have n6 : ac * dn * nu / de = sBy nu de (ac * dn) := rfl
  refine lv_aload_n hx hb d_Mod_isByte_0 rfl (lv_at hl 0 rfl) ?_
  refine va_get (D := gD G) (ci := 7) (v := .int (iv (wr))) (C := R_Mod) (T := F_Mod) (N := 34) hx hb hw in_Mod hown hK hP 0 rfl rfl 17 (by decide) (hw _ m3_141) (fun _ h => h) rfl d_Mod_isByte_1 ?_
  refine k_if_eq (tgt := 38) hx hb d_Mod_isByte_4 (by decide) (by omega) (fun hc4 => ?_) (fun hc4 => ?_)
  · refine lv_iconst (v := iv (0)) hx hb d_Mod_isByte_38 rfl ?_
    exact k_zretR hx hb hr hlk (by omega) hQ (by first | rw [bI_t (by omega)] | rw [bI_f (by omega)]) d_Mod_isByte_39
  · refine lv_iload_n hx hb d_Mod_isByte_7 rfl (lv_at hl 1 rfl) ?_
    refine k_if_lt (tgt := 38) hx hb d_Mod_isByte_8 (by decide) (by omega) (fun hc8 => ?_) (fun hc8 => ?_)
    · refine lv_iconst (v := iv (0)) hx hb d_Mod_isByte_38 rfl ?_
      exact k_zretR hx hb hr hlk (by omega) hQ (by first | rw [bI_t (by omega)] | rw [bI_f (by omega)]) d_Mod_isByte_39
    · refine lv_iload_n hx hb d_Mod_isByte_11 rfl (lv_at hl 1 rfl) ?_
      refine lv_aload_n hx hb d_Mod_isByte_12 rfl (lv_at hl 0 rfl) ?_
      refine va_get (D := gD G) (ci := 7) (v := .int (iv (ac))) (C := R_Mod) (T := F_Mod) (N := 34) hx hb hw in_Mod hown hK hP 0 rfl rfl 10 (by decide) (hw _ m3_134) (fun _ h => h) rfl d_Mod_isByte_13 ?_
      refine lv_aload_n hx hb d_Mod_isByte_16 rfl (lv_at hl 0 rfl) ?_
      refine va_get (D := gD G) (ci := 7) (v := .int (iv (dn))) (C := R_Mod) (T := F_Mod) (N := 34) hx hb hw in_Mod hown hK hP 0 rfl rfl 11 (by decide) (hw _ m3_135) (fun _ h => h) rfl d_Mod_isByte_17 ?_
      refine k_imul hx hb d_Mod_isByte_20 ?_
      refine lv_aload_n hx hb d_Mod_isByte_21 rfl (lv_at hl 0 rfl) ?_
      refine va_get (D := gD G) (ci := 7) (v := .int (iv (nu))) (C := R_Mod) (T := F_Mod) (N := 34) hx hb hw in_Mod hown hK hP 0 rfl rfl 13 (by decide) (hw _ m3_137) (fun _ h => h) rfl d_Mod_isByte_22 ?_
      refine k_imul hx hb d_Mod_isByte_25 ?_
      refine lv_aload_n hx hb d_Mod_isByte_26 rfl (lv_at hl 0 rfl) ?_
      refine va_get (D := gD G) (ci := 7) (v := .int (iv (de))) (C := R_Mod) (T := F_Mod) (N := 34) hx hb hw in_Mod hown hK hP 0 rfl rfl 14 (by decide) (hw _ m3_138) (fun _ h => h) rfl d_Mod_isByte_27 ?_
      refine k_idiv hx hb d_Mod_isByte_30 (by omega) (by omega) ?_
      refine k_icmp_ge (tgt := 38) hx hb d_Mod_isByte_31 (by decide) (by omega) (by omega) (fun hc31 => ?_) (fun hc31 => ?_)
      · refine lv_iconst (v := iv (0)) hx hb d_Mod_isByte_38 rfl ?_
        exact k_zretR hx hb hr hlk (by omega) hQ (by first | rw [bI_t (by omega)] | rw [bI_f (by omega)]) d_Mod_isByte_39
      · refine lv_iconst (v := iv (1)) hx hb d_Mod_isByte_34 rfl ?_
        refine lv_goto (tgt := 39) hx hb d_Mod_isByte_35 (by decide) ?_
        exact k_zretR hx hb hr hlk (by omega) hQ (by first | rw [bI_t (by omega)] | rw [bI_f (by omega)]) d_Mod_isByte_39
abbrev w_Mod_byteAt : List Cond := Cond.code y_Mod_byteAt prog_9_method_51_code 2 (some .int) :: wl
abbrev r_Mod_byteAt : Room := { frames := 1, cells := 0, slots := 0, locals := 21 }
set_option maxHeartbeats 4000000 in
set_option maxRecDepth 100000 in
theorem c_Mod_byteAt (l : Launch) (G : k_G) (sz : Nat) (rM rP rk rG rW rK rE rst rev rod rp rb rbl : Nat) (k0 wd ht kd db ew ac dn pr nu de wr rd cn ba sz1 lb rm cu sp nz sl uz : Int) (g : Int → Int) (hok : okR nu de) (hac : 1 ≤ ac ∧ ac ≤ 4) (hdn : 1 ≤ dn ∧ dn ≤ 4) (hwr : wr = 0 ∨ wr = 1) (h_k0 : -2147483648 ≤ k0 ∧ k0 < 2147483648) : Met l y_Mod_byteAt w_Mod_byteAt r_Mod_byteAt (k_P G [.ref rM, .int (iv (k0))] [o_Mod rM wd ht rP rk rG rW rK kd db ew ac dn pr nu de rE rst wr rd rev rod cn rp rb ba sz1 lb rm cu sp nz rbl sl uz, (rst, ai (gB G) 2048 (g))] sz) (vp_Si (fun r : Int32 => r = iv (if wr = 1 ∧ 0 ≤ k0 ∧ k0 ≤ sBy nu de (ac * dn) - 1 then g k0 % 256 else -1))) 0 0 (fun _ => False) := by
  refine k_met (fun _ => vp_Si (fun r : Int32 => r = iv (if wr = 1 ∧ 0 ≤ k0 ∧ k0 ≤ sBy nu de (ac * dn) - 1 then g k0 % 256 else -1))) (fun _ _ => False) (by decide) rfl (Nat.le_of_ble_eq_true rfl) (fun p e s m args below meth c ls A Q S hr hlk hnm hl hsz hP hK hD hS hA hT hQ => ?_)
  obtain ⟨hx, hb, hml, hown, hts⟩ := id S
  have hw : ∀ w ∈ wl, w.before args s = true := fun w h => hts w (List.mem_cons_of_mem _ h)
  have hl : lv_has ls 2 [(0, .ref rM), (1, .int (iv (k0)))] := hl
  have n1 := mul_r (a := ac) (b := dn) (A := 4) (B := 4) (by omega) (by omega)
  have n2 : 1 ≤ ac * dn := Int.mul_pos (by omega) (by omega)
  have n3 := sBy_r hok (s := ac * dn) (by omega)
  have n4 := hok.1
  have n5 := hok.2.1
  have n6 : ac * dn * nu / de = sBy nu de (ac * dn) := rfl
  refine lv_aload_n hx hb d_Mod_byteAt_0 rfl (lv_at hl 0 rfl) ?_
  refine lv_iload_n hx hb d_Mod_byteAt_1 rfl (lv_at hl 1 rfl) ?_
  refine k_ciR (k_rv S (c_Mod_isByte l G _ rM rP rk rG rW rK rE rst rev rod rp rb rbl k0 wd ht kd db ew ac dn pr nu de wr rd cn ba sz1 lb rm cu sp nz sl uz hok (by omega) (by omega) hwr (by omega)) 1 m4_207 m4_204 m4_206 mp_51 m1_9 (by decide +kernel) (by decide) rfl rfl (k_preV (q0 := 0) hK hP hD hS hA hT rfl rfl [0] (by decide) rfl) rfl hl.1 rfl (Nat.le_of_ble_eq_true rfl) d_Mod_byteAt_2 ⟨Nat.le_of_ble_eq_true rfl, Nat.le_of_ble_eq_true rfl⟩) (fun r2 h2 => ?_)
  subst h2
  refine k_ifb_eq (tgt := 21) hx hb d_Mod_byteAt_5 (by decide) (fun hc5 => ?_) (fun hc5 => ?_)
  · refine lv_iconst (v := iv (-1)) hx hb d_Mod_byteAt_21 rfl ?_
    exact k_iretR hx hb hr hlk hQ (by first | rw [if_pos (by omega)] | rw [if_neg (by omega)]) d_Mod_byteAt_22
  · refine lv_aload_n hx hb d_Mod_byteAt_8 rfl (lv_at hl 0 rfl) ?_
    refine va_get (D := gD G) (ci := 7) (v := .ref rst) (C := R_Mod) (T := F_Mod) (N := 34) hx hb hw in_Mod hown hK hP 0 rfl rfl 16 (by decide) (hw _ m3_140) (fun _ h => h) rfl d_Mod_byteAt_9 ?_
    refine lv_iload_n hx hb d_Mod_byteAt_12 rfl (lv_at hl 1 rfl) ?_
    refine k_bal hx hb hK hP 1 2 rfl rfl (by decide) (by omega) d_Mod_byteAt_13 ?_
    refine lv_sipush (v := iv (255)) hx hb d_Mod_byteAt_14 rfl ?_
    refine k_iandc 8 256 rfl (by decide) rfl hx hb d_Mod_byteAt_17 ?_
    refine lv_goto (tgt := 22) hx hb d_Mod_byteAt_18 (by decide) ?_
    exact k_iretR hx hb hr hlk hQ (by first | rw [if_pos (by omega)] | rw [if_neg (by omega)]) d_Mod_byteAt_22
abbrev w_Mod_poke : List Cond := Cond.code y_Mod_poke prog_9_method_52_code 3 (some .boolean) :: wl
abbrev r_Mod_poke : Room := { frames := 1, cells := 0, slots := 0, locals := 21 }
set_option maxHeartbeats 4000000 in
set_option maxRecDepth 100000 in
theorem c_Mod_poke (l : Launch) (G : k_G) (sz : Nat) (rM rP rk rG rW rK rE rst rev rod rp rb rbl : Nat) (k0 b0 wd ht kd db ew ac dn pr nu de wr rd cn ba sz1 lb rm cu sp nz sl uz : Int) (g : Int → Int) (hok : okR nu de) (hac : 1 ≤ ac ∧ ac ≤ 4) (hdn : 1 ≤ dn ∧ dn ≤ 4) (hwr : wr = 0 ∨ wr = 1) (h_k0 : -2147483648 ≤ k0 ∧ k0 < 2147483648) (h_b0 : -2147483648 ≤ b0 ∧ b0 < 2147483648) : Met l y_Mod_poke w_Mod_poke r_Mod_poke (k_P G [.ref rM, .int (iv (k0)), .int (iv (b0))] [o_Mod rM wd ht rP rk rG rW rK kd db ew ac dn pr nu de rE rst wr rd rev rod cn rp rb ba sz1 lb rm cu sp nz rbl sl uz, (rst, ai (gB G) 2048 (g))] sz) (qi G (fun (r : Int32) (u : Int × (Int → Int)) => r = iv (u.1) ∧ (u = if (wr = 1 ∧ 0 ≤ k0 ∧ k0 ≤ sBy nu de (ac * dn) - 1) ∧ 0 ≤ b0 ∧ b0 ≤ 255 then (1, up g k0 (b8 b0)) else (0, g))) (fun u : Int × (Int → Int) => [o_Mod rM wd ht rP rk rG rW rK kd db ew ac dn pr nu de rE rst wr rd rev rod cn rp rb ba sz1 lb rm cu sp nz rbl sl uz, (rst, ai (gB G) 2048 (u.2))]) (va_A [o_Mod rM wd ht rP rk rG rW rK kd db ew ac dn pr nu de rE rst wr rd rev rod cn rp rb ba sz1 lb rm cu sp nz rbl sl uz, (rst, ai (gB G) 2048 (g))] sz)) 0 0 (va_A [o_Mod rM wd ht rP rk rG rW rK kd db ew ac dn pr nu de rE rst wr rd rev rod cn rp rb ba sz1 lb rm cu sp nz rbl sl uz, (rst, ai (gB G) 2048 (g))] sz) := by
  refine k_met (fun A => qi G (fun (r : Int32) (u : Int × (Int → Int)) => r = iv (u.1) ∧ (u = if (wr = 1 ∧ 0 ≤ k0 ∧ k0 ≤ sBy nu de (ac * dn) - 1) ∧ 0 ≤ b0 ∧ b0 ≤ 255 then (1, up g k0 (b8 b0)) else (0, g))) (fun u : Int × (Int → Int) => [o_Mod rM wd ht rP rk rG rW rK kd db ew ac dn pr nu de rE rst wr rd rev rod cn rp rb ba sz1 lb rm cu sp nz rbl sl uz, (rst, ai (gB G) 2048 (u.2))]) A) (fun A => A) (by decide) rfl (Nat.le_of_ble_eq_true rfl) (fun p e s m args below meth c ls A Q S hr hlk hnm hl hsz hP hK hD hS hA hT hQ => ?_)
  obtain ⟨hx, hb, hml, hown, hts⟩ := id S
  have hw : ∀ w ∈ wl, w.before args s = true := fun w h => hts w (List.mem_cons_of_mem _ h)
  have hl : lv_has ls 3 [(0, .ref rM), (1, .int (iv (k0))), (2, .int (iv (b0)))] := hl
  have n1 := mul_r (a := ac) (b := dn) (A := 4) (B := 4) (by omega) (by omega)
  have n2 : 1 ≤ ac * dn := Int.mul_pos (by omega) (by omega)
  have n3 := sBy_r hok (s := ac * dn) (by omega)
  have n4 := hok.1
  have n5 := hok.2.1
  have n6 : ac * dn * nu / de = sBy nu de (ac * dn) := rfl
  refine lv_aload_n hx hb d_Mod_poke_0 rfl (lv_at hl 0 rfl) ?_
  refine lv_iload_n hx hb d_Mod_poke_1 rfl (lv_at hl 1 rfl) ?_
  refine k_ciR (k_rv S (c_Mod_isByte l G _ rM rP rk rG rW rK rE rst rev rod rp rb rbl k0 wd ht kd db ew ac dn pr nu de wr rd cn ba sz1 lb rm cu sp nz sl uz hok (by omega) (by omega) hwr (by omega)) 1 m4_207 m4_204 m4_206 mp_51 m1_9 (by decide +kernel) (by decide) rfl rfl (k_preV (q0 := 0) hK hP hD hS hA hT rfl rfl [0] (by decide) rfl) rfl hl.1 rfl (Nat.le_of_ble_eq_true rfl) d_Mod_poke_2 ⟨Nat.le_of_ble_eq_true rfl, Nat.le_of_ble_eq_true rfl⟩) (fun r2 h2 => ?_)
  subst h2
  refine k_ifb_eq (tgt := 19) hx hb d_Mod_poke_5 (by decide) (fun hc5 => ?_) (fun hc5 => ?_)
  · refine lv_iconst (v := iv (0)) hx hb d_Mod_poke_19 rfl ?_
    exact k_zret hx hb hr hlk (by omega) hQ ((0, g)) (⟨rfl, by rw [if_neg (by omega)]⟩) hP hD hS d_Mod_poke_20
  · refine lv_iload_n hx hb d_Mod_poke_8 rfl (lv_at hl 2 rfl) ?_
    refine k_if_lt (tgt := 19) hx hb d_Mod_poke_9 (by decide) (by omega) (fun hc9 => ?_) (fun hc9 => ?_)
    · refine lv_iconst (v := iv (0)) hx hb d_Mod_poke_19 rfl ?_
      exact k_zret hx hb hr hlk (by omega) hQ ((0, g)) (⟨rfl, by rw [if_neg (by omega)]⟩) hP hD hS d_Mod_poke_20
    · refine lv_iload_n hx hb d_Mod_poke_12 rfl (lv_at hl 2 rfl) ?_
      refine lv_sipush (v := iv (255)) hx hb d_Mod_poke_13 rfl ?_
      refine k_icmp_le (tgt := 21) hx hb d_Mod_poke_16 (by decide) (by omega) (by omega) (fun hc16 => ?_) (fun hc16 => ?_)
      · refine lv_aload_n hx hb d_Mod_poke_21 rfl (lv_at hl 0 rfl) ?_
        refine va_get (D := gD G) (ci := 7) (v := .ref rst) (C := R_Mod) (T := F_Mod) (N := 34) hx hb hw in_Mod hown hK hP 0 rfl rfl 16 (by decide) (hw _ m3_140) (fun _ h => h) rfl d_Mod_poke_22 ?_
        refine lv_iload_n hx hb d_Mod_poke_25 rfl (lv_at hl 1 rfl) ?_
        refine lv_iload_n hx hb d_Mod_poke_26 rfl (lv_at hl 2 rfl) ?_
        refine k_i2b hx hb d_Mod_poke_27 ?_
        refine k_bas hx hb hK hP hD hS 1 2 rfl rfl (by decide) (by omega) d_Mod_poke_28 (fun H locs hP hD hS => ?_)
        have hP : va_P (gD G) classes [o_Mod rM wd ht rP rk rG rW rK kd db ew ac dn pr nu de rE rst wr rd rev rod cn rp rb ba sz1 lb rm cu sp nz rbl sl uz, (rst, ai (gB G) 2048 (up g k0 (b8 (b8 b0))))] H := hP
        have hD : va_D A [o_Mod rM wd ht rP rk rG rW rK kd db ew ac dn pr nu de rE rst wr rd rev rod cn rp rb ba sz1 lb rm cu sp nz rbl sl uz, (rst, ai (gB G) 2048 (up g k0 (b8 (b8 b0))))] := hD
        refine lv_iconst (v := iv (1)) hx hb d_Mod_poke_29 rfl ?_
        exact k_zret hx hb hr hlk (by omega) hQ ((1, up g k0 (b8 (b8 b0)))) (⟨rfl, by rw [if_pos (by omega), b8_8]⟩) hP hD hS d_Mod_poke_30
      · refine lv_iconst (v := iv (0)) hx hb d_Mod_poke_19 rfl ?_
        exact k_zret hx hb hr hlk (by omega) hQ ((0, g)) (⟨rfl, by rw [if_neg (by omega)]⟩) hP hD hS d_Mod_poke_20
abbrev w_Mod_index : List Cond := Cond.code y_Mod_index prog_9_method_53_code 2 (some .int) :: wl
abbrev r_Mod_index : Room := { frames := 2, cells := 0, slots := 0, locals := 45 }
set_option maxHeartbeats 4000000 in
set_option maxRecDepth 100000 in
theorem c_Mod_index (l : Launch) (G : k_G) (sz : Nat) (rM rP rk rG rW rK rE rst rev rod rp rb rbl : Nat) (k0 wd ht kd db ew ac dn pr nu de wr rd cn ba sz1 lb rm cu sp nz sl uz : Int) (g : Int → Int) (hok : okR nu de) (hac : 1 ≤ ac ∧ ac ≤ 4) (hdn : 1 ≤ dn ∧ dn ≤ 4) (hwr : wr = 0 ∨ wr = 1) (h_k0 : -2147483648 ≤ k0 ∧ k0 < 2147483648) (hg : ∀ j, -128 ≤ g j ∧ g j ≤ 127) : Met l y_Mod_index w_Mod_index r_Mod_index (k_P G [.ref rM, .int (iv (k0))] [o_Mod rM wd ht rP rk rG rW rK kd db ew ac dn pr nu de rE rst wr rd rev rod cn rp rb ba sz1 lb rm cu sp nz rbl sl uz, (rst, ai (gB G) 2048 (g))] sz) (qi G (fun (r : Int32) (u : Int × Int × Int × Int × Int) => r = iv (u.1) ∧ (u.1 = if wr = 1 ∧ 0 ≤ k0 ∧ k0 ≤ ac * dn - 1 then bsM g (sBy nu de k0) 0 5 else -1)) (fun u : Int × Int × Int × Int × Int => [o_Mod rM wd ht rP rk rG rW rK kd db ew ac dn pr nu de rE rst wr rd rev rod cn rp rb u.2.1 u.2.2.1 u.2.2.2.1 u.2.2.2.2 cu sp nz rbl sl uz, (rst, ai (gB G) 2048 (g))]) (va_A [o_Mod rM wd ht rP rk rG rW rK kd db ew ac dn pr nu de rE rst wr rd rev rod cn rp rb ba sz1 lb rm cu sp nz rbl sl uz, (rst, ai (gB G) 2048 (g))] sz)) 0 0 (va_A [o_Mod rM wd ht rP rk rG rW rK kd db ew ac dn pr nu de rE rst wr rd rev rod cn rp rb ba sz1 lb rm cu sp nz rbl sl uz, (rst, ai (gB G) 2048 (g))] sz) := by
  refine k_met (fun A => qi G (fun (r : Int32) (u : Int × Int × Int × Int × Int) => r = iv (u.1) ∧ (u.1 = if wr = 1 ∧ 0 ≤ k0 ∧ k0 ≤ ac * dn - 1 then bsM g (sBy nu de k0) 0 5 else -1)) (fun u : Int × Int × Int × Int × Int => [o_Mod rM wd ht rP rk rG rW rK kd db ew ac dn pr nu de rE rst wr rd rev rod cn rp rb u.2.1 u.2.2.1 u.2.2.2.1 u.2.2.2.2 cu sp nz rbl sl uz, (rst, ai (gB G) 2048 (g))]) A) (fun A => A) (by decide) rfl (Nat.le_of_ble_eq_true rfl) (fun p e s m args below meth c ls A Q S hr hlk hnm hl hsz hP hK hD hS hA hT hQ => ?_)
  obtain ⟨hx, hb, hml, hown, hts⟩ := id S
  have hw : ∀ w ∈ wl, w.before args s = true := fun w h => hts w (List.mem_cons_of_mem _ h)
  have hl : lv_has ls 2 [(0, .ref rM), (1, .int (iv (k0)))] := hl
  have n1 := mul_r (a := ac) (b := dn) (A := 4) (B := 4) (by omega) (by omega)
  have n2 : 1 ≤ ac * dn := Int.mul_pos (by omega) (by omega)
  have k1 : (0 ≤ k0 ∧ k0 ≤ ac * dn - 1) → 0 ≤ k0 ∧ k0 < 16 := fun h => by omega
  refine lv_aload_n hx hb d_Mod_index_0 rfl (lv_at hl 0 rfl) ?_
  refine lv_iload_n hx hb d_Mod_index_1 rfl (lv_at hl 1 rfl) ?_
  refine k_ciR (k_rv S (c_Mod_isSlice l G _ rM rP rk rG rW rK rE rst rev rod rp rb rbl k0 wd ht kd db ew ac dn pr nu de wr rd cn ba sz1 lb rm cu sp nz sl uz (by omega) (by omega) hwr (by omega)) 1 m4_219 m4_216 m4_218 mp_52 m1_9 (by decide +kernel) (by decide) rfl rfl (k_preV (q0 := 0) hK hP hD hS hA hT rfl rfl [0] (by decide) rfl) rfl hl.1 rfl (Nat.le_of_ble_eq_true rfl) d_Mod_index_2 ⟨Nat.le_of_ble_eq_true rfl, Nat.le_of_ble_eq_true rfl⟩) (fun r2 h2 => ?_)
  subst h2
  refine k_ifb_ne (tgt := 10) hx hb d_Mod_index_5 (by decide) (fun hc5 => ?_) (fun hc5 => ?_)
  · have q1 := sBy_r hok (s := k0) (by omega)
    have q2 := sBy_r hok (s := k0 + 1) (by omega)
    have q3 := sBy_s hok (s := k0)
    refine lv_aload_n hx hb d_Mod_index_10 rfl (lv_at hl 0 rfl) ?_
    refine lv_iload_n hx hb d_Mod_index_11 rfl (lv_at hl 1 rfl) ?_
    refine k_cv (wz := fun u : Int × Int × Int × Int => [o_Mod rM wd ht rP rk rG rW rK kd db ew ac dn pr nu de rE rst wr rd rev rod cn rp rb u.1 u.2.1 u.2.2.1 u.2.2.2 cu sp nz rbl sl uz, (rst, ai (gB G) 2048 (g))]) (wr := [(rst, ai (gB G) 2048 (g))]) (k_rv S (c_Mod_look l G _ rM rP rk rG rW rK rE rst rev rod rp rb rbl k0 wd ht kd db ew ac dn pr nu de wr rd cn ba sz1 lb rm cu sp nz sl uz hok (by omega)) 1 m4_109 m4_106 m4_108 mp_34 m1_9 (by decide +kernel) (by decide) rfl rfl (k_preV (q0 := 0) hK hP hD hS hA hT rfl rfl [0] (by decide) rfl) rfl hl.1 rfl (Nat.le_of_ble_eq_true rfl) d_Mod_index_12 ⟨Nat.le_of_ble_eq_true rfl, Nat.le_of_ble_eq_true rfl⟩) hP hD hS hA [0] [1] [1, 0] rfl rfl (by decide) (by decide) (by decide) (fun _ => rfl) (fun u12 H locs h12 hP hD hS => ?_)
    subst h12
    have hP : va_P (gD G) classes [o_Mod rM wd ht rP rk rG rW rK kd db ew ac dn pr nu de rE rst wr rd rev rod cn rp rb (sBy nu de k0) (sBy nu de (k0 + 1) - sBy nu de k0) (ldI nu de k0) (rmI nu de k0) cu sp nz rbl sl uz, (rst, ai (gB G) 2048 (g))] H := hP
    have hD : va_D A [o_Mod rM wd ht rP rk rG rW rK kd db ew ac dn pr nu de rE rst wr rd rev rod cn rp rb (sBy nu de k0) (sBy nu de (k0 + 1) - sBy nu de k0) (ldI nu de k0) (rmI nu de k0) cu sp nz rbl sl uz, (rst, ai (gB G) 2048 (g))] := hD
    refine lv_aload_n hx hb d_Mod_index_15 rfl (lv_at hl 0 rfl) ?_
    refine lv_iconst (v := iv (0)) hx hb d_Mod_index_16 rfl ?_
    refine lv_iconst (v := iv (5)) hx hb d_Mod_index_17 rfl ?_
    refine k_ciR (k_rv S (c_Mod_bitsAt l G _ rM rP rk rG rW rK rE rst rev rod rp rb rbl 0 5 wd ht kd db ew ac dn pr nu de wr rd cn (sBy nu de k0) (sBy nu de (k0 + 1) - sBy nu de k0) (ldI nu de k0) (rmI nu de k0) cu sp nz sl uz g hg (by omega) (by omega)) 2 m4_187 m4_184 m4_186 mp_47 m1_9 (by decide +kernel) (by decide) rfl rfl (k_preV (q0 := 0) hK hP hD hS hA hT rfl rfl [0, 1] (by decide) rfl) rfl hl.1 rfl (Nat.le_of_ble_eq_true rfl) d_Mod_index_18 ⟨Nat.le_of_ble_eq_true rfl, Nat.le_of_ble_eq_true rfl⟩) (fun r18 h18 => ?_)
    subst h18
    exact k_iret hx hb hr hlk hQ ((bsM g (sBy nu de k0) 0 5, sBy nu de k0, sBy nu de (k0 + 1) - sBy nu de k0, ldI nu de k0, rmI nu de k0)) (⟨rfl, by first | rw [if_pos (by omega)] | rw [if_neg (by omega)]⟩) hP hD hS d_Mod_index_21
  · refine lv_iconst (v := iv (-1)) hx hb d_Mod_index_8 rfl ?_
    exact k_iret hx hb hr hlk hQ (((-1), ba, sz1, lb, rm)) (⟨rfl, by first | rw [if_pos (by omega)] | rw [if_neg (by omega)]⟩) hP hD hS d_Mod_index_9
abbrev w_Mod_used : List Cond := Cond.code y_Mod_used prog_9_method_54_code 2 (some .int) :: wl
abbrev r_Mod_used : Room := { frames := 3, cells := 0, slots := 0, locals := 67 }
set_option maxHeartbeats 4000000 in
set_option maxRecDepth 100000 in
theorem c_Mod_used (l : Launch) (G : k_G) (sz : Nat) (rM rP rk rG rW rK rE rst rev rod rp rb rbl : Nat) (k0 wd ht kd db ew ac dn pr nu de wr rd cn ba sz1 lb rm cu sp nz sl uz : Int) (g : Int → Int) (hok : okR nu de) (hac : 1 ≤ ac ∧ ac ≤ 4) (hdn : 1 ≤ dn ∧ dn ≤ 4) (hwr : wr = 0 ∨ wr = 1) (h_k0 : -2147483648 ≤ k0 ∧ k0 < 2147483648) (hg : ∀ j, -128 ≤ g j ∧ g j ≤ 127) : Met l y_Mod_used w_Mod_used r_Mod_used (k_P G [.ref rM, .int (iv (k0))] [o_Mod rM wd ht rP rk rG rW rK kd db ew ac dn pr nu de rE rst wr rd rev rod cn rp rb ba sz1 lb rm cu sp nz rbl sl uz, (rst, ai (gB G) 2048 (g))] sz) (qi G (fun (r : Int32) (u : Int × Int × Int × Int × Int) => r = iv (u.1) ∧ (u.1 = if wr = 1 ∧ 0 ≤ k0 ∧ k0 ≤ ac * dn - 1 then lnM g nu de k0 else -1)) (fun u : Int × Int × Int × Int × Int => [o_Mod rM wd ht rP rk rG rW rK kd db ew ac dn pr nu de rE rst wr rd rev rod cn rp rb u.2.1 u.2.2.1 u.2.2.2.1 u.2.2.2.2 cu sp nz rbl sl uz, (rst, ai (gB G) 2048 (g))]) (va_A [o_Mod rM wd ht rP rk rG rW rK kd db ew ac dn pr nu de rE rst wr rd rev rod cn rp rb ba sz1 lb rm cu sp nz rbl sl uz, (rst, ai (gB G) 2048 (g))] sz)) 0 0 (va_A [o_Mod rM wd ht rP rk rG rW rK kd db ew ac dn pr nu de rE rst wr rd rev rod cn rp rb ba sz1 lb rm cu sp nz rbl sl uz, (rst, ai (gB G) 2048 (g))] sz) := by
  refine k_met (fun A => qi G (fun (r : Int32) (u : Int × Int × Int × Int × Int) => r = iv (u.1) ∧ (u.1 = if wr = 1 ∧ 0 ≤ k0 ∧ k0 ≤ ac * dn - 1 then lnM g nu de k0 else -1)) (fun u : Int × Int × Int × Int × Int => [o_Mod rM wd ht rP rk rG rW rK kd db ew ac dn pr nu de rE rst wr rd rev rod cn rp rb u.2.1 u.2.2.1 u.2.2.2.1 u.2.2.2.2 cu sp nz rbl sl uz, (rst, ai (gB G) 2048 (g))]) A) (fun A => A) (by decide) rfl (Nat.le_of_ble_eq_true rfl) (fun p e s m args below meth c ls A Q S hr hlk hnm hl hsz hP hK hD hS hA hT hQ => ?_)
  obtain ⟨hx, hb, hml, hown, hts⟩ := id S
  have hw : ∀ w ∈ wl, w.before args s = true := fun w h => hts w (List.mem_cons_of_mem _ h)
  have hl : lv_has ls 2 [(0, .ref rM), (1, .int (iv (k0)))] := hl
  have n1 := mul_r (a := ac) (b := dn) (A := 4) (B := 4) (by omega) (by omega)
  have n2 : 1 ≤ ac * dn := Int.mul_pos (by omega) (by omega)
  have k1 : (0 ≤ k0 ∧ k0 ≤ ac * dn - 1) → 0 ≤ k0 ∧ k0 < 16 := fun h => by omega
  refine lv_aload_n hx hb d_Mod_used_0 rfl (lv_at hl 0 rfl) ?_
  refine lv_iload_n hx hb d_Mod_used_1 rfl (lv_at hl 1 rfl) ?_
  refine k_ciR (k_rv S (c_Mod_isSlice l G _ rM rP rk rG rW rK rE rst rev rod rp rb rbl k0 wd ht kd db ew ac dn pr nu de wr rd cn ba sz1 lb rm cu sp nz sl uz (by omega) (by omega) hwr (by omega)) 1 m4_219 m4_216 m4_218 mp_52 m1_9 (by decide +kernel) (by decide) rfl rfl (k_preV (q0 := 0) hK hP hD hS hA hT rfl rfl [0] (by decide) rfl) rfl hl.1 rfl (Nat.le_of_ble_eq_true rfl) d_Mod_used_2 ⟨Nat.le_of_ble_eq_true rfl, Nat.le_of_ble_eq_true rfl⟩) (fun r2 h2 => ?_)
  subst h2
  refine k_ifb_eq (tgt := 16) hx hb d_Mod_used_5 (by decide) (fun hc5 => ?_) (fun hc5 => ?_)
  · refine lv_iconst (v := iv (-1)) hx hb d_Mod_used_16 rfl ?_
    exact k_iret hx hb hr hlk hQ (((-1), ba, sz1, lb, rm)) (⟨rfl, by first | rw [if_pos (by omega)] | rw [if_neg (by omega)]⟩) hP hD hS d_Mod_used_17
  · refine lv_aload_n hx hb d_Mod_used_8 rfl (lv_at hl 0 rfl) ?_
    refine lv_iload_n hx hb d_Mod_used_9 rfl (lv_at hl 1 rfl) ?_
    refine k_ci (wz := fun u : Int × Int × Int × Int × Int => [o_Mod rM wd ht rP rk rG rW rK kd db ew ac dn pr nu de rE rst wr rd rev rod cn rp rb u.2.1 u.2.2.1 u.2.2.2.1 u.2.2.2.2 cu sp nz rbl sl uz, (rst, ai (gB G) 2048 (g))]) (wr := []) (k_rv S (c_Mod_lengthOf l G _ rM rP rk rG rW rK rE rst rev rod rp rb rbl k0 wd ht kd db ew ac dn pr nu de wr rd cn ba sz1 lb rm cu sp nz sl uz g hok (by omega) hg) 1 m4_183 m4_180 m4_182 mp_46 m1_9 (by decide +kernel) (by decide) rfl rfl (k_preV (q0 := 0) hK hP hD hS hA hT rfl rfl [0, 1] (by decide) rfl) rfl hl.1 rfl (Nat.le_of_ble_eq_true rfl) d_Mod_used_10 ⟨Nat.le_of_ble_eq_true rfl, Nat.le_of_ble_eq_true rfl⟩) hP hD hS hA [0, 1] [] [0, 1] rfl rfl (by decide) (by decide) (by decide) (fun _ => rfl) (fun r10 u10 H locs h10 hP hD hS => ?_)
    obtain ⟨hr10, h10⟩ := h10
    subst h10
    subst hr10
    have hP : va_P (gD G) classes [o_Mod rM wd ht rP rk rG rW rK kd db ew ac dn pr nu de rE rst wr rd rev rod cn rp rb (sBy nu de k0) (sBy nu de (k0 + 1) - sBy nu de k0) (ldI nu de k0) (rmI nu de k0) cu sp nz rbl sl uz, (rst, ai (gB G) 2048 (g))] H := hP
    have hD : va_D A [o_Mod rM wd ht rP rk rG rW rK kd db ew ac dn pr nu de rE rst wr rd rev rod cn rp rb (sBy nu de k0) (sBy nu de (k0 + 1) - sBy nu de k0) (ldI nu de k0) (rmI nu de k0) cu sp nz rbl sl uz, (rst, ai (gB G) 2048 (g))] := hD
    refine lv_goto (tgt := 17) hx hb d_Mod_used_13 (by decide) ?_
    exact k_iret hx hb hr hlk hQ ((lnM g nu de k0, sBy nu de k0, sBy nu de (k0 + 1) - sBy nu de k0, ldI nu de k0, rmI nu de k0)) (⟨rfl, by first | rw [if_pos (by omega)] | rw [if_neg (by omega)]⟩) hP hD hS d_Mod_used_17
abbrev w_Mod_nonzero : List Cond := Cond.code y_Mod_nonzero prog_9_method_55_code 2 (some .int) :: wl
abbrev r_Mod_nonzero : Room := { frames := 4, cells := 0, slots := 0, locals := 103 }
set_option maxHeartbeats 4000000 in
set_option maxRecDepth 100000 in
theorem c_Mod_nonzero (l : Launch) (G : k_G) (sz : Nat) (rM rP rk rG rW rK rE rst rev rod rp rb rbl : Nat) (k0 wd ht kd db ew ac dn pr nu de wr rd cn ba sz1 lb rm cu sp nz sl uz : Int) (gp gb g es : Int → Int) (gv : Int → Int64) (hde : 0 ≤ db ∧ db ≤ 2 ∧ 0 ≤ ew ∧ ew ≤ 2 ∧ db + ew ≤ 3) (hwd : 1 ≤ wd ∧ wd ≤ 16) (hht : 1 ≤ ht ∧ ht ≤ 16) (hok : okR nu de) (hac : 1 ≤ ac ∧ ac ≤ 4) (hdn : 1 ≤ dn ∧ dn ≤ 4) (hwr : wr = 0 ∨ wr = 1) (h_k0 : -2147483648 ≤ k0 ∧ k0 < 2147483648) (hg : ∀ j, -128 ≤ g j ∧ g j ≤ 127) (hes : ∀ b, 0 ≤ b → b < 8 → 0 ≤ es b ∧ es b ≤ 15) (hpr : pr = 0 ∨ pr = 1) (hgv : ∀ j, bd 134217728 (gv j)) : Met l y_Mod_nonzero w_Mod_nonzero r_Mod_nonzero (k_P G [.ref rM, .int (iv (k0))] [o_Mod rM wd ht rP rk rG rW rK kd db ew ac dn pr nu de rE rst wr rd rev rod cn rp rb ba sz1 lb rm cu sp nz rbl sl uz, (rp, ai (gI G) 256 (gp)), (rb, ai (gI G) 256 (gb)), (rst, ai (gB G) 2048 (g)), (rE, ai (gI G) 8 (es)), (rW, al (gL G) 256 (gv))] sz) (qi G (fun (r : Int32) (u : Int × Int × (Int → Int) × (Int → Int) × Int × Int × Int × Int × Int × Int × Int × (Int → Int64)) => r = iv (u.1) ∧ (u.1 = (if wr = 1 ∧ 0 ≤ k0 ∧ k0 ≤ ac * dn - 1 then (rmA g nu de pr es k0 (it (lsB (lmI wd (2 ^ (db + ew).toNat)) (lmI ht (2 ^ db.toNat)) db ew ac dn k0) 0 (nBd db ew) (0, gp, gb)) gv).1 else -1) ∧ ∀ j, bd 134217728 (u.2.2.2.2.2.2.2.2.2.2.2 j))) (fun u : Int × Int × (Int → Int) × (Int → Int) × Int × Int × Int × Int × Int × Int × Int × (Int → Int64) => [o_Mod rM wd ht rP rk rG rW rK kd db ew ac dn pr nu de rE rst wr rd rev rod u.2.1 rp rb u.2.2.2.2.1 u.2.2.2.2.2.1 u.2.2.2.2.2.2.1 u.2.2.2.2.2.2.2.1 u.2.2.2.2.2.2.2.2.1 u.2.2.2.2.2.2.2.2.2.1 u.2.2.2.2.2.2.2.2.2.2.1 rbl sl uz, (rp, ai (gI G) 256 (u.2.2.1)), (rb, ai (gI G) 256 (u.2.2.2.1)), (rst, ai (gB G) 2048 (g)), (rE, ai (gI G) 8 (es)), (rW, al (gL G) 256 (u.2.2.2.2.2.2.2.2.2.2.2))]) (va_A [o_Mod rM wd ht rP rk rG rW rK kd db ew ac dn pr nu de rE rst wr rd rev rod cn rp rb ba sz1 lb rm cu sp nz rbl sl uz, (rp, ai (gI G) 256 (gp)), (rb, ai (gI G) 256 (gb)), (rst, ai (gB G) 2048 (g)), (rE, ai (gI G) 8 (es)), (rW, al (gL G) 256 (gv))] sz)) 0 0 (va_A [o_Mod rM wd ht rP rk rG rW rK kd db ew ac dn pr nu de rE rst wr rd rev rod cn rp rb ba sz1 lb rm cu sp nz rbl sl uz, (rp, ai (gI G) 256 (gp)), (rb, ai (gI G) 256 (gb)), (rst, ai (gB G) 2048 (g)), (rE, ai (gI G) 8 (es)), (rW, al (gL G) 256 (gv))] sz) := by
  refine k_met (fun A => qi G (fun (r : Int32) (u : Int × Int × (Int → Int) × (Int → Int) × Int × Int × Int × Int × Int × Int × Int × (Int → Int64)) => r = iv (u.1) ∧ (u.1 = (if wr = 1 ∧ 0 ≤ k0 ∧ k0 ≤ ac * dn - 1 then (rmA g nu de pr es k0 (it (lsB (lmI wd (2 ^ (db + ew).toNat)) (lmI ht (2 ^ db.toNat)) db ew ac dn k0) 0 (nBd db ew) (0, gp, gb)) gv).1 else -1) ∧ ∀ j, bd 134217728 (u.2.2.2.2.2.2.2.2.2.2.2 j))) (fun u : Int × Int × (Int → Int) × (Int → Int) × Int × Int × Int × Int × Int × Int × Int × (Int → Int64) => [o_Mod rM wd ht rP rk rG rW rK kd db ew ac dn pr nu de rE rst wr rd rev rod u.2.1 rp rb u.2.2.2.2.1 u.2.2.2.2.2.1 u.2.2.2.2.2.2.1 u.2.2.2.2.2.2.2.1 u.2.2.2.2.2.2.2.2.1 u.2.2.2.2.2.2.2.2.2.1 u.2.2.2.2.2.2.2.2.2.2.1 rbl sl uz, (rp, ai (gI G) 256 (u.2.2.1)), (rb, ai (gI G) 256 (u.2.2.2.1)), (rst, ai (gB G) 2048 (g)), (rE, ai (gI G) 8 (es)), (rW, al (gL G) 256 (u.2.2.2.2.2.2.2.2.2.2.2))]) A) (fun A => A) (by decide) rfl (Nat.le_of_ble_eq_true rfl) (fun p e s m args below meth c ls A Q S hr hlk hnm hl hsz hP hK hD hS hA hT hQ => ?_)
  obtain ⟨hx, hb, hml, hown, hts⟩ := id S
  have hw : ∀ w ∈ wl, w.before args s = true := fun w h => hts w (List.mem_cons_of_mem _ h)
  have hl : lv_has ls 2 [(0, .ref rM), (1, .int (iv (k0)))] := hl
  have n1 := mul_r (a := ac) (b := dn) (A := 4) (B := 4) (by omega) (by omega)
  have n2 : 1 ≤ ac * dn := Int.mul_pos (by omega) (by omega)
  have k1 : (0 ≤ k0 ∧ k0 ≤ ac * dn - 1) → 0 ≤ k0 ∧ k0 < 16 := fun h => by omega
  refine lv_aload_n hx hb d_Mod_nonzero_0 rfl (lv_at hl 0 rfl) ?_
  refine lv_iload_n hx hb d_Mod_nonzero_1 rfl (lv_at hl 1 rfl) ?_
  refine k_ciR (k_rv S (c_Mod_isSlice l G _ rM rP rk rG rW rK rE rst rev rod rp rb rbl k0 wd ht kd db ew ac dn pr nu de wr rd cn ba sz1 lb rm cu sp nz sl uz (by omega) (by omega) hwr (by omega)) 1 m4_219 m4_216 m4_218 mp_52 m1_9 (by decide +kernel) (by decide) rfl rfl (k_preV (q0 := 0) hK hP hD hS hA hT rfl rfl [0] (by decide) rfl) rfl hl.1 rfl (Nat.le_of_ble_eq_true rfl) d_Mod_nonzero_2 ⟨Nat.le_of_ble_eq_true rfl, Nat.le_of_ble_eq_true rfl⟩) (fun r2 h2 => ?_)
  subst h2
  refine k_ifb_ne (tgt := 10) hx hb d_Mod_nonzero_5 (by decide) (fun hc5 => ?_) (fun hc5 => ?_)
  · refine lv_aload_n hx hb d_Mod_nonzero_10 rfl (lv_at hl 0 rfl) ?_
    refine lv_iload_n hx hb d_Mod_nonzero_11 rfl (lv_at hl 1 rfl) ?_
    refine k_cv (wz := fun u : Int × (Int → Int) × (Int → Int) × Int × Int × Int × Int × Int × Int × Int × (Int → Int64) => [o_Mod rM wd ht rP rk rG rW rK kd db ew ac dn pr nu de rE rst wr rd rev rod u.1 rp rb u.2.2.2.1 u.2.2.2.2.1 u.2.2.2.2.2.1 u.2.2.2.2.2.2.1 u.2.2.2.2.2.2.2.1 u.2.2.2.2.2.2.2.2.1 u.2.2.2.2.2.2.2.2.2.1 rbl sl uz, (rp, ai (gI G) 256 (u.2.1)), (rb, ai (gI G) 256 (u.2.2.1)), (rst, ai (gB G) 2048 (g)), (rE, ai (gI G) 8 (es)), (rW, al (gL G) 256 (u.2.2.2.2.2.2.2.2.2.2))]) (wr := []) (k_rv S (c_Mod_read l G _ rM rP rk rG rW rK rE rst rev rod rp rb rbl k0 wd ht kd db ew ac dn pr nu de wr rd cn ba sz1 lb rm cu sp nz sl uz gp gb g es gv (by assumption) (by assumption) (by assumption) (by assumption) (by assumption) (by omega) (by assumption) (by assumption) (by assumption) (by assumption)) 1 m4_179 m4_176 m4_178 mp_45 m1_9 (by decide +kernel) (by decide) rfl rfl (k_preV (q0 := 0) hK hP hD hS hA hT rfl rfl [0, 1, 2, 3, 4, 5] (by decide) rfl) rfl hl.1 rfl (Nat.le_of_ble_eq_true rfl) d_Mod_nonzero_12 ⟨Nat.le_of_ble_eq_true rfl, Nat.le_of_ble_eq_true rfl⟩) hP hD hS hA [0, 1, 2, 3, 4, 5] [] [0, 1, 2, 3, 4, 5] rfl rfl (by decide) (by decide) (by decide) (fun _ => rfl) (fun u12 H locs h12 hP hD hS => ?_)
    subst h12
    have hP : va_P (gD G) classes [o_Mod rM wd ht rP rk rG rW rK kd db ew ac dn pr nu de rE rst wr rd rev rod ((it (lsB (lmI wd (2 ^ (db + ew).toNat)) (lmI ht (2 ^ db.toNat)) db ew ac dn k0) 0 (nBd db ew) (0, gp, gb)).1) rp rb (sBy nu de k0) (sBy nu de (k0 + 1) - sBy nu de k0) (ldI nu de k0) (rmI nu de k0) ((rmA g nu de pr es k0 (it (lsB (lmI wd (2 ^ (db + ew).toNat)) (lmI ht (2 ^ db.toNat)) db ew ac dn k0) 0 (nBd db ew) (0, gp, gb)) gv).2.1) (5 + ldI nu de k0 + lnM g nu de k0) ((rmA g nu de pr es k0 (it (lsB (lmI wd (2 ^ (db + ew).toNat)) (lmI ht (2 ^ db.toNat)) db ew ac dn k0) 0 (nBd db ew) (0, gp, gb)) gv).1) rbl sl uz, (rp, ai (gI G) 256 ((it (lsB (lmI wd (2 ^ (db + ew).toNat)) (lmI ht (2 ^ db.toNat)) db ew ac dn k0) 0 (nBd db ew) (0, gp, gb)).2.1)), (rb, ai (gI G) 256 ((it (lsB (lmI wd (2 ^ (db + ew).toNat)) (lmI ht (2 ^ db.toNat)) db ew ac dn k0) 0 (nBd db ew) (0, gp, gb)).2.2)), (rst, ai (gB G) 2048 (g)), (rE, ai (gI G) 8 (es)), (rW, al (gL G) 256 ((rmA g nu de pr es k0 (it (lsB (lmI wd (2 ^ (db + ew).toNat)) (lmI ht (2 ^ db.toNat)) db ew ac dn k0) 0 (nBd db ew) (0, gp, gb)) gv).2.2))] H := hP
    have hD : va_D A [o_Mod rM wd ht rP rk rG rW rK kd db ew ac dn pr nu de rE rst wr rd rev rod ((it (lsB (lmI wd (2 ^ (db + ew).toNat)) (lmI ht (2 ^ db.toNat)) db ew ac dn k0) 0 (nBd db ew) (0, gp, gb)).1) rp rb (sBy nu de k0) (sBy nu de (k0 + 1) - sBy nu de k0) (ldI nu de k0) (rmI nu de k0) ((rmA g nu de pr es k0 (it (lsB (lmI wd (2 ^ (db + ew).toNat)) (lmI ht (2 ^ db.toNat)) db ew ac dn k0) 0 (nBd db ew) (0, gp, gb)) gv).2.1) (5 + ldI nu de k0 + lnM g nu de k0) ((rmA g nu de pr es k0 (it (lsB (lmI wd (2 ^ (db + ew).toNat)) (lmI ht (2 ^ db.toNat)) db ew ac dn k0) 0 (nBd db ew) (0, gp, gb)) gv).1) rbl sl uz, (rp, ai (gI G) 256 ((it (lsB (lmI wd (2 ^ (db + ew).toNat)) (lmI ht (2 ^ db.toNat)) db ew ac dn k0) 0 (nBd db ew) (0, gp, gb)).2.1)), (rb, ai (gI G) 256 ((it (lsB (lmI wd (2 ^ (db + ew).toNat)) (lmI ht (2 ^ db.toNat)) db ew ac dn k0) 0 (nBd db ew) (0, gp, gb)).2.2)), (rst, ai (gB G) 2048 (g)), (rE, ai (gI G) 8 (es)), (rW, al (gL G) 256 ((rmA g nu de pr es k0 (it (lsB (lmI wd (2 ^ (db + ew).toNat)) (lmI ht (2 ^ db.toNat)) db ew ac dn k0) 0 (nBd db ew) (0, gp, gb)) gv).2.2))] := hD
    refine lv_aload_n hx hb d_Mod_nonzero_15 rfl (lv_at hl 0 rfl) ?_
    refine va_get (D := gD G) (ci := 7) (v := .int (iv ((rmA g nu de pr es k0 (it (lsB (lmI wd (2 ^ (db + ew).toNat)) (lmI ht (2 ^ db.toNat)) db ew ac dn k0) 0 (nBd db ew) (0, gp, gb)) gv).1))) (C := R_Mod) (T := F_Mod) (N := 34) hx hb hw in_Mod hown hK hP 0 rfl rfl 30 (by decide) (hw _ m3_154) (fun _ h => h) rfl d_Mod_nonzero_16 ?_
    exact k_iret hx hb hr hlk hQ (((rmA g nu de pr es k0 (it (lsB (lmI wd (2 ^ (db + ew).toNat)) (lmI ht (2 ^ db.toNat)) db ew ac dn k0) 0 (nBd db ew) (0, gp, gb)) gv).1, (it (lsB (lmI wd (2 ^ (db + ew).toNat)) (lmI ht (2 ^ db.toNat)) db ew ac dn k0) 0 (nBd db ew) (0, gp, gb)).1, (it (lsB (lmI wd (2 ^ (db + ew).toNat)) (lmI ht (2 ^ db.toNat)) db ew ac dn k0) 0 (nBd db ew) (0, gp, gb)).2.1, (it (lsB (lmI wd (2 ^ (db + ew).toNat)) (lmI ht (2 ^ db.toNat)) db ew ac dn k0) 0 (nBd db ew) (0, gp, gb)).2.2, sBy nu de k0, sBy nu de (k0 + 1) - sBy nu de k0, ldI nu de k0, rmI nu de k0, (rmA g nu de pr es k0 (it (lsB (lmI wd (2 ^ (db + ew).toNat)) (lmI ht (2 ^ db.toNat)) db ew ac dn k0) 0 (nBd db ew) (0, gp, gb)) gv).2.1, 5 + ldI nu de k0 + lnM g nu de k0, (rmA g nu de pr es k0 (it (lsB (lmI wd (2 ^ (db + ew).toNat)) (lmI ht (2 ^ db.toNat)) db ew ac dn k0) 0 (nBd db ew) (0, gp, gb)) gv).1, (rmA g nu de pr es k0 (it (lsB (lmI wd (2 ^ (db + ew).toNat)) (lmI ht (2 ^ db.toNat)) db ew ac dn k0) 0 (nBd db ew) (0, gp, gb)) gv).2.2)) (⟨rfl, by first | (rw [if_pos (by omega)]; exact ⟨rfl, rmA_b hgv⟩) | (rw [if_neg (by omega)]; exact ⟨rfl, hgv⟩)⟩) hP hD hS d_Mod_nonzero_19
  · refine lv_iconst (v := iv (-1)) hx hb d_Mod_nonzero_8 rfl ?_
    exact k_iret hx hb hr hlk hQ (((-1), cn, gp, gb, ba, sz1, lb, rm, cu, sp, nz, gv)) (⟨rfl, by first | (rw [if_pos (by omega)]; exact ⟨rfl, rmA_b hgv⟩) | (rw [if_neg (by omega)]; exact ⟨rfl, hgv⟩)⟩) hP hD hS d_Mod_nonzero_9
abbrev w_Mod_decode : List Cond := Cond.code y_Mod_decode prog_9_method_56_code 4 (some .int) :: wl
abbrev r_Mod_decode : Room := { frames := 6, cells := 0, slots := 0, locals := 165 }
set_option maxHeartbeats 4000000 in
set_option maxRecDepth 100000 in
theorem c_Mod_decode (l : Launch) (G : k_G) (sz : Nat) (rM rP rk rG rW rK rE rst rev rod rp rb rbl : Nat) (wd ht kd db ew ac dn pr nu de wr rd cn ba sz1 lb rm cu sp nz sl uz : Int) (pic gp gb g es kb : Int → Int) (gg ge go gv kk : Int → Int64) (hde : 0 ≤ db ∧ db ≤ 2 ∧ 0 ≤ ew ∧ ew ≤ 2 ∧ db + ew ≤ 3) (hwd : 1 ≤ wd ∧ wd ≤ 16) (hht : 1 ≤ ht ∧ ht ≤ 16) (hac : 1 ≤ ac ∧ ac ≤ 4) (hdn : 1 ≤ dn ∧ dn ≤ 4) (hok : okR nu de) (hkd : 0 ≤ kd ∧ kd ≤ 6) (hpic : ∀ j, -128 ≤ pic j ∧ pic j ≤ 127) (hg : ∀ j, -128 ≤ g j ∧ g j ≤ 127) (hes : ∀ b, 0 ≤ b → b < 8 → 0 ≤ es b ∧ es b ≤ 15) (hpr : pr = 0 ∨ pr = 1) (hgv : ∀ j, bd 134217728 (gv j)) (hwr : wr = 0 ∨ wr = 1) : Met l y_Mod_decode w_Mod_decode r_Mod_decode (k_P G [.ref rM] [o_Mod rM wd ht rP rk rG rW rK kd db ew ac dn pr nu de rE rst wr rd rev rod cn rp rb ba sz1 lb rm cu sp nz rbl sl uz, (rG, al (gL G) 256 (gg)), (rev, al (gL G) 8 (ge)), (rod, al (gL G) 8 (go)), (rP, ai (gI G) 256 (pic)), (rp, ai (gI G) 256 (gp)), (rb, ai (gI G) 256 (gb)), (rst, ai (gB G) 2048 (g)), (rE, ai (gI G) 8 (es)), (rW, al (gL G) 256 (gv)), (rK, al (gL G) 256 (kk)), (rk, ai (gI G) 256 (kb))] sz) (qi G (fun (r : Int32) (u : Int × Int × (Int → Int) × (Int → Int) × Int × Int × Int × Int × Int × Int × Int × (Int → Int64) × (Int → Int64) × (Int → Int64) × (Int → Int64) × (Int → Int64) × (Int → Int) × Int) => r = iv (u.1) ∧ (if wr = 1 then (u.2.2.2.2.2.2.2.2.2.2.2.1, u.2.2.1, u.2.2.2.1) = it (rdf g (lmI wd (2 ^ (db + ew).toNat)) (lmI ht (2 ^ db.toNat)) db ew ac dn nu de pr es) 0 (ac * dn) (gv, gp, gb) ∧ u.2.2.2.2.2.2.2.2.2.2.2.2.1 = it (kpf (lmI wd (2 ^ (db + ew).toNat)) (lmI ht (2 ^ db.toNat)) u.2.2.2.2.2.2.2.2.2.2.2.1) 0 256 kk ∧ u.2.2.2.2.2.2.2.2.2.2.2.2.2.2.2.2.1 = it (bkf wd ht (bmW (lmI wd (2 ^ (db + ew).toNat)) (lmI ht (2 ^ db.toNat)) db ew kd (it (kpf (lmI wd (2 ^ (db + ew).toNat)) (lmI ht (2 ^ db.toNat)) u.2.2.2.2.2.2.2.2.2.2.2.1) 0 256 gg, ge, go)).1) 0 256 kb ∧ u.1 = it (cmf wd ht (bmW (lmI wd (2 ^ (db + ew).toNat)) (lmI ht (2 ^ db.toNat)) db ew kd (it (kpf (lmI wd (2 ^ (db + ew).toNat)) (lmI ht (2 ^ db.toNat)) u.2.2.2.2.2.2.2.2.2.2.2.1) 0 256 gg, ge, go)).1 pic) 0 256 0 ∧ u.2.2.2.2.2.2.2.2.2.2.2.2.2.2.2.2.2 = 1 ∧ (∀ j, bd 134217728 (u.2.2.2.2.2.2.2.2.2.2.2.1 j)) else u.1 = -1 ∧ u.2.2.2.2.2.2.2.2.2.2.2.1 = gv ∧ u.2.2.2.2.2.2.2.2.2.2.2.2.1 = kk ∧ u.2.2.2.2.2.2.2.2.2.2.2.2.2.2.2.2.1 = kb ∧ u.2.2.2.2.2.2.2.2.2.2.2.2.2.2.2.2.2 = rd)) (fun u : Int × Int × (Int → Int) × (Int → Int) × Int × Int × Int × Int × Int × Int × Int × (Int → Int64) × (Int → Int64) × (Int → Int64) × (Int → Int64) × (Int → Int64) × (Int → Int) × Int => [o_Mod rM wd ht rP rk rG rW rK kd db ew ac dn pr nu de rE rst wr u.2.2.2.2.2.2.2.2.2.2.2.2.2.2.2.2.2 rev rod u.2.1 rp rb u.2.2.2.2.1 u.2.2.2.2.2.1 u.2.2.2.2.2.2.1 u.2.2.2.2.2.2.2.1 u.2.2.2.2.2.2.2.2.1 u.2.2.2.2.2.2.2.2.2.1 u.2.2.2.2.2.2.2.2.2.2.1 rbl sl uz, (rG, al (gL G) 256 (u.2.2.2.2.2.2.2.2.2.2.2.2.2.1)), (rev, al (gL G) 8 (u.2.2.2.2.2.2.2.2.2.2.2.2.2.2.1)), (rod, al (gL G) 8 (u.2.2.2.2.2.2.2.2.2.2.2.2.2.2.2.1)), (rP, ai (gI G) 256 (pic)), (rp, ai (gI G) 256 (u.2.2.1)), (rb, ai (gI G) 256 (u.2.2.2.1)), (rst, ai (gB G) 2048 (g)), (rE, ai (gI G) 8 (es)), (rW, al (gL G) 256 (u.2.2.2.2.2.2.2.2.2.2.2.1)), (rK, al (gL G) 256 (u.2.2.2.2.2.2.2.2.2.2.2.2.1)), (rk, ai (gI G) 256 (u.2.2.2.2.2.2.2.2.2.2.2.2.2.2.2.2.1))]) (va_A [o_Mod rM wd ht rP rk rG rW rK kd db ew ac dn pr nu de rE rst wr rd rev rod cn rp rb ba sz1 lb rm cu sp nz rbl sl uz, (rG, al (gL G) 256 (gg)), (rev, al (gL G) 8 (ge)), (rod, al (gL G) 8 (go)), (rP, ai (gI G) 256 (pic)), (rp, ai (gI G) 256 (gp)), (rb, ai (gI G) 256 (gb)), (rst, ai (gB G) 2048 (g)), (rE, ai (gI G) 8 (es)), (rW, al (gL G) 256 (gv)), (rK, al (gL G) 256 (kk)), (rk, ai (gI G) 256 (kb))] sz)) 0 0 (va_A [o_Mod rM wd ht rP rk rG rW rK kd db ew ac dn pr nu de rE rst wr rd rev rod cn rp rb ba sz1 lb rm cu sp nz rbl sl uz, (rG, al (gL G) 256 (gg)), (rev, al (gL G) 8 (ge)), (rod, al (gL G) 8 (go)), (rP, ai (gI G) 256 (pic)), (rp, ai (gI G) 256 (gp)), (rb, ai (gI G) 256 (gb)), (rst, ai (gB G) 2048 (g)), (rE, ai (gI G) 8 (es)), (rW, al (gL G) 256 (gv)), (rK, al (gL G) 256 (kk)), (rk, ai (gI G) 256 (kb))] sz) := by
  refine k_met (fun A => qi G (fun (r : Int32) (u : Int × Int × (Int → Int) × (Int → Int) × Int × Int × Int × Int × Int × Int × Int × (Int → Int64) × (Int → Int64) × (Int → Int64) × (Int → Int64) × (Int → Int64) × (Int → Int) × Int) => r = iv (u.1) ∧ (if wr = 1 then (u.2.2.2.2.2.2.2.2.2.2.2.1, u.2.2.1, u.2.2.2.1) = it (rdf g (lmI wd (2 ^ (db + ew).toNat)) (lmI ht (2 ^ db.toNat)) db ew ac dn nu de pr es) 0 (ac * dn) (gv, gp, gb) ∧ u.2.2.2.2.2.2.2.2.2.2.2.2.1 = it (kpf (lmI wd (2 ^ (db + ew).toNat)) (lmI ht (2 ^ db.toNat)) u.2.2.2.2.2.2.2.2.2.2.2.1) 0 256 kk ∧ u.2.2.2.2.2.2.2.2.2.2.2.2.2.2.2.2.1 = it (bkf wd ht (bmW (lmI wd (2 ^ (db + ew).toNat)) (lmI ht (2 ^ db.toNat)) db ew kd (it (kpf (lmI wd (2 ^ (db + ew).toNat)) (lmI ht (2 ^ db.toNat)) u.2.2.2.2.2.2.2.2.2.2.2.1) 0 256 gg, ge, go)).1) 0 256 kb ∧ u.1 = it (cmf wd ht (bmW (lmI wd (2 ^ (db + ew).toNat)) (lmI ht (2 ^ db.toNat)) db ew kd (it (kpf (lmI wd (2 ^ (db + ew).toNat)) (lmI ht (2 ^ db.toNat)) u.2.2.2.2.2.2.2.2.2.2.2.1) 0 256 gg, ge, go)).1 pic) 0 256 0 ∧ u.2.2.2.2.2.2.2.2.2.2.2.2.2.2.2.2.2 = 1 ∧ (∀ j, bd 134217728 (u.2.2.2.2.2.2.2.2.2.2.2.1 j)) else u.1 = -1 ∧ u.2.2.2.2.2.2.2.2.2.2.2.1 = gv ∧ u.2.2.2.2.2.2.2.2.2.2.2.2.1 = kk ∧ u.2.2.2.2.2.2.2.2.2.2.2.2.2.2.2.2.1 = kb ∧ u.2.2.2.2.2.2.2.2.2.2.2.2.2.2.2.2.2 = rd)) (fun u : Int × Int × (Int → Int) × (Int → Int) × Int × Int × Int × Int × Int × Int × Int × (Int → Int64) × (Int → Int64) × (Int → Int64) × (Int → Int64) × (Int → Int64) × (Int → Int) × Int => [o_Mod rM wd ht rP rk rG rW rK kd db ew ac dn pr nu de rE rst wr u.2.2.2.2.2.2.2.2.2.2.2.2.2.2.2.2.2 rev rod u.2.1 rp rb u.2.2.2.2.1 u.2.2.2.2.2.1 u.2.2.2.2.2.2.1 u.2.2.2.2.2.2.2.1 u.2.2.2.2.2.2.2.2.1 u.2.2.2.2.2.2.2.2.2.1 u.2.2.2.2.2.2.2.2.2.2.1 rbl sl uz, (rG, al (gL G) 256 (u.2.2.2.2.2.2.2.2.2.2.2.2.2.1)), (rev, al (gL G) 8 (u.2.2.2.2.2.2.2.2.2.2.2.2.2.2.1)), (rod, al (gL G) 8 (u.2.2.2.2.2.2.2.2.2.2.2.2.2.2.2.1)), (rP, ai (gI G) 256 (pic)), (rp, ai (gI G) 256 (u.2.2.1)), (rb, ai (gI G) 256 (u.2.2.2.1)), (rst, ai (gB G) 2048 (g)), (rE, ai (gI G) 8 (es)), (rW, al (gL G) 256 (u.2.2.2.2.2.2.2.2.2.2.2.1)), (rK, al (gL G) 256 (u.2.2.2.2.2.2.2.2.2.2.2.2.1)), (rk, ai (gI G) 256 (u.2.2.2.2.2.2.2.2.2.2.2.2.2.2.2.2.1))]) A) (fun A => A) (by decide) rfl (Nat.le_of_ble_eq_true rfl) (fun p e s m args below meth c ls A Q S hr hlk hnm hl hsz hP hK hD hS hA hT hQ => ?_)
  obtain ⟨hx, hb, hml, hown, hts⟩ := id S
  have hw : ∀ w ∈ wl, w.before args s = true := fun w h => hts w (List.mem_cons_of_mem _ h)
  have hl : lv_has ls 4 [(0, .ref rM)] := hl
  have n1 := mul_r (a := ac) (b := dn) (A := 4) (B := 4) (by omega) (by omega)
  have n2 : 1 ≤ ac * dn := Int.mul_pos (by omega) (by omega)
  have e1 := lmI_r hwd (p2_c (k := db + ew) (by omega))
  have e2 := lmI_r hht (p2_c (k := db) (by omega))
  refine lv_aload_n hx hb d_Mod_decode_0 rfl (lv_at hl 0 rfl) ?_
  refine va_get (D := gD G) (ci := 7) (v := .int (iv (wr))) (C := R_Mod) (T := F_Mod) (N := 34) hx hb hw in_Mod hown hK hP 0 rfl rfl 17 (by decide) (hw _ m3_141) (fun _ h => h) rfl d_Mod_decode_1 ?_
  refine k_if_ne (tgt := 9) hx hb d_Mod_decode_4 (by decide) (by omega) (fun hc4 => ?_) (fun hc4 => ?_)
  · refine lv_iconst (v := iv (0)) hx hb d_Mod_decode_9 rfl ?_
    refine lv_istore_n hx hb d_Mod_decode_10 rfl hl (by decide) rfl (fun ls hl => ?_)
    have hl : lv_has ls 4 [(1, .int (iv (0))), (0, .ref rM)] := hl
    refine lo_up (P := fun i => ∀ (ls : Array Slot) (H : Heap) (locs : List Loc) (cn1x : Int) (gp1x : Int → Int) (gb1x : Int → Int) (ba1x : Int) (sz2x : Int) (lb1x : Int) (rm1x : Int) (cu1x : Int) (sp1x : Int) (nz1x : Int) (gv1x : Int → Int64), lv_has ls 4 [(0, .ref rM), (1, .int (iv (i)))] → va_P (gD G) classes [o_Mod rM wd ht rP rk rG rW rK kd db ew ac dn pr nu de rE rst wr rd rev rod cn1x rp rb ba1x sz2x lb1x rm1x cu1x sp1x nz1x rbl sl uz, (rG, al (gL G) 256 (gg)), (rev, al (gL G) 8 (ge)), (rod, al (gL G) 8 (go)), (rP, ai (gI G) 256 (pic)), (rp, ai (gI G) 256 (gp1x)), (rb, ai (gI G) 256 (gb1x)), (rst, ai (gB G) 2048 (g)), (rE, ai (gI G) 8 (es)), (rW, al (gL G) 256 (gv1x)), (rK, al (gL G) 256 (kk)), (rk, ai (gI G) 256 (kb))] H → va_D A [o_Mod rM wd ht rP rk rG rW rK kd db ew ac dn pr nu de rE rst wr rd rev rod cn1x rp rb ba1x sz2x lb1x rm1x cu1x sp1x nz1x rbl sl uz, (rG, al (gL G) 256 (gg)), (rev, al (gL G) 8 (ge)), (rod, al (gL G) 8 (go)), (rP, ai (gI G) 256 (pic)), (rp, ai (gI G) 256 (gp1x)), (rb, ai (gI G) 256 (gb1x)), (rst, ai (gB G) 2048 (g)), (rE, ai (gI G) 8 (es)), (rW, al (gL G) 256 (gv1x)), (rK, al (gL G) 256 (kk)), (rk, ai (gI G) 256 (kb))] → va_S A s.heap H locs → ((gv1x, gp1x, gb1x) = it (rdf g (lmI wd (2 ^ (db + ew).toNat)) (lmI ht (2 ^ db.toNat)) db ew ac dn nu de pr es) 0 i (gv, gp, gb)) → (∀ j, bd 134217728 (gv1x j)) → W p l e r_Mod_decode s m args below meth c H locs 0 0 Q (F0 m 11 ls [])) (a := 0) (b := ac * dn) (fun i hii hji ihi => ?_) _ _ _ cn gp gb ba sz1 lb rm cu sp nz gv (lv_sub hl [1, 0] rfl) hP hD hS (it_self _ _ _).symm hgv
    intro ls H locs cn1x gp1x gb1x ba1x sz2x lb1x rm1x cu1x sp1x nz1x gv1x hl hP hD hS hs hv1
    refine lv_iload_n hx hb d_Mod_decode_11 rfl (lv_at hl 1 rfl) ?_
    refine lv_aload_n hx hb d_Mod_decode_12 rfl (lv_at hl 0 rfl) ?_
    refine va_get (D := gD G) (ci := 7) (v := .int (iv (ac))) (C := R_Mod) (T := F_Mod) (N := 34) hx hb hw in_Mod hown hK hP 0 rfl rfl 10 (by decide) (hw _ m3_134) (fun _ h => h) rfl d_Mod_decode_13 ?_
    refine lv_aload_n hx hb d_Mod_decode_16 rfl (lv_at hl 0 rfl) ?_
    refine va_get (D := gD G) (ci := 7) (v := .int (iv (dn))) (C := R_Mod) (T := F_Mod) (N := 34) hx hb hw in_Mod hown hK hP 0 rfl rfl 11 (by decide) (hw _ m3_135) (fun _ h => h) rfl d_Mod_decode_17 ?_
    refine k_imul hx hb d_Mod_decode_20 ?_
    refine k_icmp_ge (tgt := 35) hx hb d_Mod_decode_21 (by decide) (by omega) (by omega) (fun hc21 => ?_) (fun hc21 => ?_)
    · refine lv_iconst (v := iv (0)) hx hb d_Mod_decode_35 rfl ?_
      refine lv_istore_n hx hb d_Mod_decode_36 rfl hl (by decide) rfl (fun ls hl => ?_)
      have hl : lv_has ls 4 [(1, .int (iv (0))), (0, .ref rM)] := hl
      refine lo_up (P := fun j => ∀ (ls : Array Slot) (H : Heap) (locs : List Loc) (kk1 : Int → Int64) (gg1 : Int → Int64), lv_has ls 4 [(0, .ref rM), (1, .int (iv (j)))] → va_P (gD G) classes [o_Mod rM wd ht rP rk rG rW rK kd db ew ac dn pr nu de rE rst wr rd rev rod cn1x rp rb ba1x sz2x lb1x rm1x cu1x sp1x nz1x rbl sl uz, (rG, al (gL G) 256 (gg1)), (rev, al (gL G) 8 (ge)), (rod, al (gL G) 8 (go)), (rP, ai (gI G) 256 (pic)), (rp, ai (gI G) 256 (gp1x)), (rb, ai (gI G) 256 (gb1x)), (rst, ai (gB G) 2048 (g)), (rE, ai (gI G) 8 (es)), (rW, al (gL G) 256 (gv1x)), (rK, al (gL G) 256 (kk1)), (rk, ai (gI G) 256 (kb))] H → va_D A [o_Mod rM wd ht rP rk rG rW rK kd db ew ac dn pr nu de rE rst wr rd rev rod cn1x rp rb ba1x sz2x lb1x rm1x cu1x sp1x nz1x rbl sl uz, (rG, al (gL G) 256 (gg1)), (rev, al (gL G) 8 (ge)), (rod, al (gL G) 8 (go)), (rP, ai (gI G) 256 (pic)), (rp, ai (gI G) 256 (gp1x)), (rb, ai (gI G) 256 (gb1x)), (rst, ai (gB G) 2048 (g)), (rE, ai (gI G) 8 (es)), (rW, al (gL G) 256 (gv1x)), (rK, al (gL G) 256 (kk1)), (rk, ai (gI G) 256 (kb))] → va_S A s.heap H locs → (kk1 = it (kpf (lmI wd (2 ^ (db + ew).toNat)) (lmI ht (2 ^ db.toNat)) gv1x) 0 j kk) → (gg1 = it (kpf (lmI wd (2 ^ (db + ew).toNat)) (lmI ht (2 ^ db.toNat)) gv1x) 0 j gg) → W p l e r_Mod_decode s m args below meth c H locs 0 0 Q (F0 m 37 ls [])) (a := 0) (b := 256) (fun j hij hjj ihj => ?_) _ _ _ kk gg (lv_sub hl [1, 0] rfl) hP hD hS (it_self _ _ _).symm (it_self _ _ _).symm
      intro ls H locs kk1 gg1 hl hP hD hS hk1 hg1
      refine lv_iload_n hx hb d_Mod_decode_37 rfl (lv_at hl 1 rfl) ?_
      refine lv_sipush (v := iv (256)) hx hb d_Mod_decode_38 rfl ?_
      refine k_icmp_ge (tgt := 95) hx hb d_Mod_decode_41 (by decide) (by omega) (by omega) (fun hc41 => ?_) (fun hc41 => ?_)
      · have eg : gg1 = it (kpf (lmI wd (2 ^ (db + ew).toNat)) (lmI ht (2 ^ db.toNat)) gv1x) 0 256 gg := by rw [hg1]; exact it_x _ _ hc41 hjj
        have ek : kk1 = it (kpf (lmI wd (2 ^ (db + ew).toNat)) (lmI ht (2 ^ db.toNat)) gv1x) 0 256 kk := by rw [hk1]; exact it_x _ _ hc41 hjj
        have es1 : (gv1x, gp1x, gb1x) = it (rdf g (lmI wd (2 ^ (db + ew).toNat)) (lmI ht (2 ^ db.toNat)) db ew ac dn nu de pr es) 0 (ac * dn) (gv, gp, gb) := by rw [hs]; exact it_x _ _ hc21 hji
        refine lv_aload_n hx hb d_Mod_decode_95 rfl (lv_at hl 0 rfl) ?_
        refine k_cv (wz := fun u : (Int → Int64) × (Int → Int64) × (Int → Int64) => [o_Mod rM wd ht rP rk rG rW rK kd db ew ac dn pr nu de rE rst wr rd rev rod cn1x rp rb ba1x sz2x lb1x rm1x cu1x sp1x nz1x rbl sl uz, (rG, al (gL G) 256 (u.1)), (rev, al (gL G) 8 (u.2.1)), (rod, al (gL G) 8 (u.2.2)), (rP, ai (gI G) 256 (pic)), (rp, ai (gI G) 256 (gp1x)), (rb, ai (gI G) 256 (gb1x)), (rst, ai (gB G) 2048 (g)), (rE, ai (gI G) 8 (es)), (rW, al (gL G) 256 (gv1x)), (rK, al (gL G) 256 (kk1)), (rk, ai (gI G) 256 (kb))]) (wr := [(rP, ai (gI G) 256 (pic)), (rp, ai (gI G) 256 (gp1x)), (rb, ai (gI G) 256 (gb1x)), (rst, ai (gB G) 2048 (g)), (rE, ai (gI G) 8 (es)), (rW, al (gL G) 256 (gv1x)), (rK, al (gL G) 256 (kk1)), (rk, ai (gI G) 256 (kb))]) (k_rv S (c_Mod_backward l G _ rM rP rk rG rW rK rE rst rev rod rp rb rbl wd ht kd db ew ac dn pr nu de wr rd cn1x ba1x sz2x lb1x rm1x cu1x sp1x nz1x sl uz gg1 ge go (by assumption) (by assumption) (by assumption) (by assumption)) 0 m4_235 m4_232 m4_234 mp_53 m1_9 (by decide +kernel) (by decide) rfl rfl (k_preV (q0 := 0) hK hP hD hS hA hT rfl rfl [0, 1, 2, 3] (by decide) rfl) rfl hl.1 rfl (Nat.le_of_ble_eq_true rfl) d_Mod_decode_96 ⟨Nat.le_of_ble_eq_true rfl, Nat.le_of_ble_eq_true rfl⟩) hP hD hS hA [0, 1, 2, 3] [4, 5, 6, 7, 8, 9, 10, 11] [8, 9, 10, 11, 0, 1, 2, 3, 4, 5, 6, 7] rfl rfl (by decide) (by decide) (by decide) (fun _ => rfl) (fun u96 H locs h96 hP hD hS => ?_)
        obtain ⟨a96, ge96, go96⟩ := u96
        have hP : va_P (gD G) classes [o_Mod rM wd ht rP rk rG rW rK kd db ew ac dn pr nu de rE rst wr rd rev rod cn1x rp rb ba1x sz2x lb1x rm1x cu1x sp1x nz1x rbl sl uz, (rG, al (gL G) 256 (a96)), (rev, al (gL G) 8 (ge96)), (rod, al (gL G) 8 (go96)), (rP, ai (gI G) 256 (pic)), (rp, ai (gI G) 256 (gp1x)), (rb, ai (gI G) 256 (gb1x)), (rst, ai (gB G) 2048 (g)), (rE, ai (gI G) 8 (es)), (rW, al (gL G) 256 (gv1x)), (rK, al (gL G) 256 (kk1)), (rk, ai (gI G) 256 (kb))] H := hP
        have hD : va_D A [o_Mod rM wd ht rP rk rG rW rK kd db ew ac dn pr nu de rE rst wr rd rev rod cn1x rp rb ba1x sz2x lb1x rm1x cu1x sp1x nz1x rbl sl uz, (rG, al (gL G) 256 (a96)), (rev, al (gL G) 8 (ge96)), (rod, al (gL G) 8 (go96)), (rP, ai (gI G) 256 (pic)), (rp, ai (gI G) 256 (gp1x)), (rb, ai (gI G) 256 (gb1x)), (rst, ai (gB G) 2048 (g)), (rE, ai (gI G) 8 (es)), (rW, al (gL G) 256 (gv1x)), (rK, al (gL G) 256 (kk1)), (rk, ai (gI G) 256 (kb))] := hD
        try dsimp only at h96
        rw [eg] at h96
        refine lv_iconst (v := iv (0)) hx hb d_Mod_decode_99 rfl ?_
        refine lv_istore_n hx hb d_Mod_decode_100 rfl hl (by decide) rfl (fun ls hl => ?_)
        have hl : lv_has ls 4 [(1, .int (iv (0))), (0, .ref rM)] := hl
        refine lv_iconst (v := iv (0)) hx hb d_Mod_decode_101 rfl ?_
        refine lv_istore_n hx hb d_Mod_decode_102 rfl hl (by decide) rfl (fun ls hl => ?_)
        have hl : lv_has ls 4 [(2, .int (iv (0))), (1, .int (iv (0))), (0, .ref rM)] := hl
        refine lo_up (P := fun j => ∀ (ls : Array Slot) (H : Heap) (locs : List Loc) (c1 : Int) (kb1 : Int → Int), lv_has ls 4 [(0, .ref rM), (1, .int (iv (c1))), (2, .int (iv (j)))] → va_P (gD G) classes [o_Mod rM wd ht rP rk rG rW rK kd db ew ac dn pr nu de rE rst wr rd rev rod cn1x rp rb ba1x sz2x lb1x rm1x cu1x sp1x nz1x rbl sl uz, (rG, al (gL G) 256 (a96)), (rev, al (gL G) 8 (ge96)), (rod, al (gL G) 8 (go96)), (rP, ai (gI G) 256 (pic)), (rp, ai (gI G) 256 (gp1x)), (rb, ai (gI G) 256 (gb1x)), (rst, ai (gB G) 2048 (g)), (rE, ai (gI G) 8 (es)), (rW, al (gL G) 256 (gv1x)), (rK, al (gL G) 256 (kk1)), (rk, ai (gI G) 256 (kb1))] H → va_D A [o_Mod rM wd ht rP rk rG rW rK kd db ew ac dn pr nu de rE rst wr rd rev rod cn1x rp rb ba1x sz2x lb1x rm1x cu1x sp1x nz1x rbl sl uz, (rG, al (gL G) 256 (a96)), (rev, al (gL G) 8 (ge96)), (rod, al (gL G) 8 (go96)), (rP, ai (gI G) 256 (pic)), (rp, ai (gI G) 256 (gp1x)), (rb, ai (gI G) 256 (gb1x)), (rst, ai (gB G) 2048 (g)), (rE, ai (gI G) 8 (es)), (rW, al (gL G) 256 (gv1x)), (rK, al (gL G) 256 (kk1)), (rk, ai (gI G) 256 (kb1))] → va_S A s.heap H locs → (kb1 = it (bkf wd ht a96) 0 j kb) → (c1 = it (cmf wd ht a96 pic) 0 j 0) → W p l e r_Mod_decode s m args below meth c H locs 0 0 Q (F0 m 103 ls [])) (a := 0) (b := 256) (fun j hij hjj ihj => ?_) _ _ _ 0 kb (lv_sub hl [2, 1, 0] rfl) hP hD hS (it_self _ _ _).symm (it_self _ _ _).symm
        intro ls H locs c1 kb1 hl hP hD hS hb1 hc1
        refine lv_iload_n hx hb d_Mod_decode_103 rfl (lv_at hl 2 rfl) ?_
        refine lv_sipush (v := iv (256)) hx hb d_Mod_decode_104 rfl ?_
        refine k_icmp_ge (tgt := 179) hx hb d_Mod_decode_107 (by decide) (by omega) (by omega) (fun hc107 => ?_) (fun hc107 => ?_)
        · refine lv_aload_n hx hb d_Mod_decode_179 rfl (lv_at hl 0 rfl) ?_
          refine lv_iconst (v := iv (1)) hx hb d_Mod_decode_180 rfl ?_
          refine va_put (D := gD G) (ci := 7) (v := .int (iv (1))) (ty := .boolean) (C := R_Mod) (T := F_Mod) (N := 34) hx hb hw in_Mod t_Mod t_Mod_ok n_Mod hown hK hP hD hS 0 rfl rfl 18 (by decide) (hw _ m3_142) (fun _ h => h) rfl (by decide +kernel) (nar_z (by omega)) (fit_z (by omega)) (Nat.le_of_ble_eq_true rfl) d_Mod_decode_181 (fun H locs hP hD hS => ?_)
          have hP : va_P (gD G) classes [o_Mod rM wd ht rP rk rG rW rK kd db ew ac dn pr nu de rE rst wr 1 rev rod cn1x rp rb ba1x sz2x lb1x rm1x cu1x sp1x nz1x rbl sl uz, (rG, al (gL G) 256 (a96)), (rev, al (gL G) 8 (ge96)), (rod, al (gL G) 8 (go96)), (rP, ai (gI G) 256 (pic)), (rp, ai (gI G) 256 (gp1x)), (rb, ai (gI G) 256 (gb1x)), (rst, ai (gB G) 2048 (g)), (rE, ai (gI G) 8 (es)), (rW, al (gL G) 256 (gv1x)), (rK, al (gL G) 256 (kk1)), (rk, ai (gI G) 256 (kb1))] H := hP
          have hD : va_D A [o_Mod rM wd ht rP rk rG rW rK kd db ew ac dn pr nu de rE rst wr 1 rev rod cn1x rp rb ba1x sz2x lb1x rm1x cu1x sp1x nz1x rbl sl uz, (rG, al (gL G) 256 (a96)), (rev, al (gL G) 8 (ge96)), (rod, al (gL G) 8 (go96)), (rP, ai (gI G) 256 (pic)), (rp, ai (gI G) 256 (gp1x)), (rb, ai (gI G) 256 (gb1x)), (rst, ai (gB G) 2048 (g)), (rE, ai (gI G) 8 (es)), (rW, al (gL G) 256 (gv1x)), (rK, al (gL G) 256 (kk1)), (rk, ai (gI G) 256 (kb1))] := hD
          refine lv_iload_n hx hb d_Mod_decode_184 rfl (lv_at hl 1 rfl) ?_
          exact k_iret hx hb hr hlk hQ ((c1, cn1x, gp1x, gb1x, ba1x, sz2x, lb1x, rm1x, cu1x, sp1x, nz1x, gv1x, kk1, a96, ge96, go96, kb1, 1)) (⟨rfl, by rw [if_pos (by omega)]; refine ⟨es1, ek, ?_, ?_, rfl, hv1⟩ <;> rw [show bmW (lmI wd (2 ^ (db + ew).toNat)) (lmI ht (2 ^ db.toNat)) db ew kd (it (kpf (lmI wd (2 ^ (db + ew).toNat)) (lmI ht (2 ^ db.toNat)) gv1x) 0 256 gg, ge, go) = (a96, ge96, go96) from h96.symm] <;> first | (rw [hb1]; exact it_x _ _ hc107 hjj) | (rw [hc1]; exact it_x _ _ hc107 hjj)⟩) hP hD hS d_Mod_decode_185
        · refine lv_aload_n hx hb d_Mod_decode_110 rfl (lv_at hl 0 rfl) ?_
          refine lv_iload_n hx hb d_Mod_decode_111 rfl (lv_at hl 2 rfl) ?_
          refine lv_bipush (v := iv (16)) hx hb d_Mod_decode_112 rfl ?_
          refine k_irem hx hb d_Mod_decode_114 (by omega) (by omega) ?_
          refine lv_iload_n hx hb d_Mod_decode_115 rfl (lv_at hl 2 rfl) ?_
          refine lv_bipush (v := iv (16)) hx hb d_Mod_decode_116 rfl ?_
          refine k_idiv hx hb d_Mod_decode_118 (by omega) (by omega) ?_
          refine k_ciR (k_rv S (c_Mod_isPlace l G _ rM rP rk rG rW rK rE rst rev rod rp rb rbl (j % 16) (j / 16) wd ht kd db ew ac dn pr nu de wr rd cn1x ba1x sz2x lb1x rm1x cu1x sp1x nz1x sl uz (by omega) (by omega) (by omega) (by omega)) 2 m3_235 m3_232 m3_234 mp_20 m1_9 (by decide +kernel) (by decide) rfl rfl (k_preV (q0 := 0) hK hP hD hS hA hT rfl rfl [0] (by decide) rfl) rfl hl.1 rfl (Nat.le_of_ble_eq_true rfl) d_Mod_decode_119 ⟨Nat.le_of_ble_eq_true rfl, Nat.le_of_ble_eq_true rfl⟩) (fun r119 h119 => ?_)
          subst h119
          refine lv_istore_n hx hb d_Mod_decode_122 rfl hl (by decide) rfl (fun ls hl => ?_)
          have hl : lv_has ls 4 [(3, .int (iv (bI ((0 ≤ (j % 16) ∧ (j % 16) ≤ wd - 1) ∧ 0 ≤ (j / 16) ∧ (j / 16) ≤ ht - 1)))), (0, .ref rM), (1, .int (iv (c1))), (2, .int (iv (j)))] := hl
          refine lv_aload_n hx hb d_Mod_decode_123 rfl (lv_at hl 1 rfl) ?_
          refine va_get (D := gD G) (ci := 7) (v := .ref rk) (C := R_Mod) (T := F_Mod) (N := 34) hx hb hw in_Mod hown hK hP 0 rfl rfl 3 (by decide) (hw _ m3_127) (fun _ h => h) rfl d_Mod_decode_124 ?_
          refine lv_iload_n hx hb d_Mod_decode_127 rfl (lv_at hl 3 rfl) ?_
          refine lv_iload_n hx hb d_Mod_decode_128 rfl (lv_at hl 0 rfl) ?_
          refine k_ifb_eq (tgt := 144) hx hb d_Mod_decode_129 (by decide) (fun hc129 => ?_) (fun hc129 => ?_)
          · refine lv_iconst (v := iv (0)) hx hb d_Mod_decode_144 rfl ?_
            refine k_ias hx hb hK hP hD hS 11 0 rfl rfl (by decide) (by omega) d_Mod_decode_145 (fun H locs hP hD hS => ?_)
            have hP : va_P (gD G) classes [o_Mod rM wd ht rP rk rG rW rK kd db ew ac dn pr nu de rE rst wr rd rev rod cn1x rp rb ba1x sz2x lb1x rm1x cu1x sp1x nz1x rbl sl uz, (rG, al (gL G) 256 (a96)), (rev, al (gL G) 8 (ge96)), (rod, al (gL G) 8 (go96)), (rP, ai (gI G) 256 (pic)), (rp, ai (gI G) 256 (gp1x)), (rb, ai (gI G) 256 (gb1x)), (rst, ai (gB G) 2048 (g)), (rE, ai (gI G) 8 (es)), (rW, al (gL G) 256 (gv1x)), (rK, al (gL G) 256 (kk1)), (rk, ai (gI G) 256 (up kb1 j 0))] H := hP
            have hD : va_D A [o_Mod rM wd ht rP rk rG rW rK kd db ew ac dn pr nu de rE rst wr rd rev rod cn1x rp rb ba1x sz2x lb1x rm1x cu1x sp1x nz1x rbl sl uz, (rG, al (gL G) 256 (a96)), (rev, al (gL G) 8 (ge96)), (rod, al (gL G) 8 (go96)), (rP, ai (gI G) 256 (pic)), (rp, ai (gI G) 256 (gp1x)), (rb, ai (gI G) 256 (gb1x)), (rst, ai (gB G) 2048 (g)), (rE, ai (gI G) 8 (es)), (rW, al (gL G) 256 (gv1x)), (rK, al (gL G) 256 (kk1)), (rk, ai (gI G) 256 (up kb1 j 0))] := hD
            have b1 := clp_r (a96 j).toInt
            have b2 := hpic j
            refine lv_iload_n hx hb d_Mod_decode_146 rfl (lv_at hl 2 rfl) ?_
            refine lv_iload_n hx hb d_Mod_decode_147 rfl (lv_at hl 0 rfl) ?_
            refine k_ifb_eq (tgt := 170) hx hb d_Mod_decode_148 (by decide) (fun hc148 => ?_) (fun hc148 => absurd hc148 hc129)
            refine lv_iconst (v := iv (0)) hx hb d_Mod_decode_170 rfl ?_
            refine k_iadd hx hb d_Mod_decode_171 ?_
            refine lv_istore_n hx hb d_Mod_decode_172 rfl hl (by decide) rfl (fun ls hl => ?_)
            have hl : lv_has ls 4 [(1, .int (iv (c1 + 0))), (3, .int (iv (bI ((0 ≤ (j % 16) ∧ (j % 16) ≤ wd - 1) ∧ 0 ≤ (j / 16) ∧ (j / 16) ≤ ht - 1)))), (0, .ref rM), (2, .int (iv (j)))] := hl
            refine lv_iinc (k := 3) (v := iv (j + 1)) hx hb d_Mod_decode_173 hl rfl (iv_add _ _) (by decide) rfl (fun ls hl => ?_)
            have hl : lv_has ls 4 [(2, .int (iv (j + 1))), (1, .int (iv (c1 + 0))), (3, .int (iv (bI ((0 ≤ (j % 16) ∧ (j % 16) ≤ wd - 1) ∧ 0 ≤ (j / 16) ∧ (j / 16) ≤ ht - 1)))), (0, .ref rM)] := hl
            refine lv_goto (tgt := 103) hx hb d_Mod_decode_176 (by decide) ?_
            exact ihj (by omega) _ _ _ (c1 + 0) (up kb1 j 0) (lv_sub hl [3, 1, 0] rfl) hP hD hS (by rw [it_s _ _ hij, ← hb1]; unfold bkf; first | rw [if_pos (by omega)] | rw [if_neg (by omega)]) (by rw [it_s _ _ hij, ← hc1]; unfold cmf; first | rw [if_pos (by omega)] | rw [if_neg (by omega)])
          · refine lv_aload_n hx hb d_Mod_decode_132 rfl (lv_at hl 1 rfl) ?_
            refine va_get (D := gD G) (ci := 7) (v := .ref rG) (C := R_Mod) (T := F_Mod) (N := 34) hx hb hw in_Mod hown hK hP 0 rfl rfl 4 (by decide) (hw _ m3_128) (fun _ h => h) rfl d_Mod_decode_133 ?_
            refine lv_iload_n hx hb d_Mod_decode_136 rfl (lv_at hl 3 rfl) ?_
            refine k_lal hx hb hK hP 1 1 rfl rfl (by decide) (by omega) d_Mod_decode_137 ?_
            refine k_ciR (k_rs S (c_Mod_clip l G _ (a96 j) ) 1 m4_2 m4_0 m4_1 m1_9 (by decide +kernel) (by decide) rfl rfl (k_preS hK hP hD hS hA hT [] (by decide) rfl) rfl hl.1 rfl (Nat.le_of_ble_eq_true rfl) d_Mod_decode_138 ⟨Nat.le_of_ble_eq_true rfl, Nat.le_of_ble_eq_true rfl⟩) (fun r138 h138 => ?_)
            subst h138
            refine lv_goto (tgt := 145) hx hb d_Mod_decode_141 (by decide) ?_
            refine k_ias hx hb hK hP hD hS 11 0 rfl rfl (by decide) (by omega) d_Mod_decode_145 (fun H locs hP hD hS => ?_)
            have hP : va_P (gD G) classes [o_Mod rM wd ht rP rk rG rW rK kd db ew ac dn pr nu de rE rst wr rd rev rod cn1x rp rb ba1x sz2x lb1x rm1x cu1x sp1x nz1x rbl sl uz, (rG, al (gL G) 256 (a96)), (rev, al (gL G) 8 (ge96)), (rod, al (gL G) 8 (go96)), (rP, ai (gI G) 256 (pic)), (rp, ai (gI G) 256 (gp1x)), (rb, ai (gI G) 256 (gb1x)), (rst, ai (gB G) 2048 (g)), (rE, ai (gI G) 8 (es)), (rW, al (gL G) 256 (gv1x)), (rK, al (gL G) 256 (kk1)), (rk, ai (gI G) 256 (up kb1 j (clp (a96 j).toInt)))] H := hP
            have hD : va_D A [o_Mod rM wd ht rP rk rG rW rK kd db ew ac dn pr nu de rE rst wr rd rev rod cn1x rp rb ba1x sz2x lb1x rm1x cu1x sp1x nz1x rbl sl uz, (rG, al (gL G) 256 (a96)), (rev, al (gL G) 8 (ge96)), (rod, al (gL G) 8 (go96)), (rP, ai (gI G) 256 (pic)), (rp, ai (gI G) 256 (gp1x)), (rb, ai (gI G) 256 (gb1x)), (rst, ai (gB G) 2048 (g)), (rE, ai (gI G) 8 (es)), (rW, al (gL G) 256 (gv1x)), (rK, al (gL G) 256 (kk1)), (rk, ai (gI G) 256 (up kb1 j (clp (a96 j).toInt)))] := hD
            have b1 := clp_r (a96 j).toInt
            have b2 := hpic j
            refine lv_iload_n hx hb d_Mod_decode_146 rfl (lv_at hl 2 rfl) ?_
            refine lv_iload_n hx hb d_Mod_decode_147 rfl (lv_at hl 0 rfl) ?_
            refine k_ifb_eq (tgt := 170) hx hb d_Mod_decode_148 (by decide) (fun hc148 => absurd hc148 (fun q => q hc129)) (fun hc148 => ?_)
            refine lv_aload_n hx hb d_Mod_decode_151 rfl (lv_at hl 1 rfl) ?_
            refine va_get (D := gD G) (ci := 7) (v := .ref rk) (C := R_Mod) (T := F_Mod) (N := 34) hx hb hw in_Mod hown hK hP 0 rfl rfl 3 (by decide) (hw _ m3_127) (fun _ h => h) rfl d_Mod_decode_152 ?_
            refine lv_iload_n hx hb d_Mod_decode_155 rfl (lv_at hl 3 rfl) ?_
            refine k_ial hx hb hK hP 11 0 rfl rfl (by decide) (by omega) d_Mod_decode_156 ?_
            refine k_eqi (b := clp (a96 j).toInt) (up_self _ _ _) ?_
            refine lv_aload_n hx hb d_Mod_decode_157 rfl (lv_at hl 1 rfl) ?_
            refine va_get (D := gD G) (ci := 7) (v := .ref rP) (C := R_Mod) (T := F_Mod) (N := 34) hx hb hw in_Mod hown hK hP 0 rfl rfl 2 (by decide) (hw _ m3_126) (fun _ h => h) rfl d_Mod_decode_158 ?_
            refine lv_iload_n hx hb d_Mod_decode_161 rfl (lv_at hl 3 rfl) ?_
            refine k_ial hx hb hK hP 4 0 rfl rfl (by decide) (by omega) d_Mod_decode_162 ?_
            refine k_icmp_eq (tgt := 170) hx hb d_Mod_decode_163 (by decide) (by omega) (by omega) (fun hc163 => ?_) (fun hc163 => ?_)
            · refine lv_iconst (v := iv (0)) hx hb d_Mod_decode_170 rfl ?_
              refine k_iadd hx hb d_Mod_decode_171 ?_
              refine lv_istore_n hx hb d_Mod_decode_172 rfl hl (by decide) rfl (fun ls hl => ?_)
              have hl : lv_has ls 4 [(1, .int (iv (c1 + 0))), (3, .int (iv (bI ((0 ≤ (j % 16) ∧ (j % 16) ≤ wd - 1) ∧ 0 ≤ (j / 16) ∧ (j / 16) ≤ ht - 1)))), (0, .ref rM), (2, .int (iv (j)))] := hl
              refine lv_iinc (k := 3) (v := iv (j + 1)) hx hb d_Mod_decode_173 hl rfl (iv_add _ _) (by decide) rfl (fun ls hl => ?_)
              have hl : lv_has ls 4 [(2, .int (iv (j + 1))), (1, .int (iv (c1 + 0))), (3, .int (iv (bI ((0 ≤ (j % 16) ∧ (j % 16) ≤ wd - 1) ∧ 0 ≤ (j / 16) ∧ (j / 16) ≤ ht - 1)))), (0, .ref rM)] := hl
              refine lv_goto (tgt := 103) hx hb d_Mod_decode_176 (by decide) ?_
              exact ihj (by omega) _ _ _ (c1 + 0) (up kb1 j (clp (a96 j).toInt)) (lv_sub hl [3, 1, 0] rfl) hP hD hS (by rw [it_s _ _ hij, ← hb1]; unfold bkf; first | rw [if_pos (by omega)] | rw [if_neg (by omega)]) (by rw [it_s _ _ hij, ← hc1]; unfold cmf; first | rw [if_pos (by omega)] | rw [if_neg (by omega)])
            · refine lv_iconst (v := iv (1)) hx hb d_Mod_decode_166 rfl ?_
              refine lv_goto (tgt := 171) hx hb d_Mod_decode_167 (by decide) ?_
              refine k_iadd hx hb d_Mod_decode_171 ?_
              refine lv_istore_n hx hb d_Mod_decode_172 rfl hl (by decide) rfl (fun ls hl => ?_)
              have hl : lv_has ls 4 [(1, .int (iv (c1 + 1))), (3, .int (iv (bI ((0 ≤ (j % 16) ∧ (j % 16) ≤ wd - 1) ∧ 0 ≤ (j / 16) ∧ (j / 16) ≤ ht - 1)))), (0, .ref rM), (2, .int (iv (j)))] := hl
              refine lv_iinc (k := 3) (v := iv (j + 1)) hx hb d_Mod_decode_173 hl rfl (iv_add _ _) (by decide) rfl (fun ls hl => ?_)
              have hl : lv_has ls 4 [(2, .int (iv (j + 1))), (1, .int (iv (c1 + 1))), (3, .int (iv (bI ((0 ≤ (j % 16) ∧ (j % 16) ≤ wd - 1) ∧ 0 ≤ (j / 16) ∧ (j / 16) ≤ ht - 1)))), (0, .ref rM)] := hl
              refine lv_goto (tgt := 103) hx hb d_Mod_decode_176 (by decide) ?_
              exact ihj (by omega) _ _ _ (c1 + 1) (up kb1 j (clp (a96 j).toInt)) (lv_sub hl [3, 1, 0] rfl) hP hD hS (by rw [it_s _ _ hij, ← hb1]; unfold bkf; first | rw [if_pos (by omega)] | rw [if_neg (by omega)]) (by rw [it_s _ _ hij, ← hc1]; unfold cmf; first | rw [if_pos (by omega)] | rw [if_neg (by omega)])
      · refine lv_aload_n hx hb d_Mod_decode_44 rfl (lv_at hl 0 rfl) ?_
        refine lv_iload_n hx hb d_Mod_decode_45 rfl (lv_at hl 1 rfl) ?_
        refine lv_bipush (v := iv (16)) hx hb d_Mod_decode_46 rfl ?_
        refine k_irem hx hb d_Mod_decode_48 (by omega) (by omega) ?_
        refine lv_iload_n hx hb d_Mod_decode_49 rfl (lv_at hl 1 rfl) ?_
        refine lv_bipush (v := iv (16)) hx hb d_Mod_decode_50 rfl ?_
        refine k_idiv hx hb d_Mod_decode_52 (by omega) (by omega) ?_
        refine k_ciR (k_rv S (c_Mod_isCoefficient l G _ rM rP rk rG rW rK rE rst rev rod rp rb rbl (j % 16) (j / 16) wd ht kd db ew ac dn pr nu de wr rd cn1x ba1x sz2x lb1x rm1x cu1x sp1x nz1x sl uz (by omega) (by omega) (by omega) (by omega) (by omega)) 2 m4_41 m4_38 m4_40 mp_22 m1_9 (by decide +kernel) (by decide) rfl rfl (k_preV (q0 := 0) hK hP hD hS hA hT rfl rfl [0] (by decide) rfl) rfl hl.1 rfl (Nat.le_of_ble_eq_true rfl) d_Mod_decode_53 ⟨Nat.le_of_ble_eq_true rfl, Nat.le_of_ble_eq_true rfl⟩) (fun r53 h53 => ?_)
        subst h53
        refine lv_istore_n hx hb d_Mod_decode_56 rfl hl (by decide) rfl (fun ls hl => ?_)
        have hl : lv_has ls 4 [(2, .int (iv (bI ((0 ≤ (j % 16) ∧ (j % 16) ≤ lmI wd (2 ^ (db + ew).toNat) - 1) ∧ 0 ≤ (j / 16) ∧ (j / 16) ≤ lmI ht (2 ^ db.toNat) - 1)))), (0, .ref rM), (1, .int (iv (j)))] := hl
        refine lv_aload_n hx hb d_Mod_decode_57 rfl (lv_at hl 1 rfl) ?_
        refine va_get (D := gD G) (ci := 7) (v := .ref rK) (C := R_Mod) (T := F_Mod) (N := 34) hx hb hw in_Mod hown hK hP 0 rfl rfl 6 (by decide) (hw _ m3_130) (fun _ h => h) rfl d_Mod_decode_58 ?_
        refine lv_iload_n hx hb d_Mod_decode_61 rfl (lv_at hl 2 rfl) ?_
        refine lv_iload_n hx hb d_Mod_decode_62 rfl (lv_at hl 0 rfl) ?_
        refine k_ifb_eq (tgt := 75) hx hb d_Mod_decode_63 (by decide) (fun hc63 => ?_) (fun hc63 => ?_)
        · refine lv_lconst (v := 0) hx hb d_Mod_decode_75 rfl ?_
          refine k_las hx hb hK hP hD hS 10 1 rfl rfl (by decide) (by omega) d_Mod_decode_76 (fun H locs hP hD hS => ?_)
          have hP : va_P (gD G) classes [o_Mod rM wd ht rP rk rG rW rK kd db ew ac dn pr nu de rE rst wr rd rev rod cn1x rp rb ba1x sz2x lb1x rm1x cu1x sp1x nz1x rbl sl uz, (rG, al (gL G) 256 (gg1)), (rev, al (gL G) 8 (ge)), (rod, al (gL G) 8 (go)), (rP, ai (gI G) 256 (pic)), (rp, ai (gI G) 256 (gp1x)), (rb, ai (gI G) 256 (gb1x)), (rst, ai (gB G) 2048 (g)), (rE, ai (gI G) 8 (es)), (rW, al (gL G) 256 (gv1x)), (rK, al (gL G) 256 (up kk1 j ((0 : Int64)))), (rk, ai (gI G) 256 (kb))] H := hP
          have hD : va_D A [o_Mod rM wd ht rP rk rG rW rK kd db ew ac dn pr nu de rE rst wr rd rev rod cn1x rp rb ba1x sz2x lb1x rm1x cu1x sp1x nz1x rbl sl uz, (rG, al (gL G) 256 (gg1)), (rev, al (gL G) 8 (ge)), (rod, al (gL G) 8 (go)), (rP, ai (gI G) 256 (pic)), (rp, ai (gI G) 256 (gp1x)), (rb, ai (gI G) 256 (gb1x)), (rst, ai (gB G) 2048 (g)), (rE, ai (gI G) 8 (es)), (rW, al (gL G) 256 (gv1x)), (rK, al (gL G) 256 (up kk1 j ((0 : Int64)))), (rk, ai (gI G) 256 (kb))] := hD
          refine lv_aload_n hx hb d_Mod_decode_77 rfl (lv_at hl 1 rfl) ?_
          refine va_get (D := gD G) (ci := 7) (v := .ref rG) (C := R_Mod) (T := F_Mod) (N := 34) hx hb hw in_Mod hown hK hP 0 rfl rfl 4 (by decide) (hw _ m3_128) (fun _ h => h) rfl d_Mod_decode_78 ?_
          refine lv_iload_n hx hb d_Mod_decode_81 rfl (lv_at hl 2 rfl) ?_
          refine lv_aload_n hx hb d_Mod_decode_82 rfl (lv_at hl 1 rfl) ?_
          refine va_get (D := gD G) (ci := 7) (v := .ref rK) (C := R_Mod) (T := F_Mod) (N := 34) hx hb hw in_Mod hown hK hP 0 rfl rfl 6 (by decide) (hw _ m3_130) (fun _ h => h) rfl d_Mod_decode_83 ?_
          refine lv_iload_n hx hb d_Mod_decode_86 rfl (lv_at hl 2 rfl) ?_
          refine k_lal hx hb hK hP 10 1 rfl rfl (by decide) (by omega) d_Mod_decode_87 ?_
          refine k_las hx hb hK hP hD hS 1 1 rfl rfl (by decide) (by omega) d_Mod_decode_88 (fun H locs hP hD hS => ?_)
          have hP : va_P (gD G) classes [o_Mod rM wd ht rP rk rG rW rK kd db ew ac dn pr nu de rE rst wr rd rev rod cn1x rp rb ba1x sz2x lb1x rm1x cu1x sp1x nz1x rbl sl uz, (rG, al (gL G) 256 (up gg1 j ((up kk1 j ((0 : Int64))) j))), (rev, al (gL G) 8 (ge)), (rod, al (gL G) 8 (go)), (rP, ai (gI G) 256 (pic)), (rp, ai (gI G) 256 (gp1x)), (rb, ai (gI G) 256 (gb1x)), (rst, ai (gB G) 2048 (g)), (rE, ai (gI G) 8 (es)), (rW, al (gL G) 256 (gv1x)), (rK, al (gL G) 256 (up kk1 j ((0 : Int64)))), (rk, ai (gI G) 256 (kb))] H := hP
          have hD : va_D A [o_Mod rM wd ht rP rk rG rW rK kd db ew ac dn pr nu de rE rst wr rd rev rod cn1x rp rb ba1x sz2x lb1x rm1x cu1x sp1x nz1x rbl sl uz, (rG, al (gL G) 256 (up gg1 j ((up kk1 j ((0 : Int64))) j))), (rev, al (gL G) 8 (ge)), (rod, al (gL G) 8 (go)), (rP, ai (gI G) 256 (pic)), (rp, ai (gI G) 256 (gp1x)), (rb, ai (gI G) 256 (gb1x)), (rst, ai (gB G) 2048 (g)), (rE, ai (gI G) 8 (es)), (rW, al (gL G) 256 (gv1x)), (rK, al (gL G) 256 (up kk1 j ((0 : Int64)))), (rk, ai (gI G) 256 (kb))] := hD
          refine lv_iinc (k := 2) (v := iv (j + 1)) hx hb d_Mod_decode_89 hl rfl (iv_add _ _) (by decide) rfl (fun ls hl => ?_)
          have hl : lv_has ls 4 [(1, .int (iv (j + 1))), (2, .int (iv (bI ((0 ≤ (j % 16) ∧ (j % 16) ≤ lmI wd (2 ^ (db + ew).toNat) - 1) ∧ 0 ≤ (j / 16) ∧ (j / 16) ≤ lmI ht (2 ^ db.toNat) - 1)))), (0, .ref rM)] := hl
          refine lv_goto (tgt := 37) hx hb d_Mod_decode_92 (by decide) ?_
          exact ihj (by omega) _ _ _ (up kk1 j ((0 : Int64))) (up gg1 j ((up kk1 j ((0 : Int64))) j)) (lv_sub hl [2, 0] rfl) hP hD hS (by rw [it_s _ _ hij, ← hk1]; unfold kpf; first | rw [if_pos (by omega)] | rw [if_neg (by omega)]) (by rw [it_s _ _ hij, ← hg1, up_self]; unfold kpf; first | rw [if_pos (by omega)] | rw [if_neg (by omega)])
        · refine lv_aload_n hx hb d_Mod_decode_66 rfl (lv_at hl 1 rfl) ?_
          refine va_get (D := gD G) (ci := 7) (v := .ref rW) (C := R_Mod) (T := F_Mod) (N := 34) hx hb hw in_Mod hown hK hP 0 rfl rfl 5 (by decide) (hw _ m3_129) (fun _ h => h) rfl d_Mod_decode_67 ?_
          refine lv_iload_n hx hb d_Mod_decode_70 rfl (lv_at hl 2 rfl) ?_
          refine k_lal hx hb hK hP 9 1 rfl rfl (by decide) (by omega) d_Mod_decode_71 ?_
          refine lv_goto (tgt := 76) hx hb d_Mod_decode_72 (by decide) ?_
          refine k_las hx hb hK hP hD hS 10 1 rfl rfl (by decide) (by omega) d_Mod_decode_76 (fun H locs hP hD hS => ?_)
          have hP : va_P (gD G) classes [o_Mod rM wd ht rP rk rG rW rK kd db ew ac dn pr nu de rE rst wr rd rev rod cn1x rp rb ba1x sz2x lb1x rm1x cu1x sp1x nz1x rbl sl uz, (rG, al (gL G) 256 (gg1)), (rev, al (gL G) 8 (ge)), (rod, al (gL G) 8 (go)), (rP, ai (gI G) 256 (pic)), (rp, ai (gI G) 256 (gp1x)), (rb, ai (gI G) 256 (gb1x)), (rst, ai (gB G) 2048 (g)), (rE, ai (gI G) 8 (es)), (rW, al (gL G) 256 (gv1x)), (rK, al (gL G) 256 (up kk1 j (gv1x j))), (rk, ai (gI G) 256 (kb))] H := hP
          have hD : va_D A [o_Mod rM wd ht rP rk rG rW rK kd db ew ac dn pr nu de rE rst wr rd rev rod cn1x rp rb ba1x sz2x lb1x rm1x cu1x sp1x nz1x rbl sl uz, (rG, al (gL G) 256 (gg1)), (rev, al (gL G) 8 (ge)), (rod, al (gL G) 8 (go)), (rP, ai (gI G) 256 (pic)), (rp, ai (gI G) 256 (gp1x)), (rb, ai (gI G) 256 (gb1x)), (rst, ai (gB G) 2048 (g)), (rE, ai (gI G) 8 (es)), (rW, al (gL G) 256 (gv1x)), (rK, al (gL G) 256 (up kk1 j (gv1x j))), (rk, ai (gI G) 256 (kb))] := hD
          refine lv_aload_n hx hb d_Mod_decode_77 rfl (lv_at hl 1 rfl) ?_
          refine va_get (D := gD G) (ci := 7) (v := .ref rG) (C := R_Mod) (T := F_Mod) (N := 34) hx hb hw in_Mod hown hK hP 0 rfl rfl 4 (by decide) (hw _ m3_128) (fun _ h => h) rfl d_Mod_decode_78 ?_
          refine lv_iload_n hx hb d_Mod_decode_81 rfl (lv_at hl 2 rfl) ?_
          refine lv_aload_n hx hb d_Mod_decode_82 rfl (lv_at hl 1 rfl) ?_
          refine va_get (D := gD G) (ci := 7) (v := .ref rK) (C := R_Mod) (T := F_Mod) (N := 34) hx hb hw in_Mod hown hK hP 0 rfl rfl 6 (by decide) (hw _ m3_130) (fun _ h => h) rfl d_Mod_decode_83 ?_
          refine lv_iload_n hx hb d_Mod_decode_86 rfl (lv_at hl 2 rfl) ?_
          refine k_lal hx hb hK hP 10 1 rfl rfl (by decide) (by omega) d_Mod_decode_87 ?_
          refine k_las hx hb hK hP hD hS 1 1 rfl rfl (by decide) (by omega) d_Mod_decode_88 (fun H locs hP hD hS => ?_)
          have hP : va_P (gD G) classes [o_Mod rM wd ht rP rk rG rW rK kd db ew ac dn pr nu de rE rst wr rd rev rod cn1x rp rb ba1x sz2x lb1x rm1x cu1x sp1x nz1x rbl sl uz, (rG, al (gL G) 256 (up gg1 j ((up kk1 j (gv1x j)) j))), (rev, al (gL G) 8 (ge)), (rod, al (gL G) 8 (go)), (rP, ai (gI G) 256 (pic)), (rp, ai (gI G) 256 (gp1x)), (rb, ai (gI G) 256 (gb1x)), (rst, ai (gB G) 2048 (g)), (rE, ai (gI G) 8 (es)), (rW, al (gL G) 256 (gv1x)), (rK, al (gL G) 256 (up kk1 j (gv1x j))), (rk, ai (gI G) 256 (kb))] H := hP
          have hD : va_D A [o_Mod rM wd ht rP rk rG rW rK kd db ew ac dn pr nu de rE rst wr rd rev rod cn1x rp rb ba1x sz2x lb1x rm1x cu1x sp1x nz1x rbl sl uz, (rG, al (gL G) 256 (up gg1 j ((up kk1 j (gv1x j)) j))), (rev, al (gL G) 8 (ge)), (rod, al (gL G) 8 (go)), (rP, ai (gI G) 256 (pic)), (rp, ai (gI G) 256 (gp1x)), (rb, ai (gI G) 256 (gb1x)), (rst, ai (gB G) 2048 (g)), (rE, ai (gI G) 8 (es)), (rW, al (gL G) 256 (gv1x)), (rK, al (gL G) 256 (up kk1 j (gv1x j))), (rk, ai (gI G) 256 (kb))] := hD
          refine lv_iinc (k := 2) (v := iv (j + 1)) hx hb d_Mod_decode_89 hl rfl (iv_add _ _) (by decide) rfl (fun ls hl => ?_)
          have hl : lv_has ls 4 [(1, .int (iv (j + 1))), (2, .int (iv (bI ((0 ≤ (j % 16) ∧ (j % 16) ≤ lmI wd (2 ^ (db + ew).toNat) - 1) ∧ 0 ≤ (j / 16) ∧ (j / 16) ≤ lmI ht (2 ^ db.toNat) - 1)))), (0, .ref rM)] := hl
          refine lv_goto (tgt := 37) hx hb d_Mod_decode_92 (by decide) ?_
          exact ihj (by omega) _ _ _ (up kk1 j (gv1x j)) (up gg1 j ((up kk1 j (gv1x j)) j)) (lv_sub hl [2, 0] rfl) hP hD hS (by rw [it_s _ _ hij, ← hk1]; unfold kpf; first | rw [if_pos (by omega)] | rw [if_neg (by omega)]) (by rw [it_s _ _ hij, ← hg1, up_self]; unfold kpf; first | rw [if_pos (by omega)] | rw [if_neg (by omega)])
    · refine lv_aload_n hx hb d_Mod_decode_24 rfl (lv_at hl 0 rfl) ?_
      refine lv_iload_n hx hb d_Mod_decode_25 rfl (lv_at hl 1 rfl) ?_
      refine k_cv (wz := fun u : Int × (Int → Int) × (Int → Int) × Int × Int × Int × Int × Int × Int × Int × (Int → Int64) => [o_Mod rM wd ht rP rk rG rW rK kd db ew ac dn pr nu de rE rst wr rd rev rod u.1 rp rb u.2.2.2.1 u.2.2.2.2.1 u.2.2.2.2.2.1 u.2.2.2.2.2.2.1 u.2.2.2.2.2.2.2.1 u.2.2.2.2.2.2.2.2.1 u.2.2.2.2.2.2.2.2.2.1 rbl sl uz, (rG, al (gL G) 256 (gg)), (rev, al (gL G) 8 (ge)), (rod, al (gL G) 8 (go)), (rP, ai (gI G) 256 (pic)), (rp, ai (gI G) 256 (u.2.1)), (rb, ai (gI G) 256 (u.2.2.1)), (rst, ai (gB G) 2048 (g)), (rE, ai (gI G) 8 (es)), (rW, al (gL G) 256 (u.2.2.2.2.2.2.2.2.2.2)), (rK, al (gL G) 256 (kk)), (rk, ai (gI G) 256 (kb))]) (wr := [(rG, al (gL G) 256 (gg)), (rev, al (gL G) 8 (ge)), (rod, al (gL G) 8 (go)), (rP, ai (gI G) 256 (pic)), (rK, al (gL G) 256 (kk)), (rk, ai (gI G) 256 (kb))]) (k_rv S (c_Mod_read l G _ rM rP rk rG rW rK rE rst rev rod rp rb rbl i wd ht kd db ew ac dn pr nu de wr rd cn1x ba1x sz2x lb1x rm1x cu1x sp1x nz1x sl uz gp1x gb1x g es gv1x (by assumption) (by assumption) (by assumption) (by assumption) (by assumption) (by omega) (by assumption) (by assumption) (by assumption) (by assumption)) 1 m4_179 m4_176 m4_178 mp_45 m1_9 (by decide +kernel) (by decide) rfl rfl (k_preV (q0 := 0) hK hP hD hS hA hT rfl rfl [0, 5, 6, 7, 8, 9] (by decide) rfl) rfl hl.1 rfl (Nat.le_of_ble_eq_true rfl) d_Mod_decode_26 ⟨Nat.le_of_ble_eq_true rfl, Nat.le_of_ble_eq_true rfl⟩) hP hD hS hA [0, 5, 6, 7, 8, 9] [1, 2, 3, 4, 10, 11] [6, 0, 1, 2, 3, 7, 8, 9, 10, 11, 4, 5] rfl rfl (by decide) (by decide) (by decide) (fun _ => rfl) (fun u26 H locs h26 hP hD hS => ?_)
      subst h26
      have hP : va_P (gD G) classes [o_Mod rM wd ht rP rk rG rW rK kd db ew ac dn pr nu de rE rst wr rd rev rod ((it (lsB (lmI wd (2 ^ (db + ew).toNat)) (lmI ht (2 ^ db.toNat)) db ew ac dn i) 0 (nBd db ew) (0, gp1x, gb1x)).1) rp rb (sBy nu de i) (sBy nu de (i + 1) - sBy nu de i) (ldI nu de i) (rmI nu de i) ((rmA g nu de pr es i (it (lsB (lmI wd (2 ^ (db + ew).toNat)) (lmI ht (2 ^ db.toNat)) db ew ac dn i) 0 (nBd db ew) (0, gp1x, gb1x)) gv1x).2.1) (5 + ldI nu de i + lnM g nu de i) ((rmA g nu de pr es i (it (lsB (lmI wd (2 ^ (db + ew).toNat)) (lmI ht (2 ^ db.toNat)) db ew ac dn i) 0 (nBd db ew) (0, gp1x, gb1x)) gv1x).1) rbl sl uz, (rG, al (gL G) 256 (gg)), (rev, al (gL G) 8 (ge)), (rod, al (gL G) 8 (go)), (rP, ai (gI G) 256 (pic)), (rp, ai (gI G) 256 ((it (lsB (lmI wd (2 ^ (db + ew).toNat)) (lmI ht (2 ^ db.toNat)) db ew ac dn i) 0 (nBd db ew) (0, gp1x, gb1x)).2.1)), (rb, ai (gI G) 256 ((it (lsB (lmI wd (2 ^ (db + ew).toNat)) (lmI ht (2 ^ db.toNat)) db ew ac dn i) 0 (nBd db ew) (0, gp1x, gb1x)).2.2)), (rst, ai (gB G) 2048 (g)), (rE, ai (gI G) 8 (es)), (rW, al (gL G) 256 ((rmA g nu de pr es i (it (lsB (lmI wd (2 ^ (db + ew).toNat)) (lmI ht (2 ^ db.toNat)) db ew ac dn i) 0 (nBd db ew) (0, gp1x, gb1x)) gv1x).2.2)), (rK, al (gL G) 256 (kk)), (rk, ai (gI G) 256 (kb))] H := hP
      have hD : va_D A [o_Mod rM wd ht rP rk rG rW rK kd db ew ac dn pr nu de rE rst wr rd rev rod ((it (lsB (lmI wd (2 ^ (db + ew).toNat)) (lmI ht (2 ^ db.toNat)) db ew ac dn i) 0 (nBd db ew) (0, gp1x, gb1x)).1) rp rb (sBy nu de i) (sBy nu de (i + 1) - sBy nu de i) (ldI nu de i) (rmI nu de i) ((rmA g nu de pr es i (it (lsB (lmI wd (2 ^ (db + ew).toNat)) (lmI ht (2 ^ db.toNat)) db ew ac dn i) 0 (nBd db ew) (0, gp1x, gb1x)) gv1x).2.1) (5 + ldI nu de i + lnM g nu de i) ((rmA g nu de pr es i (it (lsB (lmI wd (2 ^ (db + ew).toNat)) (lmI ht (2 ^ db.toNat)) db ew ac dn i) 0 (nBd db ew) (0, gp1x, gb1x)) gv1x).1) rbl sl uz, (rG, al (gL G) 256 (gg)), (rev, al (gL G) 8 (ge)), (rod, al (gL G) 8 (go)), (rP, ai (gI G) 256 (pic)), (rp, ai (gI G) 256 ((it (lsB (lmI wd (2 ^ (db + ew).toNat)) (lmI ht (2 ^ db.toNat)) db ew ac dn i) 0 (nBd db ew) (0, gp1x, gb1x)).2.1)), (rb, ai (gI G) 256 ((it (lsB (lmI wd (2 ^ (db + ew).toNat)) (lmI ht (2 ^ db.toNat)) db ew ac dn i) 0 (nBd db ew) (0, gp1x, gb1x)).2.2)), (rst, ai (gB G) 2048 (g)), (rE, ai (gI G) 8 (es)), (rW, al (gL G) 256 ((rmA g nu de pr es i (it (lsB (lmI wd (2 ^ (db + ew).toNat)) (lmI ht (2 ^ db.toNat)) db ew ac dn i) 0 (nBd db ew) (0, gp1x, gb1x)) gv1x).2.2)), (rK, al (gL G) 256 (kk)), (rk, ai (gI G) 256 (kb))] := hD
      refine lv_iinc (k := 1) (v := iv (i + 1)) hx hb d_Mod_decode_29 hl rfl (iv_add _ _) (by decide) rfl (fun ls hl => ?_)
      have hl : lv_has ls 4 [(1, .int (iv (i + 1))), (0, .ref rM)] := hl
      refine lv_goto (tgt := 11) hx hb d_Mod_decode_32 (by decide) ?_
      exact ihi (by omega) _ _ _ ((it (lsB (lmI wd (2 ^ (db + ew).toNat)) (lmI ht (2 ^ db.toNat)) db ew ac dn i) 0 (nBd db ew) (0, gp1x, gb1x)).1) ((it (lsB (lmI wd (2 ^ (db + ew).toNat)) (lmI ht (2 ^ db.toNat)) db ew ac dn i) 0 (nBd db ew) (0, gp1x, gb1x)).2.1) ((it (lsB (lmI wd (2 ^ (db + ew).toNat)) (lmI ht (2 ^ db.toNat)) db ew ac dn i) 0 (nBd db ew) (0, gp1x, gb1x)).2.2) (sBy nu de i) (sBy nu de (i + 1) - sBy nu de i) (ldI nu de i) (rmI nu de i) ((rmA g nu de pr es i (it (lsB (lmI wd (2 ^ (db + ew).toNat)) (lmI ht (2 ^ db.toNat)) db ew ac dn i) 0 (nBd db ew) (0, gp1x, gb1x)) gv1x).2.1) (5 + ldI nu de i + lnM g nu de i) ((rmA g nu de pr es i (it (lsB (lmI wd (2 ^ (db + ew).toNat)) (lmI ht (2 ^ db.toNat)) db ew ac dn i) 0 (nBd db ew) (0, gp1x, gb1x)) gv1x).1) ((rmA g nu de pr es i (it (lsB (lmI wd (2 ^ (db + ew).toNat)) (lmI ht (2 ^ db.toNat)) db ew ac dn i) 0 (nBd db ew) (0, gp1x, gb1x)) gv1x).2.2) (lv_sub hl [1, 0] rfl) hP hD hS (by rw [it_s _ _ hii, ← hs]; rfl) (rmA_b hv1)
  · refine lv_iconst (v := iv (-1)) hx hb d_Mod_decode_7 rfl ?_
    exact k_iret hx hb hr hlk hQ (((-1), cn, gp, gb, ba, sz1, lb, rm, cu, sp, nz, gv, kk, gg, ge, go, kb, rd)) (⟨rfl, by rw [if_neg (by omega)]; exact ⟨rfl, rfl, rfl, rfl, rfl⟩⟩) hP hD hS d_Mod_decode_8
abbrev w_Mod_decoded : List Cond := Cond.code y_Mod_decoded prog_9_method_57_code 3 (some .int) :: wl
abbrev r_Mod_decoded : Room := { frames := 1, cells := 0, slots := 0, locals := 22 }
set_option maxHeartbeats 4000000 in
set_option maxRecDepth 100000 in
theorem c_Mod_decoded (l : Launch) (G : k_G) (sz : Nat) (rM rP rk rG rW rK rE rst rev rod rp rb rbl : Nat) (x0 y0 wd ht kd db ew ac dn pr nu de wr rd cn ba sz1 lb rm cu sp nz sl uz : Int) (kb : Int → Int) (h_x0 : -2147483648 ≤ x0 ∧ x0 < 2147483648) (h_y0 : -2147483648 ≤ y0 ∧ y0 < 2147483648) (hwd : 1 ≤ wd ∧ wd ≤ 16) (hht : 1 ≤ ht ∧ ht ≤ 16) (hrd : rd = 0 ∨ rd = 1) : Met l y_Mod_decoded w_Mod_decoded r_Mod_decoded (k_P G [.ref rM, .int (iv (x0)), .int (iv (y0))] [o_Mod rM wd ht rP rk rG rW rK kd db ew ac dn pr nu de rE rst wr rd rev rod cn rp rb ba sz1 lb rm cu sp nz rbl sl uz, (rk, ai (gI G) 256 (kb))] sz) (vp_Si (fun r : Int32 => r = iv (if rd = 1 ∧ (0 ≤ x0 ∧ x0 ≤ wd - 1) ∧ 0 ≤ y0 ∧ y0 ≤ ht - 1 then kb (16 * y0 + x0) else -1000))) 0 0 (fun _ => False) := by
  refine k_met (fun _ => vp_Si (fun r : Int32 => r = iv (if rd = 1 ∧ (0 ≤ x0 ∧ x0 ≤ wd - 1) ∧ 0 ≤ y0 ∧ y0 ≤ ht - 1 then kb (16 * y0 + x0) else -1000))) (fun _ _ => False) (by decide) rfl (Nat.le_of_ble_eq_true rfl) (fun p e s m args below meth c ls A Q S hr hlk hnm hl hsz hP hK hD hS hA hT hQ => ?_)
  obtain ⟨hx, hb, hml, hown, hts⟩ := id S
  have hw : ∀ w ∈ wl, w.before args s = true := fun w h => hts w (List.mem_cons_of_mem _ h)
  have hl : lv_has ls 3 [(0, .ref rM), (1, .int (iv (x0))), (2, .int (iv (y0)))] := hl
  refine lv_aload_n hx hb d_Mod_decoded_0 rfl (lv_at hl 0 rfl) ?_
  refine va_get (D := gD G) (ci := 7) (v := .int (iv (rd))) (C := R_Mod) (T := F_Mod) (N := 34) hx hb hw in_Mod hown hK hP 0 rfl rfl 18 (by decide) (hw _ m3_142) (fun _ h => h) rfl d_Mod_decoded_1 ?_
  refine k_if_eq (tgt := 30) hx hb d_Mod_decoded_4 (by decide) (by omega) (fun hc4 => ?_) (fun hc4 => ?_)
  · refine lv_sipush (v := iv (-1000)) hx hb d_Mod_decoded_30 rfl ?_
    exact k_iretR hx hb hr hlk hQ (by first | rw [if_pos (by omega)] | rw [if_neg (by omega)]) d_Mod_decoded_33
  · refine lv_aload_n hx hb d_Mod_decoded_7 rfl (lv_at hl 0 rfl) ?_
    refine lv_iload_n hx hb d_Mod_decoded_8 rfl (lv_at hl 1 rfl) ?_
    refine lv_iload_n hx hb d_Mod_decoded_9 rfl (lv_at hl 2 rfl) ?_
    refine k_ciR (k_rv S (c_Mod_isPlace l G _ rM rP rk rG rW rK rE rst rev rod rp rb rbl x0 y0 wd ht kd db ew ac dn pr nu de wr rd cn ba sz1 lb rm cu sp nz sl uz (by omega) (by omega) (by omega) (by omega)) 2 m3_235 m3_232 m3_234 mp_20 m1_9 (by decide +kernel) (by decide) rfl rfl (k_preV (q0 := 0) hK hP hD hS hA hT rfl rfl [0] (by decide) rfl) rfl hl.1 rfl (Nat.le_of_ble_eq_true rfl) d_Mod_decoded_10 ⟨Nat.le_of_ble_eq_true rfl, Nat.le_of_ble_eq_true rfl⟩) (fun r10 h10 => ?_)
    subst h10
    refine k_ifb_eq (tgt := 30) hx hb d_Mod_decoded_13 (by decide) (fun hc13 => ?_) (fun hc13 => ?_)
    · refine lv_sipush (v := iv (-1000)) hx hb d_Mod_decoded_30 rfl ?_
      exact k_iretR hx hb hr hlk hQ (by first | rw [if_pos (by omega)] | rw [if_neg (by omega)]) d_Mod_decoded_33
    · refine lv_aload_n hx hb d_Mod_decoded_16 rfl (lv_at hl 0 rfl) ?_
      refine va_get (D := gD G) (ci := 7) (v := .ref rk) (C := R_Mod) (T := F_Mod) (N := 34) hx hb hw in_Mod hown hK hP 0 rfl rfl 3 (by decide) (hw _ m3_127) (fun _ h => h) rfl d_Mod_decoded_17 ?_
      refine lv_bipush (v := iv (16)) hx hb d_Mod_decoded_20 rfl ?_
      refine lv_iload_n hx hb d_Mod_decoded_22 rfl (lv_at hl 2 rfl) ?_
      refine k_imul hx hb d_Mod_decoded_23 ?_
      refine lv_iload_n hx hb d_Mod_decoded_24 rfl (lv_at hl 1 rfl) ?_
      refine k_iadd hx hb d_Mod_decoded_25 ?_
      refine k_ial hx hb hK hP 1 0 rfl rfl (by decide) (by omega) d_Mod_decoded_26 ?_
      refine lv_goto (tgt := 33) hx hb d_Mod_decoded_27 (by decide) ?_
      exact k_iretR hx hb hr hlk hQ (by first | rw [if_pos (by omega)] | rw [if_neg (by omega)]) d_Mod_decoded_33
abbrev w_Mod_rebuilt : List Cond := Cond.code y_Mod_rebuilt prog_9_method_58_code 3 (some .long) :: wl
abbrev r_Mod_rebuilt : Room := { frames := 2, cells := 0, slots := 0, locals := 43 }
set_option maxHeartbeats 4000000 in
set_option maxRecDepth 100000 in
theorem c_Mod_rebuilt (l : Launch) (G : k_G) (sz : Nat) (rM rP rk rG rW rK rE rst rev rod rp rb rbl : Nat) (x0 y0 wd ht kd db ew ac dn pr nu de wr rd cn ba sz1 lb rm cu sp nz sl uz : Int) (kk : Int → Int64) (h_x0 : -2147483648 ≤ x0 ∧ x0 < 2147483648) (h_y0 : -2147483648 ≤ y0 ∧ y0 < 2147483648) (hwd : 1 ≤ wd ∧ wd ≤ 16) (hht : 1 ≤ ht ∧ ht ≤ 16) (hde : 0 ≤ db ∧ db ≤ 2 ∧ 0 ≤ ew ∧ ew ≤ 2 ∧ db + ew ≤ 3) (hrd : rd = 0 ∨ rd = 1) : Met l y_Mod_rebuilt w_Mod_rebuilt r_Mod_rebuilt (k_P G [.ref rM, .int (iv (x0)), .int (iv (y0))] [o_Mod rM wd ht rP rk rG rW rK kd db ew ac dn pr nu de rE rst wr rd rev rod cn rp rb ba sz1 lb rm cu sp nz rbl sl uz, (rK, al (gL G) 256 (kk))] sz) (vp_Sl (fun r : Int64 => r = if rd = 1 ∧ (0 ≤ x0 ∧ x0 ≤ lmI wd (2 ^ (db + ew).toNat) - 1) ∧ 0 ≤ y0 ∧ y0 ≤ lmI ht (2 ^ db.toNat) - 1 then kk (16 * y0 + x0) else 0)) 0 0 (fun _ => False) := by
  refine k_met (fun _ => vp_Sl (fun r : Int64 => r = if rd = 1 ∧ (0 ≤ x0 ∧ x0 ≤ lmI wd (2 ^ (db + ew).toNat) - 1) ∧ 0 ≤ y0 ∧ y0 ≤ lmI ht (2 ^ db.toNat) - 1 then kk (16 * y0 + x0) else 0)) (fun _ _ => False) (by decide) rfl (Nat.le_of_ble_eq_true rfl) (fun p e s m args below meth c ls A Q S hr hlk hnm hl hsz hP hK hD hS hA hT hQ => ?_)
  obtain ⟨hx, hb, hml, hown, hts⟩ := id S
  have hw : ∀ w ∈ wl, w.before args s = true := fun w h => hts w (List.mem_cons_of_mem _ h)
  have hl : lv_has ls 3 [(0, .ref rM), (1, .int (iv (x0))), (2, .int (iv (y0)))] := hl
  have e1 := lmI_r hwd (p2_c (k := db + ew) (by omega))
  have e2 := lmI_r hht (p2_c (k := db) (by omega))
  refine lv_aload_n hx hb d_Mod_rebuilt_0 rfl (lv_at hl 0 rfl) ?_
  refine va_get (D := gD G) (ci := 7) (v := .int (iv (rd))) (C := R_Mod) (T := F_Mod) (N := 34) hx hb hw in_Mod hown hK hP 0 rfl rfl 18 (by decide) (hw _ m3_142) (fun _ h => h) rfl d_Mod_rebuilt_1 ?_
  refine k_if_eq (tgt := 30) hx hb d_Mod_rebuilt_4 (by decide) (by omega) (fun hc4 => ?_) (fun hc4 => ?_)
  · refine lv_lconst (v := 0) hx hb d_Mod_rebuilt_30 rfl ?_
    exact k_lretR hx hb hr hlk hQ (by first | rw [if_pos (by omega)] | rw [if_neg (by omega)]) d_Mod_rebuilt_31
  · refine lv_aload_n hx hb d_Mod_rebuilt_7 rfl (lv_at hl 0 rfl) ?_
    refine lv_iload_n hx hb d_Mod_rebuilt_8 rfl (lv_at hl 1 rfl) ?_
    refine lv_iload_n hx hb d_Mod_rebuilt_9 rfl (lv_at hl 2 rfl) ?_
    refine k_ciR (k_rv S (c_Mod_isCoefficient l G _ rM rP rk rG rW rK rE rst rev rod rp rb rbl x0 y0 wd ht kd db ew ac dn pr nu de wr rd cn ba sz1 lb rm cu sp nz sl uz (by omega) (by omega) (by omega) (by omega) (by omega)) 2 m4_41 m4_38 m4_40 mp_22 m1_9 (by decide +kernel) (by decide) rfl rfl (k_preV (q0 := 0) hK hP hD hS hA hT rfl rfl [0] (by decide) rfl) rfl hl.1 rfl (Nat.le_of_ble_eq_true rfl) d_Mod_rebuilt_10 ⟨Nat.le_of_ble_eq_true rfl, Nat.le_of_ble_eq_true rfl⟩) (fun r10 h10 => ?_)
    subst h10
    refine k_ifb_eq (tgt := 30) hx hb d_Mod_rebuilt_13 (by decide) (fun hc13 => ?_) (fun hc13 => ?_)
    · refine lv_lconst (v := 0) hx hb d_Mod_rebuilt_30 rfl ?_
      exact k_lretR hx hb hr hlk hQ (by first | rw [if_pos (by omega)] | rw [if_neg (by omega)]) d_Mod_rebuilt_31
    · refine lv_aload_n hx hb d_Mod_rebuilt_16 rfl (lv_at hl 0 rfl) ?_
      refine va_get (D := gD G) (ci := 7) (v := .ref rK) (C := R_Mod) (T := F_Mod) (N := 34) hx hb hw in_Mod hown hK hP 0 rfl rfl 6 (by decide) (hw _ m3_130) (fun _ h => h) rfl d_Mod_rebuilt_17 ?_
      refine lv_bipush (v := iv (16)) hx hb d_Mod_rebuilt_20 rfl ?_
      refine lv_iload_n hx hb d_Mod_rebuilt_22 rfl (lv_at hl 2 rfl) ?_
      refine k_imul hx hb d_Mod_rebuilt_23 ?_
      refine lv_iload_n hx hb d_Mod_rebuilt_24 rfl (lv_at hl 1 rfl) ?_
      refine k_iadd hx hb d_Mod_rebuilt_25 ?_
      refine k_lal hx hb hK hP 1 1 rfl rfl (by decide) (by omega) d_Mod_rebuilt_26 ?_
      refine lv_goto (tgt := 31) hx hb d_Mod_rebuilt_27 (by decide) ?_
      exact k_lretR hx hb hr hlk hQ (by first | rw [if_pos (by omega)] | rw [if_neg (by omega)]) d_Mod_rebuilt_31
abbrev w_Mod_error : List Cond := Cond.code y_Mod_error prog_9_method_59_code 4 (some .int) :: wl
abbrev r_Mod_error : Room := { frames := 1, cells := 0, slots := 0, locals := 22 }
set_option maxHeartbeats 4000000 in
set_option maxRecDepth 100000 in
theorem c_Mod_error (l : Launch) (G : k_G) (sz : Nat) (rM rP rk rG rW rK rE rst rev rod rp rb rbl : Nat) (wd ht kd db ew ac dn pr nu de wr rd cn ba sz1 lb rm cu sp nz sl uz : Int) (pic kb : Int → Int) (hwd : 1 ≤ wd ∧ wd ≤ 16) (hht : 1 ≤ ht ∧ ht ≤ 16) (hrd : rd = 0 ∨ rd = 1) : Met l y_Mod_error w_Mod_error r_Mod_error (k_P G [.ref rM] [o_Mod rM wd ht rP rk rG rW rK kd db ew ac dn pr nu de rE rst wr rd rev rod cn rp rb ba sz1 lb rm cu sp nz rbl sl uz, (rP, ai (gI G) 256 (pic)), (rk, ai (gI G) 256 (kb))] sz) (vp_Si (fun r : Int32 => r = iv (if rd = 1 then it (erM wd ht kb pic) 0 256 0 else -1))) 0 0 (fun _ => False) := by
  refine k_met (fun _ => vp_Si (fun r : Int32 => r = iv (if rd = 1 then it (erM wd ht kb pic) 0 256 0 else -1))) (fun _ _ => False) (by decide) rfl (Nat.le_of_ble_eq_true rfl) (fun p e s m args below meth c ls A Q S hr hlk hnm hl hsz hP hK hD hS hA hT hQ => ?_)
  obtain ⟨hx, hb, hml, hown, hts⟩ := id S
  have hw : ∀ w ∈ wl, w.before args s = true := fun w h => hts w (List.mem_cons_of_mem _ h)
  have hl : lv_has ls 4 [(0, .ref rM)] := hl
  refine lv_aload_n hx hb d_Mod_error_0 rfl (lv_at hl 0 rfl) ?_
  refine va_get (D := gD G) (ci := 7) (v := .int (iv (rd))) (C := R_Mod) (T := F_Mod) (N := 34) hx hb hw in_Mod hown hK hP 0 rfl rfl 18 (by decide) (hw _ m3_142) (fun _ h => h) rfl d_Mod_error_1 ?_
  refine k_if_ne (tgt := 9) hx hb d_Mod_error_4 (by decide) (by omega) (fun hc4 => ?_) (fun hc4 => ?_)
  · refine lv_iconst (v := iv (0)) hx hb d_Mod_error_9 rfl ?_
    refine lv_istore_n hx hb d_Mod_error_10 rfl hl (by decide) rfl (fun ls hl => ?_)
    have hl : lv_has ls 4 [(1, .int (iv (0))), (0, .ref rM)] := hl
    refine lv_iconst (v := iv (0)) hx hb d_Mod_error_11 rfl ?_
    refine lv_istore_n hx hb d_Mod_error_12 rfl hl (by decide) rfl (fun ls hl => ?_)
    have hl : lv_has ls 4 [(2, .int (iv (0))), (1, .int (iv (0))), (0, .ref rM)] := hl
    refine lo_up (P := fun j => ∀ (ls : Array Slot) (c1 : Int), lv_has ls 4 [(0, .ref rM), (1, .int (iv (c1))), (2, .int (iv (j)))] → (c1 = it (erM wd ht kb pic) 0 j 0) → W p l e r_Mod_error s m args below meth c s.heap [] 0 0 Q (F0 m 13 ls [])) (a := 0) (b := 256) (fun j hij hjj ihj => ?_) _ 0 (lv_sub hl [2, 1, 0] rfl) (it_self _ _ _).symm
    intro ls c1 hl hs
    refine lv_iload_n hx hb d_Mod_error_13 rfl (lv_at hl 2 rfl) ?_
    refine lv_sipush (v := iv (256)) hx hb d_Mod_error_14 rfl ?_
    refine k_icmp_ge (tgt := 61) hx hb d_Mod_error_17 (by decide) (by omega) (by omega) (fun hc17 => ?_) (fun hc17 => ?_)
    · refine lv_iload_n hx hb d_Mod_error_61 rfl (lv_at hl 1 rfl) ?_
      exact k_iretR hx hb hr hlk hQ (by rw [if_pos (by omega), hs]; congr 1; exact it_x _ _ hc17 hjj) d_Mod_error_62
    · refine lv_aload_n hx hb d_Mod_error_20 rfl (lv_at hl 0 rfl) ?_
      refine lv_iload_n hx hb d_Mod_error_21 rfl (lv_at hl 2 rfl) ?_
      refine lv_bipush (v := iv (16)) hx hb d_Mod_error_22 rfl ?_
      refine k_irem hx hb d_Mod_error_24 (by omega) (by omega) ?_
      refine lv_iload_n hx hb d_Mod_error_25 rfl (lv_at hl 2 rfl) ?_
      refine lv_bipush (v := iv (16)) hx hb d_Mod_error_26 rfl ?_
      refine k_idiv hx hb d_Mod_error_28 (by omega) (by omega) ?_
      refine k_ciR (k_rv S (c_Mod_isPlace l G _ rM rP rk rG rW rK rE rst rev rod rp rb rbl (j % 16) (j / 16) wd ht kd db ew ac dn pr nu de wr rd cn ba sz1 lb rm cu sp nz sl uz (by omega) (by omega) (by omega) (by omega)) 2 m3_235 m3_232 m3_234 mp_20 m1_9 (by decide +kernel) (by decide) rfl rfl (k_preV (q0 := 0) hK hP hD hS hA hT rfl rfl [0] (by decide) rfl) rfl hl.1 rfl (Nat.le_of_ble_eq_true rfl) d_Mod_error_29 ⟨Nat.le_of_ble_eq_true rfl, Nat.le_of_ble_eq_true rfl⟩) (fun r29 h29 => ?_)
      subst h29
      refine k_ifb_eq (tgt := 55) hx hb d_Mod_error_32 (by decide) (fun hc32 => ?_) (fun hc32 => ?_)
      · refine lv_iinc (k := 2) (v := iv (j + 1)) hx hb d_Mod_error_55 hl rfl (iv_add _ _) (by decide) rfl (fun ls hl => ?_)
        have hl : lv_has ls 4 [(2, .int (iv (j + 1))), (0, .ref rM), (1, .int (iv (c1)))] := hl
        refine lv_goto (tgt := 13) hx hb d_Mod_error_58 (by decide) ?_
        exact ihj (by omega) _ c1 (lv_sub hl [1, 2, 0] rfl) (by rw [it_s _ _ hij, ← hs]; unfold erM; first | rw [if_pos (by omega)] | rw [if_neg (by omega)])
      · refine lv_aload_n hx hb d_Mod_error_35 rfl (lv_at hl 0 rfl) ?_
        refine va_get (D := gD G) (ci := 7) (v := .ref rk) (C := R_Mod) (T := F_Mod) (N := 34) hx hb hw in_Mod hown hK hP 0 rfl rfl 3 (by decide) (hw _ m3_127) (fun _ h => h) rfl d_Mod_error_36 ?_
        refine lv_iload_n hx hb d_Mod_error_39 rfl (lv_at hl 2 rfl) ?_
        refine k_ial hx hb hK hP 2 0 rfl rfl (by decide) (by omega) d_Mod_error_40 ?_
        refine lv_aload_n hx hb d_Mod_error_41 rfl (lv_at hl 0 rfl) ?_
        refine va_get (D := gD G) (ci := 7) (v := .ref rP) (C := R_Mod) (T := F_Mod) (N := 34) hx hb hw in_Mod hown hK hP 0 rfl rfl 2 (by decide) (hw _ m3_126) (fun _ h => h) rfl d_Mod_error_42 ?_
        refine lv_iload_n hx hb d_Mod_error_45 rfl (lv_at hl 2 rfl) ?_
        refine k_ial hx hb hK hP 1 0 rfl rfl (by decide) (by omega) d_Mod_error_46 ?_
        refine k_isub hx hb d_Mod_error_47 ?_
        refine lv_istore_n hx hb d_Mod_error_48 rfl hl (by decide) rfl (fun ls hl => ?_)
        have hl : lv_has ls 4 [(3, .int (iv ((kb j) - (pic j)))), (0, .ref rM), (1, .int (iv (c1))), (2, .int (iv (j)))] := hl
        refine lv_iload_n hx hb d_Mod_error_49 rfl (lv_at hl 2 rfl) ?_
        refine lv_iload_n hx hb d_Mod_error_50 rfl (lv_at hl 0 rfl) ?_
        refine lv_iload_n hx hb d_Mod_error_51 rfl (lv_at hl 0 rfl) ?_
        refine k_imul hx hb d_Mod_error_52 ?_
        refine k_iadd hx hb d_Mod_error_53 ?_
        refine lv_istore_n hx hb d_Mod_error_54 rfl hl (by decide) rfl (fun ls hl => ?_)
        have hl : lv_has ls 4 [(1, .int (iv (c1 + (((kb j) - (pic j)) * ((kb j) - (pic j)))))), (3, .int (iv ((kb j) - (pic j)))), (0, .ref rM), (2, .int (iv (j)))] := hl
        refine lv_iinc (k := 3) (v := iv (j + 1)) hx hb d_Mod_error_55 hl rfl (iv_add _ _) (by decide) rfl (fun ls hl => ?_)
        have hl : lv_has ls 4 [(2, .int (iv (j + 1))), (1, .int (iv (c1 + (((kb j) - (pic j)) * ((kb j) - (pic j)))))), (3, .int (iv ((kb j) - (pic j)))), (0, .ref rM)] := hl
        refine lv_goto (tgt := 13) hx hb d_Mod_error_58 (by decide) ?_
        exact ihj (by omega) _ (c1 + (((kb j) - (pic j)) * ((kb j) - (pic j)))) (lv_sub hl [3, 1, 0] rfl) (by rw [it_s _ _ hij, ← hs]; unfold erM; first | rw [if_pos (by omega)] | rw [if_neg (by omega)])
  · refine lv_iconst (v := iv (-1)) hx hb d_Mod_error_7 rfl ?_
    exact k_iretR hx hb hr hlk hQ (by rw [if_neg (by omega)]) d_Mod_error_8
