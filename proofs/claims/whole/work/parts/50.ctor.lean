
/-! new cells -/
def zI : Int → Int := fun _ => 0
def zL : Int → Int64 := fun _ => 0
section KN
variable {p : Program} {l : Launch} {e : Env} {R : Room} {s : State} {m : MethodId} {args : Array Value} {below : List Frame} {meth : Method} {c : Code} {H : Heap} {locs : List Loc} {cells slots : Nat} {Q : State → Prop}
variable {cc : ByteArray} {pc : Nat} {ls : Array Slot} {rest : List Value} {G : k_G} {ws : va_W} {A : Nat → Prop}
theorem nn_n {n : Nat} (hn : n < 65536) : ¬ iv (n : Int) < 0 ∧ (iv (n : Int)).toNatClampNeg = n := by
  refine ⟨?_, by rw [iv_clamp (by omega) (by omega)]; omega⟩
  rw [iv_zero, iv_lt ⟨by omega, by omega⟩ z0]
  omega
theorem k_newi (hx : p.tables.exec = Jvm.exec) (hb : c.code = cc) (harr : (Cond.arrayClass .int).before args s = true) (hK : va_K (gD G) classes (gT G) s) (hP : va_P (gD G) classes ws H) (hD : va_D A ws) (hS : va_S A s.heap H locs) (hA : ∀ q : Nat, s.heap.size ≤ q → A q) (n : Nat) {z : Int} (hz : z = (n : Int)) (hn : n < 65536) (hcells : cells + 1 ≤ R.cells) (hslots : slots + n ≤ R.slots) (d : decode cc pc = .ok (.newarray .int, 2))
    (kk : ∀ (q : Nat) (H1 : Heap), va_P (gD G) classes (ws ++ [(q, ai (gI G) n zI)]) H1 → va_D A (ws ++ [(q, ai (gI G) n zI)]) → va_S A s.heap H1 locs → W p l e R s m args below meth c H1 locs (cells + 1) (slots + n) Q (F0 m (pc + 2) ls (.ref q :: rest))) : W p l e R s m args below meth c H locs cells slots Q (F0 m pc ls (.int (iv z) :: rest)) := by
  subst hz
  refine va_newa (atype := .int) (ty := .int) hx hb harr rfl hK hP hD hS hA (a0 := (n, .inl (fun j : Nat => iv (zI (j : Int))))) (fun cA => rfl) (nn_n hn).1 (nn_n hn).2 (by show n * 4 ≤ 536870912; omega) hcells hslots d (fun q cA H1 hK1 hP1 hD1 hS1 => ?_)
  have e1 : s.vm.findClass ("[" ++ FieldType.int.toString) = some cA := (hK1.2 3 (cA, .int) rfl).2
  have e2 : s.vm.findClass ("[" ++ FieldType.int.toString) = some (gI G) := (hK.2 0 (gI G, .int) rfl).2
  have e3 : cA = gI G := Option.some.inj (e1.symm.trans e2)
  subst e3
  exact kk q H1 hP1 hD1 hS1
theorem k_newl (hx : p.tables.exec = Jvm.exec) (hb : c.code = cc) (harr : (Cond.arrayClass .long).before args s = true) (hK : va_K (gD G) classes (gT G) s) (hP : va_P (gD G) classes ws H) (hD : va_D A ws) (hS : va_S A s.heap H locs) (hA : ∀ q : Nat, s.heap.size ≤ q → A q) (n : Nat) {z : Int} (hz : z = (n : Int)) (hn : n < 65536) (hcells : cells + 1 ≤ R.cells) (hslots : slots + n ≤ R.slots) (d : decode cc pc = .ok (.newarray .long, 2))
    (kk : ∀ (q : Nat) (H1 : Heap), va_P (gD G) classes (ws ++ [(q, al (gL G) n zL)]) H1 → va_D A (ws ++ [(q, al (gL G) n zL)]) → va_S A s.heap H1 locs → W p l e R s m args below meth c H1 locs (cells + 1) (slots + n) Q (F0 m (pc + 2) ls (.ref q :: rest))) : W p l e R s m args below meth c H locs cells slots Q (F0 m pc ls (.int (iv z) :: rest)) := by
  subst hz
  refine va_newa (atype := .long) (ty := .long) hx hb harr rfl hK hP hD hS hA (a0 := (n, .inr (.inl (fun j : Nat => zL (j : Int))))) (fun cA => rfl) (nn_n hn).1 (nn_n hn).2 (by show n * 8 ≤ 536870912; omega) hcells hslots d (fun q cA H1 hK1 hP1 hD1 hS1 => ?_)
  have e1 : s.vm.findClass ("[" ++ FieldType.long.toString) = some cA := (hK1.2 3 (cA, .long) rfl).2
  have e2 : s.vm.findClass ("[" ++ FieldType.long.toString) = some (gL G) := (hK.2 1 (gL G, .long) rfl).2
  have e3 : cA = gL G := Option.some.inj (e1.symm.trans e2)
  subst e3
  exact kk q H1 hP1 hD1 hS1
theorem k_newb (hx : p.tables.exec = Jvm.exec) (hb : c.code = cc) (harr : (Cond.arrayClass .byte).before args s = true) (hK : va_K (gD G) classes (gT G) s) (hP : va_P (gD G) classes ws H) (hD : va_D A ws) (hS : va_S A s.heap H locs) (hA : ∀ q : Nat, s.heap.size ≤ q → A q) (n : Nat) {z : Int} (hz : z = (n : Int)) (hn : n < 65536) (hcells : cells + 1 ≤ R.cells) (hslots : slots + n ≤ R.slots) (d : decode cc pc = .ok (.newarray .byte, 2))
    (kk : ∀ (q : Nat) (H1 : Heap), va_P (gD G) classes (ws ++ [(q, ai (gB G) n zI)]) H1 → va_D A (ws ++ [(q, ai (gB G) n zI)]) → va_S A s.heap H1 locs → W p l e R s m args below meth c H1 locs (cells + 1) (slots + n) Q (F0 m (pc + 2) ls (.ref q :: rest))) : W p l e R s m args below meth c H locs cells slots Q (F0 m pc ls (.int (iv z) :: rest)) := by
  subst hz
  refine va_newa (atype := .byte) (ty := .byte) hx hb harr rfl hK hP hD hS hA (a0 := (n, .inl (fun j : Nat => iv (zI (j : Int))))) (fun cA => rfl) (nn_n hn).1 (nn_n hn).2 (by show n * 1 ≤ 536870912; omega) hcells hslots d (fun q cA H1 hK1 hP1 hD1 hS1 => ?_)
  have e1 : s.vm.findClass ("[" ++ FieldType.byte.toString) = some cA := (hK1.2 3 (cA, .byte) rfl).2
  have e2 : s.vm.findClass ("[" ++ FieldType.byte.toString) = some (gB G) := (hK.2 2 (gB G, .byte) rfl).2
  have e3 : cA = gB G := Option.some.inj (e1.symm.trans e2)
  subst e3
  exact kk q H1 hP1 hD1 hS1
end KN
theorem q_st {q1 q2 : Int → Int} {i v : Int} (h : ∀ r, 0 ≤ r → r < i → q1 r = facI r ∧ q2 r = offI r) (hv : v = offI i) : ∀ r, 0 ≤ r → r < i + 1 → up q1 i (facI i) r = facI r ∧ up q2 i v r = offI r := by
  intro r r0 r1
  by_cases e : r = i
  · subst e; rw [up_self, up_self]; exact ⟨rfl, hv⟩
  · rw [up_ne _ _ e, up_ne _ _ e]; exact h r r0 (by omega)
theorem fac_k2 : ∀ r : Fin 32, 0 < facI r.val ∧ facI r.val < 1000000 := by decide +kernel
theorem fac_r2 {r : Int} (h : 0 ≤ r ∧ r < 32) : 0 < facI r ∧ facI r < 1000000 := by
  have k := fac_k2 ⟨r.toNat, by omega⟩
  simp only [Int.toNat_of_nonneg h.1] at k
  exact k
theorem m1_71 : Cond.arrayClass .int ∈ wl := wl_1 71 (by decide +kernel) (by decide +kernel)
theorem m1_129 : Cond.arrayClass .long ∈ wl := wl_1 129 (by decide +kernel) (by decide +kernel)
theorem m1_160 : Cond.classLink "WaveletSlices$SliceCoder" 22 "WaveletSlices$Bits" ∈ wl := wl_1 160 (by decide +kernel) (by decide +kernel)
theorem m1_136 : Cond.classLink "WaveletSlices$SliceCoder" 15 "WaveletSlices$Quantiser" ∈ wl := wl_1 136 (by decide +kernel) (by decide +kernel)
theorem m1_164 : Cond.code y_Bits_init prog_2_method_1_code 2 none ∈ wl := wl_1 164 (by decide +kernel) (by decide +kernel)
theorem m1_140 : Cond.code y_Quant_init prog_4_method_1_code 2 none ∈ wl := wl_1 140 (by decide +kernel) (by decide +kernel)
theorem m1_144 : Cond.code y_Quant_factorOf prog_4_method_4_code 2 (some .int) ∈ wl := wl_1 144 (by decide +kernel) (by decide +kernel)
theorem m1_20 : Cond.code ⟨"java/lang/Object", "<init>", "()V"⟩ object_method_1_code 1 none ∈ wl := wl_1 20 (by decide +kernel) (by decide +kernel)
theorem m1_45 : Cond.fieldLink "WaveletSlices$Setup" 31 "WaveletSlices$Setup" "eases" "[I" ∈ wl := wl_1 45 (by decide +kernel) (by decide +kernel)
theorem m1_27 : Cond.fieldLink "WaveletSlices$Setup" 9 "WaveletSlices$Setup" "kind" "I" ∈ wl := wl_1 27 (by decide +kernel) (by decide +kernel)
theorem m1_42 : Cond.fieldLink "WaveletSlices$Setup" 27 "WaveletSlices$Setup" "predicts" "Z" ∈ wl := wl_1 42 (by decide +kernel) (by decide +kernel)
theorem m1_163 : Cond.instanceMethod y_Bits_init ∈ wl := wl_1 163 (by decide +kernel) (by decide +kernel)
theorem m1_139 : Cond.instanceMethod y_Quant_init ∈ wl := wl_1 139 (by decide +kernel) (by decide +kernel)
theorem m1_19 : Cond.instanceMethod ⟨"java/lang/Object", "<init>", "()V"⟩ ∈ wl := wl_1 19 (by decide +kernel) (by decide +kernel)
theorem m1_161 : Cond.instantiable "WaveletSlices$Bits" 3 ∈ wl := wl_1 161 (by decide +kernel) (by decide +kernel)
theorem m1_137 : Cond.instantiable "WaveletSlices$Quantiser" 2 ∈ wl := wl_1 137 (by decide +kernel) (by decide +kernel)
theorem m1_165 : Cond.methodLink "WaveletSlices$Bits" 1 ⟨"java/lang/Object", "<init>", "()V"⟩ ∈ wl := wl_1 165 (by decide +kernel) (by decide +kernel)
theorem m1_77 : Cond.methodLink "WaveletSlices$Layout" 3 ⟨"java/lang/Object", "<init>", "()V"⟩ ∈ wl := wl_1 77 (by decide +kernel) (by decide +kernel)
theorem m1_142 : Cond.methodLink "WaveletSlices$Quantiser" 18 y_Quant_factorOf ∈ wl := wl_1 142 (by decide +kernel) (by decide +kernel)
theorem m1_141 : Cond.methodLink "WaveletSlices$Quantiser" 3 ⟨"java/lang/Object", "<init>", "()V"⟩ ∈ wl := wl_1 141 (by decide +kernel) (by decide +kernel)
theorem m1_26 : Cond.methodLink "WaveletSlices$Setup" 3 ⟨"java/lang/Object", "<init>", "()V"⟩ ∈ wl := wl_1 26 (by decide +kernel) (by decide +kernel)
theorem m1_162 : Cond.methodLink "WaveletSlices$SliceCoder" 24 y_Bits_init ∈ wl := wl_1 162 (by decide +kernel) (by decide +kernel)
theorem m1_138 : Cond.methodLink "WaveletSlices$SliceCoder" 17 y_Quant_init ∈ wl := wl_1 138 (by decide +kernel) (by decide +kernel)
theorem m1_135 : Cond.methodLink "WaveletSlices$SliceCoder" 3 ⟨"java/lang/Object", "<init>", "()V"⟩ ∈ wl := wl_1 135 (by decide +kernel) (by decide +kernel)
theorem m1_121 : Cond.methodLink "WaveletSlices$Transform" 5 ⟨"java/lang/Object", "<init>", "()V"⟩ ∈ wl := wl_1 121 (by decide +kernel) (by decide +kernel)
theorem m1_143 : Cond.static y_Quant_factorOf ∈ wl := wl_1 143 (by decide +kernel) (by decide +kernel)
theorem d_Setup_init_0 : decode prog_5_method_1_code 0 = .ok (.aload_n 0, 1) := by decide +kernel
theorem d_Setup_init_1 : decode prog_5_method_1_code 1 = .ok (.invokespecial 3, 3) := by decide +kernel
theorem d_Setup_init_4 : decode prog_5_method_1_code 4 = .ok (.aload_n 0, 1) := by decide +kernel
theorem d_Setup_init_5 : decode prog_5_method_1_code 5 = .ok (.iconst 0, 1) := by decide +kernel
theorem d_Setup_init_6 : decode prog_5_method_1_code 6 = .ok (.putfield 9, 3) := by decide +kernel
theorem d_Setup_init_9 : decode prog_5_method_1_code 9 = .ok (.aload_n 0, 1) := by decide +kernel
theorem d_Setup_init_10 : decode prog_5_method_1_code 10 = .ok (.iconst 1, 1) := by decide +kernel
theorem d_Setup_init_11 : decode prog_5_method_1_code 11 = .ok (.putfield 15, 3) := by decide +kernel
theorem d_Setup_init_14 : decode prog_5_method_1_code 14 = .ok (.aload_n 0, 1) := by decide +kernel
theorem d_Setup_init_15 : decode prog_5_method_1_code 15 = .ok (.iconst 0, 1) := by decide +kernel
theorem d_Setup_init_16 : decode prog_5_method_1_code 16 = .ok (.putfield 18, 3) := by decide +kernel
theorem d_Setup_init_19 : decode prog_5_method_1_code 19 = .ok (.aload_n 0, 1) := by decide +kernel
theorem d_Setup_init_20 : decode prog_5_method_1_code 20 = .ok (.iconst 1, 1) := by decide +kernel
theorem d_Setup_init_21 : decode prog_5_method_1_code 21 = .ok (.putfield 21, 3) := by decide +kernel
theorem d_Setup_init_24 : decode prog_5_method_1_code 24 = .ok (.aload_n 0, 1) := by decide +kernel
theorem d_Setup_init_25 : decode prog_5_method_1_code 25 = .ok (.iconst 1, 1) := by decide +kernel
theorem d_Setup_init_26 : decode prog_5_method_1_code 26 = .ok (.putfield 24, 3) := by decide +kernel
theorem d_Setup_init_29 : decode prog_5_method_1_code 29 = .ok (.aload_n 0, 1) := by decide +kernel
theorem d_Setup_init_30 : decode prog_5_method_1_code 30 = .ok (.iconst 0, 1) := by decide +kernel
theorem d_Setup_init_31 : decode prog_5_method_1_code 31 = .ok (.putfield 27, 3) := by decide +kernel
theorem d_Setup_init_34 : decode prog_5_method_1_code 34 = .ok (.aload_n 0, 1) := by decide +kernel
theorem d_Setup_init_35 : decode prog_5_method_1_code 35 = .ok (.bipush 8, 2) := by decide +kernel
theorem d_Setup_init_37 : decode prog_5_method_1_code 37 = .ok (.newarray .int, 2) := by decide +kernel
theorem d_Setup_init_39 : decode prog_5_method_1_code 39 = .ok (.putfield 31, 3) := by decide +kernel
theorem d_Setup_init_42 : decode prog_5_method_1_code 42 = .ok (.aload_n 0, 1) := by decide +kernel
theorem d_Setup_init_43 : decode prog_5_method_1_code 43 = .ok (.sipush 128, 3) := by decide +kernel
theorem d_Setup_init_46 : decode prog_5_method_1_code 46 = .ok (.putfield 35, 3) := by decide +kernel
theorem d_Setup_init_49 : decode prog_5_method_1_code 49 = .ok (.aload_n 0, 1) := by decide +kernel
theorem d_Setup_init_50 : decode prog_5_method_1_code 50 = .ok (.iconst 1, 1) := by decide +kernel
theorem d_Setup_init_51 : decode prog_5_method_1_code 51 = .ok (.putfield 38, 3) := by decide +kernel
theorem d_Setup_init_54 : decode prog_5_method_1_code 54 = .ok (.return_, 1) := by decide +kernel
theorem d_Trans_init_0 : decode prog_7_method_1_code 0 = .ok (.aload_n 0, 1) := by decide +kernel
theorem d_Trans_init_1 : decode prog_7_method_1_code 1 = .ok (.invokespecial 5, 3) := by decide +kernel
theorem d_Trans_init_4 : decode prog_7_method_1_code 4 = .ok (.aload_n 0, 1) := by decide +kernel
theorem d_Trans_init_5 : decode prog_7_method_1_code 5 = .ok (.bipush 8, 2) := by decide +kernel
theorem d_Trans_init_7 : decode prog_7_method_1_code 7 = .ok (.newarray .long, 2) := by decide +kernel
theorem d_Trans_init_9 : decode prog_7_method_1_code 9 = .ok (.putfield 11, 3) := by decide +kernel
theorem d_Trans_init_12 : decode prog_7_method_1_code 12 = .ok (.aload_n 0, 1) := by decide +kernel
theorem d_Trans_init_13 : decode prog_7_method_1_code 13 = .ok (.bipush 8, 2) := by decide +kernel
theorem d_Trans_init_15 : decode prog_7_method_1_code 15 = .ok (.newarray .long, 2) := by decide +kernel
theorem d_Trans_init_17 : decode prog_7_method_1_code 17 = .ok (.putfield 15, 3) := by decide +kernel
theorem d_Trans_init_20 : decode prog_7_method_1_code 20 = .ok (.return_, 1) := by decide +kernel
theorem d_Bits_init_0 : decode prog_2_method_1_code 0 = .ok (.aload_n 0, 1) := by decide +kernel
theorem d_Bits_init_1 : decode prog_2_method_1_code 1 = .ok (.invokespecial 1, 3) := by decide +kernel
theorem d_Bits_init_4 : decode prog_2_method_1_code 4 = .ok (.aload_n 0, 1) := by decide +kernel
theorem d_Bits_init_5 : decode prog_2_method_1_code 5 = .ok (.iconst 0, 1) := by decide +kernel
theorem d_Bits_init_6 : decode prog_2_method_1_code 6 = .ok (.putfield 7, 3) := by decide +kernel
theorem d_Bits_init_9 : decode prog_2_method_1_code 9 = .ok (.aload_n 0, 1) := by decide +kernel
theorem d_Bits_init_10 : decode prog_2_method_1_code 10 = .ok (.iconst 0, 1) := by decide +kernel
theorem d_Bits_init_11 : decode prog_2_method_1_code 11 = .ok (.putfield 13, 3) := by decide +kernel
theorem d_Bits_init_14 : decode prog_2_method_1_code 14 = .ok (.aload_n 0, 1) := by decide +kernel
theorem d_Bits_init_15 : decode prog_2_method_1_code 15 = .ok (.aload_n 1, 1) := by decide +kernel
theorem d_Bits_init_16 : decode prog_2_method_1_code 16 = .ok (.putfield 16, 3) := by decide +kernel
theorem d_Bits_init_19 : decode prog_2_method_1_code 19 = .ok (.return_, 1) := by decide +kernel
theorem d_Layout_init_0 : decode prog_3_method_1_code 0 = .ok (.aload_n 0, 1) := by decide +kernel
theorem d_Layout_init_1 : decode prog_3_method_1_code 1 = .ok (.invokespecial 3, 3) := by decide +kernel
theorem d_Layout_init_4 : decode prog_3_method_1_code 4 = .ok (.aload_n 0, 1) := by decide +kernel
theorem d_Layout_init_5 : decode prog_3_method_1_code 5 = .ok (.iconst 0, 1) := by decide +kernel
theorem d_Layout_init_6 : decode prog_3_method_1_code 6 = .ok (.putfield 9, 3) := by decide +kernel
theorem d_Layout_init_9 : decode prog_3_method_1_code 9 = .ok (.aload_n 0, 1) := by decide +kernel
theorem d_Layout_init_10 : decode prog_3_method_1_code 10 = .ok (.iconst 0, 1) := by decide +kernel
theorem d_Layout_init_11 : decode prog_3_method_1_code 11 = .ok (.putfield 15, 3) := by decide +kernel
theorem d_Layout_init_14 : decode prog_3_method_1_code 14 = .ok (.aload_n 0, 1) := by decide +kernel
theorem d_Layout_init_15 : decode prog_3_method_1_code 15 = .ok (.iconst 0, 1) := by decide +kernel
theorem d_Layout_init_16 : decode prog_3_method_1_code 16 = .ok (.putfield 18, 3) := by decide +kernel
theorem d_Layout_init_19 : decode prog_3_method_1_code 19 = .ok (.aload_n 0, 1) := by decide +kernel
theorem d_Layout_init_20 : decode prog_3_method_1_code 20 = .ok (.bipush 8, 2) := by decide +kernel
theorem d_Layout_init_22 : decode prog_3_method_1_code 22 = .ok (.newarray .int, 2) := by decide +kernel
theorem d_Layout_init_24 : decode prog_3_method_1_code 24 = .ok (.putfield 21, 3) := by decide +kernel
theorem d_Layout_init_27 : decode prog_3_method_1_code 27 = .ok (.aload_n 0, 1) := by decide +kernel
theorem d_Layout_init_28 : decode prog_3_method_1_code 28 = .ok (.bipush 8, 2) := by decide +kernel
theorem d_Layout_init_30 : decode prog_3_method_1_code 30 = .ok (.newarray .int, 2) := by decide +kernel
theorem d_Layout_init_32 : decode prog_3_method_1_code 32 = .ok (.putfield 25, 3) := by decide +kernel
theorem d_Layout_init_35 : decode prog_3_method_1_code 35 = .ok (.aload_n 0, 1) := by decide +kernel
theorem d_Layout_init_36 : decode prog_3_method_1_code 36 = .ok (.bipush 8, 2) := by decide +kernel
theorem d_Layout_init_38 : decode prog_3_method_1_code 38 = .ok (.newarray .int, 2) := by decide +kernel
theorem d_Layout_init_40 : decode prog_3_method_1_code 40 = .ok (.putfield 28, 3) := by decide +kernel
theorem d_Layout_init_43 : decode prog_3_method_1_code 43 = .ok (.aload_n 0, 1) := by decide +kernel
theorem d_Layout_init_44 : decode prog_3_method_1_code 44 = .ok (.bipush 8, 2) := by decide +kernel
theorem d_Layout_init_46 : decode prog_3_method_1_code 46 = .ok (.newarray .int, 2) := by decide +kernel
theorem d_Layout_init_48 : decode prog_3_method_1_code 48 = .ok (.putfield 31, 3) := by decide +kernel
theorem d_Layout_init_51 : decode prog_3_method_1_code 51 = .ok (.aload_n 0, 1) := by decide +kernel
theorem d_Layout_init_52 : decode prog_3_method_1_code 52 = .ok (.bipush 17, 2) := by decide +kernel
theorem d_Layout_init_54 : decode prog_3_method_1_code 54 = .ok (.newarray .int, 2) := by decide +kernel
theorem d_Layout_init_56 : decode prog_3_method_1_code 56 = .ok (.putfield 34, 3) := by decide +kernel
theorem d_Layout_init_59 : decode prog_3_method_1_code 59 = .ok (.aload_n 0, 1) := by decide +kernel
theorem d_Layout_init_60 : decode prog_3_method_1_code 60 = .ok (.sipush 256, 3) := by decide +kernel
theorem d_Layout_init_63 : decode prog_3_method_1_code 63 = .ok (.newarray .int, 2) := by decide +kernel
theorem d_Layout_init_65 : decode prog_3_method_1_code 65 = .ok (.putfield 37, 3) := by decide +kernel
theorem d_Layout_init_68 : decode prog_3_method_1_code 68 = .ok (.aload_n 0, 1) := by decide +kernel
theorem d_Layout_init_69 : decode prog_3_method_1_code 69 = .ok (.sipush 256, 3) := by decide +kernel
theorem d_Layout_init_72 : decode prog_3_method_1_code 72 = .ok (.newarray .int, 2) := by decide +kernel
theorem d_Layout_init_74 : decode prog_3_method_1_code 74 = .ok (.putfield 40, 3) := by decide +kernel
theorem d_Layout_init_77 : decode prog_3_method_1_code 77 = .ok (.return_, 1) := by decide +kernel
theorem d_Quant_init_0 : decode prog_4_method_1_code 0 = .ok (.aload_n 0, 1) := by decide +kernel
theorem d_Quant_init_1 : decode prog_4_method_1_code 1 = .ok (.invokespecial 3, 3) := by decide +kernel
theorem d_Quant_init_4 : decode prog_4_method_1_code 4 = .ok (.aload_n 0, 1) := by decide +kernel
theorem d_Quant_init_5 : decode prog_4_method_1_code 5 = .ok (.bipush 32, 2) := by decide +kernel
theorem d_Quant_init_7 : decode prog_4_method_1_code 7 = .ok (.newarray .int, 2) := by decide +kernel
theorem d_Quant_init_9 : decode prog_4_method_1_code 9 = .ok (.putfield 9, 3) := by decide +kernel
theorem d_Quant_init_12 : decode prog_4_method_1_code 12 = .ok (.aload_n 0, 1) := by decide +kernel
theorem d_Quant_init_13 : decode prog_4_method_1_code 13 = .ok (.bipush 32, 2) := by decide +kernel
theorem d_Quant_init_15 : decode prog_4_method_1_code 15 = .ok (.newarray .int, 2) := by decide +kernel
theorem d_Quant_init_17 : decode prog_4_method_1_code 17 = .ok (.putfield 15, 3) := by decide +kernel
theorem d_Quant_init_20 : decode prog_4_method_1_code 20 = .ok (.iconst 0, 1) := by decide +kernel
theorem d_Quant_init_21 : decode prog_4_method_1_code 21 = .ok (.istore_n 1, 1) := by decide +kernel
theorem d_Quant_init_22 : decode prog_4_method_1_code 22 = .ok (.iload_n 1, 1) := by decide +kernel
theorem d_Quant_init_23 : decode prog_4_method_1_code 23 = .ok (.bipush 31, 2) := by decide +kernel
theorem d_Quant_init_25 : decode prog_4_method_1_code 25 = .ok (.if_icmp .gt 46, 3) := by decide +kernel
theorem d_Quant_init_28 : decode prog_4_method_1_code 28 = .ok (.aload_n 0, 1) := by decide +kernel
theorem d_Quant_init_29 : decode prog_4_method_1_code 29 = .ok (.getfield 9, 3) := by decide +kernel
theorem d_Quant_init_32 : decode prog_4_method_1_code 32 = .ok (.iload_n 1, 1) := by decide +kernel
theorem d_Quant_init_33 : decode prog_4_method_1_code 33 = .ok (.iload_n 1, 1) := by decide +kernel
theorem d_Quant_init_34 : decode prog_4_method_1_code 34 = .ok (.invokestatic 18, 3) := by decide +kernel
theorem d_Quant_init_37 : decode prog_4_method_1_code 37 = .ok (.iastore, 1) := by decide +kernel
theorem d_Quant_init_38 : decode prog_4_method_1_code 38 = .ok (.aload_n 0, 1) := by decide +kernel
theorem d_Quant_init_39 : decode prog_4_method_1_code 39 = .ok (.getfield 15, 3) := by decide +kernel
theorem d_Quant_init_42 : decode prog_4_method_1_code 42 = .ok (.iload_n 1, 1) := by decide +kernel
theorem d_Quant_init_43 : decode prog_4_method_1_code 43 = .ok (.iload_n 1, 1) := by decide +kernel
theorem d_Quant_init_44 : decode prog_4_method_1_code 44 = .ok (.iconst 2, 1) := by decide +kernel
theorem d_Quant_init_45 : decode prog_4_method_1_code 45 = .ok (.if_icmp .ge 9, 3) := by decide +kernel
theorem d_Quant_init_48 : decode prog_4_method_1_code 48 = .ok (.iload_n 1, 1) := by decide +kernel
theorem d_Quant_init_49 : decode prog_4_method_1_code 49 = .ok (.iconst 1, 1) := by decide +kernel
theorem d_Quant_init_50 : decode prog_4_method_1_code 50 = .ok (.iadd, 1) := by decide +kernel
theorem d_Quant_init_51 : decode prog_4_method_1_code 51 = .ok (.goto 13, 3) := by decide +kernel
theorem d_Quant_init_54 : decode prog_4_method_1_code 54 = .ok (.aload_n 0, 1) := by decide +kernel
theorem d_Quant_init_55 : decode prog_4_method_1_code 55 = .ok (.getfield 9, 3) := by decide +kernel
theorem d_Quant_init_58 : decode prog_4_method_1_code 58 = .ok (.iload_n 1, 1) := by decide +kernel
theorem d_Quant_init_59 : decode prog_4_method_1_code 59 = .ok (.iaload, 1) := by decide +kernel
theorem d_Quant_init_60 : decode prog_4_method_1_code 60 = .ok (.iconst 1, 1) := by decide +kernel
theorem d_Quant_init_61 : decode prog_4_method_1_code 61 = .ok (.iadd, 1) := by decide +kernel
theorem d_Quant_init_62 : decode prog_4_method_1_code 62 = .ok (.iconst 1, 1) := by decide +kernel
theorem d_Quant_init_63 : decode prog_4_method_1_code 63 = .ok (.ishr, 1) := by decide +kernel
theorem d_Quant_init_64 : decode prog_4_method_1_code 64 = .ok (.iastore, 1) := by decide +kernel
theorem d_Quant_init_65 : decode prog_4_method_1_code 65 = .ok (.iinc 1 1, 3) := by decide +kernel
theorem d_Quant_init_68 : decode prog_4_method_1_code 68 = .ok (.goto (-46), 3) := by decide +kernel
theorem d_Quant_init_71 : decode prog_4_method_1_code 71 = .ok (.return_, 1) := by decide +kernel
theorem d_Coder_init_0 : decode prog_6_method_1_code 0 = .ok (.aload_n 0, 1) := by decide +kernel
theorem d_Coder_init_1 : decode prog_6_method_1_code 1 = .ok (.invokespecial 3, 3) := by decide +kernel
theorem d_Coder_init_4 : decode prog_6_method_1_code 4 = .ok (.aload_n 0, 1) := by decide +kernel
theorem d_Coder_init_5 : decode prog_6_method_1_code 5 = .ok (.sipush 2048, 3) := by decide +kernel
theorem d_Coder_init_8 : decode prog_6_method_1_code 8 = .ok (.newarray .int, 2) := by decide +kernel
theorem d_Coder_init_10 : decode prog_6_method_1_code 10 = .ok (.putfield 9, 3) := by decide +kernel
theorem d_Coder_init_13 : decode prog_6_method_1_code 13 = .ok (.aload_n 0, 1) := by decide +kernel
theorem d_Coder_init_14 : decode prog_6_method_1_code 14 = .ok (.new 15, 3) := by decide +kernel
theorem d_Coder_init_17 : decode prog_6_method_1_code 17 = .ok (.dup, 1) := by decide +kernel
theorem d_Coder_init_18 : decode prog_6_method_1_code 18 = .ok (.invokespecial 17, 3) := by decide +kernel
theorem d_Coder_init_21 : decode prog_6_method_1_code 21 = .ok (.putfield 18, 3) := by decide +kernel
theorem d_Coder_init_24 : decode prog_6_method_1_code 24 = .ok (.aload_n 0, 1) := by decide +kernel
theorem d_Coder_init_25 : decode prog_6_method_1_code 25 = .ok (.new 22, 3) := by decide +kernel
theorem d_Coder_init_28 : decode prog_6_method_1_code 28 = .ok (.dup, 1) := by decide +kernel
theorem d_Coder_init_29 : decode prog_6_method_1_code 29 = .ok (.aload_n 0, 1) := by decide +kernel
theorem d_Coder_init_30 : decode prog_6_method_1_code 30 = .ok (.getfield 9, 3) := by decide +kernel
theorem d_Coder_init_33 : decode prog_6_method_1_code 33 = .ok (.invokespecial 24, 3) := by decide +kernel
theorem d_Coder_init_36 : decode prog_6_method_1_code 36 = .ok (.putfield 27, 3) := by decide +kernel
theorem d_Coder_init_39 : decode prog_6_method_1_code 39 = .ok (.aload_n 0, 1) := by decide +kernel
theorem d_Coder_init_40 : decode prog_6_method_1_code 40 = .ok (.sipush 256, 3) := by decide +kernel
theorem d_Coder_init_43 : decode prog_6_method_1_code 43 = .ok (.newarray .int, 2) := by decide +kernel
theorem d_Coder_init_45 : decode prog_6_method_1_code 45 = .ok (.putfield 31, 3) := by decide +kernel
theorem d_Coder_init_48 : decode prog_6_method_1_code 48 = .ok (.aload_n 0, 1) := by decide +kernel
theorem d_Coder_init_49 : decode prog_6_method_1_code 49 = .ok (.iconst 0, 1) := by decide +kernel
theorem d_Coder_init_50 : decode prog_6_method_1_code 50 = .ok (.putfield 34, 3) := by decide +kernel
theorem d_Coder_init_53 : decode prog_6_method_1_code 53 = .ok (.aload_n 0, 1) := by decide +kernel
theorem d_Coder_init_54 : decode prog_6_method_1_code 54 = .ok (.iconst 0, 1) := by decide +kernel
theorem d_Coder_init_55 : decode prog_6_method_1_code 55 = .ok (.putfield 38, 3) := by decide +kernel
theorem d_Coder_init_58 : decode prog_6_method_1_code 58 = .ok (.aload_n 0, 1) := by decide +kernel
theorem d_Coder_init_59 : decode prog_6_method_1_code 59 = .ok (.iconst 0, 1) := by decide +kernel
theorem d_Coder_init_60 : decode prog_6_method_1_code 60 = .ok (.putfield 41, 3) := by decide +kernel
theorem d_Coder_init_63 : decode prog_6_method_1_code 63 = .ok (.aload_n 0, 1) := by decide +kernel
theorem d_Coder_init_64 : decode prog_6_method_1_code 64 = .ok (.iconst 0, 1) := by decide +kernel
theorem d_Coder_init_65 : decode prog_6_method_1_code 65 = .ok (.putfield 44, 3) := by decide +kernel
theorem d_Coder_init_68 : decode prog_6_method_1_code 68 = .ok (.aload_n 0, 1) := by decide +kernel
theorem d_Coder_init_69 : decode prog_6_method_1_code 69 = .ok (.iconst 0, 1) := by decide +kernel
theorem d_Coder_init_70 : decode prog_6_method_1_code 70 = .ok (.putfield 47, 3) := by decide +kernel
theorem d_Coder_init_73 : decode prog_6_method_1_code 73 = .ok (.aload_n 0, 1) := by decide +kernel
theorem d_Coder_init_74 : decode prog_6_method_1_code 74 = .ok (.aload_n 1, 1) := by decide +kernel
theorem d_Coder_init_75 : decode prog_6_method_1_code 75 = .ok (.putfield 50, 3) := by decide +kernel
theorem d_Coder_init_78 : decode prog_6_method_1_code 78 = .ok (.aload_n 0, 1) := by decide +kernel
theorem d_Coder_init_79 : decode prog_6_method_1_code 79 = .ok (.aload_n 2, 1) := by decide +kernel
theorem d_Coder_init_80 : decode prog_6_method_1_code 80 = .ok (.putfield 54, 3) := by decide +kernel
theorem d_Coder_init_83 : decode prog_6_method_1_code 83 = .ok (.return_, 1) := by decide +kernel
abbrev w_Setup_init : List Cond := Cond.code y_Setup_init prog_5_method_1_code 1 none :: wl
abbrev r_Setup_init : Room := { frames := 1, cells := 1, slots := 8, locals := 24 }
set_option maxHeartbeats 4000000 in
set_option maxRecDepth 100000 in
theorem c_Setup_init (l : Launch) (G : k_G) (sz : Nat) (rS : Nat) : Met l y_Setup_init w_Setup_init r_Setup_init (k_P G [.ref rS] [(rS, .inr (3, [.int (iv (0)), .int (iv (0)), .int (iv (0)), .int (iv (0)), .int (iv (0)), .int (iv (0)), .null, .int (iv (0)), .int (iv (0))]))] sz) (qv G (fun u : Nat => True) (fun u : Nat => [(rS, .inr (3, [.int (iv (0)), .int (iv (1)), .int (iv (0)), .int (iv (1)), .int (iv (1)), .int (iv (0)), .ref u, .int (iv (128)), .int (iv (1))])), (u, ai (gI G) 8 (zI))]) (va_A [(rS, .inr (3, [.int (iv (0)), .int (iv (0)), .int (iv (0)), .int (iv (0)), .int (iv (0)), .int (iv (0)), .null, .int (iv (0)), .int (iv (0))]))] sz)) 1 8 (va_A [(rS, .inr (3, [.int (iv (0)), .int (iv (0)), .int (iv (0)), .int (iv (0)), .int (iv (0)), .int (iv (0)), .null, .int (iv (0)), .int (iv (0))]))] sz) := by
  refine k_met (fun A => qv G (fun u : Nat => True) (fun u : Nat => [(rS, .inr (3, [.int (iv (0)), .int (iv (1)), .int (iv (0)), .int (iv (1)), .int (iv (1)), .int (iv (0)), .ref u, .int (iv (128)), .int (iv (1))])), (u, ai (gI G) 8 (zI))]) A) (fun A => A) (by decide) rfl (Nat.le_of_ble_eq_true rfl) (fun p e s m args below meth c ls A Q S hr hlk hnm hl hsz hP hK hD hS hA hT hQ => ?_)
  obtain ⟨hx, hb, hml, hown, hts⟩ := id S
  have hw : ∀ w ∈ wl, w.before args s = true := fun w h => hts w (List.mem_cons_of_mem _ h)
  have hl : lv_has ls 1 [(0, .ref rS)] := hl
  refine lv_aload_n hx hb d_Setup_init_0 rfl (lv_at hl 0 rfl) ?_
  refine W.objInit hx hb hown (hw _ m1_26) (hw _ m1_19) (hw _ m1_20) rfl (by rw [hml]; exact hl.1) rfl d_Setup_init_1 (by decide) (Nat.le_of_ble_eq_true rfl) ?_
  refine W.eq (g2 := F0 m 4 ls []) rfl ?_
  refine lv_aload_n hx hb d_Setup_init_4 rfl (lv_at hl 0 rfl) ?_
  refine lv_iconst (v := iv (0)) hx hb d_Setup_init_5 rfl ?_
  refine va_put (D := gD G) (ci := 3) (v := .int (iv (0))) (ty := .int) (C := R_Setup) (T := F_Setup) (N := 9) hx hb hw in_Setup t_Setup t_Setup_ok n_Setup hown hK hP hD hS 0 rfl rfl 0 (by decide) (hw _ m1_27) (fun _ h => h) rfl (by decide +kernel) rfl rfl (Nat.le_of_ble_eq_true rfl) d_Setup_init_6 (fun H locs hP hD hS => ?_)
  have hP : va_P (gD G) classes [(rS, .inr (3, [.int (iv (0)), .int (iv (0)), .int (iv (0)), .int (iv (0)), .int (iv (0)), .int (iv (0)), .null, .int (iv (0)), .int (iv (0))]))] H := hP
  have hD : va_D A [(rS, .inr (3, [.int (iv (0)), .int (iv (0)), .int (iv (0)), .int (iv (0)), .int (iv (0)), .int (iv (0)), .null, .int (iv (0)), .int (iv (0))]))] := hD
  refine lv_aload_n hx hb d_Setup_init_9 rfl (lv_at hl 0 rfl) ?_
  refine lv_iconst (v := iv (1)) hx hb d_Setup_init_10 rfl ?_
  refine va_put (D := gD G) (ci := 3) (v := .int (iv (1))) (ty := .int) (C := R_Setup) (T := F_Setup) (N := 9) hx hb hw in_Setup t_Setup t_Setup_ok n_Setup hown hK hP hD hS 0 rfl rfl 1 (by decide) (hw _ m1_30) (fun _ h => h) rfl (by decide +kernel) rfl rfl (Nat.le_of_ble_eq_true rfl) d_Setup_init_11 (fun H locs hP hD hS => ?_)
  have hP : va_P (gD G) classes [(rS, .inr (3, [.int (iv (0)), .int (iv (1)), .int (iv (0)), .int (iv (0)), .int (iv (0)), .int (iv (0)), .null, .int (iv (0)), .int (iv (0))]))] H := hP
  have hD : va_D A [(rS, .inr (3, [.int (iv (0)), .int (iv (1)), .int (iv (0)), .int (iv (0)), .int (iv (0)), .int (iv (0)), .null, .int (iv (0)), .int (iv (0))]))] := hD
  refine lv_aload_n hx hb d_Setup_init_14 rfl (lv_at hl 0 rfl) ?_
  refine lv_iconst (v := iv (0)) hx hb d_Setup_init_15 rfl ?_
  refine va_put (D := gD G) (ci := 3) (v := .int (iv (0))) (ty := .int) (C := R_Setup) (T := F_Setup) (N := 9) hx hb hw in_Setup t_Setup t_Setup_ok n_Setup hown hK hP hD hS 0 rfl rfl 2 (by decide) (hw _ m1_34) (fun _ h => h) rfl (by decide +kernel) rfl rfl (Nat.le_of_ble_eq_true rfl) d_Setup_init_16 (fun H locs hP hD hS => ?_)
  have hP : va_P (gD G) classes [(rS, .inr (3, [.int (iv (0)), .int (iv (1)), .int (iv (0)), .int (iv (0)), .int (iv (0)), .int (iv (0)), .null, .int (iv (0)), .int (iv (0))]))] H := hP
  have hD : va_D A [(rS, .inr (3, [.int (iv (0)), .int (iv (1)), .int (iv (0)), .int (iv (0)), .int (iv (0)), .int (iv (0)), .null, .int (iv (0)), .int (iv (0))]))] := hD
  refine lv_aload_n hx hb d_Setup_init_19 rfl (lv_at hl 0 rfl) ?_
  refine lv_iconst (v := iv (1)) hx hb d_Setup_init_20 rfl ?_
  refine va_put (D := gD G) (ci := 3) (v := .int (iv (1))) (ty := .int) (C := R_Setup) (T := F_Setup) (N := 9) hx hb hw in_Setup t_Setup t_Setup_ok n_Setup hown hK hP hD hS 0 rfl rfl 3 (by decide) (hw _ m1_36) (fun _ h => h) rfl (by decide +kernel) rfl rfl (Nat.le_of_ble_eq_true rfl) d_Setup_init_21 (fun H locs hP hD hS => ?_)
  have hP : va_P (gD G) classes [(rS, .inr (3, [.int (iv (0)), .int (iv (1)), .int (iv (0)), .int (iv (1)), .int (iv (0)), .int (iv (0)), .null, .int (iv (0)), .int (iv (0))]))] H := hP
  have hD : va_D A [(rS, .inr (3, [.int (iv (0)), .int (iv (1)), .int (iv (0)), .int (iv (1)), .int (iv (0)), .int (iv (0)), .null, .int (iv (0)), .int (iv (0))]))] := hD
  refine lv_aload_n hx hb d_Setup_init_24 rfl (lv_at hl 0 rfl) ?_
  refine lv_iconst (v := iv (1)) hx hb d_Setup_init_25 rfl ?_
  refine va_put (D := gD G) (ci := 3) (v := .int (iv (1))) (ty := .int) (C := R_Setup) (T := F_Setup) (N := 9) hx hb hw in_Setup t_Setup t_Setup_ok n_Setup hown hK hP hD hS 0 rfl rfl 4 (by decide) (hw _ m1_39) (fun _ h => h) rfl (by decide +kernel) rfl rfl (Nat.le_of_ble_eq_true rfl) d_Setup_init_26 (fun H locs hP hD hS => ?_)
  have hP : va_P (gD G) classes [(rS, .inr (3, [.int (iv (0)), .int (iv (1)), .int (iv (0)), .int (iv (1)), .int (iv (1)), .int (iv (0)), .null, .int (iv (0)), .int (iv (0))]))] H := hP
  have hD : va_D A [(rS, .inr (3, [.int (iv (0)), .int (iv (1)), .int (iv (0)), .int (iv (1)), .int (iv (1)), .int (iv (0)), .null, .int (iv (0)), .int (iv (0))]))] := hD
  refine lv_aload_n hx hb d_Setup_init_29 rfl (lv_at hl 0 rfl) ?_
  refine lv_iconst (v := iv (0)) hx hb d_Setup_init_30 rfl ?_
  refine va_put (D := gD G) (ci := 3) (v := .int (iv (0))) (ty := .boolean) (C := R_Setup) (T := F_Setup) (N := 9) hx hb hw in_Setup t_Setup t_Setup_ok n_Setup hown hK hP hD hS 0 rfl rfl 5 (by decide) (hw _ m1_42) (fun _ h => h) rfl (by decide +kernel) (nar_z (by omega)) (fit_z (by omega)) (Nat.le_of_ble_eq_true rfl) d_Setup_init_31 (fun H locs hP hD hS => ?_)
  have hP : va_P (gD G) classes [(rS, .inr (3, [.int (iv (0)), .int (iv (1)), .int (iv (0)), .int (iv (1)), .int (iv (1)), .int (iv (0)), .null, .int (iv (0)), .int (iv (0))]))] H := hP
  have hD : va_D A [(rS, .inr (3, [.int (iv (0)), .int (iv (1)), .int (iv (0)), .int (iv (1)), .int (iv (1)), .int (iv (0)), .null, .int (iv (0)), .int (iv (0))]))] := hD
  refine lv_aload_n hx hb d_Setup_init_34 rfl (lv_at hl 0 rfl) ?_
  refine lv_bipush (v := iv (8)) hx hb d_Setup_init_35 rfl ?_
  refine k_newi hx hb (hw _ m1_71) hK hP hD hS hA 8 rfl (by decide) (Nat.le_of_ble_eq_true rfl) (Nat.le_of_ble_eq_true rfl) d_Setup_init_37 (fun n37 H hP hD hS => ?_)
  have hP : va_P (gD G) classes [(rS, .inr (3, [.int (iv (0)), .int (iv (1)), .int (iv (0)), .int (iv (1)), .int (iv (1)), .int (iv (0)), .null, .int (iv (0)), .int (iv (0))])), (n37, ai (gI G) 8 (zI))] H := hP
  have hD : va_D A [(rS, .inr (3, [.int (iv (0)), .int (iv (1)), .int (iv (0)), .int (iv (1)), .int (iv (1)), .int (iv (0)), .null, .int (iv (0)), .int (iv (0))])), (n37, ai (gI G) 8 (zI))] := hD
  refine va_putF (D := gD G) (ci := 3) (v := .ref n37) (ty := .array .int) (C := R_Setup) (T := F_Setup) (N := 9) hx hb hw in_Setup t_Setup t_Setup_ok n_Setup hown hK hP hD hS 0 rfl rfl 6 (by decide) (hw _ m1_45) (fun _ h => h) rfl hnm rfl (by decide +kernel) rfl rfl (Nat.le_of_ble_eq_true rfl) d_Setup_init_39 (fun H locs hP hD hS => ?_)
  have hP : va_P (gD G) classes [(rS, .inr (3, [.int (iv (0)), .int (iv (1)), .int (iv (0)), .int (iv (1)), .int (iv (1)), .int (iv (0)), .ref n37, .int (iv (0)), .int (iv (0))])), (n37, ai (gI G) 8 (zI))] H := hP
  have hD : va_D A [(rS, .inr (3, [.int (iv (0)), .int (iv (1)), .int (iv (0)), .int (iv (1)), .int (iv (1)), .int (iv (0)), .ref n37, .int (iv (0)), .int (iv (0))])), (n37, ai (gI G) 8 (zI))] := hD
  refine lv_aload_n hx hb d_Setup_init_42 rfl (lv_at hl 0 rfl) ?_
  refine lv_sipush (v := iv (128)) hx hb d_Setup_init_43 rfl ?_
  refine va_put (D := gD G) (ci := 3) (v := .int (iv (128))) (ty := .int) (C := R_Setup) (T := F_Setup) (N := 9) hx hb hw in_Setup t_Setup t_Setup_ok n_Setup hown hK hP hD hS 0 rfl rfl 7 (by decide) (hw _ m1_48) (fun _ h => h) rfl (by decide +kernel) rfl rfl (Nat.le_of_ble_eq_true rfl) d_Setup_init_46 (fun H locs hP hD hS => ?_)
  have hP : va_P (gD G) classes [(rS, .inr (3, [.int (iv (0)), .int (iv (1)), .int (iv (0)), .int (iv (1)), .int (iv (1)), .int (iv (0)), .ref n37, .int (iv (128)), .int (iv (0))])), (n37, ai (gI G) 8 (zI))] H := hP
  have hD : va_D A [(rS, .inr (3, [.int (iv (0)), .int (iv (1)), .int (iv (0)), .int (iv (1)), .int (iv (1)), .int (iv (0)), .ref n37, .int (iv (128)), .int (iv (0))])), (n37, ai (gI G) 8 (zI))] := hD
  refine lv_aload_n hx hb d_Setup_init_49 rfl (lv_at hl 0 rfl) ?_
  refine lv_iconst (v := iv (1)) hx hb d_Setup_init_50 rfl ?_
  refine va_put (D := gD G) (ci := 3) (v := .int (iv (1))) (ty := .int) (C := R_Setup) (T := F_Setup) (N := 9) hx hb hw in_Setup t_Setup t_Setup_ok n_Setup hown hK hP hD hS 0 rfl rfl 8 (by decide) (hw _ m1_50) (fun _ h => h) rfl (by decide +kernel) rfl rfl (Nat.le_of_ble_eq_true rfl) d_Setup_init_51 (fun H locs hP hD hS => ?_)
  have hP : va_P (gD G) classes [(rS, .inr (3, [.int (iv (0)), .int (iv (1)), .int (iv (0)), .int (iv (1)), .int (iv (1)), .int (iv (0)), .ref n37, .int (iv (128)), .int (iv (1))])), (n37, ai (gI G) 8 (zI))] H := hP
  have hD : va_D A [(rS, .inr (3, [.int (iv (0)), .int (iv (1)), .int (iv (0)), .int (iv (1)), .int (iv (1)), .int (iv (0)), .ref n37, .int (iv (128)), .int (iv (1))])), (n37, ai (gI G) 8 (zI))] := hD
  exact k_vret hx hb hr hlk hQ (n37) (trivial) hP hD hS d_Setup_init_54
abbrev w_Trans_init : List Cond := Cond.code y_Trans_init prog_7_method_1_code 1 none :: wl
abbrev r_Trans_init : Room := { frames := 1, cells := 2, slots := 16, locals := 24 }
set_option maxHeartbeats 4000000 in
set_option maxRecDepth 100000 in
theorem c_Trans_init (l : Launch) (G : k_G) (sz : Nat) (rT : Nat) : Met l y_Trans_init w_Trans_init r_Trans_init (k_P G [.ref rT] [(rT, .inr (5, [.null, .null]))] sz) (qv G (fun u : Nat × Nat => True) (fun u : Nat × Nat => [(rT, .inr (5, [.ref u.1, .ref u.2])), (u.1, al (gL G) 8 (zL)), (u.2, al (gL G) 8 (zL))]) (va_A [(rT, .inr (5, [.null, .null]))] sz)) 2 16 (va_A [(rT, .inr (5, [.null, .null]))] sz) := by
  refine k_met (fun A => qv G (fun u : Nat × Nat => True) (fun u : Nat × Nat => [(rT, .inr (5, [.ref u.1, .ref u.2])), (u.1, al (gL G) 8 (zL)), (u.2, al (gL G) 8 (zL))]) A) (fun A => A) (by decide) rfl (Nat.le_of_ble_eq_true rfl) (fun p e s m args below meth c ls A Q S hr hlk hnm hl hsz hP hK hD hS hA hT hQ => ?_)
  obtain ⟨hx, hb, hml, hown, hts⟩ := id S
  have hw : ∀ w ∈ wl, w.before args s = true := fun w h => hts w (List.mem_cons_of_mem _ h)
  have hl : lv_has ls 1 [(0, .ref rT)] := hl
  refine lv_aload_n hx hb d_Trans_init_0 rfl (lv_at hl 0 rfl) ?_
  refine W.objInit hx hb hown (hw _ m1_121) (hw _ m1_19) (hw _ m1_20) rfl (by rw [hml]; exact hl.1) rfl d_Trans_init_1 (by decide) (Nat.le_of_ble_eq_true rfl) ?_
  refine W.eq (g2 := F0 m 4 ls []) rfl ?_
  refine lv_aload_n hx hb d_Trans_init_4 rfl (lv_at hl 0 rfl) ?_
  refine lv_bipush (v := iv (8)) hx hb d_Trans_init_5 rfl ?_
  refine k_newl hx hb (hw _ m1_129) hK hP hD hS hA 8 rfl (by decide) (Nat.le_of_ble_eq_true rfl) (Nat.le_of_ble_eq_true rfl) d_Trans_init_7 (fun n7 H hP hD hS => ?_)
  have hP : va_P (gD G) classes [(rT, .inr (5, [.null, .null])), (n7, al (gL G) 8 (zL))] H := hP
  have hD : va_D A [(rT, .inr (5, [.null, .null])), (n7, al (gL G) 8 (zL))] := hD
  refine va_putF (D := gD G) (ci := 5) (v := .ref n7) (ty := .array .long) (C := R_Trans) (T := F_Trans) (N := 2) hx hb hw in_Trans t_Trans t_Trans_ok n_Trans hown hK hP hD hS 0 rfl rfl 0 (by decide) (hw _ m1_122) (fun _ h => h) rfl hnm rfl (by decide +kernel) rfl rfl (Nat.le_of_ble_eq_true rfl) d_Trans_init_9 (fun H locs hP hD hS => ?_)
  have hP : va_P (gD G) classes [(rT, .inr (5, [.ref n7, .null])), (n7, al (gL G) 8 (zL))] H := hP
  have hD : va_D A [(rT, .inr (5, [.ref n7, .null])), (n7, al (gL G) 8 (zL))] := hD
  refine lv_aload_n hx hb d_Trans_init_12 rfl (lv_at hl 0 rfl) ?_
  refine lv_bipush (v := iv (8)) hx hb d_Trans_init_13 rfl ?_
  refine k_newl hx hb (hw _ m1_129) hK hP hD hS hA 8 rfl (by decide) (Nat.le_of_ble_eq_true rfl) (Nat.le_of_ble_eq_true rfl) d_Trans_init_15 (fun n15 H hP hD hS => ?_)
  have hP : va_P (gD G) classes [(rT, .inr (5, [.ref n7, .null])), (n7, al (gL G) 8 (zL)), (n15, al (gL G) 8 (zL))] H := hP
  have hD : va_D A [(rT, .inr (5, [.ref n7, .null])), (n7, al (gL G) 8 (zL)), (n15, al (gL G) 8 (zL))] := hD
  refine va_putF (D := gD G) (ci := 5) (v := .ref n15) (ty := .array .long) (C := R_Trans) (T := F_Trans) (N := 2) hx hb hw in_Trans t_Trans t_Trans_ok n_Trans hown hK hP hD hS 0 rfl rfl 1 (by decide) (hw _ m1_123) (fun _ h => h) rfl hnm rfl (by decide +kernel) rfl rfl (Nat.le_of_ble_eq_true rfl) d_Trans_init_17 (fun H locs hP hD hS => ?_)
  have hP : va_P (gD G) classes [(rT, .inr (5, [.ref n7, .ref n15])), (n7, al (gL G) 8 (zL)), (n15, al (gL G) 8 (zL))] H := hP
  have hD : va_D A [(rT, .inr (5, [.ref n7, .ref n15])), (n7, al (gL G) 8 (zL)), (n15, al (gL G) 8 (zL))] := hD
  exact k_vret hx hb hr hlk hQ ((n7, n15)) (trivial) hP hD hS d_Trans_init_20
abbrev w_Bits_init : List Cond := Cond.code y_Bits_init prog_2_method_1_code 2 none :: wl
abbrev r_Bits_init : Room := { frames := 1, cells := 0, slots := 0, locals := 24 }
set_option maxHeartbeats 4000000 in
set_option maxRecDepth 100000 in
theorem c_Bits_init (l : Launch) (G : k_G) (sz : Nat) (rB rb0 : Nat) : Met l y_Bits_init w_Bits_init r_Bits_init (k_P G [.ref rB, .ref rb0] [(rB, .inr (0, [.null, .int (iv (0)), .int (iv (0))]))] sz) (qv G (fun u : Unit => True) (fun u : Unit => [(rB, .inr (0, [.ref rb0, .int (iv (0)), .int (iv (0))]))]) (va_A [(rB, .inr (0, [.null, .int (iv (0)), .int (iv (0))]))] sz)) 0 0 (va_A [(rB, .inr (0, [.null, .int (iv (0)), .int (iv (0))]))] sz) := by
  refine k_met (fun A => qv G (fun u : Unit => True) (fun u : Unit => [(rB, .inr (0, [.ref rb0, .int (iv (0)), .int (iv (0))]))]) A) (fun A => A) (by decide) rfl (Nat.le_of_ble_eq_true rfl) (fun p e s m args below meth c ls A Q S hr hlk hnm hl hsz hP hK hD hS hA hT hQ => ?_)
  obtain ⟨hx, hb, hml, hown, hts⟩ := id S
  have hw : ∀ w ∈ wl, w.before args s = true := fun w h => hts w (List.mem_cons_of_mem _ h)
  have hl : lv_has ls 2 [(0, .ref rB), (1, .ref rb0)] := hl
  refine lv_aload_n hx hb d_Bits_init_0 rfl (lv_at hl 0 rfl) ?_
  refine W.objInit hx hb hown (hw _ m1_165) (hw _ m1_19) (hw _ m1_20) rfl (by rw [hml]; exact hl.1) rfl d_Bits_init_1 (by decide) (Nat.le_of_ble_eq_true rfl) ?_
  refine W.eq (g2 := F0 m 4 ls []) rfl ?_
  refine lv_aload_n hx hb d_Bits_init_4 rfl (lv_at hl 0 rfl) ?_
  refine lv_iconst (v := iv (0)) hx hb d_Bits_init_5 rfl ?_
  refine va_put (D := gD G) (ci := 0) (v := .int (iv (0))) (ty := .int) (C := R_Bits) (T := F_Bits) (N := 3) hx hb hw in_Bits t_Bits t_Bits_ok n_Bits hown hK hP hD hS 0 rfl rfl 1 (by decide) (hw _ m1_167) (fun _ h => h) rfl (by decide +kernel) rfl rfl (Nat.le_of_ble_eq_true rfl) d_Bits_init_6 (fun H locs hP hD hS => ?_)
  have hP : va_P (gD G) classes [(rB, .inr (0, [.null, .int (iv (0)), .int (iv (0))]))] H := hP
  have hD : va_D A [(rB, .inr (0, [.null, .int (iv (0)), .int (iv (0))]))] := hD
  refine lv_aload_n hx hb d_Bits_init_9 rfl (lv_at hl 0 rfl) ?_
  refine lv_iconst (v := iv (0)) hx hb d_Bits_init_10 rfl ?_
  refine va_put (D := gD G) (ci := 0) (v := .int (iv (0))) (ty := .int) (C := R_Bits) (T := F_Bits) (N := 3) hx hb hw in_Bits t_Bits t_Bits_ok n_Bits hown hK hP hD hS 0 rfl rfl 2 (by decide) (hw _ m1_168) (fun _ h => h) rfl (by decide +kernel) rfl rfl (Nat.le_of_ble_eq_true rfl) d_Bits_init_11 (fun H locs hP hD hS => ?_)
  have hP : va_P (gD G) classes [(rB, .inr (0, [.null, .int (iv (0)), .int (iv (0))]))] H := hP
  have hD : va_D A [(rB, .inr (0, [.null, .int (iv (0)), .int (iv (0))]))] := hD
  refine lv_aload_n hx hb d_Bits_init_14 rfl (lv_at hl 0 rfl) ?_
  refine lv_aload_n hx hb d_Bits_init_15 rfl (lv_at hl 1 rfl) ?_
  refine va_putF (D := gD G) (ci := 0) (v := .ref rb0) (ty := .array .int) (C := R_Bits) (T := F_Bits) (N := 3) hx hb hw in_Bits t_Bits t_Bits_ok n_Bits hown hK hP hD hS 0 rfl rfl 0 (by decide) (hw _ m1_166) (fun _ h => h) rfl hnm rfl (by decide +kernel) rfl rfl (Nat.le_of_ble_eq_true rfl) d_Bits_init_16 (fun H locs hP hD hS => ?_)
  have hP : va_P (gD G) classes [(rB, .inr (0, [.ref rb0, .int (iv (0)), .int (iv (0))]))] H := hP
  have hD : va_D A [(rB, .inr (0, [.ref rb0, .int (iv (0)), .int (iv (0))]))] := hD
  exact k_vret hx hb hr hlk hQ (()) (trivial) hP hD hS d_Bits_init_19
abbrev w_Layout_init : List Cond := Cond.code y_Layout_init prog_3_method_1_code 1 none :: wl
abbrev r_Layout_init : Room := { frames := 1, cells := 7, slots := 561, locals := 24 }
set_option maxHeartbeats 4000000 in
set_option maxRecDepth 100000 in
theorem c_Layout_init (l : Launch) (G : k_G) (sz : Nat) (rL : Nat) : Met l y_Layout_init w_Layout_init r_Layout_init (k_P G [.ref rL] [(rL, .inr (1, [.int (iv (0)), .int (iv (0)), .int (iv (0)), .null, .null, .null, .null, .null, .null, .null]))] sz) (qv G (fun u : Nat × Nat × Nat × Nat × Nat × Nat × Nat => True) (fun u : Nat × Nat × Nat × Nat × Nat × Nat × Nat => [(rL, .inr (1, [.int (iv (0)), .int (iv (0)), .int (iv (0)), .ref u.1, .ref u.2.1, .ref u.2.2.1, .ref u.2.2.2.1, .ref u.2.2.2.2.1, .ref u.2.2.2.2.2.1, .ref u.2.2.2.2.2.2])), (u.1, ai (gI G) 8 (zI)), (u.2.1, ai (gI G) 8 (zI)), (u.2.2.1, ai (gI G) 8 (zI)), (u.2.2.2.1, ai (gI G) 8 (zI)), (u.2.2.2.2.1, ai (gI G) 17 (zI)), (u.2.2.2.2.2.1, ai (gI G) 256 (zI)), (u.2.2.2.2.2.2, ai (gI G) 256 (zI))]) (va_A [(rL, .inr (1, [.int (iv (0)), .int (iv (0)), .int (iv (0)), .null, .null, .null, .null, .null, .null, .null]))] sz)) 7 561 (va_A [(rL, .inr (1, [.int (iv (0)), .int (iv (0)), .int (iv (0)), .null, .null, .null, .null, .null, .null, .null]))] sz) := by
  refine k_met (fun A => qv G (fun u : Nat × Nat × Nat × Nat × Nat × Nat × Nat => True) (fun u : Nat × Nat × Nat × Nat × Nat × Nat × Nat => [(rL, .inr (1, [.int (iv (0)), .int (iv (0)), .int (iv (0)), .ref u.1, .ref u.2.1, .ref u.2.2.1, .ref u.2.2.2.1, .ref u.2.2.2.2.1, .ref u.2.2.2.2.2.1, .ref u.2.2.2.2.2.2])), (u.1, ai (gI G) 8 (zI)), (u.2.1, ai (gI G) 8 (zI)), (u.2.2.1, ai (gI G) 8 (zI)), (u.2.2.2.1, ai (gI G) 8 (zI)), (u.2.2.2.2.1, ai (gI G) 17 (zI)), (u.2.2.2.2.2.1, ai (gI G) 256 (zI)), (u.2.2.2.2.2.2, ai (gI G) 256 (zI))]) A) (fun A => A) (by decide) rfl (Nat.le_of_ble_eq_true rfl) (fun p e s m args below meth c ls A Q S hr hlk hnm hl hsz hP hK hD hS hA hT hQ => ?_)
  obtain ⟨hx, hb, hml, hown, hts⟩ := id S
  have hw : ∀ w ∈ wl, w.before args s = true := fun w h => hts w (List.mem_cons_of_mem _ h)
  have hl : lv_has ls 1 [(0, .ref rL)] := hl
  refine lv_aload_n hx hb d_Layout_init_0 rfl (lv_at hl 0 rfl) ?_
  refine W.objInit hx hb hown (hw _ m1_77) (hw _ m1_19) (hw _ m1_20) rfl (by rw [hml]; exact hl.1) rfl d_Layout_init_1 (by decide) (Nat.le_of_ble_eq_true rfl) ?_
  refine W.eq (g2 := F0 m 4 ls []) rfl ?_
  refine lv_aload_n hx hb d_Layout_init_4 rfl (lv_at hl 0 rfl) ?_
  refine lv_iconst (v := iv (0)) hx hb d_Layout_init_5 rfl ?_
  refine va_put (D := gD G) (ci := 1) (v := .int (iv (0))) (ty := .int) (C := R_Layout) (T := F_Layout) (N := 10) hx hb hw in_Layout t_Layout t_Layout_ok n_Layout hown hK hP hD hS 0 rfl rfl 0 (by decide) (hw _ m1_78) (fun _ h => h) rfl (by decide +kernel) rfl rfl (Nat.le_of_ble_eq_true rfl) d_Layout_init_6 (fun H locs hP hD hS => ?_)
  have hP : va_P (gD G) classes [(rL, .inr (1, [.int (iv (0)), .int (iv (0)), .int (iv (0)), .null, .null, .null, .null, .null, .null, .null]))] H := hP
  have hD : va_D A [(rL, .inr (1, [.int (iv (0)), .int (iv (0)), .int (iv (0)), .null, .null, .null, .null, .null, .null, .null]))] := hD
  refine lv_aload_n hx hb d_Layout_init_9 rfl (lv_at hl 0 rfl) ?_
  refine lv_iconst (v := iv (0)) hx hb d_Layout_init_10 rfl ?_
  refine va_put (D := gD G) (ci := 1) (v := .int (iv (0))) (ty := .int) (C := R_Layout) (T := F_Layout) (N := 10) hx hb hw in_Layout t_Layout t_Layout_ok n_Layout hown hK hP hD hS 0 rfl rfl 1 (by decide) (hw _ m1_81) (fun _ h => h) rfl (by decide +kernel) rfl rfl (Nat.le_of_ble_eq_true rfl) d_Layout_init_11 (fun H locs hP hD hS => ?_)
  have hP : va_P (gD G) classes [(rL, .inr (1, [.int (iv (0)), .int (iv (0)), .int (iv (0)), .null, .null, .null, .null, .null, .null, .null]))] H := hP
  have hD : va_D A [(rL, .inr (1, [.int (iv (0)), .int (iv (0)), .int (iv (0)), .null, .null, .null, .null, .null, .null, .null]))] := hD
  refine lv_aload_n hx hb d_Layout_init_14 rfl (lv_at hl 0 rfl) ?_
  refine lv_iconst (v := iv (0)) hx hb d_Layout_init_15 rfl ?_
  refine va_put (D := gD G) (ci := 1) (v := .int (iv (0))) (ty := .int) (C := R_Layout) (T := F_Layout) (N := 10) hx hb hw in_Layout t_Layout t_Layout_ok n_Layout hown hK hP hD hS 0 rfl rfl 2 (by decide) (hw _ m1_84) (fun _ h => h) rfl (by decide +kernel) rfl rfl (Nat.le_of_ble_eq_true rfl) d_Layout_init_16 (fun H locs hP hD hS => ?_)
  have hP : va_P (gD G) classes [(rL, .inr (1, [.int (iv (0)), .int (iv (0)), .int (iv (0)), .null, .null, .null, .null, .null, .null, .null]))] H := hP
  have hD : va_D A [(rL, .inr (1, [.int (iv (0)), .int (iv (0)), .int (iv (0)), .null, .null, .null, .null, .null, .null, .null]))] := hD
  refine lv_aload_n hx hb d_Layout_init_19 rfl (lv_at hl 0 rfl) ?_
  refine lv_bipush (v := iv (8)) hx hb d_Layout_init_20 rfl ?_
  refine k_newi hx hb (hw _ m1_71) hK hP hD hS hA 8 rfl (by decide) (Nat.le_of_ble_eq_true rfl) (Nat.le_of_ble_eq_true rfl) d_Layout_init_22 (fun n22 H hP hD hS => ?_)
  have hP : va_P (gD G) classes [(rL, .inr (1, [.int (iv (0)), .int (iv (0)), .int (iv (0)), .null, .null, .null, .null, .null, .null, .null])), (n22, ai (gI G) 8 (zI))] H := hP
  have hD : va_D A [(rL, .inr (1, [.int (iv (0)), .int (iv (0)), .int (iv (0)), .null, .null, .null, .null, .null, .null, .null])), (n22, ai (gI G) 8 (zI))] := hD
  refine va_putF (D := gD G) (ci := 1) (v := .ref n22) (ty := .array .int) (C := R_Layout) (T := F_Layout) (N := 10) hx hb hw in_Layout t_Layout t_Layout_ok n_Layout hown hK hP hD hS 0 rfl rfl 3 (by decide) (hw _ m1_85) (fun _ h => h) rfl hnm rfl (by decide +kernel) rfl rfl (Nat.le_of_ble_eq_true rfl) d_Layout_init_24 (fun H locs hP hD hS => ?_)
  have hP : va_P (gD G) classes [(rL, .inr (1, [.int (iv (0)), .int (iv (0)), .int (iv (0)), .ref n22, .null, .null, .null, .null, .null, .null])), (n22, ai (gI G) 8 (zI))] H := hP
  have hD : va_D A [(rL, .inr (1, [.int (iv (0)), .int (iv (0)), .int (iv (0)), .ref n22, .null, .null, .null, .null, .null, .null])), (n22, ai (gI G) 8 (zI))] := hD
  refine lv_aload_n hx hb d_Layout_init_27 rfl (lv_at hl 0 rfl) ?_
  refine lv_bipush (v := iv (8)) hx hb d_Layout_init_28 rfl ?_
  refine k_newi hx hb (hw _ m1_71) hK hP hD hS hA 8 rfl (by decide) (Nat.le_of_ble_eq_true rfl) (Nat.le_of_ble_eq_true rfl) d_Layout_init_30 (fun n30 H hP hD hS => ?_)
  have hP : va_P (gD G) classes [(rL, .inr (1, [.int (iv (0)), .int (iv (0)), .int (iv (0)), .ref n22, .null, .null, .null, .null, .null, .null])), (n22, ai (gI G) 8 (zI)), (n30, ai (gI G) 8 (zI))] H := hP
  have hD : va_D A [(rL, .inr (1, [.int (iv (0)), .int (iv (0)), .int (iv (0)), .ref n22, .null, .null, .null, .null, .null, .null])), (n22, ai (gI G) 8 (zI)), (n30, ai (gI G) 8 (zI))] := hD
  refine va_putF (D := gD G) (ci := 1) (v := .ref n30) (ty := .array .int) (C := R_Layout) (T := F_Layout) (N := 10) hx hb hw in_Layout t_Layout t_Layout_ok n_Layout hown hK hP hD hS 0 rfl rfl 4 (by decide) (hw _ m1_86) (fun _ h => h) rfl hnm rfl (by decide +kernel) rfl rfl (Nat.le_of_ble_eq_true rfl) d_Layout_init_32 (fun H locs hP hD hS => ?_)
  have hP : va_P (gD G) classes [(rL, .inr (1, [.int (iv (0)), .int (iv (0)), .int (iv (0)), .ref n22, .ref n30, .null, .null, .null, .null, .null])), (n22, ai (gI G) 8 (zI)), (n30, ai (gI G) 8 (zI))] H := hP
  have hD : va_D A [(rL, .inr (1, [.int (iv (0)), .int (iv (0)), .int (iv (0)), .ref n22, .ref n30, .null, .null, .null, .null, .null])), (n22, ai (gI G) 8 (zI)), (n30, ai (gI G) 8 (zI))] := hD
  refine lv_aload_n hx hb d_Layout_init_35 rfl (lv_at hl 0 rfl) ?_
  refine lv_bipush (v := iv (8)) hx hb d_Layout_init_36 rfl ?_
  refine k_newi hx hb (hw _ m1_71) hK hP hD hS hA 8 rfl (by decide) (Nat.le_of_ble_eq_true rfl) (Nat.le_of_ble_eq_true rfl) d_Layout_init_38 (fun n38 H hP hD hS => ?_)
  have hP : va_P (gD G) classes [(rL, .inr (1, [.int (iv (0)), .int (iv (0)), .int (iv (0)), .ref n22, .ref n30, .null, .null, .null, .null, .null])), (n22, ai (gI G) 8 (zI)), (n30, ai (gI G) 8 (zI)), (n38, ai (gI G) 8 (zI))] H := hP
  have hD : va_D A [(rL, .inr (1, [.int (iv (0)), .int (iv (0)), .int (iv (0)), .ref n22, .ref n30, .null, .null, .null, .null, .null])), (n22, ai (gI G) 8 (zI)), (n30, ai (gI G) 8 (zI)), (n38, ai (gI G) 8 (zI))] := hD
  refine va_putF (D := gD G) (ci := 1) (v := .ref n38) (ty := .array .int) (C := R_Layout) (T := F_Layout) (N := 10) hx hb hw in_Layout t_Layout t_Layout_ok n_Layout hown hK hP hD hS 0 rfl rfl 5 (by decide) (hw _ m1_87) (fun _ h => h) rfl hnm rfl (by decide +kernel) rfl rfl (Nat.le_of_ble_eq_true rfl) d_Layout_init_40 (fun H locs hP hD hS => ?_)
  have hP : va_P (gD G) classes [(rL, .inr (1, [.int (iv (0)), .int (iv (0)), .int (iv (0)), .ref n22, .ref n30, .ref n38, .null, .null, .null, .null])), (n22, ai (gI G) 8 (zI)), (n30, ai (gI G) 8 (zI)), (n38, ai (gI G) 8 (zI))] H := hP
  have hD : va_D A [(rL, .inr (1, [.int (iv (0)), .int (iv (0)), .int (iv (0)), .ref n22, .ref n30, .ref n38, .null, .null, .null, .null])), (n22, ai (gI G) 8 (zI)), (n30, ai (gI G) 8 (zI)), (n38, ai (gI G) 8 (zI))] := hD
  refine lv_aload_n hx hb d_Layout_init_43 rfl (lv_at hl 0 rfl) ?_
  refine lv_bipush (v := iv (8)) hx hb d_Layout_init_44 rfl ?_
  refine k_newi hx hb (hw _ m1_71) hK hP hD hS hA 8 rfl (by decide) (Nat.le_of_ble_eq_true rfl) (Nat.le_of_ble_eq_true rfl) d_Layout_init_46 (fun n46 H hP hD hS => ?_)
  have hP : va_P (gD G) classes [(rL, .inr (1, [.int (iv (0)), .int (iv (0)), .int (iv (0)), .ref n22, .ref n30, .ref n38, .null, .null, .null, .null])), (n22, ai (gI G) 8 (zI)), (n30, ai (gI G) 8 (zI)), (n38, ai (gI G) 8 (zI)), (n46, ai (gI G) 8 (zI))] H := hP
  have hD : va_D A [(rL, .inr (1, [.int (iv (0)), .int (iv (0)), .int (iv (0)), .ref n22, .ref n30, .ref n38, .null, .null, .null, .null])), (n22, ai (gI G) 8 (zI)), (n30, ai (gI G) 8 (zI)), (n38, ai (gI G) 8 (zI)), (n46, ai (gI G) 8 (zI))] := hD
  refine va_putF (D := gD G) (ci := 1) (v := .ref n46) (ty := .array .int) (C := R_Layout) (T := F_Layout) (N := 10) hx hb hw in_Layout t_Layout t_Layout_ok n_Layout hown hK hP hD hS 0 rfl rfl 6 (by decide) (hw _ m1_88) (fun _ h => h) rfl hnm rfl (by decide +kernel) rfl rfl (Nat.le_of_ble_eq_true rfl) d_Layout_init_48 (fun H locs hP hD hS => ?_)
  have hP : va_P (gD G) classes [(rL, .inr (1, [.int (iv (0)), .int (iv (0)), .int (iv (0)), .ref n22, .ref n30, .ref n38, .ref n46, .null, .null, .null])), (n22, ai (gI G) 8 (zI)), (n30, ai (gI G) 8 (zI)), (n38, ai (gI G) 8 (zI)), (n46, ai (gI G) 8 (zI))] H := hP
  have hD : va_D A [(rL, .inr (1, [.int (iv (0)), .int (iv (0)), .int (iv (0)), .ref n22, .ref n30, .ref n38, .ref n46, .null, .null, .null])), (n22, ai (gI G) 8 (zI)), (n30, ai (gI G) 8 (zI)), (n38, ai (gI G) 8 (zI)), (n46, ai (gI G) 8 (zI))] := hD
  refine lv_aload_n hx hb d_Layout_init_51 rfl (lv_at hl 0 rfl) ?_
  refine lv_bipush (v := iv (17)) hx hb d_Layout_init_52 rfl ?_
  refine k_newi hx hb (hw _ m1_71) hK hP hD hS hA 17 rfl (by decide) (Nat.le_of_ble_eq_true rfl) (Nat.le_of_ble_eq_true rfl) d_Layout_init_54 (fun n54 H hP hD hS => ?_)
  have hP : va_P (gD G) classes [(rL, .inr (1, [.int (iv (0)), .int (iv (0)), .int (iv (0)), .ref n22, .ref n30, .ref n38, .ref n46, .null, .null, .null])), (n22, ai (gI G) 8 (zI)), (n30, ai (gI G) 8 (zI)), (n38, ai (gI G) 8 (zI)), (n46, ai (gI G) 8 (zI)), (n54, ai (gI G) 17 (zI))] H := hP
  have hD : va_D A [(rL, .inr (1, [.int (iv (0)), .int (iv (0)), .int (iv (0)), .ref n22, .ref n30, .ref n38, .ref n46, .null, .null, .null])), (n22, ai (gI G) 8 (zI)), (n30, ai (gI G) 8 (zI)), (n38, ai (gI G) 8 (zI)), (n46, ai (gI G) 8 (zI)), (n54, ai (gI G) 17 (zI))] := hD
  refine va_putF (D := gD G) (ci := 1) (v := .ref n54) (ty := .array .int) (C := R_Layout) (T := F_Layout) (N := 10) hx hb hw in_Layout t_Layout t_Layout_ok n_Layout hown hK hP hD hS 0 rfl rfl 7 (by decide) (hw _ m1_89) (fun _ h => h) rfl hnm rfl (by decide +kernel) rfl rfl (Nat.le_of_ble_eq_true rfl) d_Layout_init_56 (fun H locs hP hD hS => ?_)
  have hP : va_P (gD G) classes [(rL, .inr (1, [.int (iv (0)), .int (iv (0)), .int (iv (0)), .ref n22, .ref n30, .ref n38, .ref n46, .ref n54, .null, .null])), (n22, ai (gI G) 8 (zI)), (n30, ai (gI G) 8 (zI)), (n38, ai (gI G) 8 (zI)), (n46, ai (gI G) 8 (zI)), (n54, ai (gI G) 17 (zI))] H := hP
  have hD : va_D A [(rL, .inr (1, [.int (iv (0)), .int (iv (0)), .int (iv (0)), .ref n22, .ref n30, .ref n38, .ref n46, .ref n54, .null, .null])), (n22, ai (gI G) 8 (zI)), (n30, ai (gI G) 8 (zI)), (n38, ai (gI G) 8 (zI)), (n46, ai (gI G) 8 (zI)), (n54, ai (gI G) 17 (zI))] := hD
  refine lv_aload_n hx hb d_Layout_init_59 rfl (lv_at hl 0 rfl) ?_
  refine lv_sipush (v := iv (256)) hx hb d_Layout_init_60 rfl ?_
  refine k_newi hx hb (hw _ m1_71) hK hP hD hS hA 256 rfl (by decide) (Nat.le_of_ble_eq_true rfl) (Nat.le_of_ble_eq_true rfl) d_Layout_init_63 (fun n63 H hP hD hS => ?_)
  have hP : va_P (gD G) classes [(rL, .inr (1, [.int (iv (0)), .int (iv (0)), .int (iv (0)), .ref n22, .ref n30, .ref n38, .ref n46, .ref n54, .null, .null])), (n22, ai (gI G) 8 (zI)), (n30, ai (gI G) 8 (zI)), (n38, ai (gI G) 8 (zI)), (n46, ai (gI G) 8 (zI)), (n54, ai (gI G) 17 (zI)), (n63, ai (gI G) 256 (zI))] H := hP
  have hD : va_D A [(rL, .inr (1, [.int (iv (0)), .int (iv (0)), .int (iv (0)), .ref n22, .ref n30, .ref n38, .ref n46, .ref n54, .null, .null])), (n22, ai (gI G) 8 (zI)), (n30, ai (gI G) 8 (zI)), (n38, ai (gI G) 8 (zI)), (n46, ai (gI G) 8 (zI)), (n54, ai (gI G) 17 (zI)), (n63, ai (gI G) 256 (zI))] := hD
  refine va_putF (D := gD G) (ci := 1) (v := .ref n63) (ty := .array .int) (C := R_Layout) (T := F_Layout) (N := 10) hx hb hw in_Layout t_Layout t_Layout_ok n_Layout hown hK hP hD hS 0 rfl rfl 8 (by decide) (hw _ m1_91) (fun _ h => h) rfl hnm rfl (by decide +kernel) rfl rfl (Nat.le_of_ble_eq_true rfl) d_Layout_init_65 (fun H locs hP hD hS => ?_)
  have hP : va_P (gD G) classes [(rL, .inr (1, [.int (iv (0)), .int (iv (0)), .int (iv (0)), .ref n22, .ref n30, .ref n38, .ref n46, .ref n54, .ref n63, .null])), (n22, ai (gI G) 8 (zI)), (n30, ai (gI G) 8 (zI)), (n38, ai (gI G) 8 (zI)), (n46, ai (gI G) 8 (zI)), (n54, ai (gI G) 17 (zI)), (n63, ai (gI G) 256 (zI))] H := hP
  have hD : va_D A [(rL, .inr (1, [.int (iv (0)), .int (iv (0)), .int (iv (0)), .ref n22, .ref n30, .ref n38, .ref n46, .ref n54, .ref n63, .null])), (n22, ai (gI G) 8 (zI)), (n30, ai (gI G) 8 (zI)), (n38, ai (gI G) 8 (zI)), (n46, ai (gI G) 8 (zI)), (n54, ai (gI G) 17 (zI)), (n63, ai (gI G) 256 (zI))] := hD
  refine lv_aload_n hx hb d_Layout_init_68 rfl (lv_at hl 0 rfl) ?_
  refine lv_sipush (v := iv (256)) hx hb d_Layout_init_69 rfl ?_
  refine k_newi hx hb (hw _ m1_71) hK hP hD hS hA 256 rfl (by decide) (Nat.le_of_ble_eq_true rfl) (Nat.le_of_ble_eq_true rfl) d_Layout_init_72 (fun n72 H hP hD hS => ?_)
  have hP : va_P (gD G) classes [(rL, .inr (1, [.int (iv (0)), .int (iv (0)), .int (iv (0)), .ref n22, .ref n30, .ref n38, .ref n46, .ref n54, .ref n63, .null])), (n22, ai (gI G) 8 (zI)), (n30, ai (gI G) 8 (zI)), (n38, ai (gI G) 8 (zI)), (n46, ai (gI G) 8 (zI)), (n54, ai (gI G) 17 (zI)), (n63, ai (gI G) 256 (zI)), (n72, ai (gI G) 256 (zI))] H := hP
  have hD : va_D A [(rL, .inr (1, [.int (iv (0)), .int (iv (0)), .int (iv (0)), .ref n22, .ref n30, .ref n38, .ref n46, .ref n54, .ref n63, .null])), (n22, ai (gI G) 8 (zI)), (n30, ai (gI G) 8 (zI)), (n38, ai (gI G) 8 (zI)), (n46, ai (gI G) 8 (zI)), (n54, ai (gI G) 17 (zI)), (n63, ai (gI G) 256 (zI)), (n72, ai (gI G) 256 (zI))] := hD
  refine va_putF (D := gD G) (ci := 1) (v := .ref n72) (ty := .array .int) (C := R_Layout) (T := F_Layout) (N := 10) hx hb hw in_Layout t_Layout t_Layout_ok n_Layout hown hK hP hD hS 0 rfl rfl 9 (by decide) (hw _ m1_93) (fun _ h => h) rfl hnm rfl (by decide +kernel) rfl rfl (Nat.le_of_ble_eq_true rfl) d_Layout_init_74 (fun H locs hP hD hS => ?_)
  have hP : va_P (gD G) classes [(rL, .inr (1, [.int (iv (0)), .int (iv (0)), .int (iv (0)), .ref n22, .ref n30, .ref n38, .ref n46, .ref n54, .ref n63, .ref n72])), (n22, ai (gI G) 8 (zI)), (n30, ai (gI G) 8 (zI)), (n38, ai (gI G) 8 (zI)), (n46, ai (gI G) 8 (zI)), (n54, ai (gI G) 17 (zI)), (n63, ai (gI G) 256 (zI)), (n72, ai (gI G) 256 (zI))] H := hP
  have hD : va_D A [(rL, .inr (1, [.int (iv (0)), .int (iv (0)), .int (iv (0)), .ref n22, .ref n30, .ref n38, .ref n46, .ref n54, .ref n63, .ref n72])), (n22, ai (gI G) 8 (zI)), (n30, ai (gI G) 8 (zI)), (n38, ai (gI G) 8 (zI)), (n46, ai (gI G) 8 (zI)), (n54, ai (gI G) 17 (zI)), (n63, ai (gI G) 256 (zI)), (n72, ai (gI G) 256 (zI))] := hD
  exact k_vret hx hb hr hlk hQ ((n22, n30, n38, n46, n54, n63, n72)) (trivial) hP hD hS d_Layout_init_77
abbrev w_Quant_init : List Cond := Cond.code y_Quant_init prog_4_method_1_code 2 none :: wl
abbrev r_Quant_init : Room := { frames := 1, cells := 2, slots := 64, locals := 24 }
set_option maxHeartbeats 4000000 in
set_option maxRecDepth 100000 in
theorem c_Quant_init (l : Launch) (G : k_G) (sz : Nat) (rQ : Nat) : Met l y_Quant_init w_Quant_init r_Quant_init (k_P G [.ref rQ] [(rQ, .inr (2, [.null, .null]))] sz) (qv G (fun u : Nat × Nat × (Int → Int) × (Int → Int) => ∀ r, 0 ≤ r → r < 32 → u.2.2.1 r = facI r ∧ u.2.2.2 r = offI r) (fun u : Nat × Nat × (Int → Int) × (Int → Int) => [(rQ, .inr (2, [.ref u.1, .ref u.2.1])), (u.1, ai (gI G) 32 (u.2.2.1)), (u.2.1, ai (gI G) 32 (u.2.2.2))]) (va_A [(rQ, .inr (2, [.null, .null]))] sz)) 2 64 (va_A [(rQ, .inr (2, [.null, .null]))] sz) := by
  refine k_met (fun A => qv G (fun u : Nat × Nat × (Int → Int) × (Int → Int) => ∀ r, 0 ≤ r → r < 32 → u.2.2.1 r = facI r ∧ u.2.2.2 r = offI r) (fun u : Nat × Nat × (Int → Int) × (Int → Int) => [(rQ, .inr (2, [.ref u.1, .ref u.2.1])), (u.1, ai (gI G) 32 (u.2.2.1)), (u.2.1, ai (gI G) 32 (u.2.2.2))]) A) (fun A => A) (by decide) rfl (Nat.le_of_ble_eq_true rfl) (fun p e s m args below meth c ls A Q S hr hlk hnm hl hsz hP hK hD hS hA hT hQ => ?_)
  obtain ⟨hx, hb, hml, hown, hts⟩ := id S
  have hw : ∀ w ∈ wl, w.before args s = true := fun w h => hts w (List.mem_cons_of_mem _ h)
  have hl : lv_has ls 2 [(0, .ref rQ)] := hl
  refine lv_aload_n hx hb d_Quant_init_0 rfl (lv_at hl 0 rfl) ?_
  refine W.objInit hx hb hown (hw _ m1_141) (hw _ m1_19) (hw _ m1_20) rfl (by rw [hml]; exact hl.1) rfl d_Quant_init_1 (by decide) (Nat.le_of_ble_eq_true rfl) ?_
  refine W.eq (g2 := F0 m 4 ls []) rfl ?_
  refine lv_aload_n hx hb d_Quant_init_4 rfl (lv_at hl 0 rfl) ?_
  refine lv_bipush (v := iv (32)) hx hb d_Quant_init_5 rfl ?_
  refine k_newi hx hb (hw _ m1_71) hK hP hD hS hA 32 rfl (by decide) (Nat.le_of_ble_eq_true rfl) (Nat.le_of_ble_eq_true rfl) d_Quant_init_7 (fun n7 H hP hD hS => ?_)
  have hP : va_P (gD G) classes [(rQ, .inr (2, [.null, .null])), (n7, ai (gI G) 32 (zI))] H := hP
  have hD : va_D A [(rQ, .inr (2, [.null, .null])), (n7, ai (gI G) 32 (zI))] := hD
  refine va_putF (D := gD G) (ci := 2) (v := .ref n7) (ty := .array .int) (C := R_Quant) (T := F_Quant) (N := 2) hx hb hw in_Quant t_Quant t_Quant_ok n_Quant hown hK hP hD hS 0 rfl rfl 0 (by decide) (hw _ m1_153) (fun _ h => h) rfl hnm rfl (by decide +kernel) rfl rfl (Nat.le_of_ble_eq_true rfl) d_Quant_init_9 (fun H locs hP hD hS => ?_)
  have hP : va_P (gD G) classes [(rQ, .inr (2, [.ref n7, .null])), (n7, ai (gI G) 32 (zI))] H := hP
  have hD : va_D A [(rQ, .inr (2, [.ref n7, .null])), (n7, ai (gI G) 32 (zI))] := hD
  refine lv_aload_n hx hb d_Quant_init_12 rfl (lv_at hl 0 rfl) ?_
  refine lv_bipush (v := iv (32)) hx hb d_Quant_init_13 rfl ?_
  refine k_newi hx hb (hw _ m1_71) hK hP hD hS hA 32 rfl (by decide) (Nat.le_of_ble_eq_true rfl) (Nat.le_of_ble_eq_true rfl) d_Quant_init_15 (fun n15 H hP hD hS => ?_)
  have hP : va_P (gD G) classes [(rQ, .inr (2, [.ref n7, .null])), (n7, ai (gI G) 32 (zI)), (n15, ai (gI G) 32 (zI))] H := hP
  have hD : va_D A [(rQ, .inr (2, [.ref n7, .null])), (n7, ai (gI G) 32 (zI)), (n15, ai (gI G) 32 (zI))] := hD
  refine va_putF (D := gD G) (ci := 2) (v := .ref n15) (ty := .array .int) (C := R_Quant) (T := F_Quant) (N := 2) hx hb hw in_Quant t_Quant t_Quant_ok n_Quant hown hK hP hD hS 0 rfl rfl 1 (by decide) (hw _ m1_154) (fun _ h => h) rfl hnm rfl (by decide +kernel) rfl rfl (Nat.le_of_ble_eq_true rfl) d_Quant_init_17 (fun H locs hP hD hS => ?_)
  have hP : va_P (gD G) classes [(rQ, .inr (2, [.ref n7, .ref n15])), (n7, ai (gI G) 32 (zI)), (n15, ai (gI G) 32 (zI))] H := hP
  have hD : va_D A [(rQ, .inr (2, [.ref n7, .ref n15])), (n7, ai (gI G) 32 (zI)), (n15, ai (gI G) 32 (zI))] := hD
  refine lv_iconst (v := iv (0)) hx hb d_Quant_init_20 rfl ?_
  refine lv_istore_n hx hb d_Quant_init_21 rfl hl (by decide) rfl (fun ls hl => ?_)
  have hl : lv_has ls 2 [(1, .int (iv (0))), (0, .ref rQ)] := hl
  refine lo_up (P := fun i => ∀ (ls : Array Slot) (H : Heap) (locs : List Loc) (q1 : Int → Int) (q2 : Int → Int), lv_has ls 2 [(0, .ref rQ), (1, .int (iv (i)))] → va_P (gD G) classes [(rQ, .inr (2, [.ref n7, .ref n15])), (n7, ai (gI G) 32 (q1)), (n15, ai (gI G) 32 (q2))] H → va_D A [(rQ, .inr (2, [.ref n7, .ref n15])), (n7, ai (gI G) 32 (q1)), (n15, ai (gI G) 32 (q2))] → va_S A s.heap H locs → (∀ r, 0 ≤ r → r < i → q1 r = facI r ∧ q2 r = offI r) → W p l e r_Quant_init s m args below meth c H locs 2 64 Q (F0 m 22 ls [])) (a := 0) (b := 32) (fun i hii hji ihi => ?_) _ _ _ zI zI (lv_sub hl [1, 0] rfl) hP hD hS (fun r a b => by omega)
  intro ls H locs q1 q2 hl hP hD hS h1
  refine lv_iload_n hx hb d_Quant_init_22 rfl (lv_at hl 1 rfl) ?_
  refine lv_bipush (v := iv (31)) hx hb d_Quant_init_23 rfl ?_
  refine k_icmp_gt (tgt := 71) hx hb d_Quant_init_25 (by decide) (by omega) (by omega) (fun hc25 => ?_) (fun hc25 => ?_)
  · exact k_vret hx hb hr hlk hQ ((n7, n15, q1, q2)) (fun r a b => h1 r a (by omega)) hP hD hS d_Quant_init_71
  · have hf := fac_r2 (r := i) (by omega)
    refine lv_aload_n hx hb d_Quant_init_28 rfl (lv_at hl 0 rfl) ?_
    refine va_get (D := gD G) (ci := 2) (v := .ref n7) (C := R_Quant) (T := F_Quant) (N := 2) hx hb hw in_Quant hown hK hP 0 rfl rfl 0 (by decide) (hw _ m1_153) (fun _ h => h) rfl d_Quant_init_29 ?_
    refine lv_iload_n hx hb d_Quant_init_32 rfl (lv_at hl 1 rfl) ?_
    refine lv_iload_n hx hb d_Quant_init_33 rfl (lv_at hl 1 rfl) ?_
    refine k_ciR (k_rs S (c_Quant_factorOf l G _ i (by omega)) 1 m1_144 m1_142 m1_143 m1_6 (by decide +kernel) (by decide) rfl rfl (k_preS hK hP hD hS hA hT [] (by decide) rfl) rfl hl.1 rfl (Nat.le_of_ble_eq_true rfl) d_Quant_init_34 ⟨Nat.le_of_ble_eq_true rfl, Nat.le_of_ble_eq_true rfl⟩) (fun r34 h34 => ?_)
    subst h34
    refine k_ias hx hb hK hP hD hS 1 0 rfl rfl (by decide) (by omega) d_Quant_init_37 (fun H locs hP hD hS => ?_)
    have hP : va_P (gD G) classes [(rQ, .inr (2, [.ref n7, .ref n15])), (n7, ai (gI G) 32 (up q1 i (facI i))), (n15, ai (gI G) 32 (q2))] H := hP
    have hD : va_D A [(rQ, .inr (2, [.ref n7, .ref n15])), (n7, ai (gI G) 32 (up q1 i (facI i))), (n15, ai (gI G) 32 (q2))] := hD
    refine lv_aload_n hx hb d_Quant_init_38 rfl (lv_at hl 0 rfl) ?_
    refine va_get (D := gD G) (ci := 2) (v := .ref n15) (C := R_Quant) (T := F_Quant) (N := 2) hx hb hw in_Quant hown hK hP 0 rfl rfl 1 (by decide) (hw _ m1_154) (fun _ h => h) rfl d_Quant_init_39 ?_
    refine lv_iload_n hx hb d_Quant_init_42 rfl (lv_at hl 1 rfl) ?_
    refine lv_iload_n hx hb d_Quant_init_43 rfl (lv_at hl 1 rfl) ?_
    refine lv_iconst (v := iv (2)) hx hb d_Quant_init_44 rfl ?_
    refine k_icmp_ge (tgt := 54) hx hb d_Quant_init_45 (by decide) (by omega) (by omega) (fun hc45 => ?_) (fun hc45 => ?_)
    · refine lv_aload_n hx hb d_Quant_init_54 rfl (lv_at hl 0 rfl) ?_
      refine va_get (D := gD G) (ci := 2) (v := .ref n7) (C := R_Quant) (T := F_Quant) (N := 2) hx hb hw in_Quant hown hK hP 0 rfl rfl 0 (by decide) (hw _ m1_153) (fun _ h => h) rfl d_Quant_init_55 ?_
      refine lv_iload_n hx hb d_Quant_init_58 rfl (lv_at hl 1 rfl) ?_
      refine k_ial hx hb hK hP 1 0 rfl rfl (by decide) (by omega) d_Quant_init_59 ?_
      refine k_eqi (b := facI i) (up_self _ _ _) ?_
      refine lv_iconst (v := iv (1)) hx hb d_Quant_init_60 rfl ?_
      refine k_iadd hx hb d_Quant_init_61 ?_
      refine lv_iconst (v := iv (1)) hx hb d_Quant_init_62 rfl ?_
      refine k_ishrc 1 2 rfl (by decide) rfl hx hb d_Quant_init_63 (by omega) ?_
      refine k_ias hx hb hK hP hD hS 2 0 rfl rfl (by decide) (by omega) d_Quant_init_64 (fun H locs hP hD hS => ?_)
      have hP : va_P (gD G) classes [(rQ, .inr (2, [.ref n7, .ref n15])), (n7, ai (gI G) 32 (up q1 i (facI i))), (n15, ai (gI G) 32 (up q2 i (((facI i) + 1) / 2)))] H := hP
      have hD : va_D A [(rQ, .inr (2, [.ref n7, .ref n15])), (n7, ai (gI G) 32 (up q1 i (facI i))), (n15, ai (gI G) 32 (up q2 i (((facI i) + 1) / 2)))] := hD
      refine lv_iinc (k := 1) (v := iv (i + 1)) hx hb d_Quant_init_65 hl rfl (iv_add _ _) (by decide) rfl (fun ls hl => ?_)
      have hl : lv_has ls 2 [(1, .int (iv (i + 1))), (0, .ref rQ)] := hl
      refine lv_goto (tgt := 22) hx hb d_Quant_init_68 (by decide) ?_
      exact ihi (by omega) _ _ _ (up q1 i (facI i)) (up q2 i (((facI i) + 1) / 2)) (lv_sub hl [1, 0] rfl) hP hD hS (q_st h1 (by unfold offI; first | rw [if_pos (by omega)] | rw [if_neg (by omega)]))
    · refine lv_iload_n hx hb d_Quant_init_48 rfl (lv_at hl 1 rfl) ?_
      refine lv_iconst (v := iv (1)) hx hb d_Quant_init_49 rfl ?_
      refine k_iadd hx hb d_Quant_init_50 ?_
      refine lv_goto (tgt := 64) hx hb d_Quant_init_51 (by decide) ?_
      refine k_ias hx hb hK hP hD hS 2 0 rfl rfl (by decide) (by omega) d_Quant_init_64 (fun H locs hP hD hS => ?_)
      have hP : va_P (gD G) classes [(rQ, .inr (2, [.ref n7, .ref n15])), (n7, ai (gI G) 32 (up q1 i (facI i))), (n15, ai (gI G) 32 (up q2 i (i + 1)))] H := hP
      have hD : va_D A [(rQ, .inr (2, [.ref n7, .ref n15])), (n7, ai (gI G) 32 (up q1 i (facI i))), (n15, ai (gI G) 32 (up q2 i (i + 1)))] := hD
      refine lv_iinc (k := 1) (v := iv (i + 1)) hx hb d_Quant_init_65 hl rfl (iv_add _ _) (by decide) rfl (fun ls hl => ?_)
      have hl : lv_has ls 2 [(1, .int (iv (i + 1))), (0, .ref rQ)] := hl
      refine lv_goto (tgt := 22) hx hb d_Quant_init_68 (by decide) ?_
      exact ihi (by omega) _ _ _ (up q1 i (facI i)) (up q2 i (i + 1)) (lv_sub hl [1, 0] rfl) hP hD hS (q_st h1 (by unfold offI; first | rw [if_pos (by omega)] | rw [if_neg (by omega)]))
abbrev w_Coder_init : List Cond := Cond.code y_Coder_init prog_6_method_1_code 3 none :: wl
abbrev r_Coder_init : Room := { frames := 2, cells := 6, slots := 2373, locals := 45 }
set_option maxHeartbeats 4000000 in
set_option maxRecDepth 100000 in
theorem c_Coder_init (l : Launch) (G : k_G) (sz : Nat) (rC rS rL : Nat) : Met l y_Coder_init w_Coder_init r_Coder_init (k_P G [.ref rC, .ref rS, .ref rL] [(rC, .inr (4, [.null, .null, .null, .null, .null, .null, .int (iv (0)), .int (iv (0)), .int (iv (0)), .int (iv (0)), .int (iv (0))]))] sz) (qv G (fun u : Nat × Nat × Nat × Nat × Nat × Nat × (Int → Int) × (Int → Int) => ∀ r, 0 ≤ r → r < 32 → u.2.2.2.2.2.2.1 r = facI r ∧ u.2.2.2.2.2.2.2 r = offI r) (fun u : Nat × Nat × Nat × Nat × Nat × Nat × (Int → Int) × (Int → Int) => [(rC, .inr (4, [.ref u.1, .ref rS, .ref rL, .ref u.2.1, .ref u.2.2.2.2.1, .ref u.2.2.2.2.2.1, .int (iv (0)), .int (iv (0)), .int (iv (0)), .int (iv (0)), .int (iv (0))])), (u.1, ai (gI G) 2048 (zI)), (u.2.1, .inr (2, [.ref u.2.2.1, .ref u.2.2.2.1])), (u.2.2.1, ai (gI G) 32 (u.2.2.2.2.2.2.1)), (u.2.2.2.1, ai (gI G) 32 (u.2.2.2.2.2.2.2)), (u.2.2.2.2.1, .inr (0, [.ref u.1, .int (iv (0)), .int (iv (0))])), (u.2.2.2.2.2.1, ai (gI G) 256 (zI))]) (va_A [(rC, .inr (4, [.null, .null, .null, .null, .null, .null, .int (iv (0)), .int (iv (0)), .int (iv (0)), .int (iv (0)), .int (iv (0))]))] sz)) 6 2373 (va_A [(rC, .inr (4, [.null, .null, .null, .null, .null, .null, .int (iv (0)), .int (iv (0)), .int (iv (0)), .int (iv (0)), .int (iv (0))]))] sz) := by
  refine k_met (fun A => qv G (fun u : Nat × Nat × Nat × Nat × Nat × Nat × (Int → Int) × (Int → Int) => ∀ r, 0 ≤ r → r < 32 → u.2.2.2.2.2.2.1 r = facI r ∧ u.2.2.2.2.2.2.2 r = offI r) (fun u : Nat × Nat × Nat × Nat × Nat × Nat × (Int → Int) × (Int → Int) => [(rC, .inr (4, [.ref u.1, .ref rS, .ref rL, .ref u.2.1, .ref u.2.2.2.2.1, .ref u.2.2.2.2.2.1, .int (iv (0)), .int (iv (0)), .int (iv (0)), .int (iv (0)), .int (iv (0))])), (u.1, ai (gI G) 2048 (zI)), (u.2.1, .inr (2, [.ref u.2.2.1, .ref u.2.2.2.1])), (u.2.2.1, ai (gI G) 32 (u.2.2.2.2.2.2.1)), (u.2.2.2.1, ai (gI G) 32 (u.2.2.2.2.2.2.2)), (u.2.2.2.2.1, .inr (0, [.ref u.1, .int (iv (0)), .int (iv (0))])), (u.2.2.2.2.2.1, ai (gI G) 256 (zI))]) A) (fun A => A) (by decide) rfl (Nat.le_of_ble_eq_true rfl) (fun p e s m args below meth c ls A Q S hr hlk hnm hl hsz hP hK hD hS hA hT hQ => ?_)
  obtain ⟨hx, hb, hml, hown, hts⟩ := id S
  have hw : ∀ w ∈ wl, w.before args s = true := fun w h => hts w (List.mem_cons_of_mem _ h)
  have hl : lv_has ls 3 [(0, .ref rC), (1, .ref rS), (2, .ref rL)] := hl
  refine lv_aload_n hx hb d_Coder_init_0 rfl (lv_at hl 0 rfl) ?_
  refine W.objInit hx hb hown (hw _ m1_135) (hw _ m1_19) (hw _ m1_20) rfl (by rw [hml]; exact hl.1) rfl d_Coder_init_1 (by decide) (Nat.le_of_ble_eq_true rfl) ?_
  refine W.eq (g2 := F0 m 4 ls []) rfl ?_
  refine lv_aload_n hx hb d_Coder_init_4 rfl (lv_at hl 0 rfl) ?_
  refine lv_sipush (v := iv (2048)) hx hb d_Coder_init_5 rfl ?_
  refine k_newi hx hb (hw _ m1_71) hK hP hD hS hA 2048 rfl (by decide) (Nat.le_of_ble_eq_true rfl) (Nat.le_of_ble_eq_true rfl) d_Coder_init_8 (fun n8 H hP hD hS => ?_)
  have hP : va_P (gD G) classes [(rC, .inr (4, [.null, .null, .null, .null, .null, .null, .int (iv (0)), .int (iv (0)), .int (iv (0)), .int (iv (0)), .int (iv (0))])), (n8, ai (gI G) 2048 (zI))] H := hP
  have hD : va_D A [(rC, .inr (4, [.null, .null, .null, .null, .null, .null, .int (iv (0)), .int (iv (0)), .int (iv (0)), .int (iv (0)), .int (iv (0))])), (n8, ai (gI G) 2048 (zI))] := hD
  refine va_putF (D := gD G) (ci := 4) (v := .ref n8) (ty := .array .int) (C := R_Coder) (T := F_Coder) (N := 11) hx hb hw in_Coder t_Coder t_Coder_ok n_Coder hown hK hP hD hS 0 rfl rfl 0 (by decide) (hw _ m1_176) (fun _ h => h) rfl hnm rfl (by decide +kernel) rfl rfl (Nat.le_of_ble_eq_true rfl) d_Coder_init_10 (fun H locs hP hD hS => ?_)
  have hP : va_P (gD G) classes [(rC, .inr (4, [.ref n8, .null, .null, .null, .null, .null, .int (iv (0)), .int (iv (0)), .int (iv (0)), .int (iv (0)), .int (iv (0))])), (n8, ai (gI G) 2048 (zI))] H := hP
  have hD : va_D A [(rC, .inr (4, [.ref n8, .null, .null, .null, .null, .null, .int (iv (0)), .int (iv (0)), .int (iv (0)), .int (iv (0)), .int (iv (0))])), (n8, ai (gI G) 2048 (zI))] := hD
  refine lv_aload_n hx hb d_Coder_init_13 rfl (lv_at hl 0 rfl) ?_
  refine va_new (D := gD G) (cl := classes) (ci := 2) (C := R_Quant) (T := F_Quant) (N := 2) (fs := [.null, .null]) hx hb hw in_Quant t_Quant t_Quant_ok hown (hw _ m1_136) (hw _ m1_137) (hw _ m1_6) hK hP hD hS hA rfl (by decide +kernel) (Nat.le_of_ble_eq_true rfl) (Nat.le_of_ble_eq_true rfl) d_Coder_init_14 (fun n14 H hP hD hS => ?_)
  have hP : va_P (gD G) classes [(rC, .inr (4, [.ref n8, .null, .null, .null, .null, .null, .int (iv (0)), .int (iv (0)), .int (iv (0)), .int (iv (0)), .int (iv (0))])), (n8, ai (gI G) 2048 (zI)), (n14, .inr (2, [.null, .null]))] H := hP
  have hD : va_D A [(rC, .inr (4, [.ref n8, .null, .null, .null, .null, .null, .int (iv (0)), .int (iv (0)), .int (iv (0)), .int (iv (0)), .int (iv (0))])), (n8, ai (gI G) 2048 (zI)), (n14, .inr (2, [.null, .null]))] := hD
  refine lv_dup hx hb d_Coder_init_17 rfl ?_
  refine k_cv (wz := fun u : Nat × Nat × (Int → Int) × (Int → Int) => [(rC, .inr (4, [.ref n8, .null, .null, .null, .null, .null, .int (iv (0)), .int (iv (0)), .int (iv (0)), .int (iv (0)), .int (iv (0))])), (n8, ai (gI G) 2048 (zI)), (n14, .inr (2, [.ref u.1, .ref u.2.1])), (u.1, ai (gI G) 32 (u.2.2.1)), (u.2.1, ai (gI G) 32 (u.2.2.2))]) (wr := [(rC, .inr (4, [.ref n8, .null, .null, .null, .null, .null, .int (iv (0)), .int (iv (0)), .int (iv (0)), .int (iv (0)), .int (iv (0))])), (n8, ai (gI G) 2048 (zI))]) (k_ri S (c_Quant_init l G _ n14 ) 0 m1_140 m1_138 m1_139 m1_6 rfl (by decide +kernel) (by decide) rfl rfl (k_preS hK hP hD hS hA hT [2] (by decide) rfl) rfl hl.1 rfl (Nat.le_of_ble_eq_true rfl) d_Coder_init_18 ⟨Nat.le_of_ble_eq_true rfl, Nat.le_of_ble_eq_true rfl⟩) hP hD hS hA [2] [0, 1] [0, 1, 2, 3, 4] rfl rfl (by decide) (by decide) (by decide) (fun _ => rfl) (fun u18 H locs h18 hP hD hS => ?_)
  obtain ⟨rF1_18, rO1_18, qf1_18, qo1_18⟩ := u18
  have hP : va_P (gD G) classes [(rC, .inr (4, [.ref n8, .null, .null, .null, .null, .null, .int (iv (0)), .int (iv (0)), .int (iv (0)), .int (iv (0)), .int (iv (0))])), (n8, ai (gI G) 2048 (zI)), (n14, .inr (2, [.ref rF1_18, .ref rO1_18])), (rF1_18, ai (gI G) 32 (qf1_18)), (rO1_18, ai (gI G) 32 (qo1_18))] H := hP
  have hD : va_D A [(rC, .inr (4, [.ref n8, .null, .null, .null, .null, .null, .int (iv (0)), .int (iv (0)), .int (iv (0)), .int (iv (0)), .int (iv (0))])), (n8, ai (gI G) 2048 (zI)), (n14, .inr (2, [.ref rF1_18, .ref rO1_18])), (rF1_18, ai (gI G) 32 (qf1_18)), (rO1_18, ai (gI G) 32 (qo1_18))] := hD
  try dsimp only at h18
  refine va_putF (D := gD G) (ci := 4) (v := .ref n14) (ty := .object "WaveletSlices$Quantiser") (C := R_Coder) (T := F_Coder) (N := 11) hx hb hw in_Coder t_Coder t_Coder_ok n_Coder hown hK hP hD hS 0 rfl rfl 3 (by decide) (hw _ m1_180) (fun _ h => h) rfl hnm rfl (by decide +kernel) rfl rfl (Nat.le_of_ble_eq_true rfl) d_Coder_init_21 (fun H locs hP hD hS => ?_)
  have hP : va_P (gD G) classes [(rC, .inr (4, [.ref n8, .null, .null, .ref n14, .null, .null, .int (iv (0)), .int (iv (0)), .int (iv (0)), .int (iv (0)), .int (iv (0))])), (n8, ai (gI G) 2048 (zI)), (n14, .inr (2, [.ref rF1_18, .ref rO1_18])), (rF1_18, ai (gI G) 32 (qf1_18)), (rO1_18, ai (gI G) 32 (qo1_18))] H := hP
  have hD : va_D A [(rC, .inr (4, [.ref n8, .null, .null, .ref n14, .null, .null, .int (iv (0)), .int (iv (0)), .int (iv (0)), .int (iv (0)), .int (iv (0))])), (n8, ai (gI G) 2048 (zI)), (n14, .inr (2, [.ref rF1_18, .ref rO1_18])), (rF1_18, ai (gI G) 32 (qf1_18)), (rO1_18, ai (gI G) 32 (qo1_18))] := hD
  refine lv_aload_n hx hb d_Coder_init_24 rfl (lv_at hl 0 rfl) ?_
  refine va_new (D := gD G) (cl := classes) (ci := 0) (C := R_Bits) (T := F_Bits) (N := 3) (fs := [.null, .int (iv (0)), .int (iv (0))]) hx hb hw in_Bits t_Bits t_Bits_ok hown (hw _ m1_160) (hw _ m1_161) (hw _ m1_7) hK hP hD hS hA rfl (by decide +kernel) (Nat.le_of_ble_eq_true rfl) (Nat.le_of_ble_eq_true rfl) d_Coder_init_25 (fun n25 H hP hD hS => ?_)
  have hP : va_P (gD G) classes [(rC, .inr (4, [.ref n8, .null, .null, .ref n14, .null, .null, .int (iv (0)), .int (iv (0)), .int (iv (0)), .int (iv (0)), .int (iv (0))])), (n8, ai (gI G) 2048 (zI)), (n14, .inr (2, [.ref rF1_18, .ref rO1_18])), (rF1_18, ai (gI G) 32 (qf1_18)), (rO1_18, ai (gI G) 32 (qo1_18)), (n25, .inr (0, [.null, .int (iv (0)), .int (iv (0))]))] H := hP
  have hD : va_D A [(rC, .inr (4, [.ref n8, .null, .null, .ref n14, .null, .null, .int (iv (0)), .int (iv (0)), .int (iv (0)), .int (iv (0)), .int (iv (0))])), (n8, ai (gI G) 2048 (zI)), (n14, .inr (2, [.ref rF1_18, .ref rO1_18])), (rF1_18, ai (gI G) 32 (qf1_18)), (rO1_18, ai (gI G) 32 (qo1_18)), (n25, .inr (0, [.null, .int (iv (0)), .int (iv (0))]))] := hD
  refine lv_dup hx hb d_Coder_init_28 rfl ?_
  refine lv_aload_n hx hb d_Coder_init_29 rfl (lv_at hl 0 rfl) ?_
  refine va_get (D := gD G) (ci := 4) (v := .ref n8) (C := R_Coder) (T := F_Coder) (N := 11) hx hb hw in_Coder hown hK hP 0 rfl rfl 0 (by decide) (hw _ m1_176) (fun _ h => h) rfl d_Coder_init_30 ?_
  refine k_cv (wz := fun u : Unit => [(rC, .inr (4, [.ref n8, .null, .null, .ref n14, .null, .null, .int (iv (0)), .int (iv (0)), .int (iv (0)), .int (iv (0)), .int (iv (0))])), (n8, ai (gI G) 2048 (zI)), (n14, .inr (2, [.ref rF1_18, .ref rO1_18])), (rF1_18, ai (gI G) 32 (qf1_18)), (rO1_18, ai (gI G) 32 (qo1_18)), (n25, .inr (0, [.ref n8, .int (iv (0)), .int (iv (0))]))]) (wr := [(rC, .inr (4, [.ref n8, .null, .null, .ref n14, .null, .null, .int (iv (0)), .int (iv (0)), .int (iv (0)), .int (iv (0)), .int (iv (0))])), (n8, ai (gI G) 2048 (zI)), (n14, .inr (2, [.ref rF1_18, .ref rO1_18])), (rF1_18, ai (gI G) 32 (qf1_18)), (rO1_18, ai (gI G) 32 (qo1_18))]) (k_ri S (c_Bits_init l G _ n25 n8 ) 1 m1_164 m1_162 m1_163 m1_7 rfl (by decide +kernel) (by decide) rfl rfl (k_preS hK hP hD hS hA hT [5] (by decide) rfl) rfl hl.1 rfl (Nat.le_of_ble_eq_true rfl) d_Coder_init_33 ⟨Nat.le_of_ble_eq_true rfl, Nat.le_of_ble_eq_true rfl⟩) hP hD hS hA [5] [0, 1, 2, 3, 4] [0, 1, 2, 3, 4, 5] rfl rfl (by decide) (by decide) (by decide) (fun _ => rfl) (fun u33 H locs h33 hP hD hS => ?_)
  have hP : va_P (gD G) classes [(rC, .inr (4, [.ref n8, .null, .null, .ref n14, .null, .null, .int (iv (0)), .int (iv (0)), .int (iv (0)), .int (iv (0)), .int (iv (0))])), (n8, ai (gI G) 2048 (zI)), (n14, .inr (2, [.ref rF1_18, .ref rO1_18])), (rF1_18, ai (gI G) 32 (qf1_18)), (rO1_18, ai (gI G) 32 (qo1_18)), (n25, .inr (0, [.ref n8, .int (iv (0)), .int (iv (0))]))] H := hP
  have hD : va_D A [(rC, .inr (4, [.ref n8, .null, .null, .ref n14, .null, .null, .int (iv (0)), .int (iv (0)), .int (iv (0)), .int (iv (0)), .int (iv (0))])), (n8, ai (gI G) 2048 (zI)), (n14, .inr (2, [.ref rF1_18, .ref rO1_18])), (rF1_18, ai (gI G) 32 (qf1_18)), (rO1_18, ai (gI G) 32 (qo1_18)), (n25, .inr (0, [.ref n8, .int (iv (0)), .int (iv (0))]))] := hD
  try dsimp only at h33
  refine va_putF (D := gD G) (ci := 4) (v := .ref n25) (ty := .object "WaveletSlices$Bits") (C := R_Coder) (T := F_Coder) (N := 11) hx hb hw in_Coder t_Coder t_Coder_ok n_Coder hown hK hP hD hS 0 rfl rfl 4 (by decide) (hw _ m1_181) (fun _ h => h) rfl hnm rfl (by decide +kernel) rfl rfl (Nat.le_of_ble_eq_true rfl) d_Coder_init_36 (fun H locs hP hD hS => ?_)
  have hP : va_P (gD G) classes [(rC, .inr (4, [.ref n8, .null, .null, .ref n14, .ref n25, .null, .int (iv (0)), .int (iv (0)), .int (iv (0)), .int (iv (0)), .int (iv (0))])), (n8, ai (gI G) 2048 (zI)), (n14, .inr (2, [.ref rF1_18, .ref rO1_18])), (rF1_18, ai (gI G) 32 (qf1_18)), (rO1_18, ai (gI G) 32 (qo1_18)), (n25, .inr (0, [.ref n8, .int (iv (0)), .int (iv (0))]))] H := hP
  have hD : va_D A [(rC, .inr (4, [.ref n8, .null, .null, .ref n14, .ref n25, .null, .int (iv (0)), .int (iv (0)), .int (iv (0)), .int (iv (0)), .int (iv (0))])), (n8, ai (gI G) 2048 (zI)), (n14, .inr (2, [.ref rF1_18, .ref rO1_18])), (rF1_18, ai (gI G) 32 (qf1_18)), (rO1_18, ai (gI G) 32 (qo1_18)), (n25, .inr (0, [.ref n8, .int (iv (0)), .int (iv (0))]))] := hD
  refine lv_aload_n hx hb d_Coder_init_39 rfl (lv_at hl 0 rfl) ?_
  refine lv_sipush (v := iv (256)) hx hb d_Coder_init_40 rfl ?_
  refine k_newi hx hb (hw _ m1_71) hK hP hD hS hA 256 rfl (by decide) (Nat.le_of_ble_eq_true rfl) (Nat.le_of_ble_eq_true rfl) d_Coder_init_43 (fun n43 H hP hD hS => ?_)
  have hP : va_P (gD G) classes [(rC, .inr (4, [.ref n8, .null, .null, .ref n14, .ref n25, .null, .int (iv (0)), .int (iv (0)), .int (iv (0)), .int (iv (0)), .int (iv (0))])), (n8, ai (gI G) 2048 (zI)), (n14, .inr (2, [.ref rF1_18, .ref rO1_18])), (rF1_18, ai (gI G) 32 (qf1_18)), (rO1_18, ai (gI G) 32 (qo1_18)), (n25, .inr (0, [.ref n8, .int (iv (0)), .int (iv (0))])), (n43, ai (gI G) 256 (zI))] H := hP
  have hD : va_D A [(rC, .inr (4, [.ref n8, .null, .null, .ref n14, .ref n25, .null, .int (iv (0)), .int (iv (0)), .int (iv (0)), .int (iv (0)), .int (iv (0))])), (n8, ai (gI G) 2048 (zI)), (n14, .inr (2, [.ref rF1_18, .ref rO1_18])), (rF1_18, ai (gI G) 32 (qf1_18)), (rO1_18, ai (gI G) 32 (qo1_18)), (n25, .inr (0, [.ref n8, .int (iv (0)), .int (iv (0))])), (n43, ai (gI G) 256 (zI))] := hD
  refine va_putF (D := gD G) (ci := 4) (v := .ref n43) (ty := .array .int) (C := R_Coder) (T := F_Coder) (N := 11) hx hb hw in_Coder t_Coder t_Coder_ok n_Coder hown hK hP hD hS 0 rfl rfl 5 (by decide) (hw _ m1_182) (fun _ h => h) rfl hnm rfl (by decide +kernel) rfl rfl (Nat.le_of_ble_eq_true rfl) d_Coder_init_45 (fun H locs hP hD hS => ?_)
  have hP : va_P (gD G) classes [(rC, .inr (4, [.ref n8, .null, .null, .ref n14, .ref n25, .ref n43, .int (iv (0)), .int (iv (0)), .int (iv (0)), .int (iv (0)), .int (iv (0))])), (n8, ai (gI G) 2048 (zI)), (n14, .inr (2, [.ref rF1_18, .ref rO1_18])), (rF1_18, ai (gI G) 32 (qf1_18)), (rO1_18, ai (gI G) 32 (qo1_18)), (n25, .inr (0, [.ref n8, .int (iv (0)), .int (iv (0))])), (n43, ai (gI G) 256 (zI))] H := hP
  have hD : va_D A [(rC, .inr (4, [.ref n8, .null, .null, .ref n14, .ref n25, .ref n43, .int (iv (0)), .int (iv (0)), .int (iv (0)), .int (iv (0)), .int (iv (0))])), (n8, ai (gI G) 2048 (zI)), (n14, .inr (2, [.ref rF1_18, .ref rO1_18])), (rF1_18, ai (gI G) 32 (qf1_18)), (rO1_18, ai (gI G) 32 (qo1_18)), (n25, .inr (0, [.ref n8, .int (iv (0)), .int (iv (0))])), (n43, ai (gI G) 256 (zI))] := hD
  refine lv_aload_n hx hb d_Coder_init_48 rfl (lv_at hl 0 rfl) ?_
  refine lv_iconst (v := iv (0)) hx hb d_Coder_init_49 rfl ?_
  refine va_put (D := gD G) (ci := 4) (v := .int (iv (0))) (ty := .int) (C := R_Coder) (T := F_Coder) (N := 11) hx hb hw in_Coder t_Coder t_Coder_ok n_Coder hown hK hP hD hS 0 rfl rfl 6 (by decide) (hw _ m1_183) (fun _ h => h) rfl (by decide +kernel) rfl rfl (Nat.le_of_ble_eq_true rfl) d_Coder_init_50 (fun H locs hP hD hS => ?_)
  have hP : va_P (gD G) classes [(rC, .inr (4, [.ref n8, .null, .null, .ref n14, .ref n25, .ref n43, .int (iv (0)), .int (iv (0)), .int (iv (0)), .int (iv (0)), .int (iv (0))])), (n8, ai (gI G) 2048 (zI)), (n14, .inr (2, [.ref rF1_18, .ref rO1_18])), (rF1_18, ai (gI G) 32 (qf1_18)), (rO1_18, ai (gI G) 32 (qo1_18)), (n25, .inr (0, [.ref n8, .int (iv (0)), .int (iv (0))])), (n43, ai (gI G) 256 (zI))] H := hP
  have hD : va_D A [(rC, .inr (4, [.ref n8, .null, .null, .ref n14, .ref n25, .ref n43, .int (iv (0)), .int (iv (0)), .int (iv (0)), .int (iv (0)), .int (iv (0))])), (n8, ai (gI G) 2048 (zI)), (n14, .inr (2, [.ref rF1_18, .ref rO1_18])), (rF1_18, ai (gI G) 32 (qf1_18)), (rO1_18, ai (gI G) 32 (qo1_18)), (n25, .inr (0, [.ref n8, .int (iv (0)), .int (iv (0))])), (n43, ai (gI G) 256 (zI))] := hD
  refine lv_aload_n hx hb d_Coder_init_53 rfl (lv_at hl 0 rfl) ?_
  refine lv_iconst (v := iv (0)) hx hb d_Coder_init_54 rfl ?_
  refine va_put (D := gD G) (ci := 4) (v := .int (iv (0))) (ty := .int) (C := R_Coder) (T := F_Coder) (N := 11) hx hb hw in_Coder t_Coder t_Coder_ok n_Coder hown hK hP hD hS 0 rfl rfl 7 (by decide) (hw _ m1_184) (fun _ h => h) rfl (by decide +kernel) rfl rfl (Nat.le_of_ble_eq_true rfl) d_Coder_init_55 (fun H locs hP hD hS => ?_)
  have hP : va_P (gD G) classes [(rC, .inr (4, [.ref n8, .null, .null, .ref n14, .ref n25, .ref n43, .int (iv (0)), .int (iv (0)), .int (iv (0)), .int (iv (0)), .int (iv (0))])), (n8, ai (gI G) 2048 (zI)), (n14, .inr (2, [.ref rF1_18, .ref rO1_18])), (rF1_18, ai (gI G) 32 (qf1_18)), (rO1_18, ai (gI G) 32 (qo1_18)), (n25, .inr (0, [.ref n8, .int (iv (0)), .int (iv (0))])), (n43, ai (gI G) 256 (zI))] H := hP
  have hD : va_D A [(rC, .inr (4, [.ref n8, .null, .null, .ref n14, .ref n25, .ref n43, .int (iv (0)), .int (iv (0)), .int (iv (0)), .int (iv (0)), .int (iv (0))])), (n8, ai (gI G) 2048 (zI)), (n14, .inr (2, [.ref rF1_18, .ref rO1_18])), (rF1_18, ai (gI G) 32 (qf1_18)), (rO1_18, ai (gI G) 32 (qo1_18)), (n25, .inr (0, [.ref n8, .int (iv (0)), .int (iv (0))])), (n43, ai (gI G) 256 (zI))] := hD
  refine lv_aload_n hx hb d_Coder_init_58 rfl (lv_at hl 0 rfl) ?_
  refine lv_iconst (v := iv (0)) hx hb d_Coder_init_59 rfl ?_
  refine va_put (D := gD G) (ci := 4) (v := .int (iv (0))) (ty := .int) (C := R_Coder) (T := F_Coder) (N := 11) hx hb hw in_Coder t_Coder t_Coder_ok n_Coder hown hK hP hD hS 0 rfl rfl 8 (by decide) (hw _ m1_185) (fun _ h => h) rfl (by decide +kernel) rfl rfl (Nat.le_of_ble_eq_true rfl) d_Coder_init_60 (fun H locs hP hD hS => ?_)
  have hP : va_P (gD G) classes [(rC, .inr (4, [.ref n8, .null, .null, .ref n14, .ref n25, .ref n43, .int (iv (0)), .int (iv (0)), .int (iv (0)), .int (iv (0)), .int (iv (0))])), (n8, ai (gI G) 2048 (zI)), (n14, .inr (2, [.ref rF1_18, .ref rO1_18])), (rF1_18, ai (gI G) 32 (qf1_18)), (rO1_18, ai (gI G) 32 (qo1_18)), (n25, .inr (0, [.ref n8, .int (iv (0)), .int (iv (0))])), (n43, ai (gI G) 256 (zI))] H := hP
  have hD : va_D A [(rC, .inr (4, [.ref n8, .null, .null, .ref n14, .ref n25, .ref n43, .int (iv (0)), .int (iv (0)), .int (iv (0)), .int (iv (0)), .int (iv (0))])), (n8, ai (gI G) 2048 (zI)), (n14, .inr (2, [.ref rF1_18, .ref rO1_18])), (rF1_18, ai (gI G) 32 (qf1_18)), (rO1_18, ai (gI G) 32 (qo1_18)), (n25, .inr (0, [.ref n8, .int (iv (0)), .int (iv (0))])), (n43, ai (gI G) 256 (zI))] := hD
  refine lv_aload_n hx hb d_Coder_init_63 rfl (lv_at hl 0 rfl) ?_
  refine lv_iconst (v := iv (0)) hx hb d_Coder_init_64 rfl ?_
  refine va_put (D := gD G) (ci := 4) (v := .int (iv (0))) (ty := .int) (C := R_Coder) (T := F_Coder) (N := 11) hx hb hw in_Coder t_Coder t_Coder_ok n_Coder hown hK hP hD hS 0 rfl rfl 9 (by decide) (hw _ m1_186) (fun _ h => h) rfl (by decide +kernel) rfl rfl (Nat.le_of_ble_eq_true rfl) d_Coder_init_65 (fun H locs hP hD hS => ?_)
  have hP : va_P (gD G) classes [(rC, .inr (4, [.ref n8, .null, .null, .ref n14, .ref n25, .ref n43, .int (iv (0)), .int (iv (0)), .int (iv (0)), .int (iv (0)), .int (iv (0))])), (n8, ai (gI G) 2048 (zI)), (n14, .inr (2, [.ref rF1_18, .ref rO1_18])), (rF1_18, ai (gI G) 32 (qf1_18)), (rO1_18, ai (gI G) 32 (qo1_18)), (n25, .inr (0, [.ref n8, .int (iv (0)), .int (iv (0))])), (n43, ai (gI G) 256 (zI))] H := hP
  have hD : va_D A [(rC, .inr (4, [.ref n8, .null, .null, .ref n14, .ref n25, .ref n43, .int (iv (0)), .int (iv (0)), .int (iv (0)), .int (iv (0)), .int (iv (0))])), (n8, ai (gI G) 2048 (zI)), (n14, .inr (2, [.ref rF1_18, .ref rO1_18])), (rF1_18, ai (gI G) 32 (qf1_18)), (rO1_18, ai (gI G) 32 (qo1_18)), (n25, .inr (0, [.ref n8, .int (iv (0)), .int (iv (0))])), (n43, ai (gI G) 256 (zI))] := hD
  refine lv_aload_n hx hb d_Coder_init_68 rfl (lv_at hl 0 rfl) ?_
  refine lv_iconst (v := iv (0)) hx hb d_Coder_init_69 rfl ?_
  refine va_put (D := gD G) (ci := 4) (v := .int (iv (0))) (ty := .int) (C := R_Coder) (T := F_Coder) (N := 11) hx hb hw in_Coder t_Coder t_Coder_ok n_Coder hown hK hP hD hS 0 rfl rfl 10 (by decide) (hw _ m1_187) (fun _ h => h) rfl (by decide +kernel) rfl rfl (Nat.le_of_ble_eq_true rfl) d_Coder_init_70 (fun H locs hP hD hS => ?_)
  have hP : va_P (gD G) classes [(rC, .inr (4, [.ref n8, .null, .null, .ref n14, .ref n25, .ref n43, .int (iv (0)), .int (iv (0)), .int (iv (0)), .int (iv (0)), .int (iv (0))])), (n8, ai (gI G) 2048 (zI)), (n14, .inr (2, [.ref rF1_18, .ref rO1_18])), (rF1_18, ai (gI G) 32 (qf1_18)), (rO1_18, ai (gI G) 32 (qo1_18)), (n25, .inr (0, [.ref n8, .int (iv (0)), .int (iv (0))])), (n43, ai (gI G) 256 (zI))] H := hP
  have hD : va_D A [(rC, .inr (4, [.ref n8, .null, .null, .ref n14, .ref n25, .ref n43, .int (iv (0)), .int (iv (0)), .int (iv (0)), .int (iv (0)), .int (iv (0))])), (n8, ai (gI G) 2048 (zI)), (n14, .inr (2, [.ref rF1_18, .ref rO1_18])), (rF1_18, ai (gI G) 32 (qf1_18)), (rO1_18, ai (gI G) 32 (qo1_18)), (n25, .inr (0, [.ref n8, .int (iv (0)), .int (iv (0))])), (n43, ai (gI G) 256 (zI))] := hD
  refine lv_aload_n hx hb d_Coder_init_73 rfl (lv_at hl 0 rfl) ?_
  refine lv_aload_n hx hb d_Coder_init_74 rfl (lv_at hl 1 rfl) ?_
  refine va_putF (D := gD G) (ci := 4) (v := .ref rS) (ty := .object "WaveletSlices$Setup") (C := R_Coder) (T := F_Coder) (N := 11) hx hb hw in_Coder t_Coder t_Coder_ok n_Coder hown hK hP hD hS 0 rfl rfl 1 (by decide) (hw _ m1_178) (fun _ h => h) rfl hnm rfl (by decide +kernel) rfl rfl (Nat.le_of_ble_eq_true rfl) d_Coder_init_75 (fun H locs hP hD hS => ?_)
  have hP : va_P (gD G) classes [(rC, .inr (4, [.ref n8, .ref rS, .null, .ref n14, .ref n25, .ref n43, .int (iv (0)), .int (iv (0)), .int (iv (0)), .int (iv (0)), .int (iv (0))])), (n8, ai (gI G) 2048 (zI)), (n14, .inr (2, [.ref rF1_18, .ref rO1_18])), (rF1_18, ai (gI G) 32 (qf1_18)), (rO1_18, ai (gI G) 32 (qo1_18)), (n25, .inr (0, [.ref n8, .int (iv (0)), .int (iv (0))])), (n43, ai (gI G) 256 (zI))] H := hP
  have hD : va_D A [(rC, .inr (4, [.ref n8, .ref rS, .null, .ref n14, .ref n25, .ref n43, .int (iv (0)), .int (iv (0)), .int (iv (0)), .int (iv (0)), .int (iv (0))])), (n8, ai (gI G) 2048 (zI)), (n14, .inr (2, [.ref rF1_18, .ref rO1_18])), (rF1_18, ai (gI G) 32 (qf1_18)), (rO1_18, ai (gI G) 32 (qo1_18)), (n25, .inr (0, [.ref n8, .int (iv (0)), .int (iv (0))])), (n43, ai (gI G) 256 (zI))] := hD
  refine lv_aload_n hx hb d_Coder_init_78 rfl (lv_at hl 0 rfl) ?_
  refine lv_aload_n hx hb d_Coder_init_79 rfl (lv_at hl 2 rfl) ?_
  refine va_putF (D := gD G) (ci := 4) (v := .ref rL) (ty := .object "WaveletSlices$Layout") (C := R_Coder) (T := F_Coder) (N := 11) hx hb hw in_Coder t_Coder t_Coder_ok n_Coder hown hK hP hD hS 0 rfl rfl 2 (by decide) (hw _ m1_179) (fun _ h => h) rfl hnm rfl (by decide +kernel) rfl rfl (Nat.le_of_ble_eq_true rfl) d_Coder_init_80 (fun H locs hP hD hS => ?_)
  have hP : va_P (gD G) classes [(rC, .inr (4, [.ref n8, .ref rS, .ref rL, .ref n14, .ref n25, .ref n43, .int (iv (0)), .int (iv (0)), .int (iv (0)), .int (iv (0)), .int (iv (0))])), (n8, ai (gI G) 2048 (zI)), (n14, .inr (2, [.ref rF1_18, .ref rO1_18])), (rF1_18, ai (gI G) 32 (qf1_18)), (rO1_18, ai (gI G) 32 (qo1_18)), (n25, .inr (0, [.ref n8, .int (iv (0)), .int (iv (0))])), (n43, ai (gI G) 256 (zI))] H := hP
  have hD : va_D A [(rC, .inr (4, [.ref n8, .ref rS, .ref rL, .ref n14, .ref n25, .ref n43, .int (iv (0)), .int (iv (0)), .int (iv (0)), .int (iv (0)), .int (iv (0))])), (n8, ai (gI G) 2048 (zI)), (n14, .inr (2, [.ref rF1_18, .ref rO1_18])), (rF1_18, ai (gI G) 32 (qf1_18)), (rO1_18, ai (gI G) 32 (qo1_18)), (n25, .inr (0, [.ref n8, .int (iv (0)), .int (iv (0))])), (n43, ai (gI G) 256 (zI))] := hD
  exact k_vret hx hb hr hlk hQ ((n8, n14, rF1_18, rO1_18, n25, n43, qf1_18, qo1_18)) (h18) hP hD hS d_Coder_init_83
