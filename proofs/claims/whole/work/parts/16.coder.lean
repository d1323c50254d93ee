/-- the same, of a member of a class that the machine has entries for -/
theorem k_metF {l : Launch} {y : MethodName} {w w' : List Cond} {rm : Room} {G : k_G} {av : List Value} {ws : va_W} {sz : Nat} (Qc : (Nat → Prop) → Array Value → State → Outcome → State → Prop) (fr : (Nat → Prop) → Addr → Prop) {mc ms : Nat} {cc : ByteArray} {maxL : Nat} {ret : Option FieldType}
    (hy : plainFor y = true) (hw : w = Cond.code y cc maxL ret :: w') (hn : (lg_sl av).length ≤ maxL)
    (body : ∀ (p : Program) (e : Env) (s : State) (m : MethodId) (args : Array Value) (below : List Frame) (meth : Method) (c : Code) (ls : Array Slot) (A : Nat → Prop) (Q : State → Prop), CallFix p m c cc maxL s args w y.cls → meth.sig.returnType = ret → meth.locks = false → meth.name = y.name → lv_has ls maxL (lv_args 0 av) → s.heap.size = sz →
      va_P (gD G) classes ws s.heap → va_K (gD G) classes (gT G) s → va_D A ws → va_S A s.heap s.heap [] → (∀ q : Nat, s.heap.size ≤ q → A q) → tb A s → Q = MQ below (Qc A) args s mc ms (fr A) → W p l e rm s m args below meth c s.heap [] 0 0 Q (F0 m 0 ls [])) : Met l y w rm (k_P G av ws sz) (Qc (va_A ws sz)) mc ms (fr (va_A ws sz)) := by
  refine va_MetF (cc := cc) (maxL := maxL) (ret := ret) hy hw ?_
  intro p e s m args below meth c s₁ B hml hv
  obtain ⟨rfl, hsz, hP, hK, hD0, hT⟩ := hv
  have hts := atoms_spec (ws := w) B.pre
  have hown : s.vm.findClass y.cls = some m.cls := findClass_of_methodNamed B.named
  rw [lg_entry_eq]
  exact body p e s m _ below meth c _ (va_A ws sz) _ ⟨B.exec, B.bytes, hml, hown, hts⟩ B.returns B.notSynchronized (name_of_methodNamed B.named B.method).1 (lv_entry av hn) hsz hP hK hD0.self va_S.rf (fun q h => Or.inr (by rw [← hsz]; exact h)) hT rfl
/-! slices: their bytes, ROOM, prediction, what is rebuilt -/
theorem mul_r {a b A B : Int} (ha : 0 ≤ a ∧ a ≤ A) (hb : 0 ≤ b ∧ b ≤ B) : 0 ≤ a * b ∧ a * b ≤ A * B :=
  ⟨Int.mul_nonneg ha.1 hb.1, Int.mul_le_mul ha.2 hb.2 hb.1 (by omega)⟩
/-- where slice s begins -/
def sBy (nu de s : Int) : Int := s * nu / de
/-- the bits of slice s behind its quantiser -/
def aft (nu de s : Int) : Int := 8 * sBy nu de (s + 1) - 8 * sBy nu de s - 5
def ldI (nu de s : Int) : Int := 1 + lg (aft nu de s)
def rmI (nu de s : Int) : Int := aft nu de s - ldI nu de s
/-- NUM and DEN as they may be -/
def okR (nu de : Int) : Prop := 1 ≤ de ∧ de ≤ 64 ∧ 2 * de ≤ nu ∧ nu ≤ 128 * de
theorem sBy_s {nu de s : Int} (h : okR nu de) : sBy nu de s + 2 ≤ sBy nu de (s + 1) ∧ sBy nu de (s + 1) ≤ sBy nu de s + 128 := by
  obtain ⟨h1, h2, h3, h4⟩ := h
  unfold sBy
  rw [Int.add_mul, Int.one_mul]
  have e1 : (s * nu + 2 * de) / de = s * nu / de + 2 := Int.add_mul_ediv_right _ _ (by omega)
  have e2 : (s * nu + 128 * de) / de = s * nu / de + 128 := Int.add_mul_ediv_right _ _ (by omega)
  have h5 : (s * nu + 2 * de) / de ≤ (s * nu + nu) / de := Int.ediv_le_ediv (by omega) (by omega)
  have h6 : (s * nu + nu) / de ≤ (s * nu + 128 * de) / de := Int.ediv_le_ediv (by omega) (by omega)
  omega
theorem sBy_r {nu de s : Int} (h : okR nu de) (hs : 0 ≤ s ∧ s ≤ 16) : 0 ≤ sBy nu de s ∧ sBy nu de s ≤ 128 * s ∧ 2 * s ≤ sBy nu de s ∧ 0 ≤ s * nu ∧ s * nu ≤ 131072 := by
  obtain ⟨h1, h2, h3, h4⟩ := h
  have h5 := mul_r (a := s) (b := nu) (A := 16) (B := 8192) hs ⟨by omega, by omega⟩
  have h6 : s * nu ≤ s * (128 * de) := Int.mul_le_mul_of_nonneg_left h4 hs.1
  have h7 : s * (2 * de) ≤ s * nu := Int.mul_le_mul_of_nonneg_left h3 hs.1
  have e1 : s * (128 * de) / de = 128 * s := by rw [← Int.mul_assoc, Int.mul_ediv_cancel _ (by omega), Int.mul_comm]
  have e2 : s * (2 * de) / de = 2 * s := by rw [← Int.mul_assoc, Int.mul_ediv_cancel _ (by omega), Int.mul_comm]
  have h8 : s * nu / de ≤ s * (128 * de) / de := Int.ediv_le_ediv (by omega) h6
  have h9 : s * (2 * de) / de ≤ s * nu / de := Int.ediv_le_ediv (by omega) h7
  unfold sBy
  refine ⟨Int.ediv_nonneg h5.1 (by omega), by omega, by omega, h5.1, by omega⟩
theorem aft_r {nu de s : Int} (h : okR nu de) : 11 ≤ aft nu de s ∧ aft nu de s ≤ 1019 := by
  have := sBy_s (s := s) h
  unfold aft
  omega
theorem ldI_r {nu de s : Int} (h : okR nu de) : 4 ≤ ldI nu de s ∧ ldI nu de s ≤ 10 := by
  have h1 := aft_r (s := s) h
  have h2 := lg_r (i := aft nu de s) 10 1024 (by decide) (by omega) (by omega)
  have h3 := lg_s (i := aft nu de s) (by omega)
  unfold ldI
  refine ⟨?_, by omega⟩
  refine Classical.byContradiction fun q => ?_
  have h4 : (2 : Int) ^ (lg (aft nu de s)).toNat ≤ 2 ^ 2 := p2_le (by omega)
  have e : (2 : Int) ^ 2 = 4 := by decide
  omega
theorem rmI_r {nu de s : Int} (h : okR nu de) : 1 ≤ rmI nu de s ∧ rmI nu de s ≤ 1015 := by
  have h1 := aft_r (s := s) h
  have h2 := ldI_r (s := s) h
  unfold rmI
  omega
/-- floorDiv -/
def fdv (x y : Int64) : Int64 := if 0 ≤ x ^^^ y then x / y else if x / y * y = x then x / y else x / y - 1
/-- the prediction at a place -/
def fcL (v : Int → Int64) (p : Int) : Int64 := if p % 16 = 0 then (if p < 16 then 0 else v (p - 16)) else if p < 16 then v (p - 1) else fdv (v (p - 1) + v (p - 16) + v (p - 17) + 1) 3
def bdL (c : Int64) : Int64 := mxL (-134217728) (mnL 134217728 c)
theorem m2_207 : Cond.code y_Quant_valueOf prog_4_method_3_code 5 (some .long) ∈ wl := wl_2 207 (by decide +kernel) (by decide +kernel)
theorem m2_168 : Cond.code y_Setup_firstByte prog_5_method_5_code 2 (some .int) ∈ wl := wl_2 168 (by decide +kernel) (by decide +kernel)
theorem m2_188 : Cond.code y_Coder_easedAt prog_6_method_12_code 3 (some .int) ∈ wl := wl_2 188 (by decide +kernel) (by decide +kernel)
theorem m2_184 : Cond.code y_Jmath_floorDiv prog_11_method_49_code 6 (some .long) ∈ wl := wl_2 184 (by decide +kernel) (by decide +kernel)
theorem m1_216 : Cond.code y_Jmath_max_III prog_11_method_65_code 2 (some .int) ∈ wl := wl_1 216 (by decide +kernel) (by decide +kernel)
theorem m2_212 : Cond.constantLong "WaveletSlices$SliceCoder" 164 (-134217728) ∈ wl := wl_2 212 (by decide +kernel) (by decide +kernel)
theorem m2_213 : Cond.constantLong "WaveletSlices$SliceCoder" 166 (134217728) ∈ wl := wl_2 213 (by decide +kernel) (by decide +kernel)
theorem m2_181 : Cond.constantLong "WaveletSlices$SliceCoder" 177 (3) ∈ wl := wl_2 181 (by decide +kernel) (by decide +kernel)
theorem m1_94 : Cond.fieldLink "WaveletSlices$SliceCoder" 154 "WaveletSlices$Layout" "bandOf" "[I" ∈ wl := wl_1 94 (by decide +kernel) (by decide +kernel)
theorem m1_90 : Cond.fieldLink "WaveletSlices$SliceCoder" 107 "WaveletSlices$Layout" "first" "[I" ∈ wl := wl_1 90 (by decide +kernel) (by decide +kernel)
theorem m1_92 : Cond.fieldLink "WaveletSlices$SliceCoder" 129 "WaveletSlices$Layout" "placeOf" "[I" ∈ wl := wl_1 92 (by decide +kernel) (by decide +kernel)
theorem m1_47 : Cond.fieldLink "WaveletSlices$SliceCoder" 151 "WaveletSlices$Setup" "eases" "[I" ∈ wl := wl_1 47 (by decide +kernel) (by decide +kernel)
theorem m1_44 : Cond.fieldLink "WaveletSlices$SliceCoder" 173 "WaveletSlices$Setup" "predicts" "Z" ∈ wl := wl_1 44 (by decide +kernel) (by decide +kernel)
theorem m1_185 : Cond.fieldLink "WaveletSlices$SliceCoder" 41 "WaveletSlices$SliceCoder" "firstBit" "I" ∈ wl := wl_1 185 (by decide +kernel) (by decide +kernel)
theorem m1_183 : Cond.fieldLink "WaveletSlices$SliceCoder" 34 "WaveletSlices$SliceCoder" "from" "I" ∈ wl := wl_1 183 (by decide +kernel) (by decide +kernel)
theorem m1_179 : Cond.fieldLink "WaveletSlices$SliceCoder" 54 "WaveletSlices$SliceCoder" "layout" "LWaveletSlices$Layout;" ∈ wl := wl_1 179 (by decide +kernel) (by decide +kernel)
theorem m1_186 : Cond.fieldLink "WaveletSlices$SliceCoder" 44 "WaveletSlices$SliceCoder" "lengthDigits" "I" ∈ wl := wl_1 186 (by decide +kernel) (by decide +kernel)
theorem m1_182 : Cond.fieldLink "WaveletSlices$SliceCoder" 31 "WaveletSlices$SliceCoder" "numbers" "[I" ∈ wl := wl_1 182 (by decide +kernel) (by decide +kernel)
theorem m1_180 : Cond.fieldLink "WaveletSlices$SliceCoder" 18 "WaveletSlices$SliceCoder" "quantiser" "LWaveletSlices$Quantiser;" ∈ wl := wl_1 180 (by decide +kernel) (by decide +kernel)
theorem m1_187 : Cond.fieldLink "WaveletSlices$SliceCoder" 47 "WaveletSlices$SliceCoder" "room" "I" ∈ wl := wl_1 187 (by decide +kernel) (by decide +kernel)
theorem m1_178 : Cond.fieldLink "WaveletSlices$SliceCoder" 50 "WaveletSlices$SliceCoder" "setup" "LWaveletSlices$Setup;" ∈ wl := wl_1 178 (by decide +kernel) (by decide +kernel)
theorem m1_184 : Cond.fieldLink "WaveletSlices$SliceCoder" 38 "WaveletSlices$SliceCoder" "to" "I" ∈ wl := wl_1 184 (by decide +kernel) (by decide +kernel)
theorem m1_6 : Cond.initialized "WaveletSlices$Quantiser" ∈ wl := wl_1 6 (by decide +kernel) (by decide +kernel)
theorem m1_2 : Cond.initialized "WaveletSlices$Setup" ∈ wl := wl_1 2 (by decide +kernel) (by decide +kernel)
theorem m1_5 : Cond.initialized "WaveletSlices$SliceCoder" ∈ wl := wl_1 5 (by decide +kernel) (by decide +kernel)
theorem m2_205 : Cond.instanceMethod y_Quant_valueOf ∈ wl := wl_2 205 (by decide +kernel) (by decide +kernel)
theorem m2_166 : Cond.instanceMethod y_Setup_firstByte ∈ wl := wl_2 166 (by decide +kernel) (by decide +kernel)
theorem m2_187 : Cond.instanceMethod y_Coder_easedAt ∈ wl := wl_2 187 (by decide +kernel) (by decide +kernel)
theorem m2_204 : Cond.methodLink "WaveletSlices$SliceCoder" 160 y_Quant_valueOf ∈ wl := wl_2 204 (by decide +kernel) (by decide +kernel)
theorem m2_165 : Cond.methodLink "WaveletSlices$SliceCoder" 112 y_Setup_firstByte ∈ wl := wl_2 165 (by decide +kernel) (by decide +kernel)
theorem m2_185 : Cond.methodLink "WaveletSlices$SliceCoder" 132 y_Coder_easedAt ∈ wl := wl_2 185 (by decide +kernel) (by decide +kernel)
theorem m2_169 : Cond.methodLink "WaveletSlices$SliceCoder" 117 y_Jint_numberOfLeadingZeros ∈ wl := wl_2 169 (by decide +kernel) (by decide +kernel)
theorem m2_182 : Cond.methodLink "WaveletSlices$SliceCoder" 179 y_Jmath_floorDiv ∈ wl := wl_2 182 (by decide +kernel) (by decide +kernel)
theorem m2_189 : Cond.methodLink "WaveletSlices$SliceCoder" 157 y_Jmath_max_III ∈ wl := wl_2 189 (by decide +kernel) (by decide +kernel)
theorem m2_215 : Cond.methodLink "WaveletSlices$SliceCoder" 171 y_Jmath_max_JJJ ∈ wl := wl_2 215 (by decide +kernel) (by decide +kernel)
theorem m2_214 : Cond.methodLink "WaveletSlices$SliceCoder" 168 y_Jmath_min_JJJ ∈ wl := wl_2 214 (by decide +kernel) (by decide +kernel)
theorem m2_206 : Cond.selects "WaveletSlices$Quantiser" y_Quant_valueOf y_Quant_valueOf ∈ wl := wl_2 206 (by decide +kernel) (by decide +kernel)
theorem m2_167 : Cond.selects "WaveletSlices$Setup" y_Setup_firstByte y_Setup_firstByte ∈ wl := wl_2 167 (by decide +kernel) (by decide +kernel)
theorem mp_10 : Cond.selects "WaveletSlices$SliceCoder" y_Coder_easedAt y_Coder_easedAt ∈ wl := wl_p 10 (by decide +kernel) (by decide +kernel)
theorem m2_183 : Cond.static y_Jmath_floorDiv ∈ wl := wl_2 183 (by decide +kernel) (by decide +kernel)
theorem m1_215 : Cond.static y_Jmath_max_III ∈ wl := wl_1 215 (by decide +kernel) (by decide +kernel)
theorem d_Jmath_floorDiv_0 : decode prog_11_method_49_code 0 = .ok (.lload_n 0, 1) := by decide +kernel
theorem d_Jmath_floorDiv_1 : decode prog_11_method_49_code 1 = .ok (.lload_n 2, 1) := by decide +kernel
theorem d_Jmath_floorDiv_2 : decode prog_11_method_49_code 2 = .ok (.ldiv, 1) := by decide +kernel
theorem d_Jmath_floorDiv_3 : decode prog_11_method_49_code 3 = .ok (.lstore 4, 2) := by decide +kernel
theorem d_Jmath_floorDiv_5 : decode prog_11_method_49_code 5 = .ok (.lload_n 0, 1) := by decide +kernel
theorem d_Jmath_floorDiv_6 : decode prog_11_method_49_code 6 = .ok (.lload_n 2, 1) := by decide +kernel
theorem d_Jmath_floorDiv_7 : decode prog_11_method_49_code 7 = .ok (.lxor, 1) := by decide +kernel
theorem d_Jmath_floorDiv_8 : decode prog_11_method_49_code 8 = .ok (.lconst 0, 1) := by decide +kernel
theorem d_Jmath_floorDiv_9 : decode prog_11_method_49_code 9 = .ok (.lcmp, 1) := by decide +kernel
theorem d_Jmath_floorDiv_10 : decode prog_11_method_49_code 10 = .ok (.ifCond .ge 17, 3) := by decide +kernel
theorem d_Jmath_floorDiv_13 : decode prog_11_method_49_code 13 = .ok (.lload 4, 2) := by decide +kernel
theorem d_Jmath_floorDiv_15 : decode prog_11_method_49_code 15 = .ok (.lload_n 2, 1) := by decide +kernel
theorem d_Jmath_floorDiv_16 : decode prog_11_method_49_code 16 = .ok (.lmul, 1) := by decide +kernel
theorem d_Jmath_floorDiv_17 : decode prog_11_method_49_code 17 = .ok (.lload_n 0, 1) := by decide +kernel
theorem d_Jmath_floorDiv_18 : decode prog_11_method_49_code 18 = .ok (.lcmp, 1) := by decide +kernel
theorem d_Jmath_floorDiv_19 : decode prog_11_method_49_code 19 = .ok (.ifCond .eq 8, 3) := by decide +kernel
theorem d_Jmath_floorDiv_22 : decode prog_11_method_49_code 22 = .ok (.lload 4, 2) := by decide +kernel
theorem d_Jmath_floorDiv_24 : decode prog_11_method_49_code 24 = .ok (.lconst 1, 1) := by decide +kernel
theorem d_Jmath_floorDiv_25 : decode prog_11_method_49_code 25 = .ok (.lsub, 1) := by decide +kernel
theorem d_Jmath_floorDiv_26 : decode prog_11_method_49_code 26 = .ok (.lreturn, 1) := by decide +kernel
theorem d_Jmath_floorDiv_27 : decode prog_11_method_49_code 27 = .ok (.lload 4, 2) := by decide +kernel
theorem d_Jmath_floorDiv_29 : decode prog_11_method_49_code 29 = .ok (.lreturn, 1) := by decide +kernel
theorem d_Coder_openSlice_0 : decode prog_6_method_8_code 0 = .ok (.aload_n 0, 1) := by decide +kernel
theorem d_Coder_openSlice_1 : decode prog_6_method_8_code 1 = .ok (.aload_n 0, 1) := by decide +kernel
theorem d_Coder_openSlice_2 : decode prog_6_method_8_code 2 = .ok (.getfield 54, 3) := by decide +kernel
theorem d_Coder_openSlice_5 : decode prog_6_method_8_code 5 = .ok (.getfield 107, 3) := by decide +kernel
theorem d_Coder_openSlice_8 : decode prog_6_method_8_code 8 = .ok (.iload_n 1, 1) := by decide +kernel
theorem d_Coder_openSlice_9 : decode prog_6_method_8_code 9 = .ok (.iaload, 1) := by decide +kernel
theorem d_Coder_openSlice_10 : decode prog_6_method_8_code 10 = .ok (.putfield 34, 3) := by decide +kernel
theorem d_Coder_openSlice_13 : decode prog_6_method_8_code 13 = .ok (.aload_n 0, 1) := by decide +kernel
theorem d_Coder_openSlice_14 : decode prog_6_method_8_code 14 = .ok (.aload_n 0, 1) := by decide +kernel
theorem d_Coder_openSlice_15 : decode prog_6_method_8_code 15 = .ok (.getfield 54, 3) := by decide +kernel
theorem d_Coder_openSlice_18 : decode prog_6_method_8_code 18 = .ok (.getfield 107, 3) := by decide +kernel
theorem d_Coder_openSlice_21 : decode prog_6_method_8_code 21 = .ok (.iload_n 1, 1) := by decide +kernel
theorem d_Coder_openSlice_22 : decode prog_6_method_8_code 22 = .ok (.iconst 1, 1) := by decide +kernel
theorem d_Coder_openSlice_23 : decode prog_6_method_8_code 23 = .ok (.iadd, 1) := by decide +kernel
theorem d_Coder_openSlice_24 : decode prog_6_method_8_code 24 = .ok (.iaload, 1) := by decide +kernel
theorem d_Coder_openSlice_25 : decode prog_6_method_8_code 25 = .ok (.putfield 38, 3) := by decide +kernel
theorem d_Coder_openSlice_28 : decode prog_6_method_8_code 28 = .ok (.aload_n 0, 1) := by decide +kernel
theorem d_Coder_openSlice_29 : decode prog_6_method_8_code 29 = .ok (.bipush 8, 2) := by decide +kernel
theorem d_Coder_openSlice_31 : decode prog_6_method_8_code 31 = .ok (.aload_n 0, 1) := by decide +kernel
theorem d_Coder_openSlice_32 : decode prog_6_method_8_code 32 = .ok (.getfield 50, 3) := by decide +kernel
theorem d_Coder_openSlice_35 : decode prog_6_method_8_code 35 = .ok (.iload_n 1, 1) := by decide +kernel
theorem d_Coder_openSlice_36 : decode prog_6_method_8_code 36 = .ok (.invokevirtual 112, 3) := by decide +kernel
theorem d_Coder_openSlice_39 : decode prog_6_method_8_code 39 = .ok (.imul, 1) := by decide +kernel
theorem d_Coder_openSlice_40 : decode prog_6_method_8_code 40 = .ok (.putfield 41, 3) := by decide +kernel
theorem d_Coder_openSlice_43 : decode prog_6_method_8_code 43 = .ok (.bipush 8, 2) := by decide +kernel
theorem d_Coder_openSlice_45 : decode prog_6_method_8_code 45 = .ok (.aload_n 0, 1) := by decide +kernel
theorem d_Coder_openSlice_46 : decode prog_6_method_8_code 46 = .ok (.getfield 50, 3) := by decide +kernel
theorem d_Coder_openSlice_49 : decode prog_6_method_8_code 49 = .ok (.iload_n 1, 1) := by decide +kernel
theorem d_Coder_openSlice_50 : decode prog_6_method_8_code 50 = .ok (.iconst 1, 1) := by decide +kernel
theorem d_Coder_openSlice_51 : decode prog_6_method_8_code 51 = .ok (.iadd, 1) := by decide +kernel
theorem d_Coder_openSlice_52 : decode prog_6_method_8_code 52 = .ok (.invokevirtual 112, 3) := by decide +kernel
theorem d_Coder_openSlice_55 : decode prog_6_method_8_code 55 = .ok (.imul, 1) := by decide +kernel
theorem d_Coder_openSlice_56 : decode prog_6_method_8_code 56 = .ok (.aload_n 0, 1) := by decide +kernel
theorem d_Coder_openSlice_57 : decode prog_6_method_8_code 57 = .ok (.getfield 41, 3) := by decide +kernel
theorem d_Coder_openSlice_60 : decode prog_6_method_8_code 60 = .ok (.isub, 1) := by decide +kernel
theorem d_Coder_openSlice_61 : decode prog_6_method_8_code 61 = .ok (.iconst 5, 1) := by decide +kernel
theorem d_Coder_openSlice_62 : decode prog_6_method_8_code 62 = .ok (.isub, 1) := by decide +kernel
theorem d_Coder_openSlice_63 : decode prog_6_method_8_code 63 = .ok (.istore_n 2, 1) := by decide +kernel
theorem d_Coder_openSlice_64 : decode prog_6_method_8_code 64 = .ok (.aload_n 0, 1) := by decide +kernel
theorem d_Coder_openSlice_65 : decode prog_6_method_8_code 65 = .ok (.bipush 32, 2) := by decide +kernel
theorem d_Coder_openSlice_67 : decode prog_6_method_8_code 67 = .ok (.iload_n 2, 1) := by decide +kernel
theorem d_Coder_openSlice_68 : decode prog_6_method_8_code 68 = .ok (.invokestatic 117, 3) := by decide +kernel
theorem d_Coder_openSlice_71 : decode prog_6_method_8_code 71 = .ok (.isub, 1) := by decide +kernel
theorem d_Coder_openSlice_72 : decode prog_6_method_8_code 72 = .ok (.putfield 44, 3) := by decide +kernel
theorem d_Coder_openSlice_75 : decode prog_6_method_8_code 75 = .ok (.aload_n 0, 1) := by decide +kernel
theorem d_Coder_openSlice_76 : decode prog_6_method_8_code 76 = .ok (.iload_n 2, 1) := by decide +kernel
theorem d_Coder_openSlice_77 : decode prog_6_method_8_code 77 = .ok (.aload_n 0, 1) := by decide +kernel
theorem d_Coder_openSlice_78 : decode prog_6_method_8_code 78 = .ok (.getfield 44, 3) := by decide +kernel
theorem d_Coder_openSlice_81 : decode prog_6_method_8_code 81 = .ok (.isub, 1) := by decide +kernel
theorem d_Coder_openSlice_82 : decode prog_6_method_8_code 82 = .ok (.putfield 47, 3) := by decide +kernel
theorem d_Coder_openSlice_85 : decode prog_6_method_8_code 85 = .ok (.return_, 1) := by decide +kernel
theorem d_Coder_easedAt_0 : decode prog_6_method_12_code 0 = .ok (.iconst 0, 1) := by decide +kernel
theorem d_Coder_easedAt_1 : decode prog_6_method_12_code 1 = .ok (.iload_n 2, 1) := by decide +kernel
theorem d_Coder_easedAt_2 : decode prog_6_method_12_code 2 = .ok (.aload_n 0, 1) := by decide +kernel
theorem d_Coder_easedAt_3 : decode prog_6_method_12_code 3 = .ok (.getfield 50, 3) := by decide +kernel
theorem d_Coder_easedAt_6 : decode prog_6_method_12_code 6 = .ok (.getfield 151, 3) := by decide +kernel
theorem d_Coder_easedAt_9 : decode prog_6_method_12_code 9 = .ok (.aload_n 0, 1) := by decide +kernel
theorem d_Coder_easedAt_10 : decode prog_6_method_12_code 10 = .ok (.getfield 54, 3) := by decide +kernel
theorem d_Coder_easedAt_13 : decode prog_6_method_12_code 13 = .ok (.getfield 154, 3) := by decide +kernel
theorem d_Coder_easedAt_16 : decode prog_6_method_12_code 16 = .ok (.iload_n 1, 1) := by decide +kernel
theorem d_Coder_easedAt_17 : decode prog_6_method_12_code 17 = .ok (.iaload, 1) := by decide +kernel
theorem d_Coder_easedAt_18 : decode prog_6_method_12_code 18 = .ok (.iaload, 1) := by decide +kernel
theorem d_Coder_easedAt_19 : decode prog_6_method_12_code 19 = .ok (.isub, 1) := by decide +kernel
theorem d_Coder_easedAt_20 : decode prog_6_method_12_code 20 = .ok (.invokestatic 157, 3) := by decide +kernel
theorem d_Coder_easedAt_23 : decode prog_6_method_12_code 23 = .ok (.ireturn, 1) := by decide +kernel
theorem d_Coder_predictionAt_0 : decode prog_6_method_14_code 0 = .ok (.aload_n 0, 1) := by decide +kernel
theorem d_Coder_predictionAt_1 : decode prog_6_method_14_code 1 = .ok (.getfield 50, 3) := by decide +kernel
theorem d_Coder_predictionAt_4 : decode prog_6_method_14_code 4 = .ok (.getfield 173, 3) := by decide +kernel
theorem d_Coder_predictionAt_7 : decode prog_6_method_14_code 7 = .ok (.ifCond .eq 15, 3) := by decide +kernel
theorem d_Coder_predictionAt_10 : decode prog_6_method_14_code 10 = .ok (.aload_n 0, 1) := by decide +kernel
theorem d_Coder_predictionAt_11 : decode prog_6_method_14_code 11 = .ok (.getfield 54, 3) := by decide +kernel
theorem d_Coder_predictionAt_14 : decode prog_6_method_14_code 14 = .ok (.getfield 154, 3) := by decide +kernel
theorem d_Coder_predictionAt_17 : decode prog_6_method_14_code 17 = .ok (.iload_n 1, 1) := by decide +kernel
theorem d_Coder_predictionAt_18 : decode prog_6_method_14_code 18 = .ok (.iaload, 1) := by decide +kernel
theorem d_Coder_predictionAt_19 : decode prog_6_method_14_code 19 = .ok (.ifCond .eq 5, 3) := by decide +kernel
theorem d_Coder_predictionAt_22 : decode prog_6_method_14_code 22 = .ok (.lconst 0, 1) := by decide +kernel
theorem d_Coder_predictionAt_23 : decode prog_6_method_14_code 23 = .ok (.lreturn, 1) := by decide +kernel
theorem d_Coder_predictionAt_24 : decode prog_6_method_14_code 24 = .ok (.aload_n 0, 1) := by decide +kernel
theorem d_Coder_predictionAt_25 : decode prog_6_method_14_code 25 = .ok (.getfield 54, 3) := by decide +kernel
theorem d_Coder_predictionAt_28 : decode prog_6_method_14_code 28 = .ok (.getfield 129, 3) := by decide +kernel
theorem d_Coder_predictionAt_31 : decode prog_6_method_14_code 31 = .ok (.iload_n 1, 1) := by decide +kernel
theorem d_Coder_predictionAt_32 : decode prog_6_method_14_code 32 = .ok (.iaload, 1) := by decide +kernel
theorem d_Coder_predictionAt_33 : decode prog_6_method_14_code 33 = .ok (.istore_n 3, 1) := by decide +kernel
theorem d_Coder_predictionAt_34 : decode prog_6_method_14_code 34 = .ok (.iload_n 3, 1) := by decide +kernel
theorem d_Coder_predictionAt_35 : decode prog_6_method_14_code 35 = .ok (.bipush 16, 2) := by decide +kernel
theorem d_Coder_predictionAt_37 : decode prog_6_method_14_code 37 = .ok (.irem, 1) := by decide +kernel
theorem d_Coder_predictionAt_38 : decode prog_6_method_14_code 38 = .ok (.ifCond .ne 7, 3) := by decide +kernel
theorem d_Coder_predictionAt_41 : decode prog_6_method_14_code 41 = .ok (.iconst 1, 1) := by decide +kernel
theorem d_Coder_predictionAt_42 : decode prog_6_method_14_code 42 = .ok (.goto 4, 3) := by decide +kernel
theorem d_Coder_predictionAt_45 : decode prog_6_method_14_code 45 = .ok (.iconst 0, 1) := by decide +kernel
theorem d_Coder_predictionAt_46 : decode prog_6_method_14_code 46 = .ok (.istore 4, 2) := by decide +kernel
theorem d_Coder_predictionAt_48 : decode prog_6_method_14_code 48 = .ok (.iload_n 3, 1) := by decide +kernel
theorem d_Coder_predictionAt_49 : decode prog_6_method_14_code 49 = .ok (.bipush 16, 2) := by decide +kernel
theorem d_Coder_predictionAt_51 : decode prog_6_method_14_code 51 = .ok (.if_icmp .ge 7, 3) := by decide +kernel
theorem d_Coder_predictionAt_54 : decode prog_6_method_14_code 54 = .ok (.iconst 1, 1) := by decide +kernel
theorem d_Coder_predictionAt_55 : decode prog_6_method_14_code 55 = .ok (.goto 4, 3) := by decide +kernel
theorem d_Coder_predictionAt_58 : decode prog_6_method_14_code 58 = .ok (.iconst 0, 1) := by decide +kernel
theorem d_Coder_predictionAt_59 : decode prog_6_method_14_code 59 = .ok (.istore 5, 2) := by decide +kernel
theorem d_Coder_predictionAt_61 : decode prog_6_method_14_code 61 = .ok (.iload 4, 2) := by decide +kernel
theorem d_Coder_predictionAt_63 : decode prog_6_method_14_code 63 = .ok (.ifCond .eq 19, 3) := by decide +kernel
theorem d_Coder_predictionAt_66 : decode prog_6_method_14_code 66 = .ok (.iload 5, 2) := by decide +kernel
theorem d_Coder_predictionAt_68 : decode prog_6_method_14_code 68 = .ok (.ifCond .eq 7, 3) := by decide +kernel
theorem d_Coder_predictionAt_71 : decode prog_6_method_14_code 71 = .ok (.lconst 0, 1) := by decide +kernel
theorem d_Coder_predictionAt_72 : decode prog_6_method_14_code 72 = .ok (.goto 9, 3) := by decide +kernel
theorem d_Coder_predictionAt_75 : decode prog_6_method_14_code 75 = .ok (.aload_n 2, 1) := by decide +kernel
theorem d_Coder_predictionAt_76 : decode prog_6_method_14_code 76 = .ok (.iload_n 3, 1) := by decide +kernel
theorem d_Coder_predictionAt_77 : decode prog_6_method_14_code 77 = .ok (.bipush 16, 2) := by decide +kernel
theorem d_Coder_predictionAt_79 : decode prog_6_method_14_code 79 = .ok (.isub, 1) := by decide +kernel
theorem d_Coder_predictionAt_80 : decode prog_6_method_14_code 80 = .ok (.laload, 1) := by decide +kernel
theorem d_Coder_predictionAt_81 : decode prog_6_method_14_code 81 = .ok (.lreturn, 1) := by decide +kernel
theorem d_Coder_predictionAt_82 : decode prog_6_method_14_code 82 = .ok (.iload 5, 2) := by decide +kernel
theorem d_Coder_predictionAt_84 : decode prog_6_method_14_code 84 = .ok (.ifCond .eq 9, 3) := by decide +kernel
theorem d_Coder_predictionAt_87 : decode prog_6_method_14_code 87 = .ok (.aload_n 2, 1) := by decide +kernel
theorem d_Coder_predictionAt_88 : decode prog_6_method_14_code 88 = .ok (.iload_n 3, 1) := by decide +kernel
theorem d_Coder_predictionAt_89 : decode prog_6_method_14_code 89 = .ok (.iconst 1, 1) := by decide +kernel
theorem d_Coder_predictionAt_90 : decode prog_6_method_14_code 90 = .ok (.isub, 1) := by decide +kernel
theorem d_Coder_predictionAt_91 : decode prog_6_method_14_code 91 = .ok (.laload, 1) := by decide +kernel
theorem d_Coder_predictionAt_92 : decode prog_6_method_14_code 92 = .ok (.lreturn, 1) := by decide +kernel
theorem d_Coder_predictionAt_93 : decode prog_6_method_14_code 93 = .ok (.aload_n 2, 1) := by decide +kernel
theorem d_Coder_predictionAt_94 : decode prog_6_method_14_code 94 = .ok (.iload_n 3, 1) := by decide +kernel
theorem d_Coder_predictionAt_95 : decode prog_6_method_14_code 95 = .ok (.iconst 1, 1) := by decide +kernel
theorem d_Coder_predictionAt_96 : decode prog_6_method_14_code 96 = .ok (.isub, 1) := by decide +kernel
theorem d_Coder_predictionAt_97 : decode prog_6_method_14_code 97 = .ok (.laload, 1) := by decide +kernel
theorem d_Coder_predictionAt_98 : decode prog_6_method_14_code 98 = .ok (.aload_n 2, 1) := by decide +kernel
theorem d_Coder_predictionAt_99 : decode prog_6_method_14_code 99 = .ok (.iload_n 3, 1) := by decide +kernel
theorem d_Coder_predictionAt_100 : decode prog_6_method_14_code 100 = .ok (.bipush 16, 2) := by decide +kernel
theorem d_Coder_predictionAt_102 : decode prog_6_method_14_code 102 = .ok (.isub, 1) := by decide +kernel
theorem d_Coder_predictionAt_103 : decode prog_6_method_14_code 103 = .ok (.laload, 1) := by decide +kernel
theorem d_Coder_predictionAt_104 : decode prog_6_method_14_code 104 = .ok (.ladd, 1) := by decide +kernel
theorem d_Coder_predictionAt_105 : decode prog_6_method_14_code 105 = .ok (.aload_n 2, 1) := by decide +kernel
theorem d_Coder_predictionAt_106 : decode prog_6_method_14_code 106 = .ok (.iload_n 3, 1) := by decide +kernel
theorem d_Coder_predictionAt_107 : decode prog_6_method_14_code 107 = .ok (.bipush 16, 2) := by decide +kernel
theorem d_Coder_predictionAt_109 : decode prog_6_method_14_code 109 = .ok (.isub, 1) := by decide +kernel
theorem d_Coder_predictionAt_110 : decode prog_6_method_14_code 110 = .ok (.iconst 1, 1) := by decide +kernel
theorem d_Coder_predictionAt_111 : decode prog_6_method_14_code 111 = .ok (.isub, 1) := by decide +kernel
theorem d_Coder_predictionAt_112 : decode prog_6_method_14_code 112 = .ok (.laload, 1) := by decide +kernel
theorem d_Coder_predictionAt_113 : decode prog_6_method_14_code 113 = .ok (.ladd, 1) := by decide +kernel
theorem d_Coder_predictionAt_114 : decode prog_6_method_14_code 114 = .ok (.lstore 6, 2) := by decide +kernel
theorem d_Coder_predictionAt_116 : decode prog_6_method_14_code 116 = .ok (.lload 6, 2) := by decide +kernel
theorem d_Coder_predictionAt_118 : decode prog_6_method_14_code 118 = .ok (.lconst 1, 1) := by decide +kernel
theorem d_Coder_predictionAt_119 : decode prog_6_method_14_code 119 = .ok (.ladd, 1) := by decide +kernel
theorem d_Coder_predictionAt_120 : decode prog_6_method_14_code 120 = .ok (.ldc2_w 177, 3) := by decide +kernel
theorem d_Coder_predictionAt_123 : decode prog_6_method_14_code 123 = .ok (.invokestatic 179, 3) := by decide +kernel
theorem d_Coder_predictionAt_126 : decode prog_6_method_14_code 126 = .ok (.lreturn, 1) := by decide +kernel
theorem d_Coder_rebuildAt_0 : decode prog_6_method_13_code 0 = .ok (.lload_n 3, 1) := by decide +kernel
theorem d_Coder_rebuildAt_1 : decode prog_6_method_13_code 1 = .ok (.aload_n 0, 1) := by decide +kernel
theorem d_Coder_rebuildAt_2 : decode prog_6_method_13_code 2 = .ok (.getfield 18, 3) := by decide +kernel
theorem d_Coder_rebuildAt_5 : decode prog_6_method_13_code 5 = .ok (.aload_n 0, 1) := by decide +kernel
theorem d_Coder_rebuildAt_6 : decode prog_6_method_13_code 6 = .ok (.getfield 31, 3) := by decide +kernel
theorem d_Coder_rebuildAt_9 : decode prog_6_method_13_code 9 = .ok (.iload_n 1, 1) := by decide +kernel
theorem d_Coder_rebuildAt_10 : decode prog_6_method_13_code 10 = .ok (.iaload, 1) := by decide +kernel
theorem d_Coder_rebuildAt_11 : decode prog_6_method_13_code 11 = .ok (.aload_n 0, 1) := by decide +kernel
theorem d_Coder_rebuildAt_12 : decode prog_6_method_13_code 12 = .ok (.iload_n 1, 1) := by decide +kernel
theorem d_Coder_rebuildAt_13 : decode prog_6_method_13_code 13 = .ok (.iload_n 2, 1) := by decide +kernel
theorem d_Coder_rebuildAt_14 : decode prog_6_method_13_code 14 = .ok (.invokevirtual 132, 3) := by decide +kernel
theorem d_Coder_rebuildAt_17 : decode prog_6_method_13_code 17 = .ok (.invokevirtual 160, 3) := by decide +kernel
theorem d_Coder_rebuildAt_20 : decode prog_6_method_13_code 20 = .ok (.ladd, 1) := by decide +kernel
theorem d_Coder_rebuildAt_21 : decode prog_6_method_13_code 21 = .ok (.lstore 6, 2) := by decide +kernel
theorem d_Coder_rebuildAt_23 : decode prog_6_method_13_code 23 = .ok (.aload 5, 2) := by decide +kernel
theorem d_Coder_rebuildAt_25 : decode prog_6_method_13_code 25 = .ok (.aload_n 0, 1) := by decide +kernel
theorem d_Coder_rebuildAt_26 : decode prog_6_method_13_code 26 = .ok (.getfield 54, 3) := by decide +kernel
theorem d_Coder_rebuildAt_29 : decode prog_6_method_13_code 29 = .ok (.getfield 129, 3) := by decide +kernel
theorem d_Coder_rebuildAt_32 : decode prog_6_method_13_code 32 = .ok (.iload_n 1, 1) := by decide +kernel
theorem d_Coder_rebuildAt_33 : decode prog_6_method_13_code 33 = .ok (.iaload, 1) := by decide +kernel
theorem d_Coder_rebuildAt_34 : decode prog_6_method_13_code 34 = .ok (.ldc2_w 164, 3) := by decide +kernel
theorem d_Coder_rebuildAt_37 : decode prog_6_method_13_code 37 = .ok (.ldc2_w 166, 3) := by decide +kernel
theorem d_Coder_rebuildAt_40 : decode prog_6_method_13_code 40 = .ok (.lload 6, 2) := by decide +kernel
theorem d_Coder_rebuildAt_42 : decode prog_6_method_13_code 42 = .ok (.invokestatic 168, 3) := by decide +kernel
theorem d_Coder_rebuildAt_45 : decode prog_6_method_13_code 45 = .ok (.invokestatic 171, 3) := by decide +kernel
theorem d_Coder_rebuildAt_48 : decode prog_6_method_13_code 48 = .ok (.lastore, 1) := by decide +kernel
theorem d_Coder_rebuildAt_49 : decode prog_6_method_13_code 49 = .ok (.return_, 1) := by decide +kernel
abbrev w_Jmath_floorDiv : List Cond := Cond.code y_Jmath_floorDiv prog_11_method_49_code 6 (some .long) :: wl
abbrev r_Jmath_floorDiv : Room := { frames := 0, cells := 0, slots := 0, locals := 0 }
set_option maxHeartbeats 4000000 in
set_option maxRecDepth 100000 in
theorem c_Jmath_floorDiv (l : Launch) (G : k_G) (sz : Nat) (x0 y0 : Int64) (hy0 : ¬ y0 = 0) : Met l y_Jmath_floorDiv w_Jmath_floorDiv r_Jmath_floorDiv (k_P G [.long (x0), .long (y0)] [] sz) (vp_Sl (fun r : Int64 => r = fdv x0 y0)) 0 0 (fun _ => False) := by
  refine k_metF (fun _ => vp_Sl (fun r : Int64 => r = fdv x0 y0)) (fun _ _ => False) (by decide +kernel) rfl (Nat.le_of_ble_eq_true rfl) (fun p e s m args below meth c ls A Q S hr hlk hnm hl hsz hP hK hD hS hA hT hQ => ?_)
  obtain ⟨hx, hb, hml, hown, hts⟩ := id S
  have hw : ∀ w ∈ wl, w.before args s = true := fun w h => hts w (List.mem_cons_of_mem _ h)
  have hl : lv_has ls 6 [(0, .long (x0)), (2, .long (y0))] := hl
  refine lv_lload_n hx hb d_Jmath_floorDiv_0 rfl (lv_at hl 0 rfl) ?_
  refine lv_lload_n hx hb d_Jmath_floorDiv_1 rfl (lv_at hl 1 rfl) ?_
  refine lv_ldiv hx hb d_Jmath_floorDiv_2 hy0 ?_
  refine lv_lstore hx hb d_Jmath_floorDiv_3 hl (by decide) rfl (fun ls hl => ?_)
  have hl : lv_has ls 6 [(4, .long (x0 / y0)), (0, .long (x0)), (2, .long (y0))] := hl
  refine lv_lload_n hx hb d_Jmath_floorDiv_5 rfl (lv_at hl 1 rfl) ?_
  refine lv_lload_n hx hb d_Jmath_floorDiv_6 rfl (lv_at hl 2 rfl) ?_
  refine lv_lxor hx hb d_Jmath_floorDiv_7 ?_
  refine lv_lconst (v := 0) hx hb d_Jmath_floorDiv_8 rfl ?_
  refine k_lge (tgt := 27) hx hb d_Jmath_floorDiv_9 d_Jmath_floorDiv_10 (by decide) (fun hc9 => ?_) (fun hc9 => ?_)
  · refine lv_lload hx hb d_Jmath_floorDiv_27 (lv_at hl 0 rfl) ?_
    exact k_lretR hx hb hr hlk hQ (by unfold fdv; first | rw [if_pos hc9] | rw [if_neg hc9, if_pos hc18] | rw [if_neg hc9, if_neg hc18]) d_Jmath_floorDiv_29
  · refine lv_lload hx hb d_Jmath_floorDiv_13 (lv_at hl 0 rfl) ?_
    refine lv_lload_n hx hb d_Jmath_floorDiv_15 rfl (lv_at hl 2 rfl) ?_
    refine lv_lmul hx hb d_Jmath_floorDiv_16 ?_
    refine lv_lload_n hx hb d_Jmath_floorDiv_17 rfl (lv_at hl 1 rfl) ?_
    refine k_leq (tgt := 27) hx hb d_Jmath_floorDiv_18 d_Jmath_floorDiv_19 (by decide) (fun hc18 => ?_) (fun hc18 => ?_)
    · refine lv_lload hx hb d_Jmath_floorDiv_27 (lv_at hl 0 rfl) ?_
      exact k_lretR hx hb hr hlk hQ (by unfold fdv; first | rw [if_pos hc9] | rw [if_neg hc9, if_pos hc18] | rw [if_neg hc9, if_neg hc18]) d_Jmath_floorDiv_29
    · refine lv_lload hx hb d_Jmath_floorDiv_22 (lv_at hl 0 rfl) ?_
      refine lv_lconst (v := 1) hx hb d_Jmath_floorDiv_24 rfl ?_
      refine lv_lsub hx hb d_Jmath_floorDiv_25 ?_
      exact k_lretR hx hb hr hlk hQ (by unfold fdv; first | rw [if_pos hc9] | rw [if_neg hc9, if_pos hc18] | rw [if_neg hc9, if_neg hc18]) d_Jmath_floorDiv_26
abbrev w_Coder_openSlice : List Cond := Cond.code y_Coder_openSlice prog_6_method_8_code 3 none :: wl
abbrev r_Coder_openSlice : Room := { frames := 1, cells := 0, slots := 0, locals := 21 }
set_option maxHeartbeats 4000000 in
set_option maxRecDepth 100000 in
theorem c_Coder_openSlice (l : Launch) (G : k_G) (sz : Nat) (rC rst rS rL rQ rB rN rE rl rt rw rh rf rp rb : Nat) (s0 fr tt fb ld ro kd db ew ac dn pr nu de cP cQ nb : Int) (gf : Int → Int) (hok : okR nu de) (hs0 : 0 ≤ s0 ∧ s0 < 16) : Met l y_Coder_openSlice w_Coder_openSlice r_Coder_openSlice (k_P G [.ref rC, .int (iv (s0))] [(rC, .inr (4, [.ref rst, .ref rS, .ref rL, .ref rQ, .ref rB, .ref rN, .int (iv (fr)), .int (iv (tt)), .int (iv (fb)), .int (iv (ld)), .int (iv (ro))])), (rS, .inr (3, [.int (iv (kd)), .int (iv (db)), .int (iv (ew)), .int (iv (ac)), .int (iv (dn)), .int (iv (pr)), .ref rE, .int (iv (nu)), .int (iv (de))])), (rL, .inr (1, [.int (iv (cP)), .int (iv (cQ)), .int (iv (nb)), .ref rl, .ref rt, .ref rw, .ref rh, .ref rf, .ref rp, .ref rb])), (rf, ai (gI G) 17 (gf))] sz) (qv G (fun u : Int × Int × Int × Int × Int => u = (gf s0, gf (s0 + 1), 8 * sBy nu de s0, ldI nu de s0, rmI nu de s0)) (fun u : Int × Int × Int × Int × Int => [(rC, .inr (4, [.ref rst, .ref rS, .ref rL, .ref rQ, .ref rB, .ref rN, .int (iv (u.1)), .int (iv (u.2.1)), .int (iv (u.2.2.1)), .int (iv (u.2.2.2.1)), .int (iv (u.2.2.2.2))])), (rS, .inr (3, [.int (iv (kd)), .int (iv (db)), .int (iv (ew)), .int (iv (ac)), .int (iv (dn)), .int (iv (pr)), .ref rE, .int (iv (nu)), .int (iv (de))])), (rL, .inr (1, [.int (iv (cP)), .int (iv (cQ)), .int (iv (nb)), .ref rl, .ref rt, .ref rw, .ref rh, .ref rf, .ref rp, .ref rb])), (rf, ai (gI G) 17 (gf))]) (va_A [(rC, .inr (4, [.ref rst, .ref rS, .ref rL, .ref rQ, .ref rB, .ref rN, .int (iv (fr)), .int (iv (tt)), .int (iv (fb)), .int (iv (ld)), .int (iv (ro))])), (rS, .inr (3, [.int (iv (kd)), .int (iv (db)), .int (iv (ew)), .int (iv (ac)), .int (iv (dn)), .int (iv (pr)), .ref rE, .int (iv (nu)), .int (iv (de))])), (rL, .inr (1, [.int (iv (cP)), .int (iv (cQ)), .int (iv (nb)), .ref rl, .ref rt, .ref rw, .ref rh, .ref rf, .ref rp, .ref rb])), (rf, ai (gI G) 17 (gf))] sz)) 0 0 (va_A [(rC, .inr (4, [.ref rst, .ref rS, .ref rL, .ref rQ, .ref rB, .ref rN, .int (iv (fr)), .int (iv (tt)), .int (iv (fb)), .int (iv (ld)), .int (iv (ro))])), (rS, .inr (3, [.int (iv (kd)), .int (iv (db)), .int (iv (ew)), .int (iv (ac)), .int (iv (dn)), .int (iv (pr)), .ref rE, .int (iv (nu)), .int (iv (de))])), (rL, .inr (1, [.int (iv (cP)), .int (iv (cQ)), .int (iv (nb)), .ref rl, .ref rt, .ref rw, .ref rh, .ref rf, .ref rp, .ref rb])), (rf, ai (gI G) 17 (gf))] sz) := by
  refine k_met (fun A => qv G (fun u : Int × Int × Int × Int × Int => u = (gf s0, gf (s0 + 1), 8 * sBy nu de s0, ldI nu de s0, rmI nu de s0)) (fun u : Int × Int × Int × Int × Int => [(rC, .inr (4, [.ref rst, .ref rS, .ref rL, .ref rQ, .ref rB, .ref rN, .int (iv (u.1)), .int (iv (u.2.1)), .int (iv (u.2.2.1)), .int (iv (u.2.2.2.1)), .int (iv (u.2.2.2.2))])), (rS, .inr (3, [.int (iv (kd)), .int (iv (db)), .int (iv (ew)), .int (iv (ac)), .int (iv (dn)), .int (iv (pr)), .ref rE, .int (iv (nu)), .int (iv (de))])), (rL, .inr (1, [.int (iv (cP)), .int (iv (cQ)), .int (iv (nb)), .ref rl, .ref rt, .ref rw, .ref rh, .ref rf, .ref rp, .ref rb])), (rf, ai (gI G) 17 (gf))]) A) (fun A => A) (by decide) rfl (Nat.le_of_ble_eq_true rfl) (fun p e s m args below meth c ls A Q S hr hlk hnm hl hsz hP hK hD hS hA hT hQ => ?_)
  obtain ⟨hx, hb, hml, hown, hts⟩ := id S
  have hw : ∀ w ∈ wl, w.before args s = true := fun w h => hts w (List.mem_cons_of_mem _ h)
  have hl : lv_has ls 3 [(0, .ref rC), (1, .int (iv (s0)))] := hl
  have q1 := sBy_r hok (s := s0) (by omega)
  have q2 := sBy_r hok (s := s0 + 1) (by omega)
  have q3 := aft_r hok (s := s0)
  have q4 := hok.1
  have q5 := hok.2.1
  have q6 : 8 * ((s0 + 1) * nu / de) - 8 * (s0 * nu / de) - 5 = aft nu de s0 := rfl
  refine lv_aload_n hx hb d_Coder_openSlice_0 rfl (lv_at hl 0 rfl) ?_
  refine lv_aload_n hx hb d_Coder_openSlice_1 rfl (lv_at hl 0 rfl) ?_
  refine va_get (D := gD G) (ci := 4) (v := .ref rL) (C := R_Coder) (T := F_Coder) (N := 11) hx hb hw in_Coder hown hK hP 0 rfl rfl 2 (by decide) (hw _ m1_179) (fun _ h => h) rfl d_Coder_openSlice_2 ?_
  refine va_get (D := gD G) (ci := 1) (v := .ref rf) (C := R_Layout) (T := F_Layout) (N := 10) hx hb hw in_Layout hown hK hP 2 rfl rfl 7 (by decide) (hw _ m1_90) (fun _ h => h) rfl d_Coder_openSlice_5 ?_
  refine lv_iload_n hx hb d_Coder_openSlice_8 rfl (lv_at hl 1 rfl) ?_
  refine k_ial hx hb hK hP 3 0 rfl rfl (by decide) (by omega) d_Coder_openSlice_9 ?_
  refine va_put (D := gD G) (ci := 4) (v := .int (iv (gf s0))) (ty := .int) (C := R_Coder) (T := F_Coder) (N := 11) hx hb hw in_Coder t_Coder t_Coder_ok n_Coder hown hK hP hD hS 0 rfl rfl 6 (by decide) (hw _ m1_183) (fun _ h => h) rfl (by decide +kernel) rfl rfl (Nat.le_of_ble_eq_true rfl) d_Coder_openSlice_10 (fun H locs hP hD hS => ?_)
  have hP : va_P (gD G) classes [(rC, .inr (4, [.ref rst, .ref rS, .ref rL, .ref rQ, .ref rB, .ref rN, .int (iv (gf s0)), .int (iv (tt)), .int (iv (fb)), .int (iv (ld)), .int (iv (ro))])), (rS, .inr (3, [.int (iv (kd)), .int (iv (db)), .int (iv (ew)), .int (iv (ac)), .int (iv (dn)), .int (iv (pr)), .ref rE, .int (iv (nu)), .int (iv (de))])), (rL, .inr (1, [.int (iv (cP)), .int (iv (cQ)), .int (iv (nb)), .ref rl, .ref rt, .ref rw, .ref rh, .ref rf, .ref rp, .ref rb])), (rf, ai (gI G) 17 (gf))] H := hP
  have hD : va_D A [(rC, .inr (4, [.ref rst, .ref rS, .ref rL, .ref rQ, .ref rB, .ref rN, .int (iv (gf s0)), .int (iv (tt)), .int (iv (fb)), .int (iv (ld)), .int (iv (ro))])), (rS, .inr (3, [.int (iv (kd)), .int (iv (db)), .int (iv (ew)), .int (iv (ac)), .int (iv (dn)), .int (iv (pr)), .ref rE, .int (iv (nu)), .int (iv (de))])), (rL, .inr (1, [.int (iv (cP)), .int (iv (cQ)), .int (iv (nb)), .ref rl, .ref rt, .ref rw, .ref rh, .ref rf, .ref rp, .ref rb])), (rf, ai (gI G) 17 (gf))] := hD
  refine lv_aload_n hx hb d_Coder_openSlice_13 rfl (lv_at hl 0 rfl) ?_
  refine lv_aload_n hx hb d_Coder_openSlice_14 rfl (lv_at hl 0 rfl) ?_
  refine va_get (D := gD G) (ci := 4) (v := .ref rL) (C := R_Coder) (T := F_Coder) (N := 11) hx hb hw in_Coder hown hK hP 0 rfl rfl 2 (by decide) (hw _ m1_179) (fun _ h => h) rfl d_Coder_openSlice_15 ?_
  refine va_get (D := gD G) (ci := 1) (v := .ref rf) (C := R_Layout) (T := F_Layout) (N := 10) hx hb hw in_Layout hown hK hP 2 rfl rfl 7 (by decide) (hw _ m1_90) (fun _ h => h) rfl d_Coder_openSlice_18 ?_
  refine lv_iload_n hx hb d_Coder_openSlice_21 rfl (lv_at hl 1 rfl) ?_
  refine lv_iconst (v := iv (1)) hx hb d_Coder_openSlice_22 rfl ?_
  refine k_iadd hx hb d_Coder_openSlice_23 ?_
  refine k_ial hx hb hK hP 3 0 rfl rfl (by decide) (by omega) d_Coder_openSlice_24 ?_
  refine va_put (D := gD G) (ci := 4) (v := .int (iv (gf (s0 + 1)))) (ty := .int) (C := R_Coder) (T := F_Coder) (N := 11) hx hb hw in_Coder t_Coder t_Coder_ok n_Coder hown hK hP hD hS 0 rfl rfl 7 (by decide) (hw _ m1_184) (fun _ h => h) rfl (by decide +kernel) rfl rfl (Nat.le_of_ble_eq_true rfl) d_Coder_openSlice_25 (fun H locs hP hD hS => ?_)
  have hP : va_P (gD G) classes [(rC, .inr (4, [.ref rst, .ref rS, .ref rL, .ref rQ, .ref rB, .ref rN, .int (iv (gf s0)), .int (iv (gf (s0 + 1))), .int (iv (fb)), .int (iv (ld)), .int (iv (ro))])), (rS, .inr (3, [.int (iv (kd)), .int (iv (db)), .int (iv (ew)), .int (iv (ac)), .int (iv (dn)), .int (iv (pr)), .ref rE, .int (iv (nu)), .int (iv (de))])), (rL, .inr (1, [.int (iv (cP)), .int (iv (cQ)), .int (iv (nb)), .ref rl, .ref rt, .ref rw, .ref rh, .ref rf, .ref rp, .ref rb])), (rf, ai (gI G) 17 (gf))] H := hP
  have hD : va_D A [(rC, .inr (4, [.ref rst, .ref rS, .ref rL, .ref rQ, .ref rB, .ref rN, .int (iv (gf s0)), .int (iv (gf (s0 + 1))), .int (iv (fb)), .int (iv (ld)), .int (iv (ro))])), (rS, .inr (3, [.int (iv (kd)), .int (iv (db)), .int (iv (ew)), .int (iv (ac)), .int (iv (dn)), .int (iv (pr)), .ref rE, .int (iv (nu)), .int (iv (de))])), (rL, .inr (1, [.int (iv (cP)), .int (iv (cQ)), .int (iv (nb)), .ref rl, .ref rt, .ref rw, .ref rh, .ref rf, .ref rp, .ref rb])), (rf, ai (gI G) 17 (gf))] := hD
  refine lv_aload_n hx hb d_Coder_openSlice_28 rfl (lv_at hl 0 rfl) ?_
  refine lv_bipush (v := iv (8)) hx hb d_Coder_openSlice_29 rfl ?_
  refine lv_aload_n hx hb d_Coder_openSlice_31 rfl (lv_at hl 0 rfl) ?_
  refine va_get (D := gD G) (ci := 4) (v := .ref rS) (C := R_Coder) (T := F_Coder) (N := 11) hx hb hw in_Coder hown hK hP 0 rfl rfl 1 (by decide) (hw _ m1_178) (fun _ h => h) rfl d_Coder_openSlice_32 ?_
  refine lv_iload_n hx hb d_Coder_openSlice_35 rfl (lv_at hl 1 rfl) ?_
  refine k_ciR (k_rv S (c_Setup_firstByte l G _ rS rE s0 kd db ew ac dn pr nu de (by omega) (by omega)) 1 m2_168 m2_165 m2_166 m2_167 m1_2 (by decide +kernel) (by decide) rfl rfl (k_preV (q0 := 1) hK hP hD hS hA hT rfl rfl [1] (by decide) rfl) rfl hl.1 rfl (Nat.le_of_ble_eq_true rfl) d_Coder_openSlice_36 ⟨Nat.le_of_ble_eq_true rfl, Nat.le_of_ble_eq_true rfl⟩) (fun r36 h36 => ?_)
  subst h36
  refine k_imul hx hb d_Coder_openSlice_39 ?_
  refine va_put (D := gD G) (ci := 4) (v := .int (iv (8 * (s0 * nu / de)))) (ty := .int) (C := R_Coder) (T := F_Coder) (N := 11) hx hb hw in_Coder t_Coder t_Coder_ok n_Coder hown hK hP hD hS 0 rfl rfl 8 (by decide) (hw _ m1_185) (fun _ h => h) rfl (by decide +kernel) rfl rfl (Nat.le_of_ble_eq_true rfl) d_Coder_openSlice_40 (fun H locs hP hD hS => ?_)
  have hP : va_P (gD G) classes [(rC, .inr (4, [.ref rst, .ref rS, .ref rL, .ref rQ, .ref rB, .ref rN, .int (iv (gf s0)), .int (iv (gf (s0 + 1))), .int (iv (8 * (s0 * nu / de))), .int (iv (ld)), .int (iv (ro))])), (rS, .inr (3, [.int (iv (kd)), .int (iv (db)), .int (iv (ew)), .int (iv (ac)), .int (iv (dn)), .int (iv (pr)), .ref rE, .int (iv (nu)), .int (iv (de))])), (rL, .inr (1, [.int (iv (cP)), .int (iv (cQ)), .int (iv (nb)), .ref rl, .ref rt, .ref rw, .ref rh, .ref rf, .ref rp, .ref rb])), (rf, ai (gI G) 17 (gf))] H := hP
  have hD : va_D A [(rC, .inr (4, [.ref rst, .ref rS, .ref rL, .ref rQ, .ref rB, .ref rN, .int (iv (gf s0)), .int (iv (gf (s0 + 1))), .int (iv (8 * (s0 * nu / de))), .int (iv (ld)), .int (iv (ro))])), (rS, .inr (3, [.int (iv (kd)), .int (iv (db)), .int (iv (ew)), .int (iv (ac)), .int (iv (dn)), .int (iv (pr)), .ref rE, .int (iv (nu)), .int (iv (de))])), (rL, .inr (1, [.int (iv (cP)), .int (iv (cQ)), .int (iv (nb)), .ref rl, .ref rt, .ref rw, .ref rh, .ref rf, .ref rp, .ref rb])), (rf, ai (gI G) 17 (gf))] := hD
  refine lv_bipush (v := iv (8)) hx hb d_Coder_openSlice_43 rfl ?_
  refine lv_aload_n hx hb d_Coder_openSlice_45 rfl (lv_at hl 0 rfl) ?_
  refine va_get (D := gD G) (ci := 4) (v := .ref rS) (C := R_Coder) (T := F_Coder) (N := 11) hx hb hw in_Coder hown hK hP 0 rfl rfl 1 (by decide) (hw _ m1_178) (fun _ h => h) rfl d_Coder_openSlice_46 ?_
  refine lv_iload_n hx hb d_Coder_openSlice_49 rfl (lv_at hl 1 rfl) ?_
  refine lv_iconst (v := iv (1)) hx hb d_Coder_openSlice_50 rfl ?_
  refine k_iadd hx hb d_Coder_openSlice_51 ?_
  refine k_ciR (k_rv S (c_Setup_firstByte l G _ rS rE (s0 + 1) kd db ew ac dn pr nu de (by omega) (by omega)) 1 m2_168 m2_165 m2_166 m2_167 m1_2 (by decide +kernel) (by decide) rfl rfl (k_preV (q0 := 1) hK hP hD hS hA hT rfl rfl [1] (by decide) rfl) rfl hl.1 rfl (Nat.le_of_ble_eq_true rfl) d_Coder_openSlice_52 ⟨Nat.le_of_ble_eq_true rfl, Nat.le_of_ble_eq_true rfl⟩) (fun r52 h52 => ?_)
  subst h52
  refine k_imul hx hb d_Coder_openSlice_55 ?_
  refine lv_aload_n hx hb d_Coder_openSlice_56 rfl (lv_at hl 0 rfl) ?_
  refine va_get (D := gD G) (ci := 4) (v := .int (iv (8 * (s0 * nu / de)))) (C := R_Coder) (T := F_Coder) (N := 11) hx hb hw in_Coder hown hK hP 0 rfl rfl 8 (by decide) (hw _ m1_185) (fun _ h => h) rfl d_Coder_openSlice_57 ?_
  refine k_isub hx hb d_Coder_openSlice_60 ?_
  refine lv_iconst (v := iv (5)) hx hb d_Coder_openSlice_61 rfl ?_
  refine k_isub hx hb d_Coder_openSlice_62 ?_
  refine k_eqi (b := aft nu de s0) q6 ?_
  refine lv_istore_n hx hb d_Coder_openSlice_63 rfl hl (by decide) rfl (fun ls hl => ?_)
  have hl : lv_has ls 3 [(2, .int (iv (aft nu de s0))), (0, .ref rC), (1, .int (iv (s0)))] := hl
  refine lv_aload_n hx hb d_Coder_openSlice_64 rfl (lv_at hl 1 rfl) ?_
  refine lv_bipush (v := iv (32)) hx hb d_Coder_openSlice_65 rfl ?_
  refine lv_iload_n hx hb d_Coder_openSlice_67 rfl (lv_at hl 0 rfl) ?_
  refine k_ciR (k_rs S (c_Jint_numberOfLeadingZeros l G _ (aft nu de s0) (by omega)) 1 m2_171 m2_169 m2_170 m1_11 (by decide +kernel) (by decide) rfl rfl (k_preS hK hP hD hS hA hT [] (by decide) rfl) rfl hl.1 rfl (Nat.le_of_ble_eq_true rfl) d_Coder_openSlice_68 ⟨Nat.le_of_ble_eq_true rfl, Nat.le_of_ble_eq_true rfl⟩) (fun r68 h68 => ?_)
  subst h68
  refine k_isub hx hb d_Coder_openSlice_71 ?_
  refine k_eqi (b := ldI nu de s0) (by unfold ldI; omega) ?_
  refine va_put (D := gD G) (ci := 4) (v := .int (iv (ldI nu de s0))) (ty := .int) (C := R_Coder) (T := F_Coder) (N := 11) hx hb hw in_Coder t_Coder t_Coder_ok n_Coder hown hK hP hD hS 0 rfl rfl 9 (by decide) (hw _ m1_186) (fun _ h => h) rfl (by decide +kernel) rfl rfl (Nat.le_of_ble_eq_true rfl) d_Coder_openSlice_72 (fun H locs hP hD hS => ?_)
  have hP : va_P (gD G) classes [(rC, .inr (4, [.ref rst, .ref rS, .ref rL, .ref rQ, .ref rB, .ref rN, .int (iv (gf s0)), .int (iv (gf (s0 + 1))), .int (iv (8 * (s0 * nu / de))), .int (iv (ldI nu de s0)), .int (iv (ro))])), (rS, .inr (3, [.int (iv (kd)), .int (iv (db)), .int (iv (ew)), .int (iv (ac)), .int (iv (dn)), .int (iv (pr)), .ref rE, .int (iv (nu)), .int (iv (de))])), (rL, .inr (1, [.int (iv (cP)), .int (iv (cQ)), .int (iv (nb)), .ref rl, .ref rt, .ref rw, .ref rh, .ref rf, .ref rp, .ref rb])), (rf, ai (gI G) 17 (gf))] H := hP
  have hD : va_D A [(rC, .inr (4, [.ref rst, .ref rS, .ref rL, .ref rQ, .ref rB, .ref rN, .int (iv (gf s0)), .int (iv (gf (s0 + 1))), .int (iv (8 * (s0 * nu / de))), .int (iv (ldI nu de s0)), .int (iv (ro))])), (rS, .inr (3, [.int (iv (kd)), .int (iv (db)), .int (iv (ew)), .int (iv (ac)), .int (iv (dn)), .int (iv (pr)), .ref rE, .int (iv (nu)), .int (iv (de))])), (rL, .inr (1, [.int (iv (cP)), .int (iv (cQ)), .int (iv (nb)), .ref rl, .ref rt, .ref rw, .ref rh, .ref rf, .ref rp, .ref rb])), (rf, ai (gI G) 17 (gf))] := hD
  refine lv_aload_n hx hb d_Coder_openSlice_75 rfl (lv_at hl 1 rfl) ?_
  refine lv_iload_n hx hb d_Coder_openSlice_76 rfl (lv_at hl 0 rfl) ?_
  refine lv_aload_n hx hb d_Coder_openSlice_77 rfl (lv_at hl 1 rfl) ?_
  refine va_get (D := gD G) (ci := 4) (v := .int (iv (ldI nu de s0))) (C := R_Coder) (T := F_Coder) (N := 11) hx hb hw in_Coder hown hK hP 0 rfl rfl 9 (by decide) (hw _ m1_186) (fun _ h => h) rfl d_Coder_openSlice_78 ?_
  refine k_isub hx hb d_Coder_openSlice_81 ?_
  refine va_put (D := gD G) (ci := 4) (v := .int (iv ((aft nu de s0) - (ldI nu de s0)))) (ty := .int) (C := R_Coder) (T := F_Coder) (N := 11) hx hb hw in_Coder t_Coder t_Coder_ok n_Coder hown hK hP hD hS 0 rfl rfl 10 (by decide) (hw _ m1_187) (fun _ h => h) rfl (by decide +kernel) rfl rfl (Nat.le_of_ble_eq_true rfl) d_Coder_openSlice_82 (fun H locs hP hD hS => ?_)
  have hP : va_P (gD G) classes [(rC, .inr (4, [.ref rst, .ref rS, .ref rL, .ref rQ, .ref rB, .ref rN, .int (iv (gf s0)), .int (iv (gf (s0 + 1))), .int (iv (8 * (s0 * nu / de))), .int (iv (ldI nu de s0)), .int (iv ((aft nu de s0) - (ldI nu de s0)))])), (rS, .inr (3, [.int (iv (kd)), .int (iv (db)), .int (iv (ew)), .int (iv (ac)), .int (iv (dn)), .int (iv (pr)), .ref rE, .int (iv (nu)), .int (iv (de))])), (rL, .inr (1, [.int (iv (cP)), .int (iv (cQ)), .int (iv (nb)), .ref rl, .ref rt, .ref rw, .ref rh, .ref rf, .ref rp, .ref rb])), (rf, ai (gI G) 17 (gf))] H := hP
  have hD : va_D A [(rC, .inr (4, [.ref rst, .ref rS, .ref rL, .ref rQ, .ref rB, .ref rN, .int (iv (gf s0)), .int (iv (gf (s0 + 1))), .int (iv (8 * (s0 * nu / de))), .int (iv (ldI nu de s0)), .int (iv ((aft nu de s0) - (ldI nu de s0)))])), (rS, .inr (3, [.int (iv (kd)), .int (iv (db)), .int (iv (ew)), .int (iv (ac)), .int (iv (dn)), .int (iv (pr)), .ref rE, .int (iv (nu)), .int (iv (de))])), (rL, .inr (1, [.int (iv (cP)), .int (iv (cQ)), .int (iv (nb)), .ref rl, .ref rt, .ref rw, .ref rh, .ref rf, .ref rp, .ref rb])), (rf, ai (gI G) 17 (gf))] := hD
  exact k_vret hx hb hr hlk hQ ((gf s0, gf (s0 + 1), 8 * (s0 * nu / de), ldI nu de s0, (aft nu de s0) - (ldI nu de s0))) (rfl) hP hD hS d_Coder_openSlice_85
abbrev w_Coder_easedAt : List Cond := Cond.code y_Coder_easedAt prog_6_method_12_code 3 (some .int) :: wl
abbrev r_Coder_easedAt : Room := { frames := 1, cells := 0, slots := 0, locals := 24 }
set_option maxHeartbeats 4000000 in
set_option maxRecDepth 100000 in
theorem c_Coder_easedAt (l : Launch) (G : k_G) (sz : Nat) (rC rst rS rL rQ rB rN rE rl rt rw rh rf rp rb : Nat) (i0 q0 fr tt fb ld ro kd db ew ac dn pr nu de cP cQ nb : Int) (es gb : Int → Int) (hi0 : 0 ≤ i0 ∧ i0 < 256) (hq0 : 0 ≤ q0 ∧ q0 ≤ 31) (hgb : 0 ≤ gb i0 ∧ gb i0 < 8) (hes : 0 ≤ es (gb i0) ∧ es (gb i0) ≤ 15) : Met l y_Coder_easedAt w_Coder_easedAt r_Coder_easedAt (k_P G [.ref rC, .int (iv (i0)), .int (iv (q0))] [(rC, .inr (4, [.ref rst, .ref rS, .ref rL, .ref rQ, .ref rB, .ref rN, .int (iv (fr)), .int (iv (tt)), .int (iv (fb)), .int (iv (ld)), .int (iv (ro))])), (rS, .inr (3, [.int (iv (kd)), .int (iv (db)), .int (iv (ew)), .int (iv (ac)), .int (iv (dn)), .int (iv (pr)), .ref rE, .int (iv (nu)), .int (iv (de))])), (rL, .inr (1, [.int (iv (cP)), .int (iv (cQ)), .int (iv (nb)), .ref rl, .ref rt, .ref rw, .ref rh, .ref rf, .ref rp, .ref rb])), (rE, ai (gI G) 8 (es)), (rb, ai (gI G) 256 (gb))] sz) (vp_Si (fun r : Int32 => r = iv (max 0 (q0 - es (gb i0))))) 0 0 (fun _ => False) := by
  refine k_met (fun _ => vp_Si (fun r : Int32 => r = iv (max 0 (q0 - es (gb i0))))) (fun _ _ => False) (by decide) rfl (Nat.le_of_ble_eq_true rfl) (fun p e s m args below meth c ls A Q S hr hlk hnm hl hsz hP hK hD hS hA hT hQ => ?_)
  obtain ⟨hx, hb, hml, hown, hts⟩ := id S
  have hw : ∀ w ∈ wl, w.before args s = true := fun w h => hts w (List.mem_cons_of_mem _ h)
  have hl : lv_has ls 3 [(0, .ref rC), (1, .int (iv (i0))), (2, .int (iv (q0)))] := hl
  refine lv_iconst (v := iv (0)) hx hb d_Coder_easedAt_0 rfl ?_
  refine lv_iload_n hx hb d_Coder_easedAt_1 rfl (lv_at hl 2 rfl) ?_
  refine lv_aload_n hx hb d_Coder_easedAt_2 rfl (lv_at hl 0 rfl) ?_
  refine va_get (D := gD G) (ci := 4) (v := .ref rS) (C := R_Coder) (T := F_Coder) (N := 11) hx hb hw in_Coder hown hK hP 0 rfl rfl 1 (by decide) (hw _ m1_178) (fun _ h => h) rfl d_Coder_easedAt_3 ?_
  refine va_get (D := gD G) (ci := 3) (v := .ref rE) (C := R_Setup) (T := F_Setup) (N := 9) hx hb hw in_Setup hown hK hP 1 rfl rfl 6 (by decide) (hw _ m1_47) (fun _ h => h) rfl d_Coder_easedAt_6 ?_
  refine lv_aload_n hx hb d_Coder_easedAt_9 rfl (lv_at hl 0 rfl) ?_
  refine va_get (D := gD G) (ci := 4) (v := .ref rL) (C := R_Coder) (T := F_Coder) (N := 11) hx hb hw in_Coder hown hK hP 0 rfl rfl 2 (by decide) (hw _ m1_179) (fun _ h => h) rfl d_Coder_easedAt_10 ?_
  refine va_get (D := gD G) (ci := 1) (v := .ref rb) (C := R_Layout) (T := F_Layout) (N := 10) hx hb hw in_Layout hown hK hP 2 rfl rfl 9 (by decide) (hw _ m1_94) (fun _ h => h) rfl d_Coder_easedAt_13 ?_
  refine lv_iload_n hx hb d_Coder_easedAt_16 rfl (lv_at hl 1 rfl) ?_
  refine k_ial hx hb hK hP 4 0 rfl rfl (by decide) (by omega) d_Coder_easedAt_17 ?_
  refine k_ial hx hb hK hP 3 0 rfl rfl (by decide) (by omega) d_Coder_easedAt_18 ?_
  refine k_isub hx hb d_Coder_easedAt_19 ?_
  refine k_mmax hx hb (by rw [hml]; exact hl.1.symm) hown (hw _ m2_189) (hw _ m1_215) (hw _ m1_8) (hw _ m1_216) (by decide) (Nat.le_of_ble_eq_true rfl) (by decide) (by decide) (by omega) (by omega) d_Coder_easedAt_20 ?_
  exact k_iretR hx hb hr hlk hQ (rfl) d_Coder_easedAt_23
abbrev w_Coder_predictionAt : List Cond := Cond.code y_Coder_predictionAt prog_6_method_14_code 8 (some .long) :: wl
abbrev r_Coder_predictionAt : Room := { frames := 1, cells := 0, slots := 0, locals := 25 }
set_option maxHeartbeats 4000000 in
set_option maxRecDepth 100000 in
theorem c_Coder_predictionAt (l : Launch) (G : k_G) (sz : Nat) (rC rv rst rS rL rQ rB rN rE rl rt rw rh rf rp rb : Nat) (i0 fr tt fb ld ro kd db ew ac dn pr nu de cP cQ nb : Int) (gp gb : Int → Int) (gv : Int → Int64) (hi0 : 0 ≤ i0 ∧ i0 < 256) (hpr : pr = 0 ∨ pr = 1) (hgb : 0 ≤ gb i0 ∧ gb i0 < 8) (hgp : 0 ≤ gp i0 ∧ gp i0 < 256) : Met l y_Coder_predictionAt w_Coder_predictionAt r_Coder_predictionAt (k_P G [.ref rC, .int (iv (i0)), .ref rv] [(rC, .inr (4, [.ref rst, .ref rS, .ref rL, .ref rQ, .ref rB, .ref rN, .int (iv (fr)), .int (iv (tt)), .int (iv (fb)), .int (iv (ld)), .int (iv (ro))])), (rS, .inr (3, [.int (iv (kd)), .int (iv (db)), .int (iv (ew)), .int (iv (ac)), .int (iv (dn)), .int (iv (pr)), .ref rE, .int (iv (nu)), .int (iv (de))])), (rL, .inr (1, [.int (iv (cP)), .int (iv (cQ)), .int (iv (nb)), .ref rl, .ref rt, .ref rw, .ref rh, .ref rf, .ref rp, .ref rb])), (rp, ai (gI G) 256 (gp)), (rb, ai (gI G) 256 (gb)), (rv, al (gL G) 256 (gv))] sz) (vp_Sl (fun r : Int64 => r = if pr = 0 ∨ ¬ gb i0 = 0 then 0 else fcL gv (gp i0))) 0 0 (fun _ => False) := by
  refine k_met (fun _ => vp_Sl (fun r : Int64 => r = if pr = 0 ∨ ¬ gb i0 = 0 then 0 else fcL gv (gp i0))) (fun _ _ => False) (by decide) rfl (Nat.le_of_ble_eq_true rfl) (fun p e s m args below meth c ls A Q S hr hlk hnm hl hsz hP hK hD hS hA hT hQ => ?_)
  obtain ⟨hx, hb, hml, hown, hts⟩ := id S
  have hw : ∀ w ∈ wl, w.before args s = true := fun w h => hts w (List.mem_cons_of_mem _ h)
  have hl : lv_has ls 8 [(0, .ref rC), (1, .int (iv (i0))), (2, .ref rv)] := hl
  refine lv_aload_n hx hb d_Coder_predictionAt_0 rfl (lv_at hl 0 rfl) ?_
  refine va_get (D := gD G) (ci := 4) (v := .ref rS) (C := R_Coder) (T := F_Coder) (N := 11) hx hb hw in_Coder hown hK hP 0 rfl rfl 1 (by decide) (hw _ m1_178) (fun _ h => h) rfl d_Coder_predictionAt_1 ?_
  refine va_get (D := gD G) (ci := 3) (v := .int (iv (pr))) (C := R_Setup) (T := F_Setup) (N := 9) hx hb hw in_Setup hown hK hP 1 rfl rfl 5 (by decide) (hw _ m1_44) (fun _ h => h) rfl d_Coder_predictionAt_4 ?_
  refine k_if_eq (tgt := 22) hx hb d_Coder_predictionAt_7 (by decide) (by omega) (fun hc7 => ?_) (fun hc7 => ?_)
  · refine lv_lconst (v := 0) hx hb d_Coder_predictionAt_22 rfl ?_
    exact k_lretR hx hb hr hlk hQ (by rw [if_pos (by omega)]) d_Coder_predictionAt_23
  · refine lv_aload_n hx hb d_Coder_predictionAt_10 rfl (lv_at hl 0 rfl) ?_
    refine va_get (D := gD G) (ci := 4) (v := .ref rL) (C := R_Coder) (T := F_Coder) (N := 11) hx hb hw in_Coder hown hK hP 0 rfl rfl 2 (by decide) (hw _ m1_179) (fun _ h => h) rfl d_Coder_predictionAt_11 ?_
    refine va_get (D := gD G) (ci := 1) (v := .ref rb) (C := R_Layout) (T := F_Layout) (N := 10) hx hb hw in_Layout hown hK hP 2 rfl rfl 9 (by decide) (hw _ m1_94) (fun _ h => h) rfl d_Coder_predictionAt_14 ?_
    refine lv_iload_n hx hb d_Coder_predictionAt_17 rfl (lv_at hl 1 rfl) ?_
    refine k_ial hx hb hK hP 4 0 rfl rfl (by decide) (by omega) d_Coder_predictionAt_18 ?_
    refine k_if_eq (tgt := 24) hx hb d_Coder_predictionAt_19 (by decide) (by omega) (fun hc19 => ?_) (fun hc19 => ?_)
    · refine lv_aload_n hx hb d_Coder_predictionAt_24 rfl (lv_at hl 0 rfl) ?_
      refine va_get (D := gD G) (ci := 4) (v := .ref rL) (C := R_Coder) (T := F_Coder) (N := 11) hx hb hw in_Coder hown hK hP 0 rfl rfl 2 (by decide) (hw _ m1_179) (fun _ h => h) rfl d_Coder_predictionAt_25 ?_
      refine va_get (D := gD G) (ci := 1) (v := .ref rp) (C := R_Layout) (T := F_Layout) (N := 10) hx hb hw in_Layout hown hK hP 2 rfl rfl 8 (by decide) (hw _ m1_92) (fun _ h => h) rfl d_Coder_predictionAt_28 ?_
      refine lv_iload_n hx hb d_Coder_predictionAt_31 rfl (lv_at hl 1 rfl) ?_
      refine k_ial hx hb hK hP 3 0 rfl rfl (by decide) (by omega) d_Coder_predictionAt_32 ?_
      refine lv_istore_n hx hb d_Coder_predictionAt_33 rfl hl (by decide) rfl (fun ls hl => ?_)
      have hl : lv_has ls 8 [(3, .int (iv (gp i0))), (0, .ref rC), (1, .int (iv (i0))), (2, .ref rv)] := hl
      refine lv_iload_n hx hb d_Coder_predictionAt_34 rfl (lv_at hl 0 rfl) ?_
      refine lv_bipush (v := iv (16)) hx hb d_Coder_predictionAt_35 rfl ?_
      refine k_irem hx hb d_Coder_predictionAt_37 (by omega) (by omega) ?_
      refine k_if_ne (tgt := 45) hx hb d_Coder_predictionAt_38 (by decide) (by omega) (fun hc38 => ?_) (fun hc38 => ?_)
      · refine lv_iconst (v := iv (0)) hx hb d_Coder_predictionAt_45 rfl ?_
        refine lv_istore hx hb d_Coder_predictionAt_46 hl (by decide) rfl (fun ls hl => ?_)
        have hl : lv_has ls 8 [(4, .int (iv (0))), (3, .int (iv (gp i0))), (0, .ref rC), (1, .int (iv (i0))), (2, .ref rv)] := hl
        refine lv_iload_n hx hb d_Coder_predictionAt_48 rfl (lv_at hl 1 rfl) ?_
        refine lv_bipush (v := iv (16)) hx hb d_Coder_predictionAt_49 rfl ?_
        refine k_icmp_ge (tgt := 58) hx hb d_Coder_predictionAt_51 (by decide) (by omega) (by omega) (fun hc51 => ?_) (fun hc51 => ?_)
        · refine lv_iconst (v := iv (0)) hx hb d_Coder_predictionAt_58 rfl ?_
          refine lv_istore hx hb d_Coder_predictionAt_59 hl (by decide) rfl (fun ls hl => ?_)
          have hl : lv_has ls 8 [(5, .int (iv (0))), (4, .int (iv (0))), (3, .int (iv (gp i0))), (0, .ref rC), (1, .int (iv (i0))), (2, .ref rv)] := hl
          refine lv_iload hx hb d_Coder_predictionAt_61 (lv_at hl 1 rfl) ?_
          refine k_if_eq (tgt := 82) hx hb d_Coder_predictionAt_63 (by decide) (by omega) (fun hc63 => ?_) (fun hc63 => absurd hc63 (by omega))
          refine lv_iload hx hb d_Coder_predictionAt_82 (lv_at hl 0 rfl) ?_
          refine k_if_eq (tgt := 93) hx hb d_Coder_predictionAt_84 (by decide) (by omega) (fun hc84 => ?_) (fun hc84 => absurd hc84 (by omega))
          refine lv_aload_n hx hb d_Coder_predictionAt_93 rfl (lv_at hl 5 rfl) ?_
          refine lv_iload_n hx hb d_Coder_predictionAt_94 rfl (lv_at hl 2 rfl) ?_
          refine lv_iconst (v := iv (1)) hx hb d_Coder_predictionAt_95 rfl ?_
          refine k_isub hx hb d_Coder_predictionAt_96 ?_
          refine k_lal hx hb hK hP 5 1 rfl rfl (by decide) (by omega) d_Coder_predictionAt_97 ?_
          refine lv_aload_n hx hb d_Coder_predictionAt_98 rfl (lv_at hl 5 rfl) ?_
          refine lv_iload_n hx hb d_Coder_predictionAt_99 rfl (lv_at hl 2 rfl) ?_
          refine lv_bipush (v := iv (16)) hx hb d_Coder_predictionAt_100 rfl ?_
          refine k_isub hx hb d_Coder_predictionAt_102 ?_
          refine k_lal hx hb hK hP 5 1 rfl rfl (by decide) (by omega) d_Coder_predictionAt_103 ?_
          refine lv_ladd hx hb d_Coder_predictionAt_104 ?_
          refine lv_aload_n hx hb d_Coder_predictionAt_105 rfl (lv_at hl 5 rfl) ?_
          refine lv_iload_n hx hb d_Coder_predictionAt_106 rfl (lv_at hl 2 rfl) ?_
          refine lv_bipush (v := iv (16)) hx hb d_Coder_predictionAt_107 rfl ?_
          refine k_isub hx hb d_Coder_predictionAt_109 ?_
          refine lv_iconst (v := iv (1)) hx hb d_Coder_predictionAt_110 rfl ?_
          refine k_isub hx hb d_Coder_predictionAt_111 ?_
          refine k_lal hx hb hK hP 5 1 rfl rfl (by decide) (by omega) d_Coder_predictionAt_112 ?_
          refine lv_ladd hx hb d_Coder_predictionAt_113 ?_
          refine lv_lstore hx hb d_Coder_predictionAt_114 hl (by decide) rfl (fun ls hl => ?_)
          have hl : lv_has ls 8 [(6, .long (((gv ((gp i0) - 1)) + (gv ((gp i0) - 16))) + (gv (((gp i0) - 16) - 1)))), (5, .int (iv (0))), (4, .int (iv (0))), (3, .int (iv (gp i0))), (0, .ref rC), (1, .int (iv (i0))), (2, .ref rv)] := hl
          refine lv_lload hx hb d_Coder_predictionAt_116 (lv_at hl 0 rfl) ?_
          refine lv_lconst (v := 1) hx hb d_Coder_predictionAt_118 rfl ?_
          refine lv_ladd hx hb d_Coder_predictionAt_119 ?_
          refine lv_ldc2 (v := 3) hx hb hown (hw _ m2_181) d_Coder_predictionAt_120 ?_
          refine k_clR (k_rs S (c_Jmath_floorDiv l G _ ((((gv ((gp i0) - 1)) + (gv ((gp i0) - 16))) + (gv (((gp i0) - 16) - 1))) + ((1 : Int64))) ((3 : Int64)) (by decide)) 2 m2_184 m2_182 m2_183 m1_8 (by decide +kernel) (by decide) rfl rfl (k_preS hK hP hD hS hA hT [] (by decide) rfl) rfl hl.1 rfl (Nat.le_of_ble_eq_true rfl) d_Coder_predictionAt_123 ⟨Nat.le_of_ble_eq_true rfl, Nat.le_of_ble_eq_true rfl⟩) (fun r123 h123 => ?_)
          subst h123
          exact k_lretR hx hb hr hlk hQ (by rw [if_neg (by omega)]; unfold fcL; first | rw [if_pos (by omega), if_pos (by omega)] | rw [if_pos (by omega), if_neg (by omega)] | rw [if_neg (by omega), if_pos (by omega)] | (rw [if_neg (by omega), if_neg (by omega)]; rw [show gp i0 - 16 - 1 = gp i0 - 17 by omega])) d_Coder_predictionAt_126
        · refine lv_iconst (v := iv (1)) hx hb d_Coder_predictionAt_54 rfl ?_
          refine lv_goto (tgt := 59) hx hb d_Coder_predictionAt_55 (by decide) ?_
          refine lv_istore hx hb d_Coder_predictionAt_59 hl (by decide) rfl (fun ls hl => ?_)
          have hl : lv_has ls 8 [(5, .int (iv (1))), (4, .int (iv (0))), (3, .int (iv (gp i0))), (0, .ref rC), (1, .int (iv (i0))), (2, .ref rv)] := hl
          refine lv_iload hx hb d_Coder_predictionAt_61 (lv_at hl 1 rfl) ?_
          refine k_if_eq (tgt := 82) hx hb d_Coder_predictionAt_63 (by decide) (by omega) (fun hc63 => ?_) (fun hc63 => absurd hc63 (by omega))
          refine lv_iload hx hb d_Coder_predictionAt_82 (lv_at hl 0 rfl) ?_
          refine k_if_eq (tgt := 93) hx hb d_Coder_predictionAt_84 (by decide) (by omega) (fun hc84 => absurd hc84 (by omega)) (fun hc84 => ?_)
          refine lv_aload_n hx hb d_Coder_predictionAt_87 rfl (lv_at hl 5 rfl) ?_
          refine lv_iload_n hx hb d_Coder_predictionAt_88 rfl (lv_at hl 2 rfl) ?_
          refine lv_iconst (v := iv (1)) hx hb d_Coder_predictionAt_89 rfl ?_
          refine k_isub hx hb d_Coder_predictionAt_90 ?_
          refine k_lal hx hb hK hP 5 1 rfl rfl (by decide) (by omega) d_Coder_predictionAt_91 ?_
          exact k_lretR hx hb hr hlk hQ (by rw [if_neg (by omega)]; unfold fcL; first | rw [if_pos (by omega), if_pos (by omega)] | rw [if_pos (by omega), if_neg (by omega)] | rw [if_neg (by omega), if_pos (by omega)] | (rw [if_neg (by omega), if_neg (by omega)]; rw [show gp i0 - 16 - 1 = gp i0 - 17 by omega])) d_Coder_predictionAt_92
      · refine lv_iconst (v := iv (1)) hx hb d_Coder_predictionAt_41 rfl ?_
        refine lv_goto (tgt := 46) hx hb d_Coder_predictionAt_42 (by decide) ?_
        refine lv_istore hx hb d_Coder_predictionAt_46 hl (by decide) rfl (fun ls hl => ?_)
        have hl : lv_has ls 8 [(4, .int (iv (1))), (3, .int (iv (gp i0))), (0, .ref rC), (1, .int (iv (i0))), (2, .ref rv)] := hl
        refine lv_iload_n hx hb d_Coder_predictionAt_48 rfl (lv_at hl 1 rfl) ?_
        refine lv_bipush (v := iv (16)) hx hb d_Coder_predictionAt_49 rfl ?_
        refine k_icmp_ge (tgt := 58) hx hb d_Coder_predictionAt_51 (by decide) (by omega) (by omega) (fun hc51 => ?_) (fun hc51 => ?_)
        · refine lv_iconst (v := iv (0)) hx hb d_Coder_predictionAt_58 rfl ?_
          refine lv_istore hx hb d_Coder_predictionAt_59 hl (by decide) rfl (fun ls hl => ?_)
          have hl : lv_has ls 8 [(5, .int (iv (0))), (4, .int (iv (1))), (3, .int (iv (gp i0))), (0, .ref rC), (1, .int (iv (i0))), (2, .ref rv)] := hl
          refine lv_iload hx hb d_Coder_predictionAt_61 (lv_at hl 1 rfl) ?_
          refine k_if_eq (tgt := 82) hx hb d_Coder_predictionAt_63 (by decide) (by omega) (fun hc63 => absurd hc63 (by omega)) (fun hc63 => ?_)
          refine lv_iload hx hb d_Coder_predictionAt_66 (lv_at hl 0 rfl) ?_
          refine k_if_eq (tgt := 75) hx hb d_Coder_predictionAt_68 (by decide) (by omega) (fun hc68 => ?_) (fun hc68 => absurd hc68 (by omega))
          refine lv_aload_n hx hb d_Coder_predictionAt_75 rfl (lv_at hl 5 rfl) ?_
          refine lv_iload_n hx hb d_Coder_predictionAt_76 rfl (lv_at hl 2 rfl) ?_
          refine lv_bipush (v := iv (16)) hx hb d_Coder_predictionAt_77 rfl ?_
          refine k_isub hx hb d_Coder_predictionAt_79 ?_
          refine k_lal hx hb hK hP 5 1 rfl rfl (by decide) (by omega) d_Coder_predictionAt_80 ?_
          exact k_lretR hx hb hr hlk hQ (by rw [if_neg (by omega)]; unfold fcL; first | rw [if_pos (by omega), if_pos (by omega)] | rw [if_pos (by omega), if_neg (by omega)] | rw [if_neg (by omega), if_pos (by omega)] | (rw [if_neg (by omega), if_neg (by omega)]; rw [show gp i0 - 16 - 1 = gp i0 - 17 by omega])) d_Coder_predictionAt_81
        · refine lv_iconst (v := iv (1)) hx hb d_Coder_predictionAt_54 rfl ?_
          refine lv_goto (tgt := 59) hx hb d_Coder_predictionAt_55 (by decide) ?_
          refine lv_istore hx hb d_Coder_predictionAt_59 hl (by decide) rfl (fun ls hl => ?_)
          have hl : lv_has ls 8 [(5, .int (iv (1))), (4, .int (iv (1))), (3, .int (iv (gp i0))), (0, .ref rC), (1, .int (iv (i0))), (2, .ref rv)] := hl
          refine lv_iload hx hb d_Coder_predictionAt_61 (lv_at hl 1 rfl) ?_
          refine k_if_eq (tgt := 82) hx hb d_Coder_predictionAt_63 (by decide) (by omega) (fun hc63 => absurd hc63 (by omega)) (fun hc63 => ?_)
          refine lv_iload hx hb d_Coder_predictionAt_66 (lv_at hl 0 rfl) ?_
          refine k_if_eq (tgt := 75) hx hb d_Coder_predictionAt_68 (by decide) (by omega) (fun hc68 => absurd hc68 (by omega)) (fun hc68 => ?_)
          refine lv_lconst (v := 0) hx hb d_Coder_predictionAt_71 rfl ?_
          refine lv_goto (tgt := 81) hx hb d_Coder_predictionAt_72 (by decide) ?_
          exact k_lretR hx hb hr hlk hQ (by rw [if_neg (by omega)]; unfold fcL; first | rw [if_pos (by omega), if_pos (by omega)] | rw [if_pos (by omega), if_neg (by omega)] | rw [if_neg (by omega), if_pos (by omega)] | (rw [if_neg (by omega), if_neg (by omega)]; rw [show gp i0 - 16 - 1 = gp i0 - 17 by omega])) d_Coder_predictionAt_81
    · refine lv_lconst (v := 0) hx hb d_Coder_predictionAt_22 rfl ?_
      exact k_lretR hx hb hr hlk hQ (by rw [if_pos (by omega)]) d_Coder_predictionAt_23
abbrev w_Coder_rebuildAt : List Cond := Cond.code y_Coder_rebuildAt prog_6_method_13_code 8 none :: wl
abbrev r_Coder_rebuildAt : Room := { frames := 2, cells := 0, slots := 0, locals := 48 }
set_option maxHeartbeats 4000000 in
set_option maxRecDepth 100000 in
theorem c_Coder_rebuildAt (l : Launch) (G : k_G) (sz : Nat) (rC rv rst rS rL rQ rB rN rE rl rt rw rh rf rp rb rqf rqo : Nat) (i0 q0 fr tt fb ld ro kd db ew ac dn pr nu de cP cQ nb : Int) (p0 : Int64) (es gp gb gn qf qo : Int → Int) (gv : Int → Int64) (hi0 : 0 ≤ i0 ∧ i0 < 256) (hq0 : 0 ≤ q0 ∧ q0 ≤ 31) (hgb : 0 ≤ gb i0 ∧ gb i0 < 8) (hes : 0 ≤ es (gb i0) ∧ es (gb i0) ≤ 15) (hgp : 0 ≤ gp i0 ∧ gp i0 < 256) (hgn : -134217726 ≤ gn i0 ∧ gn i0 ≤ 134217726) (hqf : ∀ r, 0 ≤ r → r < 32 → 0 < qf r ∧ qf r < 2147483648) (hqo : ∀ r, 0 ≤ r → r < 32 → 0 ≤ qo r ∧ qo r < 2147483648) : Met l y_Coder_rebuildAt w_Coder_rebuildAt r_Coder_rebuildAt (k_P G [.ref rC, .int (iv (i0)), .int (iv (q0)), .long (p0), .ref rv] [(rC, .inr (4, [.ref rst, .ref rS, .ref rL, .ref rQ, .ref rB, .ref rN, .int (iv (fr)), .int (iv (tt)), .int (iv (fb)), .int (iv (ld)), .int (iv (ro))])), (rS, .inr (3, [.int (iv (kd)), .int (iv (db)), .int (iv (ew)), .int (iv (ac)), .int (iv (dn)), .int (iv (pr)), .ref rE, .int (iv (nu)), .int (iv (de))])), (rL, .inr (1, [.int (iv (cP)), .int (iv (cQ)), .int (iv (nb)), .ref rl, .ref rt, .ref rw, .ref rh, .ref rf, .ref rp, .ref rb])), (rE, ai (gI G) 8 (es)), (rp, ai (gI G) 256 (gp)), (rb, ai (gI G) 256 (gb)), (rN, ai (gI G) 256 (gn)), (rQ, .inr (2, [.ref rqf, .ref rqo])), (rqf, ai (gI G) 32 (qf)), (rqo, ai (gI G) 32 (qo)), (rv, al (gL G) 256 (gv))] sz) (qv G (fun u : Int → Int64 => u = up gv (gp i0) (bdL (p0 + vlC (gn i0) (qf (max 0 (q0 - es (gb i0)))) (qo (max 0 (q0 - es (gb i0))))))) (fun u : Int → Int64 => [(rC, .inr (4, [.ref rst, .ref rS, .ref rL, .ref rQ, .ref rB, .ref rN, .int (iv (fr)), .int (iv (tt)), .int (iv (fb)), .int (iv (ld)), .int (iv (ro))])), (rS, .inr (3, [.int (iv (kd)), .int (iv (db)), .int (iv (ew)), .int (iv (ac)), .int (iv (dn)), .int (iv (pr)), .ref rE, .int (iv (nu)), .int (iv (de))])), (rL, .inr (1, [.int (iv (cP)), .int (iv (cQ)), .int (iv (nb)), .ref rl, .ref rt, .ref rw, .ref rh, .ref rf, .ref rp, .ref rb])), (rE, ai (gI G) 8 (es)), (rp, ai (gI G) 256 (gp)), (rb, ai (gI G) 256 (gb)), (rN, ai (gI G) 256 (gn)), (rQ, .inr (2, [.ref rqf, .ref rqo])), (rqf, ai (gI G) 32 (qf)), (rqo, ai (gI G) 32 (qo)), (rv, al (gL G) 256 (u))]) (va_A [(rC, .inr (4, [.ref rst, .ref rS, .ref rL, .ref rQ, .ref rB, .ref rN, .int (iv (fr)), .int (iv (tt)), .int (iv (fb)), .int (iv (ld)), .int (iv (ro))])), (rS, .inr (3, [.int (iv (kd)), .int (iv (db)), .int (iv (ew)), .int (iv (ac)), .int (iv (dn)), .int (iv (pr)), .ref rE, .int (iv (nu)), .int (iv (de))])), (rL, .inr (1, [.int (iv (cP)), .int (iv (cQ)), .int (iv (nb)), .ref rl, .ref rt, .ref rw, .ref rh, .ref rf, .ref rp, .ref rb])), (rE, ai (gI G) 8 (es)), (rp, ai (gI G) 256 (gp)), (rb, ai (gI G) 256 (gb)), (rN, ai (gI G) 256 (gn)), (rQ, .inr (2, [.ref rqf, .ref rqo])), (rqf, ai (gI G) 32 (qf)), (rqo, ai (gI G) 32 (qo)), (rv, al (gL G) 256 (gv))] sz)) 0 0 (va_A [(rC, .inr (4, [.ref rst, .ref rS, .ref rL, .ref rQ, .ref rB, .ref rN, .int (iv (fr)), .int (iv (tt)), .int (iv (fb)), .int (iv (ld)), .int (iv (ro))])), (rS, .inr (3, [.int (iv (kd)), .int (iv (db)), .int (iv (ew)), .int (iv (ac)), .int (iv (dn)), .int (iv (pr)), .ref rE, .int (iv (nu)), .int (iv (de))])), (rL, .inr (1, [.int (iv (cP)), .int (iv (cQ)), .int (iv (nb)), .ref rl, .ref rt, .ref rw, .ref rh, .ref rf, .ref rp, .ref rb])), (rE, ai (gI G) 8 (es)), (rp, ai (gI G) 256 (gp)), (rb, ai (gI G) 256 (gb)), (rN, ai (gI G) 256 (gn)), (rQ, .inr (2, [.ref rqf, .ref rqo])), (rqf, ai (gI G) 32 (qf)), (rqo, ai (gI G) 32 (qo)), (rv, al (gL G) 256 (gv))] sz) := by
  refine k_met (fun A => qv G (fun u : Int → Int64 => u = up gv (gp i0) (bdL (p0 + vlC (gn i0) (qf (max 0 (q0 - es (gb i0)))) (qo (max 0 (q0 - es (gb i0))))))) (fun u : Int → Int64 => [(rC, .inr (4, [.ref rst, .ref rS, .ref rL, .ref rQ, .ref rB, .ref rN, .int (iv (fr)), .int (iv (tt)), .int (iv (fb)), .int (iv (ld)), .int (iv (ro))])), (rS, .inr (3, [.int (iv (kd)), .int (iv (db)), .int (iv (ew)), .int (iv (ac)), .int (iv (dn)), .int (iv (pr)), .ref rE, .int (iv (nu)), .int (iv (de))])), (rL, .inr (1, [.int (iv (cP)), .int (iv (cQ)), .int (iv (nb)), .ref rl, .ref rt, .ref rw, .ref rh, .ref rf, .ref rp, .ref rb])), (rE, ai (gI G) 8 (es)), (rp, ai (gI G) 256 (gp)), (rb, ai (gI G) 256 (gb)), (rN, ai (gI G) 256 (gn)), (rQ, .inr (2, [.ref rqf, .ref rqo])), (rqf, ai (gI G) 32 (qf)), (rqo, ai (gI G) 32 (qo)), (rv, al (gL G) 256 (u))]) A) (fun A => A) (by decide) rfl (Nat.le_of_ble_eq_true rfl) (fun p e s m args below meth c ls A Q S hr hlk hnm hl hsz hP hK hD hS hA hT hQ => ?_)
  obtain ⟨hx, hb, hml, hown, hts⟩ := id S
  have hw : ∀ w ∈ wl, w.before args s = true := fun w h => hts w (List.mem_cons_of_mem _ h)
  have hl : lv_has ls 8 [(0, .ref rC), (1, .int (iv (i0))), (2, .int (iv (q0))), (3, .long (p0)), (5, .ref rv)] := hl
  refine lv_lload_n hx hb d_Coder_rebuildAt_0 rfl (lv_at hl 3 rfl) ?_
  refine lv_aload_n hx hb d_Coder_rebuildAt_1 rfl (lv_at hl 0 rfl) ?_
  refine va_get (D := gD G) (ci := 4) (v := .ref rQ) (C := R_Coder) (T := F_Coder) (N := 11) hx hb hw in_Coder hown hK hP 0 rfl rfl 3 (by decide) (hw _ m1_180) (fun _ h => h) rfl d_Coder_rebuildAt_2 ?_
  refine lv_aload_n hx hb d_Coder_rebuildAt_5 rfl (lv_at hl 0 rfl) ?_
  refine va_get (D := gD G) (ci := 4) (v := .ref rN) (C := R_Coder) (T := F_Coder) (N := 11) hx hb hw in_Coder hown hK hP 0 rfl rfl 5 (by decide) (hw _ m1_182) (fun _ h => h) rfl d_Coder_rebuildAt_6 ?_
  refine lv_iload_n hx hb d_Coder_rebuildAt_9 rfl (lv_at hl 1 rfl) ?_
  refine k_ial hx hb hK hP 6 0 rfl rfl (by decide) (by omega) d_Coder_rebuildAt_10 ?_
  refine lv_aload_n hx hb d_Coder_rebuildAt_11 rfl (lv_at hl 0 rfl) ?_
  refine lv_iload_n hx hb d_Coder_rebuildAt_12 rfl (lv_at hl 1 rfl) ?_
  refine lv_iload_n hx hb d_Coder_rebuildAt_13 rfl (lv_at hl 2 rfl) ?_
  refine k_ciR (k_rv S (c_Coder_easedAt l G _ rC rst rS rL rQ rB rN rE rl rt rw rh rf rp rb i0 q0 fr tt fb ld ro kd db ew ac dn pr nu de cP cQ nb es gb (by omega) (by omega) (by omega) (by omega)) 2 m2_188 m2_185 m2_187 mp_10 m1_5 (by decide +kernel) (by decide) rfl rfl (k_preV (q0 := 0) hK hP hD hS hA hT rfl rfl [0, 1, 2, 3, 5] (by decide) rfl) rfl hl.1 rfl (Nat.le_of_ble_eq_true rfl) d_Coder_rebuildAt_14 ⟨Nat.le_of_ble_eq_true rfl, Nat.le_of_ble_eq_true rfl⟩) (fun r14 h14 => ?_)
  subst h14
  refine k_clR (k_rv S (c_Quant_valueOf l G _ rQ rqf rqo (gn i0) (max 0 (q0 - es (gb i0))) qf qo (by omega) (by omega) (hqf _ (by omega) (by omega)) (hqo _ (by omega) (by omega))) 2 m2_207 m2_204 m2_205 m2_206 m1_6 (by decide +kernel) (by decide) rfl rfl (k_preV (q0 := 7) hK hP hD hS hA hT rfl rfl [7, 8, 9] (by decide) rfl) rfl hl.1 rfl (Nat.le_of_ble_eq_true rfl) d_Coder_rebuildAt_17 ⟨Nat.le_of_ble_eq_true rfl, Nat.le_of_ble_eq_true rfl⟩) (fun r17 h17 => ?_)
  subst h17
  refine lv_ladd hx hb d_Coder_rebuildAt_20 ?_
  refine lv_lstore hx hb d_Coder_rebuildAt_21 hl (by decide) rfl (fun ls hl => ?_)
  have hl : lv_has ls 8 [(6, .long (p0 + (vlC (gn i0) (qf (max 0 (q0 - es (gb i0)))) (qo (max 0 (q0 - es (gb i0))))))), (0, .ref rC), (1, .int (iv (i0))), (2, .int (iv (q0))), (3, .long (p0)), (5, .ref rv)] := hl
  refine lv_aload hx hb d_Coder_rebuildAt_23 (lv_at hl 5 rfl) ?_
  refine lv_aload_n hx hb d_Coder_rebuildAt_25 rfl (lv_at hl 1 rfl) ?_
  refine va_get (D := gD G) (ci := 4) (v := .ref rL) (C := R_Coder) (T := F_Coder) (N := 11) hx hb hw in_Coder hown hK hP 0 rfl rfl 2 (by decide) (hw _ m1_179) (fun _ h => h) rfl d_Coder_rebuildAt_26 ?_
  refine va_get (D := gD G) (ci := 1) (v := .ref rp) (C := R_Layout) (T := F_Layout) (N := 10) hx hb hw in_Layout hown hK hP 2 rfl rfl 8 (by decide) (hw _ m1_92) (fun _ h => h) rfl d_Coder_rebuildAt_29 ?_
  refine lv_iload_n hx hb d_Coder_rebuildAt_32 rfl (lv_at hl 2 rfl) ?_
  refine k_ial hx hb hK hP 4 0 rfl rfl (by decide) (by omega) d_Coder_rebuildAt_33 ?_
  refine lv_ldc2 (v := -134217728) hx hb hown (hw _ m2_212) d_Coder_rebuildAt_34 ?_
  refine lv_ldc2 (v := 134217728) hx hb hown (hw _ m2_213) d_Coder_rebuildAt_37 ?_
  refine lv_lload hx hb d_Coder_rebuildAt_40 (lv_at hl 0 rfl) ?_
  refine k_mminl hx hb (by rw [hml]; exact hl.1.symm) hown (hw _ m2_214) (hw _ m2_65) (hw _ m1_8) (hw _ m2_66) (by decide) (Nat.le_of_ble_eq_true rfl) (by decide) (by decide) d_Coder_rebuildAt_42 ?_
  refine k_mmaxl hx hb (by rw [hml]; exact hl.1.symm) hown (hw _ m2_215) (hw _ m2_68) (hw _ m1_8) (hw _ m2_69) (by decide) (Nat.le_of_ble_eq_true rfl) (by decide) (by decide) d_Coder_rebuildAt_45 ?_
  refine k_las hx hb hK hP hD hS 10 1 rfl rfl (by decide) (by omega) d_Coder_rebuildAt_48 (fun H locs hP hD hS => ?_)
  have hP : va_P (gD G) classes [(rC, .inr (4, [.ref rst, .ref rS, .ref rL, .ref rQ, .ref rB, .ref rN, .int (iv (fr)), .int (iv (tt)), .int (iv (fb)), .int (iv (ld)), .int (iv (ro))])), (rS, .inr (3, [.int (iv (kd)), .int (iv (db)), .int (iv (ew)), .int (iv (ac)), .int (iv (dn)), .int (iv (pr)), .ref rE, .int (iv (nu)), .int (iv (de))])), (rL, .inr (1, [.int (iv (cP)), .int (iv (cQ)), .int (iv (nb)), .ref rl, .ref rt, .ref rw, .ref rh, .ref rf, .ref rp, .ref rb])), (rE, ai (gI G) 8 (es)), (rp, ai (gI G) 256 (gp)), (rb, ai (gI G) 256 (gb)), (rN, ai (gI G) 256 (gn)), (rQ, .inr (2, [.ref rqf, .ref rqo])), (rqf, ai (gI G) 32 (qf)), (rqo, ai (gI G) 32 (qo)), (rv, al (gL G) 256 (up gv (gp i0) (mxL ((-134217728 : Int64)) (mnL ((134217728 : Int64)) (p0 + (vlC (gn i0) (qf (max 0 (q0 - es (gb i0)))) (qo (max 0 (q0 - es (gb i0))))))))))] H := hP
  have hD : va_D A [(rC, .inr (4, [.ref rst, .ref rS, .ref rL, .ref rQ, .ref rB, .ref rN, .int (iv (fr)), .int (iv (tt)), .int (iv (fb)), .int (iv (ld)), .int (iv (ro))])), (rS, .inr (3, [.int (iv (kd)), .int (iv (db)), .int (iv (ew)), .int (iv (ac)), .int (iv (dn)), .int (iv (pr)), .ref rE, .int (iv (nu)), .int (iv (de))])), (rL, .inr (1, [.int (iv (cP)), .int (iv (cQ)), .int (iv (nb)), .ref rl, .ref rt, .ref rw, .ref rh, .ref rf, .ref rp, .ref rb])), (rE, ai (gI G) 8 (es)), (rp, ai (gI G) 256 (gp)), (rb, ai (gI G) 256 (gb)), (rN, ai (gI G) 256 (gn)), (rQ, .inr (2, [.ref rqf, .ref rqo])), (rqf, ai (gI G) 32 (qf)), (rqo, ai (gI G) 32 (qo)), (rv, al (gL G) 256 (up gv (gp i0) (mxL ((-134217728 : Int64)) (mnL ((134217728 : Int64)) (p0 + (vlC (gn i0) (qf (max 0 (q0 - es (gb i0)))) (qo (max 0 (q0 - es (gb i0))))))))))] := hD
  exact k_vret hx hb hr hlk hQ (up gv (gp i0) (mxL ((-134217728 : Int64)) (mnL ((134217728 : Int64)) (p0 + (vlC (gn i0) (qf (max 0 (q0 - es (gb i0)))) (qo (max 0 (q0 - es (gb i0))))))))) (rfl) hP hD hS d_Coder_rebuildAt_49
