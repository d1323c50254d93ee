/-! the layout whole; copying; the picture and its coefficients -/
def okL (wd ht db ew ac dn cP cQ nb : Int) (gl gt gw gh gf gp gb : Int → Int) : Prop := cP = lmI wd (2 ^ (db + ew).toNat) ∧ cQ = lmI ht (2 ^ db.toNat) ∧ okB cP cQ db ew nb gl gt gw gh ∧ okS cP cQ db ew ac dn gf gp gb
theorem fill_v {n v b : Int} {f : Int → Int} (b0 : 0 ≤ b) (b1 : b < n) : it (fun i f => up f i v) 0 n f b = v := by
  refine it_inv (f := fun i (f : Int → Int) => up f i v) (I := fun k (g : Int → Int) => ∀ j, 0 ≤ j → j < k → g j = v) (fun j h1 h2 => by omega) ?_ (by omega) b b0 b1
  intro i g h1 h2 hg j h3 h4
  show up g i v j = v
  by_cases e : j = i
  · subst e; rw [up_self]
  · rw [up_ne _ _ e]; exact hg j h3 (by omega)
def cpL (f g : Int → Int64) : Int → Int64 := fun j => if j < 256 then f j else g j
section KCP
variable {p : Program} {l : Launch} {e : Env} {R : Room} {s : State} {m : MethodId} {args : Array Value} {below : List Frame} {meth : Method} {c : Code} {H : Heap} {locs : List Loc} {cells slots : Nat} {Q : State → Prop}
variable {cc : ByteArray} {pc : Nat} {ls : Array Slot} {D : va_G} {cl : List vw_C} {tys : List (ClassId × FieldType)} {ws : va_W} {A : Nat → Prop} {H0 : Heap} {a : Nat}
theorem k_copyl (hx : p.tables.exec = Jvm.exec) (hb : c.code = cc) (hml : c.maxLocals = ls.size) {own : String} {index : Nat} (hown : s.vm.findClass own = some m.cls) (hlink : (Cond.methodLink own index arraycopyName).before args s = true) (hnat : (Cond.native arraycopyName).before args s = true) (hstat : (Cond.static arraycopyName).before args s = true) (hini : (Cond.initialized "java/lang/System").before args s = true)
    (hK : va_K D cl tys s) (hP : va_P D cl ws H) (hD : va_D A ws) (hS : va_S A H0 H locs) (q0 q1 t0 t1 : Nat) {a0 : Nat} {c0 c1 : ClassId} {f g : Int → Int64} (ha0 : ws[q0]? = some (a0, al c0 256 f)) (ha1 : ws[q1]? = some (a, al c1 256 g)) (ht0 : tys[t0]? = some (c0, .long)) (ht1 : tys[t1]? = some (c1, .long))
    (hframes : 1 ≤ R.frames) (hlocals : nativeFrameWords "java/lang/System" "arraycopy" 5 + 11 ≤ R.locals) (d : decode cc pc = .ok (.invokestatic index, 3))
    (kk : ∀ (H1 : Heap) (locs1 : List Loc), va_P D cl (ws.set q1 (a, al c1 256 (cpL f g))) H1 → va_D A (ws.set q1 (a, al c1 256 (cpL f g))) → va_S A H0 H1 locs1 → W p l e R s m args below meth c H1 locs1 cells slots Q (F0 m (pc + 3) ls [])) : W p l e R s m args below meth c H locs cells slots Q (F0 m pc ls (.int (iv 256) :: .int (iv 0) :: .ref a :: .int (iv 0) :: .ref a0 :: [])) := by
  have z0 : ¬ iv 0 < 0 := by decide
  have z1 : ¬ iv 256 < 0 := by decide
  have c0' : (iv 0).toNatClampNeg = 0 := by decide
  have c1' : (iv 256).toNatClampNeg = 256 := by decide
  refine va_copyl hx hb hml hown hlink hnat hstat hini hK hP hD hS q0 q1 t0 t1 ha0 ha1 ht0 ht1 rfl z0 z0 z1 (by rw [c0', c1']; decide) (by rw [c0', c1']; decide) (fun i _ => rfl) hframes (by simpa using hlocals) d (fun H1 locs1 hP1 hD1 hS1 => ?_)
  have e : va_cpy (fun j : Nat => f (j : Int)) (fun j : Nat => g (j : Int)) (iv 0).toNatClampNeg (iv 0).toNatClampNeg (iv 256).toNatClampNeg = fun j : Nat => cpL f g (j : Int) := by
    funext j
    rw [c0', c1']
    unfold va_cpy cpL
    by_cases h : j < 256
    · rw [if_pos (by omega), if_pos (by omega)]
      congr 1
      omega
    · rw [if_neg (by omega), if_neg (by omega)]
  rw [e] at hP1 hD1
  exact kk H1 locs1 hP1 hD1 hS1
end KCP
def fcA (wd ht w h : Int) (pic : Int → Int) (a : Int → Int64) : Int → Int64 := it (fun y f => it (fun x f => up f (y * 16 + x) (lw (pic (min y (ht - 1) * 16 + min x (wd - 1))))) 0 w f) 0 h a
def mrA (w h : Int) (a : Int → Int64) (k : Int → Int) : Int → Int := it (fun y f => it (fun x f => up f (y * 16 + x) (clp (a (y * 16 + x)).toInt)) 0 w f) 0 h k
theorem m1_235 : Cond.code y_Layout_cutSlices prog_3_method_4_code 5 none ∈ wl := wl_1 235 (by decide +kernel) (by decide +kernel)
theorem m1_220 : Cond.code y_Layout_placeBands prog_3_method_3_code 9 none ∈ wl := wl_1 220 (by decide +kernel) (by decide +kernel)
theorem m2_121 : Cond.code y_Trans_toCoefficients prog_7_method_2_code 8 none ∈ wl := wl_2 121 (by decide +kernel) (by decide +kernel)
theorem m3_91 : Cond.code y_Trans_toPicture prog_7_method_3_code 8 none ∈ wl := wl_3 91 (by decide +kernel) (by decide +kernel)
theorem m2_117 : Cond.code y_X_findCoefficients prog_1_method_28_code 3 none ∈ wl := wl_2 117 (by decide +kernel) (by decide +kernel)
theorem m2_84 : Cond.code y_X_forget prog_1_method_27_code 1 none ∈ wl := wl_2 84 (by decide +kernel) (by decide +kernel)
theorem m1_80 : Cond.fieldLink "WaveletSlices" 203 "WaveletSlices$Layout" "columns" "I" ∈ wl := wl_1 80 (by decide +kernel) (by decide +kernel)
theorem m1_83 : Cond.fieldLink "WaveletSlices" 200 "WaveletSlices$Layout" "rows" "I" ∈ wl := wl_1 83 (by decide +kernel) (by decide +kernel)
theorem m1_37 : Cond.fieldLink "WaveletSlices" 120 "WaveletSlices$Setup" "across" "I" ∈ wl := wl_1 37 (by decide +kernel) (by decide +kernel)
theorem m1_51 : Cond.fieldLink "WaveletSlices" 136 "WaveletSlices$Setup" "den" "I" ∈ wl := wl_1 51 (by decide +kernel) (by decide +kernel)
theorem m1_40 : Cond.fieldLink "WaveletSlices" 123 "WaveletSlices$Setup" "down" "I" ∈ wl := wl_1 40 (by decide +kernel) (by decide +kernel)
theorem m1_46 : Cond.fieldLink "WaveletSlices" 108 "WaveletSlices$Setup" "eases" "[I" ∈ wl := wl_1 46 (by decide +kernel) (by decide +kernel)
theorem m1_29 : Cond.fieldLink "WaveletSlices" 99 "WaveletSlices$Setup" "kind" "I" ∈ wl := wl_1 29 (by decide +kernel) (by decide +kernel)
theorem m1_33 : Cond.fieldLink "WaveletSlices" 102 "WaveletSlices$Setup" "levelsBoth" "I" ∈ wl := wl_1 33 (by decide +kernel) (by decide +kernel)
theorem m1_35 : Cond.fieldLink "WaveletSlices" 105 "WaveletSlices$Setup" "levelsWide" "I" ∈ wl := wl_1 35 (by decide +kernel) (by decide +kernel)
theorem m1_49 : Cond.fieldLink "WaveletSlices" 133 "WaveletSlices$Setup" "num" "I" ∈ wl := wl_1 49 (by decide +kernel) (by decide +kernel)
theorem m1_43 : Cond.fieldLink "WaveletSlices" 126 "WaveletSlices$Setup" "predicts" "Z" ∈ wl := wl_1 43 (by decide +kernel) (by decide +kernel)
theorem m2_9 : Cond.fieldLink "WaveletSlices" 30 "WaveletSlices" "transform" "LWaveletSlices$Transform;" ∈ wl := wl_2 9 (by decide +kernel) (by decide +kernel)
theorem m2_11 : Cond.fieldLink "WaveletSlices" 43 "WaveletSlices" "work" "[J" ∈ wl := wl_2 11 (by decide +kernel) (by decide +kernel)
theorem m1_12 : Cond.initialized "java/lang/System" ∈ wl := wl_1 12 (by decide +kernel) (by decide +kernel)
theorem m1_233 : Cond.instanceMethod y_Layout_cutSlices ∈ wl := wl_1 233 (by decide +kernel) (by decide +kernel)
theorem m1_218 : Cond.instanceMethod y_Layout_placeBands ∈ wl := wl_1 218 (by decide +kernel) (by decide +kernel)
theorem m2_119 : Cond.instanceMethod y_Trans_toCoefficients ∈ wl := wl_2 119 (by decide +kernel) (by decide +kernel)
theorem m3_89 : Cond.instanceMethod y_Trans_toPicture ∈ wl := wl_3 89 (by decide +kernel) (by decide +kernel)
theorem m2_116 : Cond.instanceMethod y_X_findCoefficients ∈ wl := wl_2 116 (by decide +kernel) (by decide +kernel)
theorem m2_83 : Cond.instanceMethod y_X_forget ∈ wl := wl_2 83 (by decide +kernel) (by decide +kernel)
theorem m1_232 : Cond.methodLink "WaveletSlices" 83 y_Layout_cutSlices ∈ wl := wl_1 232 (by decide +kernel) (by decide +kernel)
theorem m1_217 : Cond.methodLink "WaveletSlices" 79 y_Layout_placeBands ∈ wl := wl_1 217 (by decide +kernel) (by decide +kernel)
theorem m2_118 : Cond.methodLink "WaveletSlices" 206 y_Trans_toCoefficients ∈ wl := wl_2 118 (by decide +kernel) (by decide +kernel)
theorem m3_88 : Cond.methodLink "WaveletSlices" 216 y_Trans_toPicture ∈ wl := wl_3 88 (by decide +kernel) (by decide +kernel)
theorem m2_114 : Cond.methodLink "WaveletSlices" 142 y_X_findCoefficients ∈ wl := wl_2 114 (by decide +kernel) (by decide +kernel)
theorem m2_81 : Cond.methodLink "WaveletSlices" 117 y_X_forget ∈ wl := wl_2 81 (by decide +kernel) (by decide +kernel)
theorem m3_85 : Cond.methodLink "WaveletSlices" 210 ⟨"java/lang/System", "arraycopy", "(Ljava/lang/Object;ILjava/lang/Object;II)V"⟩ ∈ wl := wl_3 85 (by decide +kernel) (by decide +kernel)
theorem m2_78 : Cond.methodLink "WaveletSlices" 111 y_Jarr_fill ∈ wl := wl_2 78 (by decide +kernel) (by decide +kernel)
theorem m3_87 : Cond.native ⟨"java/lang/System", "arraycopy", "(Ljava/lang/Object;ILjava/lang/Object;II)V"⟩ ∈ wl := wl_3 87 (by decide +kernel) (by decide +kernel)
theorem m1_234 : Cond.selects "WaveletSlices$Layout" y_Layout_cutSlices y_Layout_cutSlices ∈ wl := wl_1 234 (by decide +kernel) (by decide +kernel)
theorem m1_219 : Cond.selects "WaveletSlices$Layout" y_Layout_placeBands y_Layout_placeBands ∈ wl := wl_1 219 (by decide +kernel) (by decide +kernel)
theorem m2_120 : Cond.selects "WaveletSlices$Transform" y_Trans_toCoefficients y_Trans_toCoefficients ∈ wl := wl_2 120 (by decide +kernel) (by decide +kernel)
theorem m3_90 : Cond.selects "WaveletSlices$Transform" y_Trans_toPicture y_Trans_toPicture ∈ wl := wl_3 90 (by decide +kernel) (by decide +kernel)
theorem mp_4 : Cond.selects "WaveletSlices" y_X_findCoefficients y_X_findCoefficients ∈ wl := wl_p 4 (by decide +kernel) (by decide +kernel)
theorem mp_3 : Cond.selects "WaveletSlices" y_X_forget y_X_forget ∈ wl := wl_p 3 (by decide +kernel) (by decide +kernel)
theorem m3_86 : Cond.static ⟨"java/lang/System", "arraycopy", "(Ljava/lang/Object;ILjava/lang/Object;II)V"⟩ ∈ wl := wl_3 86 (by decide +kernel) (by decide +kernel)
theorem d_X_ease_0 : decode prog_1_method_7_code 0 = .ok (.iload_n 1, 1) := by decide +kernel
theorem d_X_ease_1 : decode prog_1_method_7_code 1 = .ok (.iconst 0, 1) := by decide +kernel
theorem d_X_ease_2 : decode prog_1_method_7_code 2 = .ok (.aload_n 0, 1) := by decide +kernel
theorem d_X_ease_3 : decode prog_1_method_7_code 3 = .ok (.getfield 16, 3) := by decide +kernel
theorem d_X_ease_6 : decode prog_1_method_7_code 6 = .ok (.invokevirtual 129, 3) := by decide +kernel
theorem d_X_ease_9 : decode prog_1_method_7_code 9 = .ok (.iconst 1, 1) := by decide +kernel
theorem d_X_ease_10 : decode prog_1_method_7_code 10 = .ok (.isub, 1) := by decide +kernel
theorem d_X_ease_11 : decode prog_1_method_7_code 11 = .ok (.invokestatic 91, 3) := by decide +kernel
theorem d_X_ease_14 : decode prog_1_method_7_code 14 = .ok (.ifCond .eq 13, 3) := by decide +kernel
theorem d_X_ease_17 : decode prog_1_method_7_code 17 = .ok (.iload_n 2, 1) := by decide +kernel
theorem d_X_ease_18 : decode prog_1_method_7_code 18 = .ok (.iconst 0, 1) := by decide +kernel
theorem d_X_ease_19 : decode prog_1_method_7_code 19 = .ok (.bipush 15, 2) := by decide +kernel
theorem d_X_ease_21 : decode prog_1_method_7_code 21 = .ok (.invokestatic 91, 3) := by decide +kernel
theorem d_X_ease_24 : decode prog_1_method_7_code 24 = .ok (.ifCond .ne 5, 3) := by decide +kernel
theorem d_X_ease_27 : decode prog_1_method_7_code 27 = .ok (.iconst 0, 1) := by decide +kernel
theorem d_X_ease_28 : decode prog_1_method_7_code 28 = .ok (.ireturn, 1) := by decide +kernel
theorem d_X_ease_29 : decode prog_1_method_7_code 29 = .ok (.aload_n 0, 1) := by decide +kernel
theorem d_X_ease_30 : decode prog_1_method_7_code 30 = .ok (.getfield 16, 3) := by decide +kernel
theorem d_X_ease_33 : decode prog_1_method_7_code 33 = .ok (.getfield 108, 3) := by decide +kernel
theorem d_X_ease_36 : decode prog_1_method_7_code 36 = .ok (.iload_n 1, 1) := by decide +kernel
theorem d_X_ease_37 : decode prog_1_method_7_code 37 = .ok (.iload_n 2, 1) := by decide +kernel
theorem d_X_ease_38 : decode prog_1_method_7_code 38 = .ok (.iastore, 1) := by decide +kernel
theorem d_X_ease_39 : decode prog_1_method_7_code 39 = .ok (.aload_n 0, 1) := by decide +kernel
theorem d_X_ease_40 : decode prog_1_method_7_code 40 = .ok (.invokevirtual 117, 3) := by decide +kernel
theorem d_X_ease_43 : decode prog_1_method_7_code 43 = .ok (.iconst 1, 1) := by decide +kernel
theorem d_X_ease_44 : decode prog_1_method_7_code 44 = .ok (.ireturn, 1) := by decide +kernel
theorem d_X_rate_0 : decode prog_1_method_8_code 0 = .ok (.iload_n 2, 1) := by decide +kernel
theorem d_X_rate_1 : decode prog_1_method_8_code 1 = .ok (.iconst 1, 1) := by decide +kernel
theorem d_X_rate_2 : decode prog_1_method_8_code 2 = .ok (.bipush 64, 2) := by decide +kernel
theorem d_X_rate_4 : decode prog_1_method_8_code 4 = .ok (.invokestatic 91, 3) := by decide +kernel
theorem d_X_rate_7 : decode prog_1_method_8_code 7 = .ok (.ifCond .eq 18, 3) := by decide +kernel
theorem d_X_rate_10 : decode prog_1_method_8_code 10 = .ok (.iload_n 1, 1) := by decide +kernel
theorem d_X_rate_11 : decode prog_1_method_8_code 11 = .ok (.iconst 2, 1) := by decide +kernel
theorem d_X_rate_12 : decode prog_1_method_8_code 12 = .ok (.iload_n 2, 1) := by decide +kernel
theorem d_X_rate_13 : decode prog_1_method_8_code 13 = .ok (.imul, 1) := by decide +kernel
theorem d_X_rate_14 : decode prog_1_method_8_code 14 = .ok (.sipush 128, 3) := by decide +kernel
theorem d_X_rate_17 : decode prog_1_method_8_code 17 = .ok (.iload_n 2, 1) := by decide +kernel
theorem d_X_rate_18 : decode prog_1_method_8_code 18 = .ok (.imul, 1) := by decide +kernel
theorem d_X_rate_19 : decode prog_1_method_8_code 19 = .ok (.invokestatic 91, 3) := by decide +kernel
theorem d_X_rate_22 : decode prog_1_method_8_code 22 = .ok (.ifCond .ne 5, 3) := by decide +kernel
theorem d_X_rate_25 : decode prog_1_method_8_code 25 = .ok (.iconst 0, 1) := by decide +kernel
theorem d_X_rate_26 : decode prog_1_method_8_code 26 = .ok (.ireturn, 1) := by decide +kernel
theorem d_X_rate_27 : decode prog_1_method_8_code 27 = .ok (.aload_n 0, 1) := by decide +kernel
theorem d_X_rate_28 : decode prog_1_method_8_code 28 = .ok (.getfield 16, 3) := by decide +kernel
theorem d_X_rate_31 : decode prog_1_method_8_code 31 = .ok (.iload_n 1, 1) := by decide +kernel
theorem d_X_rate_32 : decode prog_1_method_8_code 32 = .ok (.putfield 133, 3) := by decide +kernel
theorem d_X_rate_35 : decode prog_1_method_8_code 35 = .ok (.aload_n 0, 1) := by decide +kernel
theorem d_X_rate_36 : decode prog_1_method_8_code 36 = .ok (.getfield 16, 3) := by decide +kernel
theorem d_X_rate_39 : decode prog_1_method_8_code 39 = .ok (.iload_n 2, 1) := by decide +kernel
theorem d_X_rate_40 : decode prog_1_method_8_code 40 = .ok (.putfield 136, 3) := by decide +kernel
theorem d_X_rate_43 : decode prog_1_method_8_code 43 = .ok (.aload_n 0, 1) := by decide +kernel
theorem d_X_rate_44 : decode prog_1_method_8_code 44 = .ok (.invokevirtual 117, 3) := by decide +kernel
theorem d_X_rate_47 : decode prog_1_method_8_code 47 = .ok (.iconst 1, 1) := by decide +kernel
theorem d_X_rate_48 : decode prog_1_method_8_code 48 = .ok (.ireturn, 1) := by decide +kernel
theorem d_X_slices_0 : decode prog_1_method_6_code 0 = .ok (.iload_n 1, 1) := by decide +kernel
theorem d_X_slices_1 : decode prog_1_method_6_code 1 = .ok (.iconst 1, 1) := by decide +kernel
theorem d_X_slices_2 : decode prog_1_method_6_code 2 = .ok (.iconst 4, 1) := by decide +kernel
theorem d_X_slices_3 : decode prog_1_method_6_code 3 = .ok (.invokestatic 91, 3) := by decide +kernel
theorem d_X_slices_6 : decode prog_1_method_6_code 6 = .ok (.ifCond .eq 12, 3) := by decide +kernel
theorem d_X_slices_9 : decode prog_1_method_6_code 9 = .ok (.iload_n 2, 1) := by decide +kernel
theorem d_X_slices_10 : decode prog_1_method_6_code 10 = .ok (.iconst 1, 1) := by decide +kernel
theorem d_X_slices_11 : decode prog_1_method_6_code 11 = .ok (.iconst 4, 1) := by decide +kernel
theorem d_X_slices_12 : decode prog_1_method_6_code 12 = .ok (.invokestatic 91, 3) := by decide +kernel
theorem d_X_slices_15 : decode prog_1_method_6_code 15 = .ok (.ifCond .ne 5, 3) := by decide +kernel
theorem d_X_slices_18 : decode prog_1_method_6_code 18 = .ok (.iconst 0, 1) := by decide +kernel
theorem d_X_slices_19 : decode prog_1_method_6_code 19 = .ok (.ireturn, 1) := by decide +kernel
theorem d_X_slices_20 : decode prog_1_method_6_code 20 = .ok (.aload_n 0, 1) := by decide +kernel
theorem d_X_slices_21 : decode prog_1_method_6_code 21 = .ok (.getfield 16, 3) := by decide +kernel
theorem d_X_slices_24 : decode prog_1_method_6_code 24 = .ok (.iload_n 1, 1) := by decide +kernel
theorem d_X_slices_25 : decode prog_1_method_6_code 25 = .ok (.putfield 120, 3) := by decide +kernel
theorem d_X_slices_28 : decode prog_1_method_6_code 28 = .ok (.aload_n 0, 1) := by decide +kernel
theorem d_X_slices_29 : decode prog_1_method_6_code 29 = .ok (.getfield 16, 3) := by decide +kernel
theorem d_X_slices_32 : decode prog_1_method_6_code 32 = .ok (.iload_n 2, 1) := by decide +kernel
theorem d_X_slices_33 : decode prog_1_method_6_code 33 = .ok (.putfield 123, 3) := by decide +kernel
theorem d_X_slices_36 : decode prog_1_method_6_code 36 = .ok (.aload_n 0, 1) := by decide +kernel
theorem d_X_slices_37 : decode prog_1_method_6_code 37 = .ok (.getfield 16, 3) := by decide +kernel
theorem d_X_slices_40 : decode prog_1_method_6_code 40 = .ok (.iload_n 3, 1) := by decide +kernel
theorem d_X_slices_41 : decode prog_1_method_6_code 41 = .ok (.putfield 126, 3) := by decide +kernel
theorem d_X_slices_44 : decode prog_1_method_6_code 44 = .ok (.aload_n 0, 1) := by decide +kernel
theorem d_X_slices_45 : decode prog_1_method_6_code 45 = .ok (.getfield 23, 3) := by decide +kernel
theorem d_X_slices_48 : decode prog_1_method_6_code 48 = .ok (.aload_n 0, 1) := by decide +kernel
theorem d_X_slices_49 : decode prog_1_method_6_code 49 = .ok (.getfield 16, 3) := by decide +kernel
theorem d_X_slices_52 : decode prog_1_method_6_code 52 = .ok (.invokevirtual 83, 3) := by decide +kernel
theorem d_X_slices_55 : decode prog_1_method_6_code 55 = .ok (.aload_n 0, 1) := by decide +kernel
theorem d_X_slices_56 : decode prog_1_method_6_code 56 = .ok (.invokevirtual 117, 3) := by decide +kernel
theorem d_X_slices_59 : decode prog_1_method_6_code 59 = .ok (.iconst 1, 1) := by decide +kernel
theorem d_X_slices_60 : decode prog_1_method_6_code 60 = .ok (.ireturn, 1) := by decide +kernel
theorem d_X_filter_0 : decode prog_1_method_5_code 0 = .ok (.iload_n 1, 1) := by decide +kernel
theorem d_X_filter_1 : decode prog_1_method_5_code 1 = .ok (.iconst 0, 1) := by decide +kernel
theorem d_X_filter_2 : decode prog_1_method_5_code 2 = .ok (.bipush 6, 2) := by decide +kernel
theorem d_X_filter_4 : decode prog_1_method_5_code 4 = .ok (.invokestatic 91, 3) := by decide +kernel
theorem d_X_filter_7 : decode prog_1_method_5_code 7 = .ok (.ifCond .eq 28, 3) := by decide +kernel
theorem d_X_filter_10 : decode prog_1_method_5_code 10 = .ok (.iload_n 2, 1) := by decide +kernel
theorem d_X_filter_11 : decode prog_1_method_5_code 11 = .ok (.iconst 0, 1) := by decide +kernel
theorem d_X_filter_12 : decode prog_1_method_5_code 12 = .ok (.iconst 2, 1) := by decide +kernel
theorem d_X_filter_13 : decode prog_1_method_5_code 13 = .ok (.invokestatic 91, 3) := by decide +kernel
theorem d_X_filter_16 : decode prog_1_method_5_code 16 = .ok (.ifCond .eq 19, 3) := by decide +kernel
theorem d_X_filter_19 : decode prog_1_method_5_code 19 = .ok (.iload_n 3, 1) := by decide +kernel
theorem d_X_filter_20 : decode prog_1_method_5_code 20 = .ok (.iconst 0, 1) := by decide +kernel
theorem d_X_filter_21 : decode prog_1_method_5_code 21 = .ok (.iconst 2, 1) := by decide +kernel
theorem d_X_filter_22 : decode prog_1_method_5_code 22 = .ok (.invokestatic 91, 3) := by decide +kernel
theorem d_X_filter_25 : decode prog_1_method_5_code 25 = .ok (.ifCond .eq 10, 3) := by decide +kernel
theorem d_X_filter_28 : decode prog_1_method_5_code 28 = .ok (.iload_n 2, 1) := by decide +kernel
theorem d_X_filter_29 : decode prog_1_method_5_code 29 = .ok (.iload_n 3, 1) := by decide +kernel
theorem d_X_filter_30 : decode prog_1_method_5_code 30 = .ok (.iadd, 1) := by decide +kernel
theorem d_X_filter_31 : decode prog_1_method_5_code 31 = .ok (.iconst 3, 1) := by decide +kernel
theorem d_X_filter_32 : decode prog_1_method_5_code 32 = .ok (.if_icmp .le 5, 3) := by decide +kernel
theorem d_X_filter_35 : decode prog_1_method_5_code 35 = .ok (.iconst 0, 1) := by decide +kernel
theorem d_X_filter_36 : decode prog_1_method_5_code 36 = .ok (.ireturn, 1) := by decide +kernel
theorem d_X_filter_37 : decode prog_1_method_5_code 37 = .ok (.aload_n 0, 1) := by decide +kernel
theorem d_X_filter_38 : decode prog_1_method_5_code 38 = .ok (.getfield 16, 3) := by decide +kernel
theorem d_X_filter_41 : decode prog_1_method_5_code 41 = .ok (.iload_n 1, 1) := by decide +kernel
theorem d_X_filter_42 : decode prog_1_method_5_code 42 = .ok (.putfield 99, 3) := by decide +kernel
theorem d_X_filter_45 : decode prog_1_method_5_code 45 = .ok (.aload_n 0, 1) := by decide +kernel
theorem d_X_filter_46 : decode prog_1_method_5_code 46 = .ok (.getfield 16, 3) := by decide +kernel
theorem d_X_filter_49 : decode prog_1_method_5_code 49 = .ok (.iload_n 2, 1) := by decide +kernel
theorem d_X_filter_50 : decode prog_1_method_5_code 50 = .ok (.putfield 102, 3) := by decide +kernel
theorem d_X_filter_53 : decode prog_1_method_5_code 53 = .ok (.aload_n 0, 1) := by decide +kernel
theorem d_X_filter_54 : decode prog_1_method_5_code 54 = .ok (.getfield 16, 3) := by decide +kernel
theorem d_X_filter_57 : decode prog_1_method_5_code 57 = .ok (.iload_n 3, 1) := by decide +kernel
theorem d_X_filter_58 : decode prog_1_method_5_code 58 = .ok (.putfield 105, 3) := by decide +kernel
theorem d_X_filter_61 : decode prog_1_method_5_code 61 = .ok (.aload_n 0, 1) := by decide +kernel
theorem d_X_filter_62 : decode prog_1_method_5_code 62 = .ok (.getfield 16, 3) := by decide +kernel
theorem d_X_filter_65 : decode prog_1_method_5_code 65 = .ok (.getfield 108, 3) := by decide +kernel
theorem d_X_filter_68 : decode prog_1_method_5_code 68 = .ok (.iconst 0, 1) := by decide +kernel
theorem d_X_filter_69 : decode prog_1_method_5_code 69 = .ok (.invokestatic 111, 3) := by decide +kernel
theorem d_X_filter_72 : decode prog_1_method_5_code 72 = .ok (.aload_n 0, 1) := by decide +kernel
theorem d_X_filter_73 : decode prog_1_method_5_code 73 = .ok (.getfield 23, 3) := by decide +kernel
theorem d_X_filter_76 : decode prog_1_method_5_code 76 = .ok (.aload_n 0, 1) := by decide +kernel
theorem d_X_filter_77 : decode prog_1_method_5_code 77 = .ok (.getfield 16, 3) := by decide +kernel
theorem d_X_filter_80 : decode prog_1_method_5_code 80 = .ok (.aload_n 0, 1) := by decide +kernel
theorem d_X_filter_81 : decode prog_1_method_5_code 81 = .ok (.getfield 72, 3) := by decide +kernel
theorem d_X_filter_84 : decode prog_1_method_5_code 84 = .ok (.aload_n 0, 1) := by decide +kernel
theorem d_X_filter_85 : decode prog_1_method_5_code 85 = .ok (.getfield 76, 3) := by decide +kernel
theorem d_X_filter_88 : decode prog_1_method_5_code 88 = .ok (.invokevirtual 79, 3) := by decide +kernel
theorem d_X_filter_91 : decode prog_1_method_5_code 91 = .ok (.aload_n 0, 1) := by decide +kernel
theorem d_X_filter_92 : decode prog_1_method_5_code 92 = .ok (.getfield 23, 3) := by decide +kernel
theorem d_X_filter_95 : decode prog_1_method_5_code 95 = .ok (.aload_n 0, 1) := by decide +kernel
theorem d_X_filter_96 : decode prog_1_method_5_code 96 = .ok (.getfield 16, 3) := by decide +kernel
theorem d_X_filter_99 : decode prog_1_method_5_code 99 = .ok (.invokevirtual 83, 3) := by decide +kernel
theorem d_X_filter_102 : decode prog_1_method_5_code 102 = .ok (.aload_n 0, 1) := by decide +kernel
theorem d_X_filter_103 : decode prog_1_method_5_code 103 = .ok (.invokevirtual 117, 3) := by decide +kernel
theorem d_X_filter_106 : decode prog_1_method_5_code 106 = .ok (.iconst 1, 1) := by decide +kernel
theorem d_X_filter_107 : decode prog_1_method_5_code 107 = .ok (.ireturn, 1) := by decide +kernel
theorem d_X_findCoefficients_0 : decode prog_1_method_28_code 0 = .ok (.iconst 0, 1) := by decide +kernel
theorem d_X_findCoefficients_1 : decode prog_1_method_28_code 1 = .ok (.istore_n 1, 1) := by decide +kernel
theorem d_X_findCoefficients_2 : decode prog_1_method_28_code 2 = .ok (.iload_n 1, 1) := by decide +kernel
theorem d_X_findCoefficients_3 : decode prog_1_method_28_code 3 = .ok (.aload_n 0, 1) := by decide +kernel
theorem d_X_findCoefficients_4 : decode prog_1_method_28_code 4 = .ok (.getfield 23, 3) := by decide +kernel
theorem d_X_findCoefficients_7 : decode prog_1_method_28_code 7 = .ok (.getfield 200, 3) := by decide +kernel
theorem d_X_findCoefficients_10 : decode prog_1_method_28_code 10 = .ok (.if_icmp .ge 69, 3) := by decide +kernel
theorem d_X_findCoefficients_13 : decode prog_1_method_28_code 13 = .ok (.iconst 0, 1) := by decide +kernel
theorem d_X_findCoefficients_14 : decode prog_1_method_28_code 14 = .ok (.istore_n 2, 1) := by decide +kernel
theorem d_X_findCoefficients_15 : decode prog_1_method_28_code 15 = .ok (.iload_n 2, 1) := by decide +kernel
theorem d_X_findCoefficients_16 : decode prog_1_method_28_code 16 = .ok (.aload_n 0, 1) := by decide +kernel
theorem d_X_findCoefficients_17 : decode prog_1_method_28_code 17 = .ok (.getfield 23, 3) := by decide +kernel
theorem d_X_findCoefficients_20 : decode prog_1_method_28_code 20 = .ok (.getfield 203, 3) := by decide +kernel
theorem d_X_findCoefficients_23 : decode prog_1_method_28_code 23 = .ok (.if_icmp .ge 50, 3) := by decide +kernel
theorem d_X_findCoefficients_26 : decode prog_1_method_28_code 26 = .ok (.aload_n 0, 1) := by decide +kernel
theorem d_X_findCoefficients_27 : decode prog_1_method_28_code 27 = .ok (.getfield 43, 3) := by decide +kernel
theorem d_X_findCoefficients_30 : decode prog_1_method_28_code 30 = .ok (.iload_n 1, 1) := by decide +kernel
theorem d_X_findCoefficients_31 : decode prog_1_method_28_code 31 = .ok (.bipush 16, 2) := by decide +kernel
theorem d_X_findCoefficients_33 : decode prog_1_method_28_code 33 = .ok (.imul, 1) := by decide +kernel
theorem d_X_findCoefficients_34 : decode prog_1_method_28_code 34 = .ok (.iload_n 2, 1) := by decide +kernel
theorem d_X_findCoefficients_35 : decode prog_1_method_28_code 35 = .ok (.iadd, 1) := by decide +kernel
theorem d_X_findCoefficients_36 : decode prog_1_method_28_code 36 = .ok (.aload_n 0, 1) := by decide +kernel
theorem d_X_findCoefficients_37 : decode prog_1_method_28_code 37 = .ok (.getfield 9, 3) := by decide +kernel
theorem d_X_findCoefficients_40 : decode prog_1_method_28_code 40 = .ok (.iload_n 1, 1) := by decide +kernel
theorem d_X_findCoefficients_41 : decode prog_1_method_28_code 41 = .ok (.aload_n 0, 1) := by decide +kernel
theorem d_X_findCoefficients_42 : decode prog_1_method_28_code 42 = .ok (.getfield 76, 3) := by decide +kernel
theorem d_X_findCoefficients_45 : decode prog_1_method_28_code 45 = .ok (.iconst 1, 1) := by decide +kernel
theorem d_X_findCoefficients_46 : decode prog_1_method_28_code 46 = .ok (.isub, 1) := by decide +kernel
theorem d_X_findCoefficients_47 : decode prog_1_method_28_code 47 = .ok (.invokestatic 63, 3) := by decide +kernel
theorem d_X_findCoefficients_50 : decode prog_1_method_28_code 50 = .ok (.bipush 16, 2) := by decide +kernel
theorem d_X_findCoefficients_52 : decode prog_1_method_28_code 52 = .ok (.imul, 1) := by decide +kernel
theorem d_X_findCoefficients_53 : decode prog_1_method_28_code 53 = .ok (.iload_n 2, 1) := by decide +kernel
theorem d_X_findCoefficients_54 : decode prog_1_method_28_code 54 = .ok (.aload_n 0, 1) := by decide +kernel
theorem d_X_findCoefficients_55 : decode prog_1_method_28_code 55 = .ok (.getfield 72, 3) := by decide +kernel
theorem d_X_findCoefficients_58 : decode prog_1_method_28_code 58 = .ok (.iconst 1, 1) := by decide +kernel
theorem d_X_findCoefficients_59 : decode prog_1_method_28_code 59 = .ok (.isub, 1) := by decide +kernel
theorem d_X_findCoefficients_60 : decode prog_1_method_28_code 60 = .ok (.invokestatic 63, 3) := by decide +kernel
theorem d_X_findCoefficients_63 : decode prog_1_method_28_code 63 = .ok (.iadd, 1) := by decide +kernel
theorem d_X_findCoefficients_64 : decode prog_1_method_28_code 64 = .ok (.iaload, 1) := by decide +kernel
theorem d_X_findCoefficients_65 : decode prog_1_method_28_code 65 = .ok (.i2l, 1) := by decide +kernel
theorem d_X_findCoefficients_66 : decode prog_1_method_28_code 66 = .ok (.lastore, 1) := by decide +kernel
theorem d_X_findCoefficients_67 : decode prog_1_method_28_code 67 = .ok (.iinc 2 1, 3) := by decide +kernel
theorem d_X_findCoefficients_70 : decode prog_1_method_28_code 70 = .ok (.goto (-55), 3) := by decide +kernel
theorem d_X_findCoefficients_73 : decode prog_1_method_28_code 73 = .ok (.iinc 1 1, 3) := by decide +kernel
theorem d_X_findCoefficients_76 : decode prog_1_method_28_code 76 = .ok (.goto (-74), 3) := by decide +kernel
theorem d_X_findCoefficients_79 : decode prog_1_method_28_code 79 = .ok (.aload_n 0, 1) := by decide +kernel
theorem d_X_findCoefficients_80 : decode prog_1_method_28_code 80 = .ok (.getfield 30, 3) := by decide +kernel
theorem d_X_findCoefficients_83 : decode prog_1_method_28_code 83 = .ok (.aload_n 0, 1) := by decide +kernel
theorem d_X_findCoefficients_84 : decode prog_1_method_28_code 84 = .ok (.getfield 43, 3) := by decide +kernel
theorem d_X_findCoefficients_87 : decode prog_1_method_28_code 87 = .ok (.aload_n 0, 1) := by decide +kernel
theorem d_X_findCoefficients_88 : decode prog_1_method_28_code 88 = .ok (.getfield 16, 3) := by decide +kernel
theorem d_X_findCoefficients_91 : decode prog_1_method_28_code 91 = .ok (.aload_n 0, 1) := by decide +kernel
theorem d_X_findCoefficients_92 : decode prog_1_method_28_code 92 = .ok (.getfield 23, 3) := by decide +kernel
theorem d_X_findCoefficients_95 : decode prog_1_method_28_code 95 = .ok (.invokevirtual 206, 3) := by decide +kernel
theorem d_X_findCoefficients_98 : decode prog_1_method_28_code 98 = .ok (.return_, 1) := by decide +kernel
theorem d_X_coefficient_0 : decode prog_1_method_10_code 0 = .ok (.aload_n 0, 1) := by decide +kernel
theorem d_X_coefficient_1 : decode prog_1_method_10_code 1 = .ok (.getfield 23, 3) := by decide +kernel
theorem d_X_coefficient_4 : decode prog_1_method_10_code 4 = .ok (.iload_n 1, 1) := by decide +kernel
theorem d_X_coefficient_5 : decode prog_1_method_10_code 5 = .ok (.iload_n 2, 1) := by decide +kernel
theorem d_X_coefficient_6 : decode prog_1_method_10_code 6 = .ok (.invokevirtual 139, 3) := by decide +kernel
theorem d_X_coefficient_9 : decode prog_1_method_10_code 9 = .ok (.ifCond .ne 5, 3) := by decide +kernel
theorem d_X_coefficient_12 : decode prog_1_method_10_code 12 = .ok (.lconst 0, 1) := by decide +kernel
theorem d_X_coefficient_13 : decode prog_1_method_10_code 13 = .ok (.lreturn, 1) := by decide +kernel
theorem d_X_coefficient_14 : decode prog_1_method_10_code 14 = .ok (.aload_n 0, 1) := by decide +kernel
theorem d_X_coefficient_15 : decode prog_1_method_10_code 15 = .ok (.invokevirtual 142, 3) := by decide +kernel
theorem d_X_coefficient_18 : decode prog_1_method_10_code 18 = .ok (.aload_n 0, 1) := by decide +kernel
theorem d_X_coefficient_19 : decode prog_1_method_10_code 19 = .ok (.getfield 43, 3) := by decide +kernel
theorem d_X_coefficient_22 : decode prog_1_method_10_code 22 = .ok (.iload_n 2, 1) := by decide +kernel
theorem d_X_coefficient_23 : decode prog_1_method_10_code 23 = .ok (.bipush 16, 2) := by decide +kernel
theorem d_X_coefficient_25 : decode prog_1_method_10_code 25 = .ok (.imul, 1) := by decide +kernel
theorem d_X_coefficient_26 : decode prog_1_method_10_code 26 = .ok (.iload_n 1, 1) := by decide +kernel
theorem d_X_coefficient_27 : decode prog_1_method_10_code 27 = .ok (.iadd, 1) := by decide +kernel
theorem d_X_coefficient_28 : decode prog_1_method_10_code 28 = .ok (.laload, 1) := by decide +kernel
theorem d_X_coefficient_29 : decode prog_1_method_10_code 29 = .ok (.lreturn, 1) := by decide +kernel
theorem d_X_makeReadPicture_0 : decode prog_1_method_29_code 0 = .ok (.aload_n 0, 1) := by decide +kernel
theorem d_X_makeReadPicture_1 : decode prog_1_method_29_code 1 = .ok (.getfield 57, 3) := by decide +kernel
theorem d_X_makeReadPicture_4 : decode prog_1_method_29_code 4 = .ok (.iconst 0, 1) := by decide +kernel
theorem d_X_makeReadPicture_5 : decode prog_1_method_29_code 5 = .ok (.aload_n 0, 1) := by decide +kernel
theorem d_X_makeReadPicture_6 : decode prog_1_method_29_code 6 = .ok (.getfield 43, 3) := by decide +kernel
theorem d_X_makeReadPicture_9 : decode prog_1_method_29_code 9 = .ok (.iconst 0, 1) := by decide +kernel
theorem d_X_makeReadPicture_10 : decode prog_1_method_29_code 10 = .ok (.sipush 256, 3) := by decide +kernel
theorem d_X_makeReadPicture_13 : decode prog_1_method_29_code 13 = .ok (.invokestatic 210, 3) := by decide +kernel
theorem d_X_makeReadPicture_16 : decode prog_1_method_29_code 16 = .ok (.aload_n 0, 1) := by decide +kernel
theorem d_X_makeReadPicture_17 : decode prog_1_method_29_code 17 = .ok (.getfield 30, 3) := by decide +kernel
theorem d_X_makeReadPicture_20 : decode prog_1_method_29_code 20 = .ok (.aload_n 0, 1) := by decide +kernel
theorem d_X_makeReadPicture_21 : decode prog_1_method_29_code 21 = .ok (.getfield 43, 3) := by decide +kernel
theorem d_X_makeReadPicture_24 : decode prog_1_method_29_code 24 = .ok (.aload_n 0, 1) := by decide +kernel
theorem d_X_makeReadPicture_25 : decode prog_1_method_29_code 25 = .ok (.getfield 16, 3) := by decide +kernel
theorem d_X_makeReadPicture_28 : decode prog_1_method_29_code 28 = .ok (.aload_n 0, 1) := by decide +kernel
theorem d_X_makeReadPicture_29 : decode prog_1_method_29_code 29 = .ok (.getfield 23, 3) := by decide +kernel
theorem d_X_makeReadPicture_32 : decode prog_1_method_29_code 32 = .ok (.invokevirtual 216, 3) := by decide +kernel
theorem d_X_makeReadPicture_35 : decode prog_1_method_29_code 35 = .ok (.iconst 0, 1) := by decide +kernel
theorem d_X_makeReadPicture_36 : decode prog_1_method_29_code 36 = .ok (.istore_n 1, 1) := by decide +kernel
theorem d_X_makeReadPicture_37 : decode prog_1_method_29_code 37 = .ok (.iload_n 1, 1) := by decide +kernel
theorem d_X_makeReadPicture_38 : decode prog_1_method_29_code 38 = .ok (.aload_n 0, 1) := by decide +kernel
theorem d_X_makeReadPicture_39 : decode prog_1_method_29_code 39 = .ok (.getfield 76, 3) := by decide +kernel
theorem d_X_makeReadPicture_42 : decode prog_1_method_29_code 42 = .ok (.if_icmp .ge 51, 3) := by decide +kernel
theorem d_X_makeReadPicture_45 : decode prog_1_method_29_code 45 = .ok (.iconst 0, 1) := by decide +kernel
theorem d_X_makeReadPicture_46 : decode prog_1_method_29_code 46 = .ok (.istore_n 2, 1) := by decide +kernel
theorem d_X_makeReadPicture_47 : decode prog_1_method_29_code 47 = .ok (.iload_n 2, 1) := by decide +kernel
theorem d_X_makeReadPicture_48 : decode prog_1_method_29_code 48 = .ok (.aload_n 0, 1) := by decide +kernel
theorem d_X_makeReadPicture_49 : decode prog_1_method_29_code 49 = .ok (.getfield 72, 3) := by decide +kernel
theorem d_X_makeReadPicture_52 : decode prog_1_method_29_code 52 = .ok (.if_icmp .ge 35, 3) := by decide +kernel
theorem d_X_makeReadPicture_55 : decode prog_1_method_29_code 55 = .ok (.aload_n 0, 1) := by decide +kernel
theorem d_X_makeReadPicture_56 : decode prog_1_method_29_code 56 = .ok (.getfield 60, 3) := by decide +kernel
theorem d_X_makeReadPicture_59 : decode prog_1_method_29_code 59 = .ok (.iload_n 1, 1) := by decide +kernel
theorem d_X_makeReadPicture_60 : decode prog_1_method_29_code 60 = .ok (.bipush 16, 2) := by decide +kernel
theorem d_X_makeReadPicture_62 : decode prog_1_method_29_code 62 = .ok (.imul, 1) := by decide +kernel
theorem d_X_makeReadPicture_63 : decode prog_1_method_29_code 63 = .ok (.iload_n 2, 1) := by decide +kernel
theorem d_X_makeReadPicture_64 : decode prog_1_method_29_code 64 = .ok (.iadd, 1) := by decide +kernel
theorem d_X_makeReadPicture_65 : decode prog_1_method_29_code 65 = .ok (.aload_n 0, 1) := by decide +kernel
theorem d_X_makeReadPicture_66 : decode prog_1_method_29_code 66 = .ok (.getfield 43, 3) := by decide +kernel
theorem d_X_makeReadPicture_69 : decode prog_1_method_29_code 69 = .ok (.iload_n 1, 1) := by decide +kernel
theorem d_X_makeReadPicture_70 : decode prog_1_method_29_code 70 = .ok (.bipush 16, 2) := by decide +kernel
theorem d_X_makeReadPicture_72 : decode prog_1_method_29_code 72 = .ok (.imul, 1) := by decide +kernel
theorem d_X_makeReadPicture_73 : decode prog_1_method_29_code 73 = .ok (.iload_n 2, 1) := by decide +kernel
theorem d_X_makeReadPicture_74 : decode prog_1_method_29_code 74 = .ok (.iadd, 1) := by decide +kernel
theorem d_X_makeReadPicture_75 : decode prog_1_method_29_code 75 = .ok (.laload, 1) := by decide +kernel
theorem d_X_makeReadPicture_76 : decode prog_1_method_29_code 76 = .ok (.invokestatic 95, 3) := by decide +kernel
theorem d_X_makeReadPicture_79 : decode prog_1_method_29_code 79 = .ok (.l2i, 1) := by decide +kernel
theorem d_X_makeReadPicture_80 : decode prog_1_method_29_code 80 = .ok (.iastore, 1) := by decide +kernel
theorem d_X_makeReadPicture_81 : decode prog_1_method_29_code 81 = .ok (.iinc 2 1, 3) := by decide +kernel
theorem d_X_makeReadPicture_84 : decode prog_1_method_29_code 84 = .ok (.goto (-37), 3) := by decide +kernel
theorem d_X_makeReadPicture_87 : decode prog_1_method_29_code 87 = .ok (.iinc 1 1, 3) := by decide +kernel
theorem d_X_makeReadPicture_90 : decode prog_1_method_29_code 90 = .ok (.goto (-53), 3) := by decide +kernel
theorem d_X_makeReadPicture_93 : decode prog_1_method_29_code 93 = .ok (.return_, 1) := by decide +kernel
abbrev w_X_ease : List Cond := Cond.code y_X_ease prog_1_method_7_code 3 (some .boolean) :: wl
abbrev r_X_ease : Room := { frames := 1, cells := 0, slots := 0, locals := 22 }
set_option maxHeartbeats 4000000 in
set_option maxRecDepth 100000 in
theorem c_X_ease (l : Launch) (G : k_G) (sz : Nat) (rX rP rS rL rT rC ra rv rRC rRP rE : Nat) (b0 m0 wd ht sth rth kd db ew ac dn pr nu de : Int) (es : Int → Int) (h_b0 : -2147483648 ≤ b0 ∧ b0 < 2147483648) (h_m0 : -2147483648 ≤ m0 ∧ m0 < 2147483648) (hde : 0 ≤ db ∧ db ≤ 2 ∧ 0 ≤ ew ∧ ew ≤ 2 ∧ db + ew ≤ 3) : Met l y_X_ease w_X_ease r_X_ease (k_P G [.ref rX, .int (iv (b0)), .int (iv (m0))] [(rX, .inr (6, [.int (iv (wd)), .int (iv (ht)), .ref rP, .ref rS, .ref rL, .ref rT, .ref rC, .ref ra, .ref rv, .int (iv (sth)), .int (iv (rth)), .ref rRC, .ref rRP])), (rS, .inr (3, [.int (iv (kd)), .int (iv (db)), .int (iv (ew)), .int (iv (ac)), .int (iv (dn)), .int (iv (pr)), .ref rE, .int (iv (nu)), .int (iv (de))])), (rE, ai (gI G) 8 (es))] sz) (qi G (fun (r : Int32) (u : Int × (Int → Int) × Int × Int) => r = iv (u.1) ∧ (u = if (0 ≤ b0 ∧ b0 ≤ nBd db ew - 1) ∧ 0 ≤ m0 ∧ m0 ≤ 15 then (1, up es b0 m0, 0, 0) else (0, es, sth, rth))) (fun u : Int × (Int → Int) × Int × Int => [(rX, .inr (6, [.int (iv (wd)), .int (iv (ht)), .ref rP, .ref rS, .ref rL, .ref rT, .ref rC, .ref ra, .ref rv, .int (iv (u.2.2.1)), .int (iv (u.2.2.2)), .ref rRC, .ref rRP])), (rS, .inr (3, [.int (iv (kd)), .int (iv (db)), .int (iv (ew)), .int (iv (ac)), .int (iv (dn)), .int (iv (pr)), .ref rE, .int (iv (nu)), .int (iv (de))])), (rE, ai (gI G) 8 (u.2.1))]) (va_A [(rX, .inr (6, [.int (iv (wd)), .int (iv (ht)), .ref rP, .ref rS, .ref rL, .ref rT, .ref rC, .ref ra, .ref rv, .int (iv (sth)), .int (iv (rth)), .ref rRC, .ref rRP])), (rS, .inr (3, [.int (iv (kd)), .int (iv (db)), .int (iv (ew)), .int (iv (ac)), .int (iv (dn)), .int (iv (pr)), .ref rE, .int (iv (nu)), .int (iv (de))])), (rE, ai (gI G) 8 (es))] sz)) 0 0 (va_A [(rX, .inr (6, [.int (iv (wd)), .int (iv (ht)), .ref rP, .ref rS, .ref rL, .ref rT, .ref rC, .ref ra, .ref rv, .int (iv (sth)), .int (iv (rth)), .ref rRC, .ref rRP])), (rS, .inr (3, [.int (iv (kd)), .int (iv (db)), .int (iv (ew)), .int (iv (ac)), .int (iv (dn)), .int (iv (pr)), .ref rE, .int (iv (nu)), .int (iv (de))])), (rE, ai (gI G) 8 (es))] sz) := by
  refine k_met (fun A => qi G (fun (r : Int32) (u : Int × (Int → Int) × Int × Int) => r = iv (u.1) ∧ (u = if (0 ≤ b0 ∧ b0 ≤ nBd db ew - 1) ∧ 0 ≤ m0 ∧ m0 ≤ 15 then (1, up es b0 m0, 0, 0) else (0, es, sth, rth))) (fun u : Int × (Int → Int) × Int × Int => [(rX, .inr (6, [.int (iv (wd)), .int (iv (ht)), .ref rP, .ref rS, .ref rL, .ref rT, .ref rC, .ref ra, .ref rv, .int (iv (u.2.2.1)), .int (iv (u.2.2.2)), .ref rRC, .ref rRP])), (rS, .inr (3, [.int (iv (kd)), .int (iv (db)), .int (iv (ew)), .int (iv (ac)), .int (iv (dn)), .int (iv (pr)), .ref rE, .int (iv (nu)), .int (iv (de))])), (rE, ai (gI G) 8 (u.2.1))]) A) (fun A => A) (by decide) rfl (Nat.le_of_ble_eq_true rfl) (fun p e s m args below meth c ls A Q S hr hlk hnm hl hsz hP hK hD hS hA hT hQ => ?_)
  obtain ⟨hx, hb, hml, hown, hts⟩ := id S
  have hw : ∀ w ∈ wl, w.before args s = true := fun w h => hts w (List.mem_cons_of_mem _ h)
  have hl : lv_has ls 3 [(0, .ref rX), (1, .int (iv (b0))), (2, .int (iv (m0)))] := hl
  have n1 : nBd db ew = 1 + ew + 3 * db := rfl
  refine lv_iload_n hx hb d_X_ease_0 rfl (lv_at hl 1 rfl) ?_
  refine lv_iconst (v := iv (0)) hx hb d_X_ease_1 rfl ?_
  refine lv_aload_n hx hb d_X_ease_2 rfl (lv_at hl 0 rfl) ?_
  refine va_get (D := gD G) (ci := 6) (v := .ref rS) (C := R_X) (T := F_X) (N := 13) hx hb hw in_X hown hK hP 0 rfl rfl 3 (by decide) (hw _ m2_7) (fun _ h => h) rfl d_X_ease_3 ?_
  refine k_ciR (k_rv S (c_Setup_bandCount l G _ rS rE kd db ew ac dn pr nu de ) 0 m2_96 m2_93 m2_94 m2_95 m1_2 (by decide +kernel) (by decide) rfl rfl (k_preV (q0 := 1) hK hP hD hS hA hT rfl rfl [1] (by decide) rfl) rfl hl.1 rfl (Nat.le_of_ble_eq_true rfl) d_X_ease_6 ⟨Nat.le_of_ble_eq_true rfl, Nat.le_of_ble_eq_true rfl⟩) (fun r6 h6 => ?_)
  subst h6
  refine lv_iconst (v := iv (1)) hx hb d_X_ease_9 rfl ?_
  refine k_isub hx hb d_X_ease_10 ?_
  refine k_ciR (k_rs S (c_X_within l G _ b0 0 ((1 + ew + 3 * db) - 1) (by omega) (by omega) (by omega)) 3 m2_54 m2_52 m2_53 m1_1 (by decide +kernel) (by decide) rfl rfl (k_preS hK hP hD hS hA hT [] (by decide) rfl) rfl hl.1 rfl (Nat.le_of_ble_eq_true rfl) d_X_ease_11 ⟨Nat.le_of_ble_eq_true rfl, Nat.le_of_ble_eq_true rfl⟩) (fun r11 h11 => ?_)
  subst h11
  refine k_ifb_eq (tgt := 27) hx hb d_X_ease_14 (by decide) (fun hc14 => ?_) (fun hc14 => ?_)
  · refine lv_iconst (v := iv (0)) hx hb d_X_ease_27 rfl ?_
    exact k_zret hx hb hr hlk (by omega) hQ ((0, es, sth, rth)) (⟨rfl, by first | rw [if_pos (by omega)] | rw [if_neg (by omega)]⟩) hP hD hS d_X_ease_28
  · refine lv_iload_n hx hb d_X_ease_17 rfl (lv_at hl 2 rfl) ?_
    refine lv_iconst (v := iv (0)) hx hb d_X_ease_18 rfl ?_
    refine lv_bipush (v := iv (15)) hx hb d_X_ease_19 rfl ?_
    refine k_ciR (k_rs S (c_X_within l G _ m0 0 15 (by omega) (by omega) (by omega)) 3 m2_54 m2_52 m2_53 m1_1 (by decide +kernel) (by decide) rfl rfl (k_preS hK hP hD hS hA hT [] (by decide) rfl) rfl hl.1 rfl (Nat.le_of_ble_eq_true rfl) d_X_ease_21 ⟨Nat.le_of_ble_eq_true rfl, Nat.le_of_ble_eq_true rfl⟩) (fun r21 h21 => ?_)
    subst h21
    refine k_ifb_ne (tgt := 29) hx hb d_X_ease_24 (by decide) (fun hc24 => ?_) (fun hc24 => ?_)
    · refine lv_aload_n hx hb d_X_ease_29 rfl (lv_at hl 0 rfl) ?_
      refine va_get (D := gD G) (ci := 6) (v := .ref rS) (C := R_X) (T := F_X) (N := 13) hx hb hw in_X hown hK hP 0 rfl rfl 3 (by decide) (hw _ m2_7) (fun _ h => h) rfl d_X_ease_30 ?_
      refine va_get (D := gD G) (ci := 3) (v := .ref rE) (C := R_Setup) (T := F_Setup) (N := 9) hx hb hw in_Setup hown hK hP 1 rfl rfl 6 (by decide) (hw _ m1_46) (fun _ h => h) rfl d_X_ease_33 ?_
      refine lv_iload_n hx hb d_X_ease_36 rfl (lv_at hl 1 rfl) ?_
      refine lv_iload_n hx hb d_X_ease_37 rfl (lv_at hl 2 rfl) ?_
      refine k_ias hx hb hK hP hD hS 2 0 rfl rfl (by decide) (by omega) d_X_ease_38 (fun H locs hP hD hS => ?_)
      have hP : va_P (gD G) classes [(rX, .inr (6, [.int (iv (wd)), .int (iv (ht)), .ref rP, .ref rS, .ref rL, .ref rT, .ref rC, .ref ra, .ref rv, .int (iv (sth)), .int (iv (rth)), .ref rRC, .ref rRP])), (rS, .inr (3, [.int (iv (kd)), .int (iv (db)), .int (iv (ew)), .int (iv (ac)), .int (iv (dn)), .int (iv (pr)), .ref rE, .int (iv (nu)), .int (iv (de))])), (rE, ai (gI G) 8 (up es b0 m0))] H := hP
      have hD : va_D A [(rX, .inr (6, [.int (iv (wd)), .int (iv (ht)), .ref rP, .ref rS, .ref rL, .ref rT, .ref rC, .ref ra, .ref rv, .int (iv (sth)), .int (iv (rth)), .ref rRC, .ref rRP])), (rS, .inr (3, [.int (iv (kd)), .int (iv (db)), .int (iv (ew)), .int (iv (ac)), .int (iv (dn)), .int (iv (pr)), .ref rE, .int (iv (nu)), .int (iv (de))])), (rE, ai (gI G) 8 (up es b0 m0))] := hD
      refine lv_aload_n hx hb d_X_ease_39 rfl (lv_at hl 0 rfl) ?_
      refine k_cv (wz := fun u : Int × Int => [(rX, .inr (6, [.int (iv (wd)), .int (iv (ht)), .ref rP, .ref rS, .ref rL, .ref rT, .ref rC, .ref ra, .ref rv, .int (iv (u.1)), .int (iv (u.2)), .ref rRC, .ref rRP])), (rS, .inr (3, [.int (iv (kd)), .int (iv (db)), .int (iv (ew)), .int (iv (ac)), .int (iv (dn)), .int (iv (pr)), .ref rE, .int (iv (nu)), .int (iv (de))])), (rE, ai (gI G) 8 (up es b0 m0))]) (wr := [(rS, .inr (3, [.int (iv (kd)), .int (iv (db)), .int (iv (ew)), .int (iv (ac)), .int (iv (dn)), .int (iv (pr)), .ref rE, .int (iv (nu)), .int (iv (de))])), (rE, ai (gI G) 8 (up es b0 m0))]) (k_rv S (c_X_forget l G _ rX rP rS rL rT rC ra rv rRC rRP wd ht sth rth ) 0 m2_84 m2_81 m2_83 mp_3 m1_1 (by decide +kernel) (by decide) rfl rfl (k_preV (q0 := 0) hK hP hD hS hA hT rfl rfl [0] (by decide) rfl) rfl hl.1 rfl (Nat.le_of_ble_eq_true rfl) d_X_ease_40 ⟨Nat.le_of_ble_eq_true rfl, Nat.le_of_ble_eq_true rfl⟩) hP hD hS hA [0] [1, 2] [2, 0, 1] rfl rfl (by decide) (by decide) (by decide) (fun _ => rfl) (fun u40 H locs h40 hP hD hS => ?_)
      subst h40
      have hP : va_P (gD G) classes [(rX, .inr (6, [.int (iv (wd)), .int (iv (ht)), .ref rP, .ref rS, .ref rL, .ref rT, .ref rC, .ref ra, .ref rv, .int (iv (0)), .int (iv (0)), .ref rRC, .ref rRP])), (rS, .inr (3, [.int (iv (kd)), .int (iv (db)), .int (iv (ew)), .int (iv (ac)), .int (iv (dn)), .int (iv (pr)), .ref rE, .int (iv (nu)), .int (iv (de))])), (rE, ai (gI G) 8 (up es b0 m0))] H := hP
      have hD : va_D A [(rX, .inr (6, [.int (iv (wd)), .int (iv (ht)), .ref rP, .ref rS, .ref rL, .ref rT, .ref rC, .ref ra, .ref rv, .int (iv (0)), .int (iv (0)), .ref rRC, .ref rRP])), (rS, .inr (3, [.int (iv (kd)), .int (iv (db)), .int (iv (ew)), .int (iv (ac)), .int (iv (dn)), .int (iv (pr)), .ref rE, .int (iv (nu)), .int (iv (de))])), (rE, ai (gI G) 8 (up es b0 m0))] := hD
      refine lv_iconst (v := iv (1)) hx hb d_X_ease_43 rfl ?_
      exact k_zret hx hb hr hlk (by omega) hQ ((1, up es b0 m0, 0, 0)) (⟨rfl, by first | rw [if_pos (by omega)] | rw [if_neg (by omega)]⟩) hP hD hS d_X_ease_44
    · refine lv_iconst (v := iv (0)) hx hb d_X_ease_27 rfl ?_
      exact k_zret hx hb hr hlk (by omega) hQ ((0, es, sth, rth)) (⟨rfl, by first | rw [if_pos (by omega)] | rw [if_neg (by omega)]⟩) hP hD hS d_X_ease_28
abbrev w_X_rate : List Cond := Cond.code y_X_rate prog_1_method_8_code 3 (some .boolean) :: wl
abbrev r_X_rate : Room := { frames := 1, cells := 0, slots := 0, locals := 22 }
set_option maxHeartbeats 4000000 in
set_option maxRecDepth 100000 in
theorem c_X_rate (l : Launch) (G : k_G) (sz : Nat) (rX rP rS rL rT rC ra rv rRC rRP rE : Nat) (n1 d1 wd ht sth rth kd db ew ac dn pr nu de : Int) (h_n1 : -2147483648 ≤ n1 ∧ n1 < 2147483648) (h_d1 : -2147483648 ≤ d1 ∧ d1 < 2147483648) : Met l y_X_rate w_X_rate r_X_rate (k_P G [.ref rX, .int (iv (n1)), .int (iv (d1))] [(rX, .inr (6, [.int (iv (wd)), .int (iv (ht)), .ref rP, .ref rS, .ref rL, .ref rT, .ref rC, .ref ra, .ref rv, .int (iv (sth)), .int (iv (rth)), .ref rRC, .ref rRP])), (rS, .inr (3, [.int (iv (kd)), .int (iv (db)), .int (iv (ew)), .int (iv (ac)), .int (iv (dn)), .int (iv (pr)), .ref rE, .int (iv (nu)), .int (iv (de))]))] sz) (qi G (fun (r : Int32) (u : Int × Int × Int × Int × Int) => r = iv (u.1) ∧ (u = if (1 ≤ d1 ∧ d1 ≤ 64) ∧ 2 * d1 ≤ n1 ∧ n1 ≤ 128 * d1 then (1, n1, d1, 0, 0) else (0, nu, de, sth, rth))) (fun u : Int × Int × Int × Int × Int => [(rX, .inr (6, [.int (iv (wd)), .int (iv (ht)), .ref rP, .ref rS, .ref rL, .ref rT, .ref rC, .ref ra, .ref rv, .int (iv (u.2.2.2.1)), .int (iv (u.2.2.2.2)), .ref rRC, .ref rRP])), (rS, .inr (3, [.int (iv (kd)), .int (iv (db)), .int (iv (ew)), .int (iv (ac)), .int (iv (dn)), .int (iv (pr)), .ref rE, .int (iv (u.2.1)), .int (iv (u.2.2.1))]))]) (va_A [(rX, .inr (6, [.int (iv (wd)), .int (iv (ht)), .ref rP, .ref rS, .ref rL, .ref rT, .ref rC, .ref ra, .ref rv, .int (iv (sth)), .int (iv (rth)), .ref rRC, .ref rRP])), (rS, .inr (3, [.int (iv (kd)), .int (iv (db)), .int (iv (ew)), .int (iv (ac)), .int (iv (dn)), .int (iv (pr)), .ref rE, .int (iv (nu)), .int (iv (de))]))] sz)) 0 0 (va_A [(rX, .inr (6, [.int (iv (wd)), .int (iv (ht)), .ref rP, .ref rS, .ref rL, .ref rT, .ref rC, .ref ra, .ref rv, .int (iv (sth)), .int (iv (rth)), .ref rRC, .ref rRP])), (rS, .inr (3, [.int (iv (kd)), .int (iv (db)), .int (iv (ew)), .int (iv (ac)), .int (iv (dn)), .int (iv (pr)), .ref rE, .int (iv (nu)), .int (iv (de))]))] sz) := by
  refine k_met (fun A => qi G (fun (r : Int32) (u : Int × Int × Int × Int × Int) => r = iv (u.1) ∧ (u = if (1 ≤ d1 ∧ d1 ≤ 64) ∧ 2 * d1 ≤ n1 ∧ n1 ≤ 128 * d1 then (1, n1, d1, 0, 0) else (0, nu, de, sth, rth))) (fun u : Int × Int × Int × Int × Int => [(rX, .inr (6, [.int (iv (wd)), .int (iv (ht)), .ref rP, .ref rS, .ref rL, .ref rT, .ref rC, .ref ra, .ref rv, .int (iv (u.2.2.2.1)), .int (iv (u.2.2.2.2)), .ref rRC, .ref rRP])), (rS, .inr (3, [.int (iv (kd)), .int (iv (db)), .int (iv (ew)), .int (iv (ac)), .int (iv (dn)), .int (iv (pr)), .ref rE, .int (iv (u.2.1)), .int (iv (u.2.2.1))]))]) A) (fun A => A) (by decide) rfl (Nat.le_of_ble_eq_true rfl) (fun p e s m args below meth c ls A Q S hr hlk hnm hl hsz hP hK hD hS hA hT hQ => ?_)
  obtain ⟨hx, hb, hml, hown, hts⟩ := id S
  have hw : ∀ w ∈ wl, w.before args s = true := fun w h => hts w (List.mem_cons_of_mem _ h)
  have hl : lv_has ls 3 [(0, .ref rX), (1, .int (iv (n1))), (2, .int (iv (d1)))] := hl
  refine lv_iload_n hx hb d_X_rate_0 rfl (lv_at hl 2 rfl) ?_
  refine lv_iconst (v := iv (1)) hx hb d_X_rate_1 rfl ?_
  refine lv_bipush (v := iv (64)) hx hb d_X_rate_2 rfl ?_
  refine k_ciR (k_rs S (c_X_within l G _ d1 1 64 (by omega) (by omega) (by omega)) 3 m2_54 m2_52 m2_53 m1_1 (by decide +kernel) (by decide) rfl rfl (k_preS hK hP hD hS hA hT [] (by decide) rfl) rfl hl.1 rfl (Nat.le_of_ble_eq_true rfl) d_X_rate_4 ⟨Nat.le_of_ble_eq_true rfl, Nat.le_of_ble_eq_true rfl⟩) (fun r4 h4 => ?_)
  subst h4
  refine k_ifb_eq (tgt := 25) hx hb d_X_rate_7 (by decide) (fun hc7 => ?_) (fun hc7 => ?_)
  · refine lv_iconst (v := iv (0)) hx hb d_X_rate_25 rfl ?_
    exact k_zret hx hb hr hlk (by omega) hQ ((0, nu, de, sth, rth)) (⟨rfl, by first | rw [if_pos (by omega)] | rw [if_neg (by omega)]⟩) hP hD hS d_X_rate_26
  · refine lv_iload_n hx hb d_X_rate_10 rfl (lv_at hl 1 rfl) ?_
    refine lv_iconst (v := iv (2)) hx hb d_X_rate_11 rfl ?_
    refine lv_iload_n hx hb d_X_rate_12 rfl (lv_at hl 2 rfl) ?_
    refine k_imul hx hb d_X_rate_13 ?_
    refine lv_sipush (v := iv (128)) hx hb d_X_rate_14 rfl ?_
    refine lv_iload_n hx hb d_X_rate_17 rfl (lv_at hl 2 rfl) ?_
    refine k_imul hx hb d_X_rate_18 ?_
    refine k_ciR (k_rs S (c_X_within l G _ n1 (2 * d1) (128 * d1) (by omega) (by omega) (by omega)) 3 m2_54 m2_52 m2_53 m1_1 (by decide +kernel) (by decide) rfl rfl (k_preS hK hP hD hS hA hT [] (by decide) rfl) rfl hl.1 rfl (Nat.le_of_ble_eq_true rfl) d_X_rate_19 ⟨Nat.le_of_ble_eq_true rfl, Nat.le_of_ble_eq_true rfl⟩) (fun r19 h19 => ?_)
    subst h19
    refine k_ifb_ne (tgt := 27) hx hb d_X_rate_22 (by decide) (fun hc22 => ?_) (fun hc22 => ?_)
    · refine lv_aload_n hx hb d_X_rate_27 rfl (lv_at hl 0 rfl) ?_
      refine va_get (D := gD G) (ci := 6) (v := .ref rS) (C := R_X) (T := F_X) (N := 13) hx hb hw in_X hown hK hP 0 rfl rfl 3 (by decide) (hw _ m2_7) (fun _ h => h) rfl d_X_rate_28 ?_
      refine lv_iload_n hx hb d_X_rate_31 rfl (lv_at hl 1 rfl) ?_
      refine va_put (D := gD G) (ci := 3) (v := .int (iv (n1))) (ty := .int) (C := R_Setup) (T := F_Setup) (N := 9) hx hb hw in_Setup t_Setup t_Setup_ok n_Setup hown hK hP hD hS 1 rfl rfl 7 (by decide) (hw _ m1_49) (fun _ h => h) rfl (by decide +kernel) rfl rfl (Nat.le_of_ble_eq_true rfl) d_X_rate_32 (fun H locs hP hD hS => ?_)
      have hP : va_P (gD G) classes [(rX, .inr (6, [.int (iv (wd)), .int (iv (ht)), .ref rP, .ref rS, .ref rL, .ref rT, .ref rC, .ref ra, .ref rv, .int (iv (sth)), .int (iv (rth)), .ref rRC, .ref rRP])), (rS, .inr (3, [.int (iv (kd)), .int (iv (db)), .int (iv (ew)), .int (iv (ac)), .int (iv (dn)), .int (iv (pr)), .ref rE, .int (iv (n1)), .int (iv (de))]))] H := hP
      have hD : va_D A [(rX, .inr (6, [.int (iv (wd)), .int (iv (ht)), .ref rP, .ref rS, .ref rL, .ref rT, .ref rC, .ref ra, .ref rv, .int (iv (sth)), .int (iv (rth)), .ref rRC, .ref rRP])), (rS, .inr (3, [.int (iv (kd)), .int (iv (db)), .int (iv (ew)), .int (iv (ac)), .int (iv (dn)), .int (iv (pr)), .ref rE, .int (iv (n1)), .int (iv (de))]))] := hD
      refine lv_aload_n hx hb d_X_rate_35 rfl (lv_at hl 0 rfl) ?_
      refine va_get (D := gD G) (ci := 6) (v := .ref rS) (C := R_X) (T := F_X) (N := 13) hx hb hw in_X hown hK hP 0 rfl rfl 3 (by decide) (hw _ m2_7) (fun _ h => h) rfl d_X_rate_36 ?_
      refine lv_iload_n hx hb d_X_rate_39 rfl (lv_at hl 2 rfl) ?_
      refine va_put (D := gD G) (ci := 3) (v := .int (iv (d1))) (ty := .int) (C := R_Setup) (T := F_Setup) (N := 9) hx hb hw in_Setup t_Setup t_Setup_ok n_Setup hown hK hP hD hS 1 rfl rfl 8 (by decide) (hw _ m1_51) (fun _ h => h) rfl (by decide +kernel) rfl rfl (Nat.le_of_ble_eq_true rfl) d_X_rate_40 (fun H locs hP hD hS => ?_)
      have hP : va_P (gD G) classes [(rX, .inr (6, [.int (iv (wd)), .int (iv (ht)), .ref rP, .ref rS, .ref rL, .ref rT, .ref rC, .ref ra, .ref rv, .int (iv (sth)), .int (iv (rth)), .ref rRC, .ref rRP])), (rS, .inr (3, [.int (iv (kd)), .int (iv (db)), .int (iv (ew)), .int (iv (ac)), .int (iv (dn)), .int (iv (pr)), .ref rE, .int (iv (n1)), .int (iv (d1))]))] H := hP
      have hD : va_D A [(rX, .inr (6, [.int (iv (wd)), .int (iv (ht)), .ref rP, .ref rS, .ref rL, .ref rT, .ref rC, .ref ra, .ref rv, .int (iv (sth)), .int (iv (rth)), .ref rRC, .ref rRP])), (rS, .inr (3, [.int (iv (kd)), .int (iv (db)), .int (iv (ew)), .int (iv (ac)), .int (iv (dn)), .int (iv (pr)), .ref rE, .int (iv (n1)), .int (iv (d1))]))] := hD
      refine lv_aload_n hx hb d_X_rate_43 rfl (lv_at hl 0 rfl) ?_
      refine k_cv (wz := fun u : Int × Int => [(rX, .inr (6, [.int (iv (wd)), .int (iv (ht)), .ref rP, .ref rS, .ref rL, .ref rT, .ref rC, .ref ra, .ref rv, .int (iv (u.1)), .int (iv (u.2)), .ref rRC, .ref rRP])), (rS, .inr (3, [.int (iv (kd)), .int (iv (db)), .int (iv (ew)), .int (iv (ac)), .int (iv (dn)), .int (iv (pr)), .ref rE, .int (iv (n1)), .int (iv (d1))]))]) (wr := [(rS, .inr (3, [.int (iv (kd)), .int (iv (db)), .int (iv (ew)), .int (iv (ac)), .int (iv (dn)), .int (iv (pr)), .ref rE, .int (iv (n1)), .int (iv (d1))]))]) (k_rv S (c_X_forget l G _ rX rP rS rL rT rC ra rv rRC rRP wd ht sth rth ) 0 m2_84 m2_81 m2_83 mp_3 m1_1 (by decide +kernel) (by decide) rfl rfl (k_preV (q0 := 0) hK hP hD hS hA hT rfl rfl [0] (by decide) rfl) rfl hl.1 rfl (Nat.le_of_ble_eq_true rfl) d_X_rate_44 ⟨Nat.le_of_ble_eq_true rfl, Nat.le_of_ble_eq_true rfl⟩) hP hD hS hA [0] [1] [1, 0] rfl rfl (by decide) (by decide) (by decide) (fun _ => rfl) (fun u44 H locs h44 hP hD hS => ?_)
      subst h44
      have hP : va_P (gD G) classes [(rX, .inr (6, [.int (iv (wd)), .int (iv (ht)), .ref rP, .ref rS, .ref rL, .ref rT, .ref rC, .ref ra, .ref rv, .int (iv (0)), .int (iv (0)), .ref rRC, .ref rRP])), (rS, .inr (3, [.int (iv (kd)), .int (iv (db)), .int (iv (ew)), .int (iv (ac)), .int (iv (dn)), .int (iv (pr)), .ref rE, .int (iv (n1)), .int (iv (d1))]))] H := hP
      have hD : va_D A [(rX, .inr (6, [.int (iv (wd)), .int (iv (ht)), .ref rP, .ref rS, .ref rL, .ref rT, .ref rC, .ref ra, .ref rv, .int (iv (0)), .int (iv (0)), .ref rRC, .ref rRP])), (rS, .inr (3, [.int (iv (kd)), .int (iv (db)), .int (iv (ew)), .int (iv (ac)), .int (iv (dn)), .int (iv (pr)), .ref rE, .int (iv (n1)), .int (iv (d1))]))] := hD
      refine lv_iconst (v := iv (1)) hx hb d_X_rate_47 rfl ?_
      exact k_zret hx hb hr hlk (by omega) hQ ((1, n1, d1, 0, 0)) (⟨rfl, by first | rw [if_pos (by omega)] | rw [if_neg (by omega)]⟩) hP hD hS d_X_rate_48
    · refine lv_iconst (v := iv (0)) hx hb d_X_rate_25 rfl ?_
      exact k_zret hx hb hr hlk (by omega) hQ ((0, nu, de, sth, rth)) (⟨rfl, by first | rw [if_pos (by omega)] | rw [if_neg (by omega)]⟩) hP hD hS d_X_rate_26
abbrev w_X_slices : List Cond := Cond.code y_X_slices prog_1_method_6_code 4 (some .boolean) :: wl
abbrev r_X_slices : Room := { frames := 2, cells := 0, slots := 0, locals := 55 }
set_option maxHeartbeats 4000000 in
set_option maxRecDepth 100000 in
theorem c_X_slices (l : Launch) (G : k_G) (sz : Nat) (rX rP rS rL rT rC ra rv rRC rRP rE rl rt rw rh rf rp rb : Nat) (a1 d1 p1 wd ht sth rth kd db ew ac dn pr nu de cP cQ nb : Int) (gl gt gw gh gf gp gb : Int → Int) (h_a1 : -2147483648 ≤ a1 ∧ a1 < 2147483648) (h_d1 : -2147483648 ≤ d1 ∧ d1 < 2147483648) (hp1 : p1 = 0 ∨ p1 = 1) (hde : 0 ≤ db ∧ db ≤ 2 ∧ 0 ≤ ew ∧ ew ≤ 2 ∧ db + ew ≤ 3) (hcP : 0 ≤ cP ∧ cP ≤ 16) (hcQ : 0 ≤ cQ ∧ cQ ≤ 16) (hB : okB cP cQ db ew nb gl gt gw gh) : Met l y_X_slices w_X_slices r_X_slices (k_P G [.ref rX, .int (iv (a1)), .int (iv (d1)), .int (iv (p1))] [(rX, .inr (6, [.int (iv (wd)), .int (iv (ht)), .ref rP, .ref rS, .ref rL, .ref rT, .ref rC, .ref ra, .ref rv, .int (iv (sth)), .int (iv (rth)), .ref rRC, .ref rRP])), (rS, .inr (3, [.int (iv (kd)), .int (iv (db)), .int (iv (ew)), .int (iv (ac)), .int (iv (dn)), .int (iv (pr)), .ref rE, .int (iv (nu)), .int (iv (de))])), (rL, .inr (1, [.int (iv (cP)), .int (iv (cQ)), .int (iv (nb)), .ref rl, .ref rt, .ref rw, .ref rh, .ref rf, .ref rp, .ref rb])), (rl, ai (gI G) 8 (gl)), (rt, ai (gI G) 8 (gt)), (rw, ai (gI G) 8 (gw)), (rh, ai (gI G) 8 (gh)), (rf, ai (gI G) 17 (gf)), (rp, ai (gI G) 256 (gp)), (rb, ai (gI G) 256 (gb))] sz) (qi G (fun (r : Int32) (u : Int × Int × Int × Int × (Int → Int) × (Int → Int) × (Int → Int) × Int × Int) => r = iv (u.1) ∧ (if (1 ≤ a1 ∧ a1 ≤ 4) ∧ 1 ≤ d1 ∧ d1 ≤ 4 then u.1 = 1 ∧ u.2.1 = a1 ∧ u.2.2.1 = d1 ∧ u.2.2.2.1 = p1 ∧ okS cP cQ db ew a1 d1 u.2.2.2.2.1 u.2.2.2.2.2.1 u.2.2.2.2.2.2.1 ∧ u.2.2.2.2.2.2.2.1 = 0 ∧ u.2.2.2.2.2.2.2.2 = 0 else u = (0, ac, dn, pr, gf, gp, gb, sth, rth))) (fun u : Int × Int × Int × Int × (Int → Int) × (Int → Int) × (Int → Int) × Int × Int => [(rX, .inr (6, [.int (iv (wd)), .int (iv (ht)), .ref rP, .ref rS, .ref rL, .ref rT, .ref rC, .ref ra, .ref rv, .int (iv (u.2.2.2.2.2.2.2.1)), .int (iv (u.2.2.2.2.2.2.2.2)), .ref rRC, .ref rRP])), (rS, .inr (3, [.int (iv (kd)), .int (iv (db)), .int (iv (ew)), .int (iv (u.2.1)), .int (iv (u.2.2.1)), .int (iv (u.2.2.2.1)), .ref rE, .int (iv (nu)), .int (iv (de))])), (rL, .inr (1, [.int (iv (cP)), .int (iv (cQ)), .int (iv (nb)), .ref rl, .ref rt, .ref rw, .ref rh, .ref rf, .ref rp, .ref rb])), (rl, ai (gI G) 8 (gl)), (rt, ai (gI G) 8 (gt)), (rw, ai (gI G) 8 (gw)), (rh, ai (gI G) 8 (gh)), (rf, ai (gI G) 17 (u.2.2.2.2.1)), (rp, ai (gI G) 256 (u.2.2.2.2.2.1)), (rb, ai (gI G) 256 (u.2.2.2.2.2.2.1))]) (va_A [(rX, .inr (6, [.int (iv (wd)), .int (iv (ht)), .ref rP, .ref rS, .ref rL, .ref rT, .ref rC, .ref ra, .ref rv, .int (iv (sth)), .int (iv (rth)), .ref rRC, .ref rRP])), (rS, .inr (3, [.int (iv (kd)), .int (iv (db)), .int (iv (ew)), .int (iv (ac)), .int (iv (dn)), .int (iv (pr)), .ref rE, .int (iv (nu)), .int (iv (de))])), (rL, .inr (1, [.int (iv (cP)), .int (iv (cQ)), .int (iv (nb)), .ref rl, .ref rt, .ref rw, .ref rh, .ref rf, .ref rp, .ref rb])), (rl, ai (gI G) 8 (gl)), (rt, ai (gI G) 8 (gt)), (rw, ai (gI G) 8 (gw)), (rh, ai (gI G) 8 (gh)), (rf, ai (gI G) 17 (gf)), (rp, ai (gI G) 256 (gp)), (rb, ai (gI G) 256 (gb))] sz)) 0 0 (va_A [(rX, .inr (6, [.int (iv (wd)), .int (iv (ht)), .ref rP, .ref rS, .ref rL, .ref rT, .ref rC, .ref ra, .ref rv, .int (iv (sth)), .int (iv (rth)), .ref rRC, .ref rRP])), (rS, .inr (3, [.int (iv (kd)), .int (iv (db)), .int (iv (ew)), .int (iv (ac)), .int (iv (dn)), .int (iv (pr)), .ref rE, .int (iv (nu)), .int (iv (de))])), (rL, .inr (1, [.int (iv (cP)), .int (iv (cQ)), .int (iv (nb)), .ref rl, .ref rt, .ref rw, .ref rh, .ref rf, .ref rp, .ref rb])), (rl, ai (gI G) 8 (gl)), (rt, ai (gI G) 8 (gt)), (rw, ai (gI G) 8 (gw)), (rh, ai (gI G) 8 (gh)), (rf, ai (gI G) 17 (gf)), (rp, ai (gI G) 256 (gp)), (rb, ai (gI G) 256 (gb))] sz) := by
  refine k_met (fun A => qi G (fun (r : Int32) (u : Int × Int × Int × Int × (Int → Int) × (Int → Int) × (Int → Int) × Int × Int) => r = iv (u.1) ∧ (if (1 ≤ a1 ∧ a1 ≤ 4) ∧ 1 ≤ d1 ∧ d1 ≤ 4 then u.1 = 1 ∧ u.2.1 = a1 ∧ u.2.2.1 = d1 ∧ u.2.2.2.1 = p1 ∧ okS cP cQ db ew a1 d1 u.2.2.2.2.1 u.2.2.2.2.2.1 u.2.2.2.2.2.2.1 ∧ u.2.2.2.2.2.2.2.1 = 0 ∧ u.2.2.2.2.2.2.2.2 = 0 else u = (0, ac, dn, pr, gf, gp, gb, sth, rth))) (fun u : Int × Int × Int × Int × (Int → Int) × (Int → Int) × (Int → Int) × Int × Int => [(rX, .inr (6, [.int (iv (wd)), .int (iv (ht)), .ref rP, .ref rS, .ref rL, .ref rT, .ref rC, .ref ra, .ref rv, .int (iv (u.2.2.2.2.2.2.2.1)), .int (iv (u.2.2.2.2.2.2.2.2)), .ref rRC, .ref rRP])), (rS, .inr (3, [.int (iv (kd)), .int (iv (db)), .int (iv (ew)), .int (iv (u.2.1)), .int (iv (u.2.2.1)), .int (iv (u.2.2.2.1)), .ref rE, .int (iv (nu)), .int (iv (de))])), (rL, .inr (1, [.int (iv (cP)), .int (iv (cQ)), .int (iv (nb)), .ref rl, .ref rt, .ref rw, .ref rh, .ref rf, .ref rp, .ref rb])), (rl, ai (gI G) 8 (gl)), (rt, ai (gI G) 8 (gt)), (rw, ai (gI G) 8 (gw)), (rh, ai (gI G) 8 (gh)), (rf, ai (gI G) 17 (u.2.2.2.2.1)), (rp, ai (gI G) 256 (u.2.2.2.2.2.1)), (rb, ai (gI G) 256 (u.2.2.2.2.2.2.1))]) A) (fun A => A) (by decide) rfl (Nat.le_of_ble_eq_true rfl) (fun p e s m args below meth c ls A Q S hr hlk hnm hl hsz hP hK hD hS hA hT hQ => ?_)
  obtain ⟨hx, hb, hml, hown, hts⟩ := id S
  have hw : ∀ w ∈ wl, w.before args s = true := fun w h => hts w (List.mem_cons_of_mem _ h)
  have hl : lv_has ls 4 [(0, .ref rX), (1, .int (iv (a1))), (2, .int (iv (d1))), (3, .int (iv (p1)))] := hl
  have kb := okB_r hB hcP hcQ hde
  refine lv_iload_n hx hb d_X_slices_0 rfl (lv_at hl 1 rfl) ?_
  refine lv_iconst (v := iv (1)) hx hb d_X_slices_1 rfl ?_
  refine lv_iconst (v := iv (4)) hx hb d_X_slices_2 rfl ?_
  refine k_ciR (k_rs S (c_X_within l G _ a1 1 4 (by omega) (by omega) (by omega)) 3 m2_54 m2_52 m2_53 m1_1 (by decide +kernel) (by decide) rfl rfl (k_preS hK hP hD hS hA hT [] (by decide) rfl) rfl hl.1 rfl (Nat.le_of_ble_eq_true rfl) d_X_slices_3 ⟨Nat.le_of_ble_eq_true rfl, Nat.le_of_ble_eq_true rfl⟩) (fun r3 h3 => ?_)
  subst h3
  refine k_ifb_eq (tgt := 18) hx hb d_X_slices_6 (by decide) (fun hc6 => ?_) (fun hc6 => ?_)
  · refine lv_iconst (v := iv (0)) hx hb d_X_slices_18 rfl ?_
    exact k_zret hx hb hr hlk (by omega) hQ ((0, ac, dn, pr, gf, gp, gb, sth, rth)) (⟨rfl, by rw [if_neg (by omega)]⟩) hP hD hS d_X_slices_19
  · refine lv_iload_n hx hb d_X_slices_9 rfl (lv_at hl 2 rfl) ?_
    refine lv_iconst (v := iv (1)) hx hb d_X_slices_10 rfl ?_
    refine lv_iconst (v := iv (4)) hx hb d_X_slices_11 rfl ?_
    refine k_ciR (k_rs S (c_X_within l G _ d1 1 4 (by omega) (by omega) (by omega)) 3 m2_54 m2_52 m2_53 m1_1 (by decide +kernel) (by decide) rfl rfl (k_preS hK hP hD hS hA hT [] (by decide) rfl) rfl hl.1 rfl (Nat.le_of_ble_eq_true rfl) d_X_slices_12 ⟨Nat.le_of_ble_eq_true rfl, Nat.le_of_ble_eq_true rfl⟩) (fun r12 h12 => ?_)
    subst h12
    refine k_ifb_ne (tgt := 20) hx hb d_X_slices_15 (by decide) (fun hc15 => ?_) (fun hc15 => ?_)
    · refine lv_aload_n hx hb d_X_slices_20 rfl (lv_at hl 0 rfl) ?_
      refine va_get (D := gD G) (ci := 6) (v := .ref rS) (C := R_X) (T := F_X) (N := 13) hx hb hw in_X hown hK hP 0 rfl rfl 3 (by decide) (hw _ m2_7) (fun _ h => h) rfl d_X_slices_21 ?_
      refine lv_iload_n hx hb d_X_slices_24 rfl (lv_at hl 1 rfl) ?_
      refine va_put (D := gD G) (ci := 3) (v := .int (iv (a1))) (ty := .int) (C := R_Setup) (T := F_Setup) (N := 9) hx hb hw in_Setup t_Setup t_Setup_ok n_Setup hown hK hP hD hS 1 rfl rfl 3 (by decide) (hw _ m1_37) (fun _ h => h) rfl (by decide +kernel) rfl rfl (Nat.le_of_ble_eq_true rfl) d_X_slices_25 (fun H locs hP hD hS => ?_)
      have hP : va_P (gD G) classes [(rX, .inr (6, [.int (iv (wd)), .int (iv (ht)), .ref rP, .ref rS, .ref rL, .ref rT, .ref rC, .ref ra, .ref rv, .int (iv (sth)), .int (iv (rth)), .ref rRC, .ref rRP])), (rS, .inr (3, [.int (iv (kd)), .int (iv (db)), .int (iv (ew)), .int (iv (a1)), .int (iv (dn)), .int (iv (pr)), .ref rE, .int (iv (nu)), .int (iv (de))])), (rL, .inr (1, [.int (iv (cP)), .int (iv (cQ)), .int (iv (nb)), .ref rl, .ref rt, .ref rw, .ref rh, .ref rf, .ref rp, .ref rb])), (rl, ai (gI G) 8 (gl)), (rt, ai (gI G) 8 (gt)), (rw, ai (gI G) 8 (gw)), (rh, ai (gI G) 8 (gh)), (rf, ai (gI G) 17 (gf)), (rp, ai (gI G) 256 (gp)), (rb, ai (gI G) 256 (gb))] H := hP
      have hD : va_D A [(rX, .inr (6, [.int (iv (wd)), .int (iv (ht)), .ref rP, .ref rS, .ref rL, .ref rT, .ref rC, .ref ra, .ref rv, .int (iv (sth)), .int (iv (rth)), .ref rRC, .ref rRP])), (rS, .inr (3, [.int (iv (kd)), .int (iv (db)), .int (iv (ew)), .int (iv (a1)), .int (iv (dn)), .int (iv (pr)), .ref rE, .int (iv (nu)), .int (iv (de))])), (rL, .inr (1, [.int (iv (cP)), .int (iv (cQ)), .int (iv (nb)), .ref rl, .ref rt, .ref rw, .ref rh, .ref rf, .ref rp, .ref rb])), (rl, ai (gI G) 8 (gl)), (rt, ai (gI G) 8 (gt)), (rw, ai (gI G) 8 (gw)), (rh, ai (gI G) 8 (gh)), (rf, ai (gI G) 17 (gf)), (rp, ai (gI G) 256 (gp)), (rb, ai (gI G) 256 (gb))] := hD
      refine lv_aload_n hx hb d_X_slices_28 rfl (lv_at hl 0 rfl) ?_
      refine va_get (D := gD G) (ci := 6) (v := .ref rS) (C := R_X) (T := F_X) (N := 13) hx hb hw in_X hown hK hP 0 rfl rfl 3 (by decide) (hw _ m2_7) (fun _ h => h) rfl d_X_slices_29 ?_
      refine lv_iload_n hx hb d_X_slices_32 rfl (lv_at hl 2 rfl) ?_
      refine va_put (D := gD G) (ci := 3) (v := .int (iv (d1))) (ty := .int) (C := R_Setup) (T := F_Setup) (N := 9) hx hb hw in_Setup t_Setup t_Setup_ok n_Setup hown hK hP hD hS 1 rfl rfl 4 (by decide) (hw _ m1_40) (fun _ h => h) rfl (by decide +kernel) rfl rfl (Nat.le_of_ble_eq_true rfl) d_X_slices_33 (fun H locs hP hD hS => ?_)
      have hP : va_P (gD G) classes [(rX, .inr (6, [.int (iv (wd)), .int (iv (ht)), .ref rP, .ref rS, .ref rL, .ref rT, .ref rC, .ref ra, .ref rv, .int (iv (sth)), .int (iv (rth)), .ref rRC, .ref rRP])), (rS, .inr (3, [.int (iv (kd)), .int (iv (db)), .int (iv (ew)), .int (iv (a1)), .int (iv (d1)), .int (iv (pr)), .ref rE, .int (iv (nu)), .int (iv (de))])), (rL, .inr (1, [.int (iv (cP)), .int (iv (cQ)), .int (iv (nb)), .ref rl, .ref rt, .ref rw, .ref rh, .ref rf, .ref rp, .ref rb])), (rl, ai (gI G) 8 (gl)), (rt, ai (gI G) 8 (gt)), (rw, ai (gI G) 8 (gw)), (rh, ai (gI G) 8 (gh)), (rf, ai (gI G) 17 (gf)), (rp, ai (gI G) 256 (gp)), (rb, ai (gI G) 256 (gb))] H := hP
      have hD : va_D A [(rX, .inr (6, [.int (iv (wd)), .int (iv (ht)), .ref rP, .ref rS, .ref rL, .ref rT, .ref rC, .ref ra, .ref rv, .int (iv (sth)), .int (iv (rth)), .ref rRC, .ref rRP])), (rS, .inr (3, [.int (iv (kd)), .int (iv (db)), .int (iv (ew)), .int (iv (a1)), .int (iv (d1)), .int (iv (pr)), .ref rE, .int (iv (nu)), .int (iv (de))])), (rL, .inr (1, [.int (iv (cP)), .int (iv (cQ)), .int (iv (nb)), .ref rl, .ref rt, .ref rw, .ref rh, .ref rf, .ref rp, .ref rb])), (rl, ai (gI G) 8 (gl)), (rt, ai (gI G) 8 (gt)), (rw, ai (gI G) 8 (gw)), (rh, ai (gI G) 8 (gh)), (rf, ai (gI G) 17 (gf)), (rp, ai (gI G) 256 (gp)), (rb, ai (gI G) 256 (gb))] := hD
      refine lv_aload_n hx hb d_X_slices_36 rfl (lv_at hl 0 rfl) ?_
      refine va_get (D := gD G) (ci := 6) (v := .ref rS) (C := R_X) (T := F_X) (N := 13) hx hb hw in_X hown hK hP 0 rfl rfl 3 (by decide) (hw _ m2_7) (fun _ h => h) rfl d_X_slices_37 ?_
      refine lv_iload_n hx hb d_X_slices_40 rfl (lv_at hl 3 rfl) ?_
      refine va_put (D := gD G) (ci := 3) (v := .int (iv (p1))) (ty := .boolean) (C := R_Setup) (T := F_Setup) (N := 9) hx hb hw in_Setup t_Setup t_Setup_ok n_Setup hown hK hP hD hS 1 rfl rfl 5 (by decide) (hw _ m1_43) (fun _ h => h) rfl (by decide +kernel) (nar_z hp1) (fit_z hp1) (Nat.le_of_ble_eq_true rfl) d_X_slices_41 (fun H locs hP hD hS => ?_)
      have hP : va_P (gD G) classes [(rX, .inr (6, [.int (iv (wd)), .int (iv (ht)), .ref rP, .ref rS, .ref rL, .ref rT, .ref rC, .ref ra, .ref rv, .int (iv (sth)), .int (iv (rth)), .ref rRC, .ref rRP])), (rS, .inr (3, [.int (iv (kd)), .int (iv (db)), .int (iv (ew)), .int (iv (a1)), .int (iv (d1)), .int (iv (p1)), .ref rE, .int (iv (nu)), .int (iv (de))])), (rL, .inr (1, [.int (iv (cP)), .int (iv (cQ)), .int (iv (nb)), .ref rl, .ref rt, .ref rw, .ref rh, .ref rf, .ref rp, .ref rb])), (rl, ai (gI G) 8 (gl)), (rt, ai (gI G) 8 (gt)), (rw, ai (gI G) 8 (gw)), (rh, ai (gI G) 8 (gh)), (rf, ai (gI G) 17 (gf)), (rp, ai (gI G) 256 (gp)), (rb, ai (gI G) 256 (gb))] H := hP
      have hD : va_D A [(rX, .inr (6, [.int (iv (wd)), .int (iv (ht)), .ref rP, .ref rS, .ref rL, .ref rT, .ref rC, .ref ra, .ref rv, .int (iv (sth)), .int (iv (rth)), .ref rRC, .ref rRP])), (rS, .inr (3, [.int (iv (kd)), .int (iv (db)), .int (iv (ew)), .int (iv (a1)), .int (iv (d1)), .int (iv (p1)), .ref rE, .int (iv (nu)), .int (iv (de))])), (rL, .inr (1, [.int (iv (cP)), .int (iv (cQ)), .int (iv (nb)), .ref rl, .ref rt, .ref rw, .ref rh, .ref rf, .ref rp, .ref rb])), (rl, ai (gI G) 8 (gl)), (rt, ai (gI G) 8 (gt)), (rw, ai (gI G) 8 (gw)), (rh, ai (gI G) 8 (gh)), (rf, ai (gI G) 17 (gf)), (rp, ai (gI G) 256 (gp)), (rb, ai (gI G) 256 (gb))] := hD
      refine lv_aload_n hx hb d_X_slices_44 rfl (lv_at hl 0 rfl) ?_
      refine va_get (D := gD G) (ci := 6) (v := .ref rL) (C := R_X) (T := F_X) (N := 13) hx hb hw in_X hown hK hP 0 rfl rfl 4 (by decide) (hw _ m2_8) (fun _ h => h) rfl d_X_slices_45 ?_
      refine lv_aload_n hx hb d_X_slices_48 rfl (lv_at hl 0 rfl) ?_
      refine va_get (D := gD G) (ci := 6) (v := .ref rS) (C := R_X) (T := F_X) (N := 13) hx hb hw in_X hown hK hP 0 rfl rfl 3 (by decide) (hw _ m2_7) (fun _ h => h) rfl d_X_slices_49 ?_
      refine k_cv (wz := fun u : (Int → Int) × (Int → Int) × (Int → Int) => [(rX, .inr (6, [.int (iv (wd)), .int (iv (ht)), .ref rP, .ref rS, .ref rL, .ref rT, .ref rC, .ref ra, .ref rv, .int (iv (sth)), .int (iv (rth)), .ref rRC, .ref rRP])), (rS, .inr (3, [.int (iv (kd)), .int (iv (db)), .int (iv (ew)), .int (iv (a1)), .int (iv (d1)), .int (iv (p1)), .ref rE, .int (iv (nu)), .int (iv (de))])), (rL, .inr (1, [.int (iv (cP)), .int (iv (cQ)), .int (iv (nb)), .ref rl, .ref rt, .ref rw, .ref rh, .ref rf, .ref rp, .ref rb])), (rl, ai (gI G) 8 (gl)), (rt, ai (gI G) 8 (gt)), (rw, ai (gI G) 8 (gw)), (rh, ai (gI G) 8 (gh)), (rf, ai (gI G) 17 (u.1)), (rp, ai (gI G) 256 (u.2.1)), (rb, ai (gI G) 256 (u.2.2))]) (wr := [(rX, .inr (6, [.int (iv (wd)), .int (iv (ht)), .ref rP, .ref rS, .ref rL, .ref rT, .ref rC, .ref ra, .ref rv, .int (iv (sth)), .int (iv (rth)), .ref rRC, .ref rRP]))]) (k_rv S (c_Layout_cutSlices l G _ rL rS rl rt rw rh rf rp rb rE cP cQ nb kd db ew a1 d1 p1 nu de gl gt gw gh gf gp gb (by omega) (by omega) kb.1 kb.2 (cut_cap hB hcP hcQ hde (by omega) (by omega))) 1 m1_235 m1_232 m1_233 m1_234 m1_3 (by decide +kernel) (by decide) rfl rfl (k_preV (q0 := 2) hK hP hD hS hA hT rfl rfl [2, 3, 4, 5, 6, 7, 8, 9, 1] (by decide) rfl) rfl hl.1 rfl (Nat.le_of_ble_eq_true rfl) d_X_slices_52 ⟨Nat.le_of_ble_eq_true rfl, Nat.le_of_ble_eq_true rfl⟩) hP hD hS hA [2, 3, 4, 5, 6, 7, 8, 9, 1] [0] [0, 9, 1, 2, 3, 4, 5, 6, 7, 8] rfl rfl (by decide) (by decide) (by decide) (fun _ => rfl) (fun u52 H locs h52 hP hD hS => ?_)
      subst h52
      have hP : va_P (gD G) classes [(rX, .inr (6, [.int (iv (wd)), .int (iv (ht)), .ref rP, .ref rS, .ref rL, .ref rT, .ref rC, .ref ra, .ref rv, .int (iv (sth)), .int (iv (rth)), .ref rRC, .ref rRP])), (rS, .inr (3, [.int (iv (kd)), .int (iv (db)), .int (iv (ew)), .int (iv (a1)), .int (iv (d1)), .int (iv (p1)), .ref rE, .int (iv (nu)), .int (iv (de))])), (rL, .inr (1, [.int (iv (cP)), .int (iv (cQ)), .int (iv (nb)), .ref rl, .ref rt, .ref rw, .ref rh, .ref rf, .ref rp, .ref rb])), (rl, ai (gI G) 8 (gl)), (rt, ai (gI G) 8 (gt)), (rw, ai (gI G) 8 (gw)), (rh, ai (gI G) 8 (gh)), (rf, ai (gI G) 17 (up (slA gl gt gw gh nb a1 d1 gf gp gb (a1 * d1)).1 (a1 * d1) (slA gl gt gw gh nb a1 d1 gf gp gb (a1 * d1)).2.1)), (rp, ai (gI G) 256 ((slA gl gt gw gh nb a1 d1 gf gp gb (a1 * d1)).2.2.1)), (rb, ai (gI G) 256 ((slA gl gt gw gh nb a1 d1 gf gp gb (a1 * d1)).2.2.2))] H := hP
      have hD : va_D A [(rX, .inr (6, [.int (iv (wd)), .int (iv (ht)), .ref rP, .ref rS, .ref rL, .ref rT, .ref rC, .ref ra, .ref rv, .int (iv (sth)), .int (iv (rth)), .ref rRC, .ref rRP])), (rS, .inr (3, [.int (iv (kd)), .int (iv (db)), .int (iv (ew)), .int (iv (a1)), .int (iv (d1)), .int (iv (p1)), .ref rE, .int (iv (nu)), .int (iv (de))])), (rL, .inr (1, [.int (iv (cP)), .int (iv (cQ)), .int (iv (nb)), .ref rl, .ref rt, .ref rw, .ref rh, .ref rf, .ref rp, .ref rb])), (rl, ai (gI G) 8 (gl)), (rt, ai (gI G) 8 (gt)), (rw, ai (gI G) 8 (gw)), (rh, ai (gI G) 8 (gh)), (rf, ai (gI G) 17 (up (slA gl gt gw gh nb a1 d1 gf gp gb (a1 * d1)).1 (a1 * d1) (slA gl gt gw gh nb a1 d1 gf gp gb (a1 * d1)).2.1)), (rp, ai (gI G) 256 ((slA gl gt gw gh nb a1 d1 gf gp gb (a1 * d1)).2.2.1)), (rb, ai (gI G) 256 ((slA gl gt gw gh nb a1 d1 gf gp gb (a1 * d1)).2.2.2))] := hD
      refine lv_aload_n hx hb d_X_slices_55 rfl (lv_at hl 0 rfl) ?_
      refine k_cv (wz := fun u : Int × Int => [(rX, .inr (6, [.int (iv (wd)), .int (iv (ht)), .ref rP, .ref rS, .ref rL, .ref rT, .ref rC, .ref ra, .ref rv, .int (iv (u.1)), .int (iv (u.2)), .ref rRC, .ref rRP])), (rS, .inr (3, [.int (iv (kd)), .int (iv (db)), .int (iv (ew)), .int (iv (a1)), .int (iv (d1)), .int (iv (p1)), .ref rE, .int (iv (nu)), .int (iv (de))])), (rL, .inr (1, [.int (iv (cP)), .int (iv (cQ)), .int (iv (nb)), .ref rl, .ref rt, .ref rw, .ref rh, .ref rf, .ref rp, .ref rb])), (rl, ai (gI G) 8 (gl)), (rt, ai (gI G) 8 (gt)), (rw, ai (gI G) 8 (gw)), (rh, ai (gI G) 8 (gh)), (rf, ai (gI G) 17 (up (slA gl gt gw gh nb a1 d1 gf gp gb (a1 * d1)).1 (a1 * d1) (slA gl gt gw gh nb a1 d1 gf gp gb (a1 * d1)).2.1)), (rp, ai (gI G) 256 ((slA gl gt gw gh nb a1 d1 gf gp gb (a1 * d1)).2.2.1)), (rb, ai (gI G) 256 ((slA gl gt gw gh nb a1 d1 gf gp gb (a1 * d1)).2.2.2))]) (wr := [(rS, .inr (3, [.int (iv (kd)), .int (iv (db)), .int (iv (ew)), .int (iv (a1)), .int (iv (d1)), .int (iv (p1)), .ref rE, .int (iv (nu)), .int (iv (de))])), (rL, .inr (1, [.int (iv (cP)), .int (iv (cQ)), .int (iv (nb)), .ref rl, .ref rt, .ref rw, .ref rh, .ref rf, .ref rp, .ref rb])), (rl, ai (gI G) 8 (gl)), (rt, ai (gI G) 8 (gt)), (rw, ai (gI G) 8 (gw)), (rh, ai (gI G) 8 (gh)), (rf, ai (gI G) 17 (up (slA gl gt gw gh nb a1 d1 gf gp gb (a1 * d1)).1 (a1 * d1) (slA gl gt gw gh nb a1 d1 gf gp gb (a1 * d1)).2.1)), (rp, ai (gI G) 256 ((slA gl gt gw gh nb a1 d1 gf gp gb (a1 * d1)).2.2.1)), (rb, ai (gI G) 256 ((slA gl gt gw gh nb a1 d1 gf gp gb (a1 * d1)).2.2.2))]) (k_rv S (c_X_forget l G _ rX rP rS rL rT rC ra rv rRC rRP wd ht sth rth ) 0 m2_84 m2_81 m2_83 mp_3 m1_1 (by decide +kernel) (by decide) rfl rfl (k_preV (q0 := 0) hK hP hD hS hA hT rfl rfl [0] (by decide) rfl) rfl hl.1 rfl (Nat.le_of_ble_eq_true rfl) d_X_slices_56 ⟨Nat.le_of_ble_eq_true rfl, Nat.le_of_ble_eq_true rfl⟩) hP hD hS hA [0] [1, 2, 3, 4, 5, 6, 7, 8, 9] [9, 0, 1, 2, 3, 4, 5, 6, 7, 8] rfl rfl (by decide) (by decide) (by decide) (fun _ => rfl) (fun u56 H locs h56 hP hD hS => ?_)
      subst h56
      have hP : va_P (gD G) classes [(rX, .inr (6, [.int (iv (wd)), .int (iv (ht)), .ref rP, .ref rS, .ref rL, .ref rT, .ref rC, .ref ra, .ref rv, .int (iv (0)), .int (iv (0)), .ref rRC, .ref rRP])), (rS, .inr (3, [.int (iv (kd)), .int (iv (db)), .int (iv (ew)), .int (iv (a1)), .int (iv (d1)), .int (iv (p1)), .ref rE, .int (iv (nu)), .int (iv (de))])), (rL, .inr (1, [.int (iv (cP)), .int (iv (cQ)), .int (iv (nb)), .ref rl, .ref rt, .ref rw, .ref rh, .ref rf, .ref rp, .ref rb])), (rl, ai (gI G) 8 (gl)), (rt, ai (gI G) 8 (gt)), (rw, ai (gI G) 8 (gw)), (rh, ai (gI G) 8 (gh)), (rf, ai (gI G) 17 (up (slA gl gt gw gh nb a1 d1 gf gp gb (a1 * d1)).1 (a1 * d1) (slA gl gt gw gh nb a1 d1 gf gp gb (a1 * d1)).2.1)), (rp, ai (gI G) 256 ((slA gl gt gw gh nb a1 d1 gf gp gb (a1 * d1)).2.2.1)), (rb, ai (gI G) 256 ((slA gl gt gw gh nb a1 d1 gf gp gb (a1 * d1)).2.2.2))] H := hP
      have hD : va_D A [(rX, .inr (6, [.int (iv (wd)), .int (iv (ht)), .ref rP, .ref rS, .ref rL, .ref rT, .ref rC, .ref ra, .ref rv, .int (iv (0)), .int (iv (0)), .ref rRC, .ref rRP])), (rS, .inr (3, [.int (iv (kd)), .int (iv (db)), .int (iv (ew)), .int (iv (a1)), .int (iv (d1)), .int (iv (p1)), .ref rE, .int (iv (nu)), .int (iv (de))])), (rL, .inr (1, [.int (iv (cP)), .int (iv (cQ)), .int (iv (nb)), .ref rl, .ref rt, .ref rw, .ref rh, .ref rf, .ref rp, .ref rb])), (rl, ai (gI G) 8 (gl)), (rt, ai (gI G) 8 (gt)), (rw, ai (gI G) 8 (gw)), (rh, ai (gI G) 8 (gh)), (rf, ai (gI G) 17 (up (slA gl gt gw gh nb a1 d1 gf gp gb (a1 * d1)).1 (a1 * d1) (slA gl gt gw gh nb a1 d1 gf gp gb (a1 * d1)).2.1)), (rp, ai (gI G) 256 ((slA gl gt gw gh nb a1 d1 gf gp gb (a1 * d1)).2.2.1)), (rb, ai (gI G) 256 ((slA gl gt gw gh nb a1 d1 gf gp gb (a1 * d1)).2.2.2))] := hD
      refine lv_iconst (v := iv (1)) hx hb d_X_slices_59 rfl ?_
      exact k_zret hx hb hr hlk (by omega) hQ ((1, a1, d1, p1, up (slA gl gt gw gh nb a1 d1 gf gp gb (a1 * d1)).1 (a1 * d1) (slA gl gt gw gh nb a1 d1 gf gp gb (a1 * d1)).2.1, (slA gl gt gw gh nb a1 d1 gf gp gb (a1 * d1)).2.2.1, (slA gl gt gw gh nb a1 d1 gf gp gb (a1 * d1)).2.2.2, 0, 0)) (⟨rfl, by rw [if_pos (by omega)]; exact ⟨rfl, rfl, rfl, rfl, cut_ok hB hcP hcQ hde (by omega) (by omega), rfl, rfl⟩⟩) hP hD hS d_X_slices_60
    · refine lv_iconst (v := iv (0)) hx hb d_X_slices_18 rfl ?_
      exact k_zret hx hb hr hlk (by omega) hQ ((0, ac, dn, pr, gf, gp, gb, sth, rth)) (⟨rfl, by rw [if_neg (by omega)]⟩) hP hD hS d_X_slices_19
abbrev w_X_filter : List Cond := Cond.code y_X_filter prog_1_method_5_code 4 (some .boolean) :: wl
abbrev r_X_filter : Room := { frames := 2, cells := 0, slots := 0, locals := 55 }
set_option maxHeartbeats 4000000 in
set_option maxRecDepth 100000 in
theorem c_X_filter (l : Launch) (G : k_G) (sz : Nat) (rX rP rS rL rT rC ra rv rRC rRP rE rl rt rw rh rf rp rb : Nat) (f0 d0 e0 wd ht sth rth kd db ew ac dn pr nu de cP cQ nb : Int) (es gl gt gw gh gf gp gb : Int → Int) (h_f0 : -2147483648 ≤ f0 ∧ f0 < 2147483648) (h_d0 : -2147483648 ≤ d0 ∧ d0 < 2147483648) (h_e0 : -2147483648 ≤ e0 ∧ e0 < 2147483648) (hwd : 1 ≤ wd ∧ wd ≤ 16) (hht : 1 ≤ ht ∧ ht ≤ 16) (hac : 1 ≤ ac ∧ ac ≤ 4) (hdn : 1 ≤ dn ∧ dn ≤ 4) : Met l y_X_filter w_X_filter r_X_filter (k_P G [.ref rX, .int (iv (f0)), .int (iv (d0)), .int (iv (e0))] [(rX, .inr (6, [.int (iv (wd)), .int (iv (ht)), .ref rP, .ref rS, .ref rL, .ref rT, .ref rC, .ref ra, .ref rv, .int (iv (sth)), .int (iv (rth)), .ref rRC, .ref rRP])), (rS, .inr (3, [.int (iv (kd)), .int (iv (db)), .int (iv (ew)), .int (iv (ac)), .int (iv (dn)), .int (iv (pr)), .ref rE, .int (iv (nu)), .int (iv (de))])), (rE, ai (gI G) 8 (es)), (rL, .inr (1, [.int (iv (cP)), .int (iv (cQ)), .int (iv (nb)), .ref rl, .ref rt, .ref rw, .ref rh, .ref rf, .ref rp, .ref rb])), (rl, ai (gI G) 8 (gl)), (rt, ai (gI G) 8 (gt)), (rw, ai (gI G) 8 (gw)), (rh, ai (gI G) 8 (gh)), (rf, ai (gI G) 17 (gf)), (rp, ai (gI G) 256 (gp)), (rb, ai (gI G) 256 (gb))] sz) (qi G (fun (r : Int32) (u : Int × Int × Int × Int × (Int → Int) × Int × Int × Int × (Int → Int) × (Int → Int) × (Int → Int) × (Int → Int) × (Int → Int) × (Int → Int) × (Int → Int) × Int × Int) => r = iv (u.1) ∧ (if (0 ≤ f0 ∧ f0 ≤ 6) ∧ (0 ≤ d0 ∧ d0 ≤ 2) ∧ (0 ≤ e0 ∧ e0 ≤ 2) ∧ d0 + e0 ≤ 3 then u.1 = 1 ∧ (u.2.1 = f0 ∧ u.2.2.1 = d0 ∧ u.2.2.2.1 = e0 ∧ ∀ b, 0 ≤ b → b < 8 → u.2.2.2.2.1 b = 0) ∧ okL wd ht d0 e0 ac dn u.2.2.2.2.2.1 u.2.2.2.2.2.2.1 u.2.2.2.2.2.2.2.1 u.2.2.2.2.2.2.2.2.1 u.2.2.2.2.2.2.2.2.2.1 u.2.2.2.2.2.2.2.2.2.2.1 u.2.2.2.2.2.2.2.2.2.2.2.1 u.2.2.2.2.2.2.2.2.2.2.2.2.1 u.2.2.2.2.2.2.2.2.2.2.2.2.2.1 u.2.2.2.2.2.2.2.2.2.2.2.2.2.2.1 ∧ u.2.2.2.2.2.2.2.2.2.2.2.2.2.2.2.1 = 0 ∧ u.2.2.2.2.2.2.2.2.2.2.2.2.2.2.2.2 = 0 else u = (0, kd, db, ew, es, cP, cQ, nb, gl, gt, gw, gh, gf, gp, gb, sth, rth))) (fun u : Int × Int × Int × Int × (Int → Int) × Int × Int × Int × (Int → Int) × (Int → Int) × (Int → Int) × (Int → Int) × (Int → Int) × (Int → Int) × (Int → Int) × Int × Int => [(rX, .inr (6, [.int (iv (wd)), .int (iv (ht)), .ref rP, .ref rS, .ref rL, .ref rT, .ref rC, .ref ra, .ref rv, .int (iv (u.2.2.2.2.2.2.2.2.2.2.2.2.2.2.2.1)), .int (iv (u.2.2.2.2.2.2.2.2.2.2.2.2.2.2.2.2)), .ref rRC, .ref rRP])), (rS, .inr (3, [.int (iv (u.2.1)), .int (iv (u.2.2.1)), .int (iv (u.2.2.2.1)), .int (iv (ac)), .int (iv (dn)), .int (iv (pr)), .ref rE, .int (iv (nu)), .int (iv (de))])), (rE, ai (gI G) 8 (u.2.2.2.2.1)), (rL, .inr (1, [.int (iv (u.2.2.2.2.2.1)), .int (iv (u.2.2.2.2.2.2.1)), .int (iv (u.2.2.2.2.2.2.2.1)), .ref rl, .ref rt, .ref rw, .ref rh, .ref rf, .ref rp, .ref rb])), (rl, ai (gI G) 8 (u.2.2.2.2.2.2.2.2.1)), (rt, ai (gI G) 8 (u.2.2.2.2.2.2.2.2.2.1)), (rw, ai (gI G) 8 (u.2.2.2.2.2.2.2.2.2.2.1)), (rh, ai (gI G) 8 (u.2.2.2.2.2.2.2.2.2.2.2.1)), (rf, ai (gI G) 17 (u.2.2.2.2.2.2.2.2.2.2.2.2.1)), (rp, ai (gI G) 256 (u.2.2.2.2.2.2.2.2.2.2.2.2.2.1)), (rb, ai (gI G) 256 (u.2.2.2.2.2.2.2.2.2.2.2.2.2.2.1))]) (va_A [(rX, .inr (6, [.int (iv (wd)), .int (iv (ht)), .ref rP, .ref rS, .ref rL, .ref rT, .ref rC, .ref ra, .ref rv, .int (iv (sth)), .int (iv (rth)), .ref rRC, .ref rRP])), (rS, .inr (3, [.int (iv (kd)), .int (iv (db)), .int (iv (ew)), .int (iv (ac)), .int (iv (dn)), .int (iv (pr)), .ref rE, .int (iv (nu)), .int (iv (de))])), (rE, ai (gI G) 8 (es)), (rL, .inr (1, [.int (iv (cP)), .int (iv (cQ)), .int (iv (nb)), .ref rl, .ref rt, .ref rw, .ref rh, .ref rf, .ref rp, .ref rb])), (rl, ai (gI G) 8 (gl)), (rt, ai (gI G) 8 (gt)), (rw, ai (gI G) 8 (gw)), (rh, ai (gI G) 8 (gh)), (rf, ai (gI G) 17 (gf)), (rp, ai (gI G) 256 (gp)), (rb, ai (gI G) 256 (gb))] sz)) 0 0 (va_A [(rX, .inr (6, [.int (iv (wd)), .int (iv (ht)), .ref rP, .ref rS, .ref rL, .ref rT, .ref rC, .ref ra, .ref rv, .int (iv (sth)), .int (iv (rth)), .ref rRC, .ref rRP])), (rS, .inr (3, [.int (iv (kd)), .int (iv (db)), .int (iv (ew)), .int (iv (ac)), .int (iv (dn)), .int (iv (pr)), .ref rE, .int (iv (nu)), .int (iv (de))])), (rE, ai (gI G) 8 (es)), (rL, .inr (1, [.int (iv (cP)), .int (iv (cQ)), .int (iv (nb)), .ref rl, .ref rt, .ref rw, .ref rh, .ref rf, .ref rp, .ref rb])), (rl, ai (gI G) 8 (gl)), (rt, ai (gI G) 8 (gt)), (rw, ai (gI G) 8 (gw)), (rh, ai (gI G) 8 (gh)), (rf, ai (gI G) 17 (gf)), (rp, ai (gI G) 256 (gp)), (rb, ai (gI G) 256 (gb))] sz) := by
  refine k_met (fun A => qi G (fun (r : Int32) (u : Int × Int × Int × Int × (Int → Int) × Int × Int × Int × (Int → Int) × (Int → Int) × (Int → Int) × (Int → Int) × (Int → Int) × (Int → Int) × (Int → Int) × Int × Int) => r = iv (u.1) ∧ (if (0 ≤ f0 ∧ f0 ≤ 6) ∧ (0 ≤ d0 ∧ d0 ≤ 2) ∧ (0 ≤ e0 ∧ e0 ≤ 2) ∧ d0 + e0 ≤ 3 then u.1 = 1 ∧ (u.2.1 = f0 ∧ u.2.2.1 = d0 ∧ u.2.2.2.1 = e0 ∧ ∀ b, 0 ≤ b → b < 8 → u.2.2.2.2.1 b = 0) ∧ okL wd ht d0 e0 ac dn u.2.2.2.2.2.1 u.2.2.2.2.2.2.1 u.2.2.2.2.2.2.2.1 u.2.2.2.2.2.2.2.2.1 u.2.2.2.2.2.2.2.2.2.1 u.2.2.2.2.2.2.2.2.2.2.1 u.2.2.2.2.2.2.2.2.2.2.2.1 u.2.2.2.2.2.2.2.2.2.2.2.2.1 u.2.2.2.2.2.2.2.2.2.2.2.2.2.1 u.2.2.2.2.2.2.2.2.2.2.2.2.2.2.1 ∧ u.2.2.2.2.2.2.2.2.2.2.2.2.2.2.2.1 = 0 ∧ u.2.2.2.2.2.2.2.2.2.2.2.2.2.2.2.2 = 0 else u = (0, kd, db, ew, es, cP, cQ, nb, gl, gt, gw, gh, gf, gp, gb, sth, rth))) (fun u : Int × Int × Int × Int × (Int → Int) × Int × Int × Int × (Int → Int) × (Int → Int) × (Int → Int) × (Int → Int) × (Int → Int) × (Int → Int) × (Int → Int) × Int × Int => [(rX, .inr (6, [.int (iv (wd)), .int (iv (ht)), .ref rP, .ref rS, .ref rL, .ref rT, .ref rC, .ref ra, .ref rv, .int (iv (u.2.2.2.2.2.2.2.2.2.2.2.2.2.2.2.1)), .int (iv (u.2.2.2.2.2.2.2.2.2.2.2.2.2.2.2.2)), .ref rRC, .ref rRP])), (rS, .inr (3, [.int (iv (u.2.1)), .int (iv (u.2.2.1)), .int (iv (u.2.2.2.1)), .int (iv (ac)), .int (iv (dn)), .int (iv (pr)), .ref rE, .int (iv (nu)), .int (iv (de))])), (rE, ai (gI G) 8 (u.2.2.2.2.1)), (rL, .inr (1, [.int (iv (u.2.2.2.2.2.1)), .int (iv (u.2.2.2.2.2.2.1)), .int (iv (u.2.2.2.2.2.2.2.1)), .ref rl, .ref rt, .ref rw, .ref rh, .ref rf, .ref rp, .ref rb])), (rl, ai (gI G) 8 (u.2.2.2.2.2.2.2.2.1)), (rt, ai (gI G) 8 (u.2.2.2.2.2.2.2.2.2.1)), (rw, ai (gI G) 8 (u.2.2.2.2.2.2.2.2.2.2.1)), (rh, ai (gI G) 8 (u.2.2.2.2.2.2.2.2.2.2.2.1)), (rf, ai (gI G) 17 (u.2.2.2.2.2.2.2.2.2.2.2.2.1)), (rp, ai (gI G) 256 (u.2.2.2.2.2.2.2.2.2.2.2.2.2.1)), (rb, ai (gI G) 256 (u.2.2.2.2.2.2.2.2.2.2.2.2.2.2.1))]) A) (fun A => A) (by decide) rfl (Nat.le_of_ble_eq_true rfl) (fun p e s m args below meth c ls A Q S hr hlk hnm hl hsz hP hK hD hS hA hT hQ => ?_)
  obtain ⟨hx, hb, hml, hown, hts⟩ := id S
  have hw : ∀ w ∈ wl, w.before args s = true := fun w h => hts w (List.mem_cons_of_mem _ h)
  have hl : lv_has ls 4 [(0, .ref rX), (1, .int (iv (f0))), (2, .int (iv (d0))), (3, .int (iv (e0)))] := hl
  refine lv_iload_n hx hb d_X_filter_0 rfl (lv_at hl 1 rfl) ?_
  refine lv_iconst (v := iv (0)) hx hb d_X_filter_1 rfl ?_
  refine lv_bipush (v := iv (6)) hx hb d_X_filter_2 rfl ?_
  refine k_ciR (k_rs S (c_X_within l G _ f0 0 6 (by omega) (by omega) (by omega)) 3 m2_54 m2_52 m2_53 m1_1 (by decide +kernel) (by decide) rfl rfl (k_preS hK hP hD hS hA hT [] (by decide) rfl) rfl hl.1 rfl (Nat.le_of_ble_eq_true rfl) d_X_filter_4 ⟨Nat.le_of_ble_eq_true rfl, Nat.le_of_ble_eq_true rfl⟩) (fun r4 h4 => ?_)
  subst h4
  refine k_ifb_eq (tgt := 35) hx hb d_X_filter_7 (by decide) (fun hc7 => ?_) (fun hc7 => ?_)
  · refine lv_iconst (v := iv (0)) hx hb d_X_filter_35 rfl ?_
    exact k_zret hx hb hr hlk (by omega) hQ ((0, kd, db, ew, es, cP, cQ, nb, gl, gt, gw, gh, gf, gp, gb, sth, rth)) (⟨rfl, by rw [if_neg (by omega)]⟩) hP hD hS d_X_filter_36
  · refine lv_iload_n hx hb d_X_filter_10 rfl (lv_at hl 2 rfl) ?_
    refine lv_iconst (v := iv (0)) hx hb d_X_filter_11 rfl ?_
    refine lv_iconst (v := iv (2)) hx hb d_X_filter_12 rfl ?_
    refine k_ciR (k_rs S (c_X_within l G _ d0 0 2 (by omega) (by omega) (by omega)) 3 m2_54 m2_52 m2_53 m1_1 (by decide +kernel) (by decide) rfl rfl (k_preS hK hP hD hS hA hT [] (by decide) rfl) rfl hl.1 rfl (Nat.le_of_ble_eq_true rfl) d_X_filter_13 ⟨Nat.le_of_ble_eq_true rfl, Nat.le_of_ble_eq_true rfl⟩) (fun r13 h13 => ?_)
    subst h13
    refine k_ifb_eq (tgt := 35) hx hb d_X_filter_16 (by decide) (fun hc16 => ?_) (fun hc16 => ?_)
    · refine lv_iconst (v := iv (0)) hx hb d_X_filter_35 rfl ?_
      exact k_zret hx hb hr hlk (by omega) hQ ((0, kd, db, ew, es, cP, cQ, nb, gl, gt, gw, gh, gf, gp, gb, sth, rth)) (⟨rfl, by rw [if_neg (by omega)]⟩) hP hD hS d_X_filter_36
    · refine lv_iload_n hx hb d_X_filter_19 rfl (lv_at hl 3 rfl) ?_
      refine lv_iconst (v := iv (0)) hx hb d_X_filter_20 rfl ?_
      refine lv_iconst (v := iv (2)) hx hb d_X_filter_21 rfl ?_
      refine k_ciR (k_rs S (c_X_within l G _ e0 0 2 (by omega) (by omega) (by omega)) 3 m2_54 m2_52 m2_53 m1_1 (by decide +kernel) (by decide) rfl rfl (k_preS hK hP hD hS hA hT [] (by decide) rfl) rfl hl.1 rfl (Nat.le_of_ble_eq_true rfl) d_X_filter_22 ⟨Nat.le_of_ble_eq_true rfl, Nat.le_of_ble_eq_true rfl⟩) (fun r22 h22 => ?_)
      subst h22
      refine k_ifb_eq (tgt := 35) hx hb d_X_filter_25 (by decide) (fun hc25 => ?_) (fun hc25 => ?_)
      · refine lv_iconst (v := iv (0)) hx hb d_X_filter_35 rfl ?_
        exact k_zret hx hb hr hlk (by omega) hQ ((0, kd, db, ew, es, cP, cQ, nb, gl, gt, gw, gh, gf, gp, gb, sth, rth)) (⟨rfl, by rw [if_neg (by omega)]⟩) hP hD hS d_X_filter_36
      · refine lv_iload_n hx hb d_X_filter_28 rfl (lv_at hl 2 rfl) ?_
        refine lv_iload_n hx hb d_X_filter_29 rfl (lv_at hl 3 rfl) ?_
        refine k_iadd hx hb d_X_filter_30 ?_
        refine lv_iconst (v := iv (3)) hx hb d_X_filter_31 rfl ?_
        refine k_icmp_le (tgt := 37) hx hb d_X_filter_32 (by decide) (by omega) (by omega) (fun hc32 => ?_) (fun hc32 => ?_)
        · refine lv_aload_n hx hb d_X_filter_37 rfl (lv_at hl 0 rfl) ?_
          refine va_get (D := gD G) (ci := 6) (v := .ref rS) (C := R_X) (T := F_X) (N := 13) hx hb hw in_X hown hK hP 0 rfl rfl 3 (by decide) (hw _ m2_7) (fun _ h => h) rfl d_X_filter_38 ?_
          refine lv_iload_n hx hb d_X_filter_41 rfl (lv_at hl 1 rfl) ?_
          refine va_put (D := gD G) (ci := 3) (v := .int (iv (f0))) (ty := .int) (C := R_Setup) (T := F_Setup) (N := 9) hx hb hw in_Setup t_Setup t_Setup_ok n_Setup hown hK hP hD hS 1 rfl rfl 0 (by decide) (hw _ m1_29) (fun _ h => h) rfl (by decide +kernel) rfl rfl (Nat.le_of_ble_eq_true rfl) d_X_filter_42 (fun H locs hP hD hS => ?_)
          have hP : va_P (gD G) classes [(rX, .inr (6, [.int (iv (wd)), .int (iv (ht)), .ref rP, .ref rS, .ref rL, .ref rT, .ref rC, .ref ra, .ref rv, .int (iv (sth)), .int (iv (rth)), .ref rRC, .ref rRP])), (rS, .inr (3, [.int (iv (f0)), .int (iv (db)), .int (iv (ew)), .int (iv (ac)), .int (iv (dn)), .int (iv (pr)), .ref rE, .int (iv (nu)), .int (iv (de))])), (rE, ai (gI G) 8 (es)), (rL, .inr (1, [.int (iv (cP)), .int (iv (cQ)), .int (iv (nb)), .ref rl, .ref rt, .ref rw, .ref rh, .ref rf, .ref rp, .ref rb])), (rl, ai (gI G) 8 (gl)), (rt, ai (gI G) 8 (gt)), (rw, ai (gI G) 8 (gw)), (rh, ai (gI G) 8 (gh)), (rf, ai (gI G) 17 (gf)), (rp, ai (gI G) 256 (gp)), (rb, ai (gI G) 256 (gb))] H := hP
          have hD : va_D A [(rX, .inr (6, [.int (iv (wd)), .int (iv (ht)), .ref rP, .ref rS, .ref rL, .ref rT, .ref rC, .ref ra, .ref rv, .int (iv (sth)), .int (iv (rth)), .ref rRC, .ref rRP])), (rS, .inr (3, [.int (iv (f0)), .int (iv (db)), .int (iv (ew)), .int (iv (ac)), .int (iv (dn)), .int (iv (pr)), .ref rE, .int (iv (nu)), .int (iv (de))])), (rE, ai (gI G) 8 (es)), (rL, .inr (1, [.int (iv (cP)), .int (iv (cQ)), .int (iv (nb)), .ref rl, .ref rt, .ref rw, .ref rh, .ref rf, .ref rp, .ref rb])), (rl, ai (gI G) 8 (gl)), (rt, ai (gI G) 8 (gt)), (rw, ai (gI G) 8 (gw)), (rh, ai (gI G) 8 (gh)), (rf, ai (gI G) 17 (gf)), (rp, ai (gI G) 256 (gp)), (rb, ai (gI G) 256 (gb))] := hD
          refine lv_aload_n hx hb d_X_filter_45 rfl (lv_at hl 0 rfl) ?_
          refine va_get (D := gD G) (ci := 6) (v := .ref rS) (C := R_X) (T := F_X) (N := 13) hx hb hw in_X hown hK hP 0 rfl rfl 3 (by decide) (hw _ m2_7) (fun _ h => h) rfl d_X_filter_46 ?_
          refine lv_iload_n hx hb d_X_filter_49 rfl (lv_at hl 2 rfl) ?_
          refine va_put (D := gD G) (ci := 3) (v := .int (iv (d0))) (ty := .int) (C := R_Setup) (T := F_Setup) (N := 9) hx hb hw in_Setup t_Setup t_Setup_ok n_Setup hown hK hP hD hS 1 rfl rfl 1 (by decide) (hw _ m1_33) (fun _ h => h) rfl (by decide +kernel) rfl rfl (Nat.le_of_ble_eq_true rfl) d_X_filter_50 (fun H locs hP hD hS => ?_)
          have hP : va_P (gD G) classes [(rX, .inr (6, [.int (iv (wd)), .int (iv (ht)), .ref rP, .ref rS, .ref rL, .ref rT, .ref rC, .ref ra, .ref rv, .int (iv (sth)), .int (iv (rth)), .ref rRC, .ref rRP])), (rS, .inr (3, [.int (iv (f0)), .int (iv (d0)), .int (iv (ew)), .int (iv (ac)), .int (iv (dn)), .int (iv (pr)), .ref rE, .int (iv (nu)), .int (iv (de))])), (rE, ai (gI G) 8 (es)), (rL, .inr (1, [.int (iv (cP)), .int (iv (cQ)), .int (iv (nb)), .ref rl, .ref rt, .ref rw, .ref rh, .ref rf, .ref rp, .ref rb])), (rl, ai (gI G) 8 (gl)), (rt, ai (gI G) 8 (gt)), (rw, ai (gI G) 8 (gw)), (rh, ai (gI G) 8 (gh)), (rf, ai (gI G) 17 (gf)), (rp, ai (gI G) 256 (gp)), (rb, ai (gI G) 256 (gb))] H := hP
          have hD : va_D A [(rX, .inr (6, [.int (iv (wd)), .int (iv (ht)), .ref rP, .ref rS, .ref rL, .ref rT, .ref rC, .ref ra, .ref rv, .int (iv (sth)), .int (iv (rth)), .ref rRC, .ref rRP])), (rS, .inr (3, [.int (iv (f0)), .int (iv (d0)), .int (iv (ew)), .int (iv (ac)), .int (iv (dn)), .int (iv (pr)), .ref rE, .int (iv (nu)), .int (iv (de))])), (rE, ai (gI G) 8 (es)), (rL, .inr (1, [.int (iv (cP)), .int (iv (cQ)), .int (iv (nb)), .ref rl, .ref rt, .ref rw, .ref rh, .ref rf, .ref rp, .ref rb])), (rl, ai (gI G) 8 (gl)), (rt, ai (gI G) 8 (gt)), (rw, ai (gI G) 8 (gw)), (rh, ai (gI G) 8 (gh)), (rf, ai (gI G) 17 (gf)), (rp, ai (gI G) 256 (gp)), (rb, ai (gI G) 256 (gb))] := hD
          refine lv_aload_n hx hb d_X_filter_53 rfl (lv_at hl 0 rfl) ?_
          refine va_get (D := gD G) (ci := 6) (v := .ref rS) (C := R_X) (T := F_X) (N := 13) hx hb hw in_X hown hK hP 0 rfl rfl 3 (by decide) (hw _ m2_7) (fun _ h => h) rfl d_X_filter_54 ?_
          refine lv_iload_n hx hb d_X_filter_57 rfl (lv_at hl 3 rfl) ?_
          refine va_put (D := gD G) (ci := 3) (v := .int (iv (e0))) (ty := .int) (C := R_Setup) (T := F_Setup) (N := 9) hx hb hw in_Setup t_Setup t_Setup_ok n_Setup hown hK hP hD hS 1 rfl rfl 2 (by decide) (hw _ m1_35) (fun _ h => h) rfl (by decide +kernel) rfl rfl (Nat.le_of_ble_eq_true rfl) d_X_filter_58 (fun H locs hP hD hS => ?_)
          have hP : va_P (gD G) classes [(rX, .inr (6, [.int (iv (wd)), .int (iv (ht)), .ref rP, .ref rS, .ref rL, .ref rT, .ref rC, .ref ra, .ref rv, .int (iv (sth)), .int (iv (rth)), .ref rRC, .ref rRP])), (rS, .inr (3, [.int (iv (f0)), .int (iv (d0)), .int (iv (e0)), .int (iv (ac)), .int (iv (dn)), .int (iv (pr)), .ref rE, .int (iv (nu)), .int (iv (de))])), (rE, ai (gI G) 8 (es)), (rL, .inr (1, [.int (iv (cP)), .int (iv (cQ)), .int (iv (nb)), .ref rl, .ref rt, .ref rw, .ref rh, .ref rf, .ref rp, .ref rb])), (rl, ai (gI G) 8 (gl)), (rt, ai (gI G) 8 (gt)), (rw, ai (gI G) 8 (gw)), (rh, ai (gI G) 8 (gh)), (rf, ai (gI G) 17 (gf)), (rp, ai (gI G) 256 (gp)), (rb, ai (gI G) 256 (gb))] H := hP
          have hD : va_D A [(rX, .inr (6, [.int (iv (wd)), .int (iv (ht)), .ref rP, .ref rS, .ref rL, .ref rT, .ref rC, .ref ra, .ref rv, .int (iv (sth)), .int (iv (rth)), .ref rRC, .ref rRP])), (rS, .inr (3, [.int (iv (f0)), .int (iv (d0)), .int (iv (e0)), .int (iv (ac)), .int (iv (dn)), .int (iv (pr)), .ref rE, .int (iv (nu)), .int (iv (de))])), (rE, ai (gI G) 8 (es)), (rL, .inr (1, [.int (iv (cP)), .int (iv (cQ)), .int (iv (nb)), .ref rl, .ref rt, .ref rw, .ref rh, .ref rf, .ref rp, .ref rb])), (rl, ai (gI G) 8 (gl)), (rt, ai (gI G) 8 (gt)), (rw, ai (gI G) 8 (gw)), (rh, ai (gI G) 8 (gh)), (rf, ai (gI G) 17 (gf)), (rp, ai (gI G) 256 (gp)), (rb, ai (gI G) 256 (gb))] := hD
          refine lv_aload_n hx hb d_X_filter_61 rfl (lv_at hl 0 rfl) ?_
          refine va_get (D := gD G) (ci := 6) (v := .ref rS) (C := R_X) (T := F_X) (N := 13) hx hb hw in_X hown hK hP 0 rfl rfl 3 (by decide) (hw _ m2_7) (fun _ h => h) rfl d_X_filter_62 ?_
          refine va_get (D := gD G) (ci := 3) (v := .ref rE) (C := R_Setup) (T := F_Setup) (N := 9) hx hb hw in_Setup hown hK hP 1 rfl rfl 6 (by decide) (hw _ m1_46) (fun _ h => h) rfl d_X_filter_65 ?_
          refine lv_iconst (v := iv (0)) hx hb d_X_filter_68 rfl ?_
          refine k_cv (wz := fun u : Int → Int => [(rX, .inr (6, [.int (iv (wd)), .int (iv (ht)), .ref rP, .ref rS, .ref rL, .ref rT, .ref rC, .ref ra, .ref rv, .int (iv (sth)), .int (iv (rth)), .ref rRC, .ref rRP])), (rS, .inr (3, [.int (iv (f0)), .int (iv (d0)), .int (iv (e0)), .int (iv (ac)), .int (iv (dn)), .int (iv (pr)), .ref rE, .int (iv (nu)), .int (iv (de))])), (rE, ai (gI G) 8 (u)), (rL, .inr (1, [.int (iv (cP)), .int (iv (cQ)), .int (iv (nb)), .ref rl, .ref rt, .ref rw, .ref rh, .ref rf, .ref rp, .ref rb])), (rl, ai (gI G) 8 (gl)), (rt, ai (gI G) 8 (gt)), (rw, ai (gI G) 8 (gw)), (rh, ai (gI G) 8 (gh)), (rf, ai (gI G) 17 (gf)), (rp, ai (gI G) 256 (gp)), (rb, ai (gI G) 256 (gb))]) (wr := [(rX, .inr (6, [.int (iv (wd)), .int (iv (ht)), .ref rP, .ref rS, .ref rL, .ref rT, .ref rC, .ref ra, .ref rv, .int (iv (sth)), .int (iv (rth)), .ref rRC, .ref rRP])), (rS, .inr (3, [.int (iv (f0)), .int (iv (d0)), .int (iv (e0)), .int (iv (ac)), .int (iv (dn)), .int (iv (pr)), .ref rE, .int (iv (nu)), .int (iv (de))])), (rL, .inr (1, [.int (iv (cP)), .int (iv (cQ)), .int (iv (nb)), .ref rl, .ref rt, .ref rw, .ref rh, .ref rf, .ref rp, .ref rb])), (rl, ai (gI G) 8 (gl)), (rt, ai (gI G) 8 (gt)), (rw, ai (gI G) 8 (gw)), (rh, ai (gI G) 8 (gh)), (rf, ai (gI G) 17 (gf)), (rp, ai (gI G) 256 (gp)), (rb, ai (gI G) 256 (gb))]) (k_rs S (c_Jarr_fill l G _ rE 8 0 es (by decide)) 2 m2_80 m2_78 m2_79 m1_10 (by decide +kernel) (by decide) rfl rfl (k_preS hK hP hD hS hA hT [2] (by decide) rfl) rfl hl.1 rfl (Nat.le_of_ble_eq_true rfl) d_X_filter_69 ⟨Nat.le_of_ble_eq_true rfl, Nat.le_of_ble_eq_true rfl⟩) hP hD hS hA [2] [0, 1, 3, 4, 5, 6, 7, 8, 9, 10] [0, 1, 10, 2, 3, 4, 5, 6, 7, 8, 9] rfl rfl (by decide) (by decide) (by decide) (fun _ => rfl) (fun u69 H locs h69 hP hD hS => ?_)
          obtain ⟨es2, hu69⟩ : ∃ z, z = u69 := ⟨_, rfl⟩
          subst hu69
          have hP : va_P (gD G) classes [(rX, .inr (6, [.int (iv (wd)), .int (iv (ht)), .ref rP, .ref rS, .ref rL, .ref rT, .ref rC, .ref ra, .ref rv, .int (iv (sth)), .int (iv (rth)), .ref rRC, .ref rRP])), (rS, .inr (3, [.int (iv (f0)), .int (iv (d0)), .int (iv (e0)), .int (iv (ac)), .int (iv (dn)), .int (iv (pr)), .ref rE, .int (iv (nu)), .int (iv (de))])), (rE, ai (gI G) 8 (es2)), (rL, .inr (1, [.int (iv (cP)), .int (iv (cQ)), .int (iv (nb)), .ref rl, .ref rt, .ref rw, .ref rh, .ref rf, .ref rp, .ref rb])), (rl, ai (gI G) 8 (gl)), (rt, ai (gI G) 8 (gt)), (rw, ai (gI G) 8 (gw)), (rh, ai (gI G) 8 (gh)), (rf, ai (gI G) 17 (gf)), (rp, ai (gI G) 256 (gp)), (rb, ai (gI G) 256 (gb))] H := hP
          have hD : va_D A [(rX, .inr (6, [.int (iv (wd)), .int (iv (ht)), .ref rP, .ref rS, .ref rL, .ref rT, .ref rC, .ref ra, .ref rv, .int (iv (sth)), .int (iv (rth)), .ref rRC, .ref rRP])), (rS, .inr (3, [.int (iv (f0)), .int (iv (d0)), .int (iv (e0)), .int (iv (ac)), .int (iv (dn)), .int (iv (pr)), .ref rE, .int (iv (nu)), .int (iv (de))])), (rE, ai (gI G) 8 (es2)), (rL, .inr (1, [.int (iv (cP)), .int (iv (cQ)), .int (iv (nb)), .ref rl, .ref rt, .ref rw, .ref rh, .ref rf, .ref rp, .ref rb])), (rl, ai (gI G) 8 (gl)), (rt, ai (gI G) 8 (gt)), (rw, ai (gI G) 8 (gw)), (rh, ai (gI G) 8 (gh)), (rf, ai (gI G) 17 (gf)), (rp, ai (gI G) 256 (gp)), (rb, ai (gI G) 256 (gb))] := hD
          try dsimp only at h69
          refine lv_aload_n hx hb d_X_filter_72 rfl (lv_at hl 0 rfl) ?_
          refine va_get (D := gD G) (ci := 6) (v := .ref rL) (C := R_X) (T := F_X) (N := 13) hx hb hw in_X hown hK hP 0 rfl rfl 4 (by decide) (hw _ m2_8) (fun _ h => h) rfl d_X_filter_73 ?_
          refine lv_aload_n hx hb d_X_filter_76 rfl (lv_at hl 0 rfl) ?_
          refine va_get (D := gD G) (ci := 6) (v := .ref rS) (C := R_X) (T := F_X) (N := 13) hx hb hw in_X hown hK hP 0 rfl rfl 3 (by decide) (hw _ m2_7) (fun _ h => h) rfl d_X_filter_77 ?_
          refine lv_aload_n hx hb d_X_filter_80 rfl (lv_at hl 0 rfl) ?_
          refine va_get (D := gD G) (ci := 6) (v := .int (iv (wd))) (C := R_X) (T := F_X) (N := 13) hx hb hw in_X hown hK hP 0 rfl rfl 0 (by decide) (hw _ m2_4) (fun _ h => h) rfl d_X_filter_81 ?_
          refine lv_aload_n hx hb d_X_filter_84 rfl (lv_at hl 0 rfl) ?_
          refine va_get (D := gD G) (ci := 6) (v := .int (iv (ht))) (C := R_X) (T := F_X) (N := 13) hx hb hw in_X hown hK hP 0 rfl rfl 1 (by decide) (hw _ m2_5) (fun _ h => h) rfl d_X_filter_85 ?_
          refine k_cv (wz := fun u : Int × Int × Int × (Int → Int) × (Int → Int) × (Int → Int) × (Int → Int) => [(rX, .inr (6, [.int (iv (wd)), .int (iv (ht)), .ref rP, .ref rS, .ref rL, .ref rT, .ref rC, .ref ra, .ref rv, .int (iv (sth)), .int (iv (rth)), .ref rRC, .ref rRP])), (rS, .inr (3, [.int (iv (f0)), .int (iv (d0)), .int (iv (e0)), .int (iv (ac)), .int (iv (dn)), .int (iv (pr)), .ref rE, .int (iv (nu)), .int (iv (de))])), (rE, ai (gI G) 8 (es2)), (rL, .inr (1, [.int (iv (u.1)), .int (iv (u.2.1)), .int (iv (u.2.2.1)), .ref rl, .ref rt, .ref rw, .ref rh, .ref rf, .ref rp, .ref rb])), (rl, ai (gI G) 8 (u.2.2.2.1)), (rt, ai (gI G) 8 (u.2.2.2.2.1)), (rw, ai (gI G) 8 (u.2.2.2.2.2.1)), (rh, ai (gI G) 8 (u.2.2.2.2.2.2)), (rf, ai (gI G) 17 (gf)), (rp, ai (gI G) 256 (gp)), (rb, ai (gI G) 256 (gb))]) (wr := [(rX, .inr (6, [.int (iv (wd)), .int (iv (ht)), .ref rP, .ref rS, .ref rL, .ref rT, .ref rC, .ref ra, .ref rv, .int (iv (sth)), .int (iv (rth)), .ref rRC, .ref rRP])), (rE, ai (gI G) 8 (es2)), (rf, ai (gI G) 17 (gf)), (rp, ai (gI G) 256 (gp)), (rb, ai (gI G) 256 (gb))]) (k_rv S (c_Layout_placeBands l G _ rL rS rl rt rw rh rf rp rb rE wd ht cP cQ nb f0 d0 e0 ac dn pr nu de gl gt gw gh (by omega) (by omega) (by omega)) 3 m1_220 m1_217 m1_218 m1_219 m1_3 (by decide +kernel) (by decide) rfl rfl (k_preV (q0 := 3) hK hP hD hS hA hT rfl rfl [3, 4, 5, 6, 7, 1] (by decide) rfl) rfl hl.1 rfl (Nat.le_of_ble_eq_true rfl) d_X_filter_88 ⟨Nat.le_of_ble_eq_true rfl, Nat.le_of_ble_eq_true rfl⟩) hP hD hS hA [3, 4, 5, 6, 7, 1] [0, 2, 8, 9, 10] [0, 10, 1, 5, 6, 7, 8, 9, 2, 3, 4] rfl rfl (by decide) (by decide) (by decide) (fun _ => rfl) (fun u88 H locs h88 hP hD hS => ?_)
          obtain ⟨cP2, cQ2, nb2, gl2, gt2, gw2, gh2⟩ := u88
          have hP : va_P (gD G) classes [(rX, .inr (6, [.int (iv (wd)), .int (iv (ht)), .ref rP, .ref rS, .ref rL, .ref rT, .ref rC, .ref ra, .ref rv, .int (iv (sth)), .int (iv (rth)), .ref rRC, .ref rRP])), (rS, .inr (3, [.int (iv (f0)), .int (iv (d0)), .int (iv (e0)), .int (iv (ac)), .int (iv (dn)), .int (iv (pr)), .ref rE, .int (iv (nu)), .int (iv (de))])), (rE, ai (gI G) 8 (es2)), (rL, .inr (1, [.int (iv (cP2)), .int (iv (cQ2)), .int (iv (nb2)), .ref rl, .ref rt, .ref rw, .ref rh, .ref rf, .ref rp, .ref rb])), (rl, ai (gI G) 8 (gl2)), (rt, ai (gI G) 8 (gt2)), (rw, ai (gI G) 8 (gw2)), (rh, ai (gI G) 8 (gh2)), (rf, ai (gI G) 17 (gf)), (rp, ai (gI G) 256 (gp)), (rb, ai (gI G) 256 (gb))] H := hP
          have hD : va_D A [(rX, .inr (6, [.int (iv (wd)), .int (iv (ht)), .ref rP, .ref rS, .ref rL, .ref rT, .ref rC, .ref ra, .ref rv, .int (iv (sth)), .int (iv (rth)), .ref rRC, .ref rRP])), (rS, .inr (3, [.int (iv (f0)), .int (iv (d0)), .int (iv (e0)), .int (iv (ac)), .int (iv (dn)), .int (iv (pr)), .ref rE, .int (iv (nu)), .int (iv (de))])), (rE, ai (gI G) 8 (es2)), (rL, .inr (1, [.int (iv (cP2)), .int (iv (cQ2)), .int (iv (nb2)), .ref rl, .ref rt, .ref rw, .ref rh, .ref rf, .ref rp, .ref rb])), (rl, ai (gI G) 8 (gl2)), (rt, ai (gI G) 8 (gt2)), (rw, ai (gI G) 8 (gw2)), (rh, ai (gI G) 8 (gh2)), (rf, ai (gI G) 17 (gf)), (rp, ai (gI G) 256 (gp)), (rb, ai (gI G) 256 (gb))] := hD
          try dsimp only at h88
          have hde2 : 0 ≤ d0 ∧ d0 ≤ 2 ∧ 0 ≤ e0 ∧ e0 ≤ 2 ∧ d0 + e0 ≤ 3 := by omega
          have e88 := h88
          simp only [Prod.mk.injEq] at e88
          obtain ⟨a1, a2, a3, a4, a5, a6, a7⟩ := e88
          have hB2 : okB cP2 cQ2 d0 e0 nb2 gl2 gt2 gw2 gh2 := by rw [a3, a4, a5, a6, a7, a1, a2]; exact plA_ok hde2
          have a8 := lmI_r hwd (p2_c (k := d0 + e0) (by omega))
          have a9 := lmI_r hht (p2_c (k := d0) (by omega))
          rw [← a1] at a8
          rw [← a2] at a9
          have hP2 : 0 ≤ cP2 ∧ cP2 ≤ 16 := by omega
          have hQ2 : 0 ≤ cQ2 ∧ cQ2 ≤ 16 := by omega
          have kb := okB_r hB2 hP2 hQ2 hde2
          refine lv_aload_n hx hb d_X_filter_91 rfl (lv_at hl 0 rfl) ?_
          refine va_get (D := gD G) (ci := 6) (v := .ref rL) (C := R_X) (T := F_X) (N := 13) hx hb hw in_X hown hK hP 0 rfl rfl 4 (by decide) (hw _ m2_8) (fun _ h => h) rfl d_X_filter_92 ?_
          refine lv_aload_n hx hb d_X_filter_95 rfl (lv_at hl 0 rfl) ?_
          refine va_get (D := gD G) (ci := 6) (v := .ref rS) (C := R_X) (T := F_X) (N := 13) hx hb hw in_X hown hK hP 0 rfl rfl 3 (by decide) (hw _ m2_7) (fun _ h => h) rfl d_X_filter_96 ?_
          refine k_cv (wz := fun u : (Int → Int) × (Int → Int) × (Int → Int) => [(rX, .inr (6, [.int (iv (wd)), .int (iv (ht)), .ref rP, .ref rS, .ref rL, .ref rT, .ref rC, .ref ra, .ref rv, .int (iv (sth)), .int (iv (rth)), .ref rRC, .ref rRP])), (rS, .inr (3, [.int (iv (f0)), .int (iv (d0)), .int (iv (e0)), .int (iv (ac)), .int (iv (dn)), .int (iv (pr)), .ref rE, .int (iv (nu)), .int (iv (de))])), (rE, ai (gI G) 8 (es2)), (rL, .inr (1, [.int (iv (cP2)), .int (iv (cQ2)), .int (iv (nb2)), .ref rl, .ref rt, .ref rw, .ref rh, .ref rf, .ref rp, .ref rb])), (rl, ai (gI G) 8 (gl2)), (rt, ai (gI G) 8 (gt2)), (rw, ai (gI G) 8 (gw2)), (rh, ai (gI G) 8 (gh2)), (rf, ai (gI G) 17 (u.1)), (rp, ai (gI G) 256 (u.2.1)), (rb, ai (gI G) 256 (u.2.2))]) (wr := [(rX, .inr (6, [.int (iv (wd)), .int (iv (ht)), .ref rP, .ref rS, .ref rL, .ref rT, .ref rC, .ref ra, .ref rv, .int (iv (sth)), .int (iv (rth)), .ref rRC, .ref rRP])), (rE, ai (gI G) 8 (es2))]) (k_rv S (c_Layout_cutSlices l G _ rL rS rl rt rw rh rf rp rb rE cP2 cQ2 nb2 f0 d0 e0 ac dn pr nu de gl2 gt2 gw2 gh2 gf gp gb (by omega) (by omega) kb.1 kb.2 (cut_cap hB2 hP2 hQ2 hde2 hac hdn)) 1 m1_235 m1_232 m1_233 m1_234 m1_3 (by decide +kernel) (by decide) rfl rfl (k_preV (q0 := 3) hK hP hD hS hA hT rfl rfl [3, 4, 5, 6, 7, 8, 9, 10, 1] (by decide) rfl) rfl hl.1 rfl (Nat.le_of_ble_eq_true rfl) d_X_filter_99 ⟨Nat.le_of_ble_eq_true rfl, Nat.le_of_ble_eq_true rfl⟩) hP hD hS hA [3, 4, 5, 6, 7, 8, 9, 10, 1] [0, 2] [0, 10, 1, 2, 3, 4, 5, 6, 7, 8, 9] rfl rfl (by decide) (by decide) (by decide) (fun _ => rfl) (fun u99 H locs h99 hP hD hS => ?_)
          subst h99
          have hP : va_P (gD G) classes [(rX, .inr (6, [.int (iv (wd)), .int (iv (ht)), .ref rP, .ref rS, .ref rL, .ref rT, .ref rC, .ref ra, .ref rv, .int (iv (sth)), .int (iv (rth)), .ref rRC, .ref rRP])), (rS, .inr (3, [.int (iv (f0)), .int (iv (d0)), .int (iv (e0)), .int (iv (ac)), .int (iv (dn)), .int (iv (pr)), .ref rE, .int (iv (nu)), .int (iv (de))])), (rE, ai (gI G) 8 (es2)), (rL, .inr (1, [.int (iv (cP2)), .int (iv (cQ2)), .int (iv (nb2)), .ref rl, .ref rt, .ref rw, .ref rh, .ref rf, .ref rp, .ref rb])), (rl, ai (gI G) 8 (gl2)), (rt, ai (gI G) 8 (gt2)), (rw, ai (gI G) 8 (gw2)), (rh, ai (gI G) 8 (gh2)), (rf, ai (gI G) 17 (up (slA gl2 gt2 gw2 gh2 nb2 ac dn gf gp gb (ac * dn)).1 (ac * dn) (slA gl2 gt2 gw2 gh2 nb2 ac dn gf gp gb (ac * dn)).2.1)), (rp, ai (gI G) 256 ((slA gl2 gt2 gw2 gh2 nb2 ac dn gf gp gb (ac * dn)).2.2.1)), (rb, ai (gI G) 256 ((slA gl2 gt2 gw2 gh2 nb2 ac dn gf gp gb (ac * dn)).2.2.2))] H := hP
          have hD : va_D A [(rX, .inr (6, [.int (iv (wd)), .int (iv (ht)), .ref rP, .ref rS, .ref rL, .ref rT, .ref rC, .ref ra, .ref rv, .int (iv (sth)), .int (iv (rth)), .ref rRC, .ref rRP])), (rS, .inr (3, [.int (iv (f0)), .int (iv (d0)), .int (iv (e0)), .int (iv (ac)), .int (iv (dn)), .int (iv (pr)), .ref rE, .int (iv (nu)), .int (iv (de))])), (rE, ai (gI G) 8 (es2)), (rL, .inr (1, [.int (iv (cP2)), .int (iv (cQ2)), .int (iv (nb2)), .ref rl, .ref rt, .ref rw, .ref rh, .ref rf, .ref rp, .ref rb])), (rl, ai (gI G) 8 (gl2)), (rt, ai (gI G) 8 (gt2)), (rw, ai (gI G) 8 (gw2)), (rh, ai (gI G) 8 (gh2)), (rf, ai (gI G) 17 (up (slA gl2 gt2 gw2 gh2 nb2 ac dn gf gp gb (ac * dn)).1 (ac * dn) (slA gl2 gt2 gw2 gh2 nb2 ac dn gf gp gb (ac * dn)).2.1)), (rp, ai (gI G) 256 ((slA gl2 gt2 gw2 gh2 nb2 ac dn gf gp gb (ac * dn)).2.2.1)), (rb, ai (gI G) 256 ((slA gl2 gt2 gw2 gh2 nb2 ac dn gf gp gb (ac * dn)).2.2.2))] := hD
          refine lv_aload_n hx hb d_X_filter_102 rfl (lv_at hl 0 rfl) ?_
          refine k_cv (wz := fun u : Int × Int => [(rX, .inr (6, [.int (iv (wd)), .int (iv (ht)), .ref rP, .ref rS, .ref rL, .ref rT, .ref rC, .ref ra, .ref rv, .int (iv (u.1)), .int (iv (u.2)), .ref rRC, .ref rRP])), (rS, .inr (3, [.int (iv (f0)), .int (iv (d0)), .int (iv (e0)), .int (iv (ac)), .int (iv (dn)), .int (iv (pr)), .ref rE, .int (iv (nu)), .int (iv (de))])), (rE, ai (gI G) 8 (es2)), (rL, .inr (1, [.int (iv (cP2)), .int (iv (cQ2)), .int (iv (nb2)), .ref rl, .ref rt, .ref rw, .ref rh, .ref rf, .ref rp, .ref rb])), (rl, ai (gI G) 8 (gl2)), (rt, ai (gI G) 8 (gt2)), (rw, ai (gI G) 8 (gw2)), (rh, ai (gI G) 8 (gh2)), (rf, ai (gI G) 17 (up (slA gl2 gt2 gw2 gh2 nb2 ac dn gf gp gb (ac * dn)).1 (ac * dn) (slA gl2 gt2 gw2 gh2 nb2 ac dn gf gp gb (ac * dn)).2.1)), (rp, ai (gI G) 256 ((slA gl2 gt2 gw2 gh2 nb2 ac dn gf gp gb (ac * dn)).2.2.1)), (rb, ai (gI G) 256 ((slA gl2 gt2 gw2 gh2 nb2 ac dn gf gp gb (ac * dn)).2.2.2))]) (wr := [(rS, .inr (3, [.int (iv (f0)), .int (iv (d0)), .int (iv (e0)), .int (iv (ac)), .int (iv (dn)), .int (iv (pr)), .ref rE, .int (iv (nu)), .int (iv (de))])), (rE, ai (gI G) 8 (es2)), (rL, .inr (1, [.int (iv (cP2)), .int (iv (cQ2)), .int (iv (nb2)), .ref rl, .ref rt, .ref rw, .ref rh, .ref rf, .ref rp, .ref rb])), (rl, ai (gI G) 8 (gl2)), (rt, ai (gI G) 8 (gt2)), (rw, ai (gI G) 8 (gw2)), (rh, ai (gI G) 8 (gh2)), (rf, ai (gI G) 17 (up (slA gl2 gt2 gw2 gh2 nb2 ac dn gf gp gb (ac * dn)).1 (ac * dn) (slA gl2 gt2 gw2 gh2 nb2 ac dn gf gp gb (ac * dn)).2.1)), (rp, ai (gI G) 256 ((slA gl2 gt2 gw2 gh2 nb2 ac dn gf gp gb (ac * dn)).2.2.1)), (rb, ai (gI G) 256 ((slA gl2 gt2 gw2 gh2 nb2 ac dn gf gp gb (ac * dn)).2.2.2))]) (k_rv S (c_X_forget l G _ rX rP rS rL rT rC ra rv rRC rRP wd ht sth rth ) 0 m2_84 m2_81 m2_83 mp_3 m1_1 (by decide +kernel) (by decide) rfl rfl (k_preV (q0 := 0) hK hP hD hS hA hT rfl rfl [0] (by decide) rfl) rfl hl.1 rfl (Nat.le_of_ble_eq_true rfl) d_X_filter_103 ⟨Nat.le_of_ble_eq_true rfl, Nat.le_of_ble_eq_true rfl⟩) hP hD hS hA [0] [1, 2, 3, 4, 5, 6, 7, 8, 9, 10] [10, 0, 1, 2, 3, 4, 5, 6, 7, 8, 9] rfl rfl (by decide) (by decide) (by decide) (fun _ => rfl) (fun u103 H locs h103 hP hD hS => ?_)
          subst h103
          have hP : va_P (gD G) classes [(rX, .inr (6, [.int (iv (wd)), .int (iv (ht)), .ref rP, .ref rS, .ref rL, .ref rT, .ref rC, .ref ra, .ref rv, .int (iv (0)), .int (iv (0)), .ref rRC, .ref rRP])), (rS, .inr (3, [.int (iv (f0)), .int (iv (d0)), .int (iv (e0)), .int (iv (ac)), .int (iv (dn)), .int (iv (pr)), .ref rE, .int (iv (nu)), .int (iv (de))])), (rE, ai (gI G) 8 (es2)), (rL, .inr (1, [.int (iv (cP2)), .int (iv (cQ2)), .int (iv (nb2)), .ref rl, .ref rt, .ref rw, .ref rh, .ref rf, .ref rp, .ref rb])), (rl, ai (gI G) 8 (gl2)), (rt, ai (gI G) 8 (gt2)), (rw, ai (gI G) 8 (gw2)), (rh, ai (gI G) 8 (gh2)), (rf, ai (gI G) 17 (up (slA gl2 gt2 gw2 gh2 nb2 ac dn gf gp gb (ac * dn)).1 (ac * dn) (slA gl2 gt2 gw2 gh2 nb2 ac dn gf gp gb (ac * dn)).2.1)), (rp, ai (gI G) 256 ((slA gl2 gt2 gw2 gh2 nb2 ac dn gf gp gb (ac * dn)).2.2.1)), (rb, ai (gI G) 256 ((slA gl2 gt2 gw2 gh2 nb2 ac dn gf gp gb (ac * dn)).2.2.2))] H := hP
          have hD : va_D A [(rX, .inr (6, [.int (iv (wd)), .int (iv (ht)), .ref rP, .ref rS, .ref rL, .ref rT, .ref rC, .ref ra, .ref rv, .int (iv (0)), .int (iv (0)), .ref rRC, .ref rRP])), (rS, .inr (3, [.int (iv (f0)), .int (iv (d0)), .int (iv (e0)), .int (iv (ac)), .int (iv (dn)), .int (iv (pr)), .ref rE, .int (iv (nu)), .int (iv (de))])), (rE, ai (gI G) 8 (es2)), (rL, .inr (1, [.int (iv (cP2)), .int (iv (cQ2)), .int (iv (nb2)), .ref rl, .ref rt, .ref rw, .ref rh, .ref rf, .ref rp, .ref rb])), (rl, ai (gI G) 8 (gl2)), (rt, ai (gI G) 8 (gt2)), (rw, ai (gI G) 8 (gw2)), (rh, ai (gI G) 8 (gh2)), (rf, ai (gI G) 17 (up (slA gl2 gt2 gw2 gh2 nb2 ac dn gf gp gb (ac * dn)).1 (ac * dn) (slA gl2 gt2 gw2 gh2 nb2 ac dn gf gp gb (ac * dn)).2.1)), (rp, ai (gI G) 256 ((slA gl2 gt2 gw2 gh2 nb2 ac dn gf gp gb (ac * dn)).2.2.1)), (rb, ai (gI G) 256 ((slA gl2 gt2 gw2 gh2 nb2 ac dn gf gp gb (ac * dn)).2.2.2))] := hD
          refine lv_iconst (v := iv (1)) hx hb d_X_filter_106 rfl ?_
          exact k_zret hx hb hr hlk (by omega) hQ ((1, f0, d0, e0, es2, cP2, cQ2, nb2, gl2, gt2, gw2, gh2, up (slA gl2 gt2 gw2 gh2 nb2 ac dn gf gp gb (ac * dn)).1 (ac * dn) (slA gl2 gt2 gw2 gh2 nb2 ac dn gf gp gb (ac * dn)).2.1, (slA gl2 gt2 gw2 gh2 nb2 ac dn gf gp gb (ac * dn)).2.2.1, (slA gl2 gt2 gw2 gh2 nb2 ac dn gf gp gb (ac * dn)).2.2.2, 0, 0)) (⟨rfl, by rw [if_pos (by omega)]; exact ⟨rfl, ⟨rfl, rfl, rfl, fun b b0 b1 => by rw [h69]; exact fill_v b0 b1⟩, ⟨a1, a2, hB2, cut_ok hB2 hP2 hQ2 hde2 hac hdn⟩, rfl, rfl⟩⟩) hP hD hS d_X_filter_107
        · refine lv_iconst (v := iv (0)) hx hb d_X_filter_35 rfl ?_
          exact k_zret hx hb hr hlk (by omega) hQ ((0, kd, db, ew, es, cP, cQ, nb, gl, gt, gw, gh, gf, gp, gb, sth, rth)) (⟨rfl, by rw [if_neg (by omega)]⟩) hP hD hS d_X_filter_36
abbrev w_X_findCoefficients : List Cond := Cond.code y_X_findCoefficients prog_1_method_28_code 3 none :: wl
abbrev r_X_findCoefficients : Room := { frames := 5, cells := 0, slots := 0, locals := 137 }
set_option maxHeartbeats 4000000 in
set_option maxRecDepth 100000 in
theorem c_X_findCoefficients (l : Launch) (G : k_G) (sz : Nat) (rX rP rS rL rT rC ra rv rRC rRP rev rod rE rl rt rw rh rf rp rb : Nat) (wd ht sth rth kd db ew ac dn pr nu de cP cQ nb : Int) (pic : Int → Int) (ge go a0 : Int → Int64) (hwd : 1 ≤ wd ∧ wd ≤ 16) (hht : 1 ≤ ht ∧ ht ≤ 16) (hpic : ∀ j, -128 ≤ pic j ∧ pic j ≤ 127) (hkd : 0 ≤ kd ∧ kd ≤ 6) (hde : 0 ≤ db ∧ db ≤ 2 ∧ 0 ≤ ew ∧ ew ≤ 2 ∧ db + ew ≤ 3) (hcP : 0 ≤ cP ∧ cP ≤ 16) (hcQ : 0 ≤ cQ ∧ cQ ≤ 16) : Met l y_X_findCoefficients w_X_findCoefficients r_X_findCoefficients (k_P G [.ref rX] [(rX, .inr (6, [.int (iv (wd)), .int (iv (ht)), .ref rP, .ref rS, .ref rL, .ref rT, .ref rC, .ref ra, .ref rv, .int (iv (sth)), .int (iv (rth)), .ref rRC, .ref rRP])), (rP, ai (gI G) 256 (pic)), (rT, .inr (5, [.ref rev, .ref rod])), (rev, al (gL G) 8 (ge)), (rod, al (gL G) 8 (go)), (ra, al (gL G) 256 (a0)), (rS, .inr (3, [.int (iv (kd)), .int (iv (db)), .int (iv (ew)), .int (iv (ac)), .int (iv (dn)), .int (iv (pr)), .ref rE, .int (iv (nu)), .int (iv (de))])), (rL, .inr (1, [.int (iv (cP)), .int (iv (cQ)), .int (iv (nb)), .ref rl, .ref rt, .ref rw, .ref rh, .ref rf, .ref rp, .ref rb]))] sz) (qv G (fun u : (Int → Int64) × (Int → Int64) × (Int → Int64) => u = fwA cP cQ db ew kd (fcA wd ht cP cQ pic a0, ge, go)) (fun u : (Int → Int64) × (Int → Int64) × (Int → Int64) => [(rX, .inr (6, [.int (iv (wd)), .int (iv (ht)), .ref rP, .ref rS, .ref rL, .ref rT, .ref rC, .ref ra, .ref rv, .int (iv (sth)), .int (iv (rth)), .ref rRC, .ref rRP])), (rP, ai (gI G) 256 (pic)), (rT, .inr (5, [.ref rev, .ref rod])), (rev, al (gL G) 8 (u.2.1)), (rod, al (gL G) 8 (u.2.2)), (ra, al (gL G) 256 (u.1)), (rS, .inr (3, [.int (iv (kd)), .int (iv (db)), .int (iv (ew)), .int (iv (ac)), .int (iv (dn)), .int (iv (pr)), .ref rE, .int (iv (nu)), .int (iv (de))])), (rL, .inr (1, [.int (iv (cP)), .int (iv (cQ)), .int (iv (nb)), .ref rl, .ref rt, .ref rw, .ref rh, .ref rf, .ref rp, .ref rb]))]) (va_A [(rX, .inr (6, [.int (iv (wd)), .int (iv (ht)), .ref rP, .ref rS, .ref rL, .ref rT, .ref rC, .ref ra, .ref rv, .int (iv (sth)), .int (iv (rth)), .ref rRC, .ref rRP])), (rP, ai (gI G) 256 (pic)), (rT, .inr (5, [.ref rev, .ref rod])), (rev, al (gL G) 8 (ge)), (rod, al (gL G) 8 (go)), (ra, al (gL G) 256 (a0)), (rS, .inr (3, [.int (iv (kd)), .int (iv (db)), .int (iv (ew)), .int (iv (ac)), .int (iv (dn)), .int (iv (pr)), .ref rE, .int (iv (nu)), .int (iv (de))])), (rL, .inr (1, [.int (iv (cP)), .int (iv (cQ)), .int (iv (nb)), .ref rl, .ref rt, .ref rw, .ref rh, .ref rf, .ref rp, .ref rb]))] sz)) 0 0 (va_A [(rX, .inr (6, [.int (iv (wd)), .int (iv (ht)), .ref rP, .ref rS, .ref rL, .ref rT, .ref rC, .ref ra, .ref rv, .int (iv (sth)), .int (iv (rth)), .ref rRC, .ref rRP])), (rP, ai (gI G) 256 (pic)), (rT, .inr (5, [.ref rev, .ref rod])), (rev, al (gL G) 8 (ge)), (rod, al (gL G) 8 (go)), (ra, al (gL G) 256 (a0)), (rS, .inr (3, [.int (iv (kd)), .int (iv (db)), .int (iv (ew)), .int (iv (ac)), .int (iv (dn)), .int (iv (pr)), .ref rE, .int (iv (nu)), .int (iv (de))])), (rL, .inr (1, [.int (iv (cP)), .int (iv (cQ)), .int (iv (nb)), .ref rl, .ref rt, .ref rw, .ref rh, .ref rf, .ref rp, .ref rb]))] sz) := by
  refine k_met (fun A => qv G (fun u : (Int → Int64) × (Int → Int64) × (Int → Int64) => u = fwA cP cQ db ew kd (fcA wd ht cP cQ pic a0, ge, go)) (fun u : (Int → Int64) × (Int → Int64) × (Int → Int64) => [(rX, .inr (6, [.int (iv (wd)), .int (iv (ht)), .ref rP, .ref rS, .ref rL, .ref rT, .ref rC, .ref ra, .ref rv, .int (iv (sth)), .int (iv (rth)), .ref rRC, .ref rRP])), (rP, ai (gI G) 256 (pic)), (rT, .inr (5, [.ref rev, .ref rod])), (rev, al (gL G) 8 (u.2.1)), (rod, al (gL G) 8 (u.2.2)), (ra, al (gL G) 256 (u.1)), (rS, .inr (3, [.int (iv (kd)), .int (iv (db)), .int (iv (ew)), .int (iv (ac)), .int (iv (dn)), .int (iv (pr)), .ref rE, .int (iv (nu)), .int (iv (de))])), (rL, .inr (1, [.int (iv (cP)), .int (iv (cQ)), .int (iv (nb)), .ref rl, .ref rt, .ref rw, .ref rh, .ref rf, .ref rp, .ref rb]))]) A) (fun A => A) (by decide) rfl (Nat.le_of_ble_eq_true rfl) (fun p e s m args below meth c ls A Q S hr hlk hnm hl hsz hP hK hD hS hA hT hQ => ?_)
  obtain ⟨hx, hb, hml, hown, hts⟩ := id S
  have hw : ∀ w ∈ wl, w.before args s = true := fun w h => hts w (List.mem_cons_of_mem _ h)
  have hl : lv_has ls 3 [(0, .ref rX)] := hl
  refine lv_iconst (v := iv (0)) hx hb d_X_findCoefficients_0 rfl ?_
  refine lv_istore_n hx hb d_X_findCoefficients_1 rfl hl (by decide) rfl (fun ls hl => ?_)
  have hl : lv_has ls 3 [(1, .int (iv (0))), (0, .ref rX)] := hl
  refine lo_up (P := fun y => ∀ (ls : Array Slot) (H : Heap) (locs : List Loc) (a1 : Int → Int64), lv_has ls 3 [(0, .ref rX), (1, .int (iv (y)))] → va_P (gD G) classes [(rX, .inr (6, [.int (iv (wd)), .int (iv (ht)), .ref rP, .ref rS, .ref rL, .ref rT, .ref rC, .ref ra, .ref rv, .int (iv (sth)), .int (iv (rth)), .ref rRC, .ref rRP])), (rP, ai (gI G) 256 (pic)), (rT, .inr (5, [.ref rev, .ref rod])), (rev, al (gL G) 8 (ge)), (rod, al (gL G) 8 (go)), (ra, al (gL G) 256 (a1)), (rS, .inr (3, [.int (iv (kd)), .int (iv (db)), .int (iv (ew)), .int (iv (ac)), .int (iv (dn)), .int (iv (pr)), .ref rE, .int (iv (nu)), .int (iv (de))])), (rL, .inr (1, [.int (iv (cP)), .int (iv (cQ)), .int (iv (nb)), .ref rl, .ref rt, .ref rw, .ref rh, .ref rf, .ref rp, .ref rb]))] H → va_D A [(rX, .inr (6, [.int (iv (wd)), .int (iv (ht)), .ref rP, .ref rS, .ref rL, .ref rT, .ref rC, .ref ra, .ref rv, .int (iv (sth)), .int (iv (rth)), .ref rRC, .ref rRP])), (rP, ai (gI G) 256 (pic)), (rT, .inr (5, [.ref rev, .ref rod])), (rev, al (gL G) 8 (ge)), (rod, al (gL G) 8 (go)), (ra, al (gL G) 256 (a1)), (rS, .inr (3, [.int (iv (kd)), .int (iv (db)), .int (iv (ew)), .int (iv (ac)), .int (iv (dn)), .int (iv (pr)), .ref rE, .int (iv (nu)), .int (iv (de))])), (rL, .inr (1, [.int (iv (cP)), .int (iv (cQ)), .int (iv (nb)), .ref rl, .ref rt, .ref rw, .ref rh, .ref rf, .ref rp, .ref rb]))] → va_S A s.heap H locs → (a1 = fcA wd ht cP y pic a0) → W p l e r_X_findCoefficients s m args below meth c H locs 0 0 Q (F0 m 2 ls [])) (a := 0) (b := cQ) (fun y hiy hjy ihy => ?_) _ _ _ a0 (lv_sub hl [1, 0] rfl) hP hD hS (it_self _ _ _).symm
  intro ls H locs a1 hl hP hD hS hs
  refine lv_iload_n hx hb d_X_findCoefficients_2 rfl (lv_at hl 1 rfl) ?_
  refine lv_aload_n hx hb d_X_findCoefficients_3 rfl (lv_at hl 0 rfl) ?_
  refine va_get (D := gD G) (ci := 6) (v := .ref rL) (C := R_X) (T := F_X) (N := 13) hx hb hw in_X hown hK hP 0 rfl rfl 4 (by decide) (hw _ m2_8) (fun _ h => h) rfl d_X_findCoefficients_4 ?_
  refine va_get (D := gD G) (ci := 1) (v := .int (iv (cQ))) (C := R_Layout) (T := F_Layout) (N := 10) hx hb hw in_Layout hown hK hP 7 rfl rfl 1 (by decide) (hw _ m1_83) (fun _ h => h) rfl d_X_findCoefficients_7 ?_
  refine k_icmp_ge (tgt := 79) hx hb d_X_findCoefficients_10 (by decide) (by omega) (by omega) (fun hc10 => ?_) (fun hc10 => ?_)
  · refine lv_aload_n hx hb d_X_findCoefficients_79 rfl (lv_at hl 0 rfl) ?_
    refine va_get (D := gD G) (ci := 6) (v := .ref rT) (C := R_X) (T := F_X) (N := 13) hx hb hw in_X hown hK hP 0 rfl rfl 5 (by decide) (hw _ m2_9) (fun _ h => h) rfl d_X_findCoefficients_80 ?_
    refine lv_aload_n hx hb d_X_findCoefficients_83 rfl (lv_at hl 0 rfl) ?_
    refine va_get (D := gD G) (ci := 6) (v := .ref ra) (C := R_X) (T := F_X) (N := 13) hx hb hw in_X hown hK hP 0 rfl rfl 7 (by decide) (hw _ m2_11) (fun _ h => h) rfl d_X_findCoefficients_84 ?_
    refine lv_aload_n hx hb d_X_findCoefficients_87 rfl (lv_at hl 0 rfl) ?_
    refine va_get (D := gD G) (ci := 6) (v := .ref rS) (C := R_X) (T := F_X) (N := 13) hx hb hw in_X hown hK hP 0 rfl rfl 3 (by decide) (hw _ m2_7) (fun _ h => h) rfl d_X_findCoefficients_88 ?_
    refine lv_aload_n hx hb d_X_findCoefficients_91 rfl (lv_at hl 0 rfl) ?_
    refine va_get (D := gD G) (ci := 6) (v := .ref rL) (C := R_X) (T := F_X) (N := 13) hx hb hw in_X hown hK hP 0 rfl rfl 4 (by decide) (hw _ m2_8) (fun _ h => h) rfl d_X_findCoefficients_92 ?_
    refine k_cv (wz := fun u : (Int → Int64) × (Int → Int64) × (Int → Int64) => [(rX, .inr (6, [.int (iv (wd)), .int (iv (ht)), .ref rP, .ref rS, .ref rL, .ref rT, .ref rC, .ref ra, .ref rv, .int (iv (sth)), .int (iv (rth)), .ref rRC, .ref rRP])), (rP, ai (gI G) 256 (pic)), (rT, .inr (5, [.ref rev, .ref rod])), (rev, al (gL G) 8 (u.2.1)), (rod, al (gL G) 8 (u.2.2)), (ra, al (gL G) 256 (u.1)), (rS, .inr (3, [.int (iv (kd)), .int (iv (db)), .int (iv (ew)), .int (iv (ac)), .int (iv (dn)), .int (iv (pr)), .ref rE, .int (iv (nu)), .int (iv (de))])), (rL, .inr (1, [.int (iv (cP)), .int (iv (cQ)), .int (iv (nb)), .ref rl, .ref rt, .ref rw, .ref rh, .ref rf, .ref rp, .ref rb]))]) (wr := [(rX, .inr (6, [.int (iv (wd)), .int (iv (ht)), .ref rP, .ref rS, .ref rL, .ref rT, .ref rC, .ref ra, .ref rv, .int (iv (sth)), .int (iv (rth)), .ref rRC, .ref rRP])), (rP, ai (gI G) 256 (pic))]) (k_rv S (c_Trans_toCoefficients l G _ rT ra rS rL rev rod rE rl rt rw rh rf rp rb kd db ew ac dn pr nu de cP cQ nb ge go a1 (by assumption) (by assumption) (by assumption) (by assumption)) 3 m2_121 m2_118 m2_119 m2_120 m1_4 (by decide +kernel) (by decide) rfl rfl (k_preV (q0 := 2) hK hP hD hS hA hT rfl rfl [2, 3, 4, 5, 6, 7] (by decide) rfl) rfl hl.1 rfl (Nat.le_of_ble_eq_true rfl) d_X_findCoefficients_95 ⟨Nat.le_of_ble_eq_true rfl, Nat.le_of_ble_eq_true rfl⟩) hP hD hS hA [2, 3, 4, 5, 6, 7] [0, 1] [0, 1, 2, 3, 4, 5, 6, 7] rfl rfl (by decide) (by decide) (by decide) (fun _ => rfl) (fun u95 H locs h95 hP hD hS => ?_)
    obtain ⟨a95, ge95, go95⟩ := u95
    have hP : va_P (gD G) classes [(rX, .inr (6, [.int (iv (wd)), .int (iv (ht)), .ref rP, .ref rS, .ref rL, .ref rT, .ref rC, .ref ra, .ref rv, .int (iv (sth)), .int (iv (rth)), .ref rRC, .ref rRP])), (rP, ai (gI G) 256 (pic)), (rT, .inr (5, [.ref rev, .ref rod])), (rev, al (gL G) 8 (ge95)), (rod, al (gL G) 8 (go95)), (ra, al (gL G) 256 (a95)), (rS, .inr (3, [.int (iv (kd)), .int (iv (db)), .int (iv (ew)), .int (iv (ac)), .int (iv (dn)), .int (iv (pr)), .ref rE, .int (iv (nu)), .int (iv (de))])), (rL, .inr (1, [.int (iv (cP)), .int (iv (cQ)), .int (iv (nb)), .ref rl, .ref rt, .ref rw, .ref rh, .ref rf, .ref rp, .ref rb]))] H := hP
    have hD : va_D A [(rX, .inr (6, [.int (iv (wd)), .int (iv (ht)), .ref rP, .ref rS, .ref rL, .ref rT, .ref rC, .ref ra, .ref rv, .int (iv (sth)), .int (iv (rth)), .ref rRC, .ref rRP])), (rP, ai (gI G) 256 (pic)), (rT, .inr (5, [.ref rev, .ref rod])), (rev, al (gL G) 8 (ge95)), (rod, al (gL G) 8 (go95)), (ra, al (gL G) 256 (a95)), (rS, .inr (3, [.int (iv (kd)), .int (iv (db)), .int (iv (ew)), .int (iv (ac)), .int (iv (dn)), .int (iv (pr)), .ref rE, .int (iv (nu)), .int (iv (de))])), (rL, .inr (1, [.int (iv (cP)), .int (iv (cQ)), .int (iv (nb)), .ref rl, .ref rt, .ref rw, .ref rh, .ref rf, .ref rp, .ref rb]))] := hD
    try dsimp only at h95
    exact k_vret hx hb hr hlk hQ ((a95, ge95, go95)) (by rw [h95, show fcA wd ht cP cQ pic a0 = a1 from (by rw [hs]; unfold fcA; exact (it_x _ _ hc10 hjy).symm)]) hP hD hS d_X_findCoefficients_98
  · refine lv_iconst (v := iv (0)) hx hb d_X_findCoefficients_13 rfl ?_
    refine lv_istore_n hx hb d_X_findCoefficients_14 rfl hl (by decide) rfl (fun ls hl => ?_)
    have hl : lv_has ls 3 [(2, .int (iv (0))), (0, .ref rX), (1, .int (iv (y)))] := hl
    refine lo_up (P := fun x => ∀ (ls : Array Slot) (H : Heap) (locs : List Loc) (a2 : Int → Int64), lv_has ls 3 [(0, .ref rX), (1, .int (iv (y))), (2, .int (iv (x)))] → va_P (gD G) classes [(rX, .inr (6, [.int (iv (wd)), .int (iv (ht)), .ref rP, .ref rS, .ref rL, .ref rT, .ref rC, .ref ra, .ref rv, .int (iv (sth)), .int (iv (rth)), .ref rRC, .ref rRP])), (rP, ai (gI G) 256 (pic)), (rT, .inr (5, [.ref rev, .ref rod])), (rev, al (gL G) 8 (ge)), (rod, al (gL G) 8 (go)), (ra, al (gL G) 256 (a2)), (rS, .inr (3, [.int (iv (kd)), .int (iv (db)), .int (iv (ew)), .int (iv (ac)), .int (iv (dn)), .int (iv (pr)), .ref rE, .int (iv (nu)), .int (iv (de))])), (rL, .inr (1, [.int (iv (cP)), .int (iv (cQ)), .int (iv (nb)), .ref rl, .ref rt, .ref rw, .ref rh, .ref rf, .ref rp, .ref rb]))] H → va_D A [(rX, .inr (6, [.int (iv (wd)), .int (iv (ht)), .ref rP, .ref rS, .ref rL, .ref rT, .ref rC, .ref ra, .ref rv, .int (iv (sth)), .int (iv (rth)), .ref rRC, .ref rRP])), (rP, ai (gI G) 256 (pic)), (rT, .inr (5, [.ref rev, .ref rod])), (rev, al (gL G) 8 (ge)), (rod, al (gL G) 8 (go)), (ra, al (gL G) 256 (a2)), (rS, .inr (3, [.int (iv (kd)), .int (iv (db)), .int (iv (ew)), .int (iv (ac)), .int (iv (dn)), .int (iv (pr)), .ref rE, .int (iv (nu)), .int (iv (de))])), (rL, .inr (1, [.int (iv (cP)), .int (iv (cQ)), .int (iv (nb)), .ref rl, .ref rt, .ref rw, .ref rh, .ref rf, .ref rp, .ref rb]))] → va_S A s.heap H locs → (a2 = it (fun x f => up f (y * 16 + x) (lw (pic (min y (ht - 1) * 16 + min x (wd - 1))))) 0 x a1) → W p l e r_X_findCoefficients s m args below meth c H locs 0 0 Q (F0 m 15 ls [])) (a := 0) (b := cP) (fun x hix hjx ihx => ?_) _ _ _ a1 (lv_sub hl [1, 2, 0] rfl) hP hD hS (it_self _ _ _).symm
    intro ls H locs a2 hl hP hD hS hs2
    refine lv_iload_n hx hb d_X_findCoefficients_15 rfl (lv_at hl 2 rfl) ?_
    refine lv_aload_n hx hb d_X_findCoefficients_16 rfl (lv_at hl 0 rfl) ?_
    refine va_get (D := gD G) (ci := 6) (v := .ref rL) (C := R_X) (T := F_X) (N := 13) hx hb hw in_X hown hK hP 0 rfl rfl 4 (by decide) (hw _ m2_8) (fun _ h => h) rfl d_X_findCoefficients_17 ?_
    refine va_get (D := gD G) (ci := 1) (v := .int (iv (cP))) (C := R_Layout) (T := F_Layout) (N := 10) hx hb hw in_Layout hown hK hP 7 rfl rfl 0 (by decide) (hw _ m1_80) (fun _ h => h) rfl d_X_findCoefficients_20 ?_
    refine k_icmp_ge (tgt := 73) hx hb d_X_findCoefficients_23 (by decide) (by omega) (by omega) (fun hc23 => ?_) (fun hc23 => ?_)
    · refine lv_iinc (k := 1) (v := iv (y + 1)) hx hb d_X_findCoefficients_73 hl rfl (iv_add _ _) (by decide) rfl (fun ls hl => ?_)
      have hl : lv_has ls 3 [(1, .int (iv (y + 1))), (0, .ref rX), (2, .int (iv (x)))] := hl
      refine lv_goto (tgt := 2) hx hb d_X_findCoefficients_76 (by decide) ?_
      exact ihy (by omega) _ _ _ a2 (lv_sub hl [1, 0] rfl) hP hD hS (by unfold fcA; rw [it_s _ _ hiy]; show _ = it (fun x f => up f (y * 16 + x) (lw (pic (min y (ht - 1) * 16 + min x (wd - 1))))) 0 cP (fcA wd ht cP y pic a0); rw [← hs, hs2]; exact it_x _ _ hc23 hjx)
    · refine lv_aload_n hx hb d_X_findCoefficients_26 rfl (lv_at hl 0 rfl) ?_
      refine va_get (D := gD G) (ci := 6) (v := .ref ra) (C := R_X) (T := F_X) (N := 13) hx hb hw in_X hown hK hP 0 rfl rfl 7 (by decide) (hw _ m2_11) (fun _ h => h) rfl d_X_findCoefficients_27 ?_
      refine lv_iload_n hx hb d_X_findCoefficients_30 rfl (lv_at hl 1 rfl) ?_
      refine lv_bipush (v := iv (16)) hx hb d_X_findCoefficients_31 rfl ?_
      refine k_imul hx hb d_X_findCoefficients_33 ?_
      refine lv_iload_n hx hb d_X_findCoefficients_34 rfl (lv_at hl 2 rfl) ?_
      refine k_iadd hx hb d_X_findCoefficients_35 ?_
      refine lv_aload_n hx hb d_X_findCoefficients_36 rfl (lv_at hl 0 rfl) ?_
      refine va_get (D := gD G) (ci := 6) (v := .ref rP) (C := R_X) (T := F_X) (N := 13) hx hb hw in_X hown hK hP 0 rfl rfl 2 (by decide) (hw _ m2_6) (fun _ h => h) rfl d_X_findCoefficients_37 ?_
      refine lv_iload_n hx hb d_X_findCoefficients_40 rfl (lv_at hl 1 rfl) ?_
      refine lv_aload_n hx hb d_X_findCoefficients_41 rfl (lv_at hl 0 rfl) ?_
      refine va_get (D := gD G) (ci := 6) (v := .int (iv (ht))) (C := R_X) (T := F_X) (N := 13) hx hb hw in_X hown hK hP 0 rfl rfl 1 (by decide) (hw _ m2_5) (fun _ h => h) rfl d_X_findCoefficients_42 ?_
      refine lv_iconst (v := iv (1)) hx hb d_X_findCoefficients_45 rfl ?_
      refine k_isub hx hb d_X_findCoefficients_46 ?_
      refine k_mmin hx hb (by rw [hml]; exact hl.1.symm) hown (hw _ m1_211) (hw _ m1_212) (hw _ m1_8) (hw _ m1_213) (by decide) (Nat.le_of_ble_eq_true rfl) (by decide) (by decide) (by omega) (by omega) d_X_findCoefficients_47 ?_
      refine lv_bipush (v := iv (16)) hx hb d_X_findCoefficients_50 rfl ?_
      refine k_imul hx hb d_X_findCoefficients_52 ?_
      refine lv_iload_n hx hb d_X_findCoefficients_53 rfl (lv_at hl 2 rfl) ?_
      refine lv_aload_n hx hb d_X_findCoefficients_54 rfl (lv_at hl 0 rfl) ?_
      refine va_get (D := gD G) (ci := 6) (v := .int (iv (wd))) (C := R_X) (T := F_X) (N := 13) hx hb hw in_X hown hK hP 0 rfl rfl 0 (by decide) (hw _ m2_4) (fun _ h => h) rfl d_X_findCoefficients_55 ?_
      refine lv_iconst (v := iv (1)) hx hb d_X_findCoefficients_58 rfl ?_
      refine k_isub hx hb d_X_findCoefficients_59 ?_
      refine k_mmin hx hb (by rw [hml]; exact hl.1.symm) hown (hw _ m1_211) (hw _ m1_212) (hw _ m1_8) (hw _ m1_213) (by decide) (Nat.le_of_ble_eq_true rfl) (by decide) (by decide) (by omega) (by omega) d_X_findCoefficients_60 ?_
      refine k_iadd hx hb d_X_findCoefficients_63 ?_
      refine k_ial hx hb hK hP 1 0 rfl rfl (by decide) (by omega) d_X_findCoefficients_64 ?_
      have b1 := hpic (min y (ht - 1) * 16 + min x (wd - 1))
      refine k_i2l hx hb d_X_findCoefficients_65 (by omega) ?_
      refine k_las hx hb hK hP hD hS 5 1 rfl rfl (by decide) (by omega) d_X_findCoefficients_66 (fun H locs hP hD hS => ?_)
      have hP : va_P (gD G) classes [(rX, .inr (6, [.int (iv (wd)), .int (iv (ht)), .ref rP, .ref rS, .ref rL, .ref rT, .ref rC, .ref ra, .ref rv, .int (iv (sth)), .int (iv (rth)), .ref rRC, .ref rRP])), (rP, ai (gI G) 256 (pic)), (rT, .inr (5, [.ref rev, .ref rod])), (rev, al (gL G) 8 (ge)), (rod, al (gL G) 8 (go)), (ra, al (gL G) 256 (up a2 ((y * 16) + x) (lw (pic (((min y (ht - 1)) * 16) + (min x (wd - 1))))))), (rS, .inr (3, [.int (iv (kd)), .int (iv (db)), .int (iv (ew)), .int (iv (ac)), .int (iv (dn)), .int (iv (pr)), .ref rE, .int (iv (nu)), .int (iv (de))])), (rL, .inr (1, [.int (iv (cP)), .int (iv (cQ)), .int (iv (nb)), .ref rl, .ref rt, .ref rw, .ref rh, .ref rf, .ref rp, .ref rb]))] H := hP
      have hD : va_D A [(rX, .inr (6, [.int (iv (wd)), .int (iv (ht)), .ref rP, .ref rS, .ref rL, .ref rT, .ref rC, .ref ra, .ref rv, .int (iv (sth)), .int (iv (rth)), .ref rRC, .ref rRP])), (rP, ai (gI G) 256 (pic)), (rT, .inr (5, [.ref rev, .ref rod])), (rev, al (gL G) 8 (ge)), (rod, al (gL G) 8 (go)), (ra, al (gL G) 256 (up a2 ((y * 16) + x) (lw (pic (((min y (ht - 1)) * 16) + (min x (wd - 1))))))), (rS, .inr (3, [.int (iv (kd)), .int (iv (db)), .int (iv (ew)), .int (iv (ac)), .int (iv (dn)), .int (iv (pr)), .ref rE, .int (iv (nu)), .int (iv (de))])), (rL, .inr (1, [.int (iv (cP)), .int (iv (cQ)), .int (iv (nb)), .ref rl, .ref rt, .ref rw, .ref rh, .ref rf, .ref rp, .ref rb]))] := hD
      refine lv_iinc (k := 2) (v := iv (x + 1)) hx hb d_X_findCoefficients_67 hl rfl (iv_add _ _) (by decide) rfl (fun ls hl => ?_)
      have hl : lv_has ls 3 [(2, .int (iv (x + 1))), (0, .ref rX), (1, .int (iv (y)))] := hl
      refine lv_goto (tgt := 15) hx hb d_X_findCoefficients_70 (by decide) ?_
      exact ihx (by omega) _ _ _ (up a2 ((y * 16) + x) (lw (pic (((min y (ht - 1)) * 16) + (min x (wd - 1)))))) (lv_sub hl [1, 2, 0] rfl) hP hD hS (by rw [it_s _ _ hix, ← hs2])
abbrev w_X_coefficient : List Cond := Cond.code y_X_coefficient prog_1_method_10_code 3 (some .long) :: wl
abbrev r_X_coefficient : Room := { frames := 6, cells := 0, slots := 0, locals := 159 }
set_option maxHeartbeats 4000000 in
set_option maxRecDepth 100000 in
theorem c_X_coefficient (l : Launch) (G : k_G) (sz : Nat) (rX rP rS rL rT rC ra rv rRC rRP rev rod rE rl rt rw rh rf rp rb : Nat) (x0 y0 wd ht sth rth kd db ew ac dn pr nu de cP cQ nb : Int) (pic : Int → Int) (ge go a0 : Int → Int64) (h_x0 : -2147483648 ≤ x0 ∧ x0 < 2147483648) (h_y0 : -2147483648 ≤ y0 ∧ y0 < 2147483648) (hwd : 1 ≤ wd ∧ wd ≤ 16) (hht : 1 ≤ ht ∧ ht ≤ 16) (hpic : ∀ j, -128 ≤ pic j ∧ pic j ≤ 127) (hkd : 0 ≤ kd ∧ kd ≤ 6) (hde : 0 ≤ db ∧ db ≤ 2 ∧ 0 ≤ ew ∧ ew ≤ 2 ∧ db + ew ≤ 3) (hcP : 0 ≤ cP ∧ cP ≤ 16) (hcQ : 0 ≤ cQ ∧ cQ ≤ 16) : Met l y_X_coefficient w_X_coefficient r_X_coefficient (k_P G [.ref rX, .int (iv (x0)), .int (iv (y0))] [(rX, .inr (6, [.int (iv (wd)), .int (iv (ht)), .ref rP, .ref rS, .ref rL, .ref rT, .ref rC, .ref ra, .ref rv, .int (iv (sth)), .int (iv (rth)), .ref rRC, .ref rRP])), (rP, ai (gI G) 256 (pic)), (rT, .inr (5, [.ref rev, .ref rod])), (rev, al (gL G) 8 (ge)), (rod, al (gL G) 8 (go)), (ra, al (gL G) 256 (a0)), (rS, .inr (3, [.int (iv (kd)), .int (iv (db)), .int (iv (ew)), .int (iv (ac)), .int (iv (dn)), .int (iv (pr)), .ref rE, .int (iv (nu)), .int (iv (de))])), (rL, .inr (1, [.int (iv (cP)), .int (iv (cQ)), .int (iv (nb)), .ref rl, .ref rt, .ref rw, .ref rh, .ref rf, .ref rp, .ref rb]))] sz) (ql G (fun (r : Int64) (u : Int64 × (Int → Int64) × (Int → Int64) × (Int → Int64)) => r = u.1 ∧ (u.1 = if (0 ≤ x0 ∧ x0 ≤ cP - 1) ∧ 0 ≤ y0 ∧ y0 ≤ cQ - 1 then (fwA cP cQ db ew kd (fcA wd ht cP cQ pic a0, ge, go)).1 (y0 * 16 + x0) else 0)) (fun u : Int64 × (Int → Int64) × (Int → Int64) × (Int → Int64) => [(rX, .inr (6, [.int (iv (wd)), .int (iv (ht)), .ref rP, .ref rS, .ref rL, .ref rT, .ref rC, .ref ra, .ref rv, .int (iv (sth)), .int (iv (rth)), .ref rRC, .ref rRP])), (rP, ai (gI G) 256 (pic)), (rT, .inr (5, [.ref rev, .ref rod])), (rev, al (gL G) 8 (u.2.2.1)), (rod, al (gL G) 8 (u.2.2.2)), (ra, al (gL G) 256 (u.2.1)), (rS, .inr (3, [.int (iv (kd)), .int (iv (db)), .int (iv (ew)), .int (iv (ac)), .int (iv (dn)), .int (iv (pr)), .ref rE, .int (iv (nu)), .int (iv (de))])), (rL, .inr (1, [.int (iv (cP)), .int (iv (cQ)), .int (iv (nb)), .ref rl, .ref rt, .ref rw, .ref rh, .ref rf, .ref rp, .ref rb]))]) (va_A [(rX, .inr (6, [.int (iv (wd)), .int (iv (ht)), .ref rP, .ref rS, .ref rL, .ref rT, .ref rC, .ref ra, .ref rv, .int (iv (sth)), .int (iv (rth)), .ref rRC, .ref rRP])), (rP, ai (gI G) 256 (pic)), (rT, .inr (5, [.ref rev, .ref rod])), (rev, al (gL G) 8 (ge)), (rod, al (gL G) 8 (go)), (ra, al (gL G) 256 (a0)), (rS, .inr (3, [.int (iv (kd)), .int (iv (db)), .int (iv (ew)), .int (iv (ac)), .int (iv (dn)), .int (iv (pr)), .ref rE, .int (iv (nu)), .int (iv (de))])), (rL, .inr (1, [.int (iv (cP)), .int (iv (cQ)), .int (iv (nb)), .ref rl, .ref rt, .ref rw, .ref rh, .ref rf, .ref rp, .ref rb]))] sz)) 0 0 (va_A [(rX, .inr (6, [.int (iv (wd)), .int (iv (ht)), .ref rP, .ref rS, .ref rL, .ref rT, .ref rC, .ref ra, .ref rv, .int (iv (sth)), .int (iv (rth)), .ref rRC, .ref rRP])), (rP, ai (gI G) 256 (pic)), (rT, .inr (5, [.ref rev, .ref rod])), (rev, al (gL G) 8 (ge)), (rod, al (gL G) 8 (go)), (ra, al (gL G) 256 (a0)), (rS, .inr (3, [.int (iv (kd)), .int (iv (db)), .int (iv (ew)), .int (iv (ac)), .int (iv (dn)), .int (iv (pr)), .ref rE, .int (iv (nu)), .int (iv (de))])), (rL, .inr (1, [.int (iv (cP)), .int (iv (cQ)), .int (iv (nb)), .ref rl, .ref rt, .ref rw, .ref rh, .ref rf, .ref rp, .ref rb]))] sz) := by
  refine k_met (fun A => ql G (fun (r : Int64) (u : Int64 × (Int → Int64) × (Int → Int64) × (Int → Int64)) => r = u.1 ∧ (u.1 = if (0 ≤ x0 ∧ x0 ≤ cP - 1) ∧ 0 ≤ y0 ∧ y0 ≤ cQ - 1 then (fwA cP cQ db ew kd (fcA wd ht cP cQ pic a0, ge, go)).1 (y0 * 16 + x0) else 0)) (fun u : Int64 × (Int → Int64) × (Int → Int64) × (Int → Int64) => [(rX, .inr (6, [.int (iv (wd)), .int (iv (ht)), .ref rP, .ref rS, .ref rL, .ref rT, .ref rC, .ref ra, .ref rv, .int (iv (sth)), .int (iv (rth)), .ref rRC, .ref rRP])), (rP, ai (gI G) 256 (pic)), (rT, .inr (5, [.ref rev, .ref rod])), (rev, al (gL G) 8 (u.2.2.1)), (rod, al (gL G) 8 (u.2.2.2)), (ra, al (gL G) 256 (u.2.1)), (rS, .inr (3, [.int (iv (kd)), .int (iv (db)), .int (iv (ew)), .int (iv (ac)), .int (iv (dn)), .int (iv (pr)), .ref rE, .int (iv (nu)), .int (iv (de))])), (rL, .inr (1, [.int (iv (cP)), .int (iv (cQ)), .int (iv (nb)), .ref rl, .ref rt, .ref rw, .ref rh, .ref rf, .ref rp, .ref rb]))]) A) (fun A => A) (by decide) rfl (Nat.le_of_ble_eq_true rfl) (fun p e s m args below meth c ls A Q S hr hlk hnm hl hsz hP hK hD hS hA hT hQ => ?_)
  obtain ⟨hx, hb, hml, hown, hts⟩ := id S
  have hw : ∀ w ∈ wl, w.before args s = true := fun w h => hts w (List.mem_cons_of_mem _ h)
  have hl : lv_has ls 3 [(0, .ref rX), (1, .int (iv (x0))), (2, .int (iv (y0)))] := hl
  refine lv_aload_n hx hb d_X_coefficient_0 rfl (lv_at hl 0 rfl) ?_
  refine va_get (D := gD G) (ci := 6) (v := .ref rL) (C := R_X) (T := F_X) (N := 13) hx hb hw in_X hown hK hP 0 rfl rfl 4 (by decide) (hw _ m2_8) (fun _ h => h) rfl d_X_coefficient_1 ?_
  refine lv_iload_n hx hb d_X_coefficient_4 rfl (lv_at hl 1 rfl) ?_
  refine lv_iload_n hx hb d_X_coefficient_5 rfl (lv_at hl 2 rfl) ?_
  refine k_ciR (k_rv S (c_Layout_has l G _ rL rl rt rw rh rf rp rb x0 y0 cP cQ nb (by omega) (by omega) (by omega) (by omega)) 2 m2_112 m2_109 m2_110 m2_111 m1_3 (by decide +kernel) (by decide) rfl rfl (k_preV (q0 := 7) hK hP hD hS hA hT rfl rfl [7] (by decide) rfl) rfl hl.1 rfl (Nat.le_of_ble_eq_true rfl) d_X_coefficient_6 ⟨Nat.le_of_ble_eq_true rfl, Nat.le_of_ble_eq_true rfl⟩) (fun r6 h6 => ?_)
  subst h6
  refine k_ifb_ne (tgt := 14) hx hb d_X_coefficient_9 (by decide) (fun hc9 => ?_) (fun hc9 => ?_)
  · refine lv_aload_n hx hb d_X_coefficient_14 rfl (lv_at hl 0 rfl) ?_
    refine k_cv (wz := fun u : (Int → Int64) × (Int → Int64) × (Int → Int64) => [(rX, .inr (6, [.int (iv (wd)), .int (iv (ht)), .ref rP, .ref rS, .ref rL, .ref rT, .ref rC, .ref ra, .ref rv, .int (iv (sth)), .int (iv (rth)), .ref rRC, .ref rRP])), (rP, ai (gI G) 256 (pic)), (rT, .inr (5, [.ref rev, .ref rod])), (rev, al (gL G) 8 (u.2.1)), (rod, al (gL G) 8 (u.2.2)), (ra, al (gL G) 256 (u.1)), (rS, .inr (3, [.int (iv (kd)), .int (iv (db)), .int (iv (ew)), .int (iv (ac)), .int (iv (dn)), .int (iv (pr)), .ref rE, .int (iv (nu)), .int (iv (de))])), (rL, .inr (1, [.int (iv (cP)), .int (iv (cQ)), .int (iv (nb)), .ref rl, .ref rt, .ref rw, .ref rh, .ref rf, .ref rp, .ref rb]))]) (wr := []) (k_rv S (c_X_findCoefficients l G _ rX rP rS rL rT rC ra rv rRC rRP rev rod rE rl rt rw rh rf rp rb wd ht sth rth kd db ew ac dn pr nu de cP cQ nb pic ge go a0 (by assumption) (by assumption) (by assumption) (by assumption) (by assumption) (by assumption) (by assumption)) 0 m2_117 m2_114 m2_116 mp_4 m1_1 (by decide +kernel) (by decide) rfl rfl (k_preV (q0 := 0) hK hP hD hS hA hT rfl rfl [0, 1, 2, 3, 4, 5, 6, 7] (by decide) rfl) rfl hl.1 rfl (Nat.le_of_ble_eq_true rfl) d_X_coefficient_15 ⟨Nat.le_of_ble_eq_true rfl, Nat.le_of_ble_eq_true rfl⟩) hP hD hS hA [0, 1, 2, 3, 4, 5, 6, 7] [] [0, 1, 2, 3, 4, 5, 6, 7] rfl rfl (by decide) (by decide) (by decide) (fun _ => rfl) (fun u15 H locs h15 hP hD hS => ?_)
    obtain ⟨a15, ge15, go15⟩ := u15
    have hP : va_P (gD G) classes [(rX, .inr (6, [.int (iv (wd)), .int (iv (ht)), .ref rP, .ref rS, .ref rL, .ref rT, .ref rC, .ref ra, .ref rv, .int (iv (sth)), .int (iv (rth)), .ref rRC, .ref rRP])), (rP, ai (gI G) 256 (pic)), (rT, .inr (5, [.ref rev, .ref rod])), (rev, al (gL G) 8 (ge15)), (rod, al (gL G) 8 (go15)), (ra, al (gL G) 256 (a15)), (rS, .inr (3, [.int (iv (kd)), .int (iv (db)), .int (iv (ew)), .int (iv (ac)), .int (iv (dn)), .int (iv (pr)), .ref rE, .int (iv (nu)), .int (iv (de))])), (rL, .inr (1, [.int (iv (cP)), .int (iv (cQ)), .int (iv (nb)), .ref rl, .ref rt, .ref rw, .ref rh, .ref rf, .ref rp, .ref rb]))] H := hP
    have hD : va_D A [(rX, .inr (6, [.int (iv (wd)), .int (iv (ht)), .ref rP, .ref rS, .ref rL, .ref rT, .ref rC, .ref ra, .ref rv, .int (iv (sth)), .int (iv (rth)), .ref rRC, .ref rRP])), (rP, ai (gI G) 256 (pic)), (rT, .inr (5, [.ref rev, .ref rod])), (rev, al (gL G) 8 (ge15)), (rod, al (gL G) 8 (go15)), (ra, al (gL G) 256 (a15)), (rS, .inr (3, [.int (iv (kd)), .int (iv (db)), .int (iv (ew)), .int (iv (ac)), .int (iv (dn)), .int (iv (pr)), .ref rE, .int (iv (nu)), .int (iv (de))])), (rL, .inr (1, [.int (iv (cP)), .int (iv (cQ)), .int (iv (nb)), .ref rl, .ref rt, .ref rw, .ref rh, .ref rf, .ref rp, .ref rb]))] := hD
    try dsimp only at h15
    refine lv_aload_n hx hb d_X_coefficient_18 rfl (lv_at hl 0 rfl) ?_
    refine va_get (D := gD G) (ci := 6) (v := .ref ra) (C := R_X) (T := F_X) (N := 13) hx hb hw in_X hown hK hP 0 rfl rfl 7 (by decide) (hw _ m2_11) (fun _ h => h) rfl d_X_coefficient_19 ?_
    refine lv_iload_n hx hb d_X_coefficient_22 rfl (lv_at hl 2 rfl) ?_
    refine lv_bipush (v := iv (16)) hx hb d_X_coefficient_23 rfl ?_
    refine k_imul hx hb d_X_coefficient_25 ?_
    refine lv_iload_n hx hb d_X_coefficient_26 rfl (lv_at hl 1 rfl) ?_
    refine k_iadd hx hb d_X_coefficient_27 ?_
    refine k_lal hx hb hK hP 5 1 rfl rfl (by decide) (by omega) d_X_coefficient_28 ?_
    exact k_lret hx hb hr hlk hQ ((a15 ((y0 * 16) + x0), a15, ge15, go15)) (⟨rfl, by rw [if_pos (by omega), show fwA cP cQ db ew kd (fcA wd ht cP cQ pic a0, ge, go) = (a15, ge15, go15) from h15.symm]⟩) hP hD hS d_X_coefficient_29
  · refine lv_lconst (v := 0) hx hb d_X_coefficient_12 rfl ?_
    exact k_lret hx hb hr hlk hQ (((0 : Int64), a0, ge, go)) (⟨rfl, by rw [if_neg (by omega)]⟩) hP hD hS d_X_coefficient_13
abbrev w_X_makeReadPicture : List Cond := Cond.code y_X_makeReadPicture prog_1_method_29_code 3 none :: wl
abbrev r_X_makeReadPicture : Room := { frames := 5, cells := 0, slots := 0, locals := 137 }
set_option maxHeartbeats 4000000 in
set_option maxRecDepth 100000 in
theorem c_X_makeReadPicture (l : Launch) (G : k_G) (sz : Nat) (rX rP rS rL rT rC ra rv rRC rRP rev rod rE rl rt rw rh rf rp rb : Nat) (wd ht sth rth kd db ew ac dn pr nu de cP cQ nb : Int) (krp : Int → Int) (krc ge go a0 : Int → Int64) (hwd : 1 ≤ wd ∧ wd ≤ 16) (hht : 1 ≤ ht ∧ ht ≤ 16) (hkd : 0 ≤ kd ∧ kd ≤ 6) (hde : 0 ≤ db ∧ db ≤ 2 ∧ 0 ≤ ew ∧ ew ≤ 2 ∧ db + ew ≤ 3) (hcP : 0 ≤ cP ∧ cP ≤ 16) (hcQ : 0 ≤ cQ ∧ cQ ≤ 16) : Met l y_X_makeReadPicture w_X_makeReadPicture r_X_makeReadPicture (k_P G [.ref rX] [(rX, .inr (6, [.int (iv (wd)), .int (iv (ht)), .ref rP, .ref rS, .ref rL, .ref rT, .ref rC, .ref ra, .ref rv, .int (iv (sth)), .int (iv (rth)), .ref rRC, .ref rRP])), (rRC, al (gL G) 256 (krc)), (rRP, ai (gI G) 256 (krp)), (rT, .inr (5, [.ref rev, .ref rod])), (rev, al (gL G) 8 (ge)), (rod, al (gL G) 8 (go)), (ra, al (gL G) 256 (a0)), (rS, .inr (3, [.int (iv (kd)), .int (iv (db)), .int (iv (ew)), .int (iv (ac)), .int (iv (dn)), .int (iv (pr)), .ref rE, .int (iv (nu)), .int (iv (de))])), (rL, .inr (1, [.int (iv (cP)), .int (iv (cQ)), .int (iv (nb)), .ref rl, .ref rt, .ref rw, .ref rh, .ref rf, .ref rp, .ref rb]))] sz) (qv G (fun u : (Int → Int64) × (Int → Int64) × (Int → Int64) × (Int → Int) => u.2.2.2 = mrA wd ht (bwA cP cQ db ew kd (cpL krc a0, ge, go)).1 krp) (fun u : (Int → Int64) × (Int → Int64) × (Int → Int64) × (Int → Int) => [(rX, .inr (6, [.int (iv (wd)), .int (iv (ht)), .ref rP, .ref rS, .ref rL, .ref rT, .ref rC, .ref ra, .ref rv, .int (iv (sth)), .int (iv (rth)), .ref rRC, .ref rRP])), (rRC, al (gL G) 256 (krc)), (rRP, ai (gI G) 256 (u.2.2.2)), (rT, .inr (5, [.ref rev, .ref rod])), (rev, al (gL G) 8 (u.2.1)), (rod, al (gL G) 8 (u.2.2.1)), (ra, al (gL G) 256 (u.1)), (rS, .inr (3, [.int (iv (kd)), .int (iv (db)), .int (iv (ew)), .int (iv (ac)), .int (iv (dn)), .int (iv (pr)), .ref rE, .int (iv (nu)), .int (iv (de))])), (rL, .inr (1, [.int (iv (cP)), .int (iv (cQ)), .int (iv (nb)), .ref rl, .ref rt, .ref rw, .ref rh, .ref rf, .ref rp, .ref rb]))]) (va_A [(rX, .inr (6, [.int (iv (wd)), .int (iv (ht)), .ref rP, .ref rS, .ref rL, .ref rT, .ref rC, .ref ra, .ref rv, .int (iv (sth)), .int (iv (rth)), .ref rRC, .ref rRP])), (rRC, al (gL G) 256 (krc)), (rRP, ai (gI G) 256 (krp)), (rT, .inr (5, [.ref rev, .ref rod])), (rev, al (gL G) 8 (ge)), (rod, al (gL G) 8 (go)), (ra, al (gL G) 256 (a0)), (rS, .inr (3, [.int (iv (kd)), .int (iv (db)), .int (iv (ew)), .int (iv (ac)), .int (iv (dn)), .int (iv (pr)), .ref rE, .int (iv (nu)), .int (iv (de))])), (rL, .inr (1, [.int (iv (cP)), .int (iv (cQ)), .int (iv (nb)), .ref rl, .ref rt, .ref rw, .ref rh, .ref rf, .ref rp, .ref rb]))] sz)) 0 0 (va_A [(rX, .inr (6, [.int (iv (wd)), .int (iv (ht)), .ref rP, .ref rS, .ref rL, .ref rT, .ref rC, .ref ra, .ref rv, .int (iv (sth)), .int (iv (rth)), .ref rRC, .ref rRP])), (rRC, al (gL G) 256 (krc)), (rRP, ai (gI G) 256 (krp)), (rT, .inr (5, [.ref rev, .ref rod])), (rev, al (gL G) 8 (ge)), (rod, al (gL G) 8 (go)), (ra, al (gL G) 256 (a0)), (rS, .inr (3, [.int (iv (kd)), .int (iv (db)), .int (iv (ew)), .int (iv (ac)), .int (iv (dn)), .int (iv (pr)), .ref rE, .int (iv (nu)), .int (iv (de))])), (rL, .inr (1, [.int (iv (cP)), .int (iv (cQ)), .int (iv (nb)), .ref rl, .ref rt, .ref rw, .ref rh, .ref rf, .ref rp, .ref rb]))] sz) := by
  refine k_met (fun A => qv G (fun u : (Int → Int64) × (Int → Int64) × (Int → Int64) × (Int → Int) => u.2.2.2 = mrA wd ht (bwA cP cQ db ew kd (cpL krc a0, ge, go)).1 krp) (fun u : (Int → Int64) × (Int → Int64) × (Int → Int64) × (Int → Int) => [(rX, .inr (6, [.int (iv (wd)), .int (iv (ht)), .ref rP, .ref rS, .ref rL, .ref rT, .ref rC, .ref ra, .ref rv, .int (iv (sth)), .int (iv (rth)), .ref rRC, .ref rRP])), (rRC, al (gL G) 256 (krc)), (rRP, ai (gI G) 256 (u.2.2.2)), (rT, .inr (5, [.ref rev, .ref rod])), (rev, al (gL G) 8 (u.2.1)), (rod, al (gL G) 8 (u.2.2.1)), (ra, al (gL G) 256 (u.1)), (rS, .inr (3, [.int (iv (kd)), .int (iv (db)), .int (iv (ew)), .int (iv (ac)), .int (iv (dn)), .int (iv (pr)), .ref rE, .int (iv (nu)), .int (iv (de))])), (rL, .inr (1, [.int (iv (cP)), .int (iv (cQ)), .int (iv (nb)), .ref rl, .ref rt, .ref rw, .ref rh, .ref rf, .ref rp, .ref rb]))]) A) (fun A => A) (by decide) rfl (Nat.le_of_ble_eq_true rfl) (fun p e s m args below meth c ls A Q S hr hlk hnm hl hsz hP hK hD hS hA hT hQ => ?_)
  obtain ⟨hx, hb, hml, hown, hts⟩ := id S
  have hw : ∀ w ∈ wl, w.before args s = true := fun w h => hts w (List.mem_cons_of_mem _ h)
  have hl : lv_has ls 3 [(0, .ref rX)] := hl
  refine lv_aload_n hx hb d_X_makeReadPicture_0 rfl (lv_at hl 0 rfl) ?_
  refine va_get (D := gD G) (ci := 6) (v := .ref rRC) (C := R_X) (T := F_X) (N := 13) hx hb hw in_X hown hK hP 0 rfl rfl 11 (by decide) (hw _ m2_15) (fun _ h => h) rfl d_X_makeReadPicture_1 ?_
  refine lv_iconst (v := iv (0)) hx hb d_X_makeReadPicture_4 rfl ?_
  refine lv_aload_n hx hb d_X_makeReadPicture_5 rfl (lv_at hl 0 rfl) ?_
  refine va_get (D := gD G) (ci := 6) (v := .ref ra) (C := R_X) (T := F_X) (N := 13) hx hb hw in_X hown hK hP 0 rfl rfl 7 (by decide) (hw _ m2_11) (fun _ h => h) rfl d_X_makeReadPicture_6 ?_
  refine lv_iconst (v := iv (0)) hx hb d_X_makeReadPicture_9 rfl ?_
  refine lv_sipush (v := iv (256)) hx hb d_X_makeReadPicture_10 rfl ?_
  refine k_copyl hx hb (by rw [hml]; exact hl.1.symm) hown (hw _ m3_85) (hw _ m3_87) (hw _ m3_86) (hw _ m1_12) hK hP hD hS 1 6 1 1 rfl rfl rfl rfl (by decide) (by decide +kernel) d_X_makeReadPicture_13 (fun H locs hP hD hS => ?_)
  have hP : va_P (gD G) classes [(rX, .inr (6, [.int (iv (wd)), .int (iv (ht)), .ref rP, .ref rS, .ref rL, .ref rT, .ref rC, .ref ra, .ref rv, .int (iv (sth)), .int (iv (rth)), .ref rRC, .ref rRP])), (rRC, al (gL G) 256 (krc)), (rRP, ai (gI G) 256 (krp)), (rT, .inr (5, [.ref rev, .ref rod])), (rev, al (gL G) 8 (ge)), (rod, al (gL G) 8 (go)), (ra, al (gL G) 256 (cpL krc a0)), (rS, .inr (3, [.int (iv (kd)), .int (iv (db)), .int (iv (ew)), .int (iv (ac)), .int (iv (dn)), .int (iv (pr)), .ref rE, .int (iv (nu)), .int (iv (de))])), (rL, .inr (1, [.int (iv (cP)), .int (iv (cQ)), .int (iv (nb)), .ref rl, .ref rt, .ref rw, .ref rh, .ref rf, .ref rp, .ref rb]))] H := hP
  have hD : va_D A [(rX, .inr (6, [.int (iv (wd)), .int (iv (ht)), .ref rP, .ref rS, .ref rL, .ref rT, .ref rC, .ref ra, .ref rv, .int (iv (sth)), .int (iv (rth)), .ref rRC, .ref rRP])), (rRC, al (gL G) 256 (krc)), (rRP, ai (gI G) 256 (krp)), (rT, .inr (5, [.ref rev, .ref rod])), (rev, al (gL G) 8 (ge)), (rod, al (gL G) 8 (go)), (ra, al (gL G) 256 (cpL krc a0)), (rS, .inr (3, [.int (iv (kd)), .int (iv (db)), .int (iv (ew)), .int (iv (ac)), .int (iv (dn)), .int (iv (pr)), .ref rE, .int (iv (nu)), .int (iv (de))])), (rL, .inr (1, [.int (iv (cP)), .int (iv (cQ)), .int (iv (nb)), .ref rl, .ref rt, .ref rw, .ref rh, .ref rf, .ref rp, .ref rb]))] := hD
  refine lv_aload_n hx hb d_X_makeReadPicture_16 rfl (lv_at hl 0 rfl) ?_
  refine va_get (D := gD G) (ci := 6) (v := .ref rT) (C := R_X) (T := F_X) (N := 13) hx hb hw in_X hown hK hP 0 rfl rfl 5 (by decide) (hw _ m2_9) (fun _ h => h) rfl d_X_makeReadPicture_17 ?_
  refine lv_aload_n hx hb d_X_makeReadPicture_20 rfl (lv_at hl 0 rfl) ?_
  refine va_get (D := gD G) (ci := 6) (v := .ref ra) (C := R_X) (T := F_X) (N := 13) hx hb hw in_X hown hK hP 0 rfl rfl 7 (by decide) (hw _ m2_11) (fun _ h => h) rfl d_X_makeReadPicture_21 ?_
  refine lv_aload_n hx hb d_X_makeReadPicture_24 rfl (lv_at hl 0 rfl) ?_
  refine va_get (D := gD G) (ci := 6) (v := .ref rS) (C := R_X) (T := F_X) (N := 13) hx hb hw in_X hown hK hP 0 rfl rfl 3 (by decide) (hw _ m2_7) (fun _ h => h) rfl d_X_makeReadPicture_25 ?_
  refine lv_aload_n hx hb d_X_makeReadPicture_28 rfl (lv_at hl 0 rfl) ?_
  refine va_get (D := gD G) (ci := 6) (v := .ref rL) (C := R_X) (T := F_X) (N := 13) hx hb hw in_X hown hK hP 0 rfl rfl 4 (by decide) (hw _ m2_8) (fun _ h => h) rfl d_X_makeReadPicture_29 ?_
  refine k_cv (wz := fun u : (Int → Int64) × (Int → Int64) × (Int → Int64) => [(rX, .inr (6, [.int (iv (wd)), .int (iv (ht)), .ref rP, .ref rS, .ref rL, .ref rT, .ref rC, .ref ra, .ref rv, .int (iv (sth)), .int (iv (rth)), .ref rRC, .ref rRP])), (rRC, al (gL G) 256 (krc)), (rRP, ai (gI G) 256 (krp)), (rT, .inr (5, [.ref rev, .ref rod])), (rev, al (gL G) 8 (u.2.1)), (rod, al (gL G) 8 (u.2.2)), (ra, al (gL G) 256 (u.1)), (rS, .inr (3, [.int (iv (kd)), .int (iv (db)), .int (iv (ew)), .int (iv (ac)), .int (iv (dn)), .int (iv (pr)), .ref rE, .int (iv (nu)), .int (iv (de))])), (rL, .inr (1, [.int (iv (cP)), .int (iv (cQ)), .int (iv (nb)), .ref rl, .ref rt, .ref rw, .ref rh, .ref rf, .ref rp, .ref rb]))]) (wr := [(rX, .inr (6, [.int (iv (wd)), .int (iv (ht)), .ref rP, .ref rS, .ref rL, .ref rT, .ref rC, .ref ra, .ref rv, .int (iv (sth)), .int (iv (rth)), .ref rRC, .ref rRP])), (rRC, al (gL G) 256 (krc)), (rRP, ai (gI G) 256 (krp))]) (k_rv S (c_Trans_toPicture l G _ rT ra rS rL rev rod rE rl rt rw rh rf rp rb kd db ew ac dn pr nu de cP cQ nb ge go (cpL krc a0) (by assumption) (by assumption) (by assumption) (by assumption)) 3 m3_91 m3_88 m3_89 m3_90 m1_4 (by decide +kernel) (by decide) rfl rfl (k_preV (q0 := 3) hK hP hD hS hA hT rfl rfl [3, 4, 5, 6, 7, 8] (by decide) rfl) rfl hl.1 rfl (Nat.le_of_ble_eq_true rfl) d_X_makeReadPicture_32 ⟨Nat.le_of_ble_eq_true rfl, Nat.le_of_ble_eq_true rfl⟩) hP hD hS hA [3, 4, 5, 6, 7, 8] [0, 1, 2] [0, 1, 2, 3, 4, 5, 6, 7, 8] rfl rfl (by decide) (by decide) (by decide) (fun _ => rfl) (fun u32 H locs h32 hP hD hS => ?_)
  obtain ⟨a32, ge32, go32⟩ := u32
  have hP : va_P (gD G) classes [(rX, .inr (6, [.int (iv (wd)), .int (iv (ht)), .ref rP, .ref rS, .ref rL, .ref rT, .ref rC, .ref ra, .ref rv, .int (iv (sth)), .int (iv (rth)), .ref rRC, .ref rRP])), (rRC, al (gL G) 256 (krc)), (rRP, ai (gI G) 256 (krp)), (rT, .inr (5, [.ref rev, .ref rod])), (rev, al (gL G) 8 (ge32)), (rod, al (gL G) 8 (go32)), (ra, al (gL G) 256 (a32)), (rS, .inr (3, [.int (iv (kd)), .int (iv (db)), .int (iv (ew)), .int (iv (ac)), .int (iv (dn)), .int (iv (pr)), .ref rE, .int (iv (nu)), .int (iv (de))])), (rL, .inr (1, [.int (iv (cP)), .int (iv (cQ)), .int (iv (nb)), .ref rl, .ref rt, .ref rw, .ref rh, .ref rf, .ref rp, .ref rb]))] H := hP
  have hD : va_D A [(rX, .inr (6, [.int (iv (wd)), .int (iv (ht)), .ref rP, .ref rS, .ref rL, .ref rT, .ref rC, .ref ra, .ref rv, .int (iv (sth)), .int (iv (rth)), .ref rRC, .ref rRP])), (rRC, al (gL G) 256 (krc)), (rRP, ai (gI G) 256 (krp)), (rT, .inr (5, [.ref rev, .ref rod])), (rev, al (gL G) 8 (ge32)), (rod, al (gL G) 8 (go32)), (ra, al (gL G) 256 (a32)), (rS, .inr (3, [.int (iv (kd)), .int (iv (db)), .int (iv (ew)), .int (iv (ac)), .int (iv (dn)), .int (iv (pr)), .ref rE, .int (iv (nu)), .int (iv (de))])), (rL, .inr (1, [.int (iv (cP)), .int (iv (cQ)), .int (iv (nb)), .ref rl, .ref rt, .ref rw, .ref rh, .ref rf, .ref rp, .ref rb]))] := hD
  try dsimp only at h32
  refine lv_iconst (v := iv (0)) hx hb d_X_makeReadPicture_35 rfl ?_
  refine lv_istore_n hx hb d_X_makeReadPicture_36 rfl hl (by decide) rfl (fun ls hl => ?_)
  have hl : lv_has ls 3 [(1, .int (iv (0))), (0, .ref rX)] := hl
  refine lo_up (P := fun y => ∀ (ls : Array Slot) (H : Heap) (locs : List Loc) (k1 : Int → Int), lv_has ls 3 [(0, .ref rX), (1, .int (iv (y)))] → va_P (gD G) classes [(rX, .inr (6, [.int (iv (wd)), .int (iv (ht)), .ref rP, .ref rS, .ref rL, .ref rT, .ref rC, .ref ra, .ref rv, .int (iv (sth)), .int (iv (rth)), .ref rRC, .ref rRP])), (rRC, al (gL G) 256 (krc)), (rRP, ai (gI G) 256 (k1)), (rT, .inr (5, [.ref rev, .ref rod])), (rev, al (gL G) 8 (ge32)), (rod, al (gL G) 8 (go32)), (ra, al (gL G) 256 (a32)), (rS, .inr (3, [.int (iv (kd)), .int (iv (db)), .int (iv (ew)), .int (iv (ac)), .int (iv (dn)), .int (iv (pr)), .ref rE, .int (iv (nu)), .int (iv (de))])), (rL, .inr (1, [.int (iv (cP)), .int (iv (cQ)), .int (iv (nb)), .ref rl, .ref rt, .ref rw, .ref rh, .ref rf, .ref rp, .ref rb]))] H → va_D A [(rX, .inr (6, [.int (iv (wd)), .int (iv (ht)), .ref rP, .ref rS, .ref rL, .ref rT, .ref rC, .ref ra, .ref rv, .int (iv (sth)), .int (iv (rth)), .ref rRC, .ref rRP])), (rRC, al (gL G) 256 (krc)), (rRP, ai (gI G) 256 (k1)), (rT, .inr (5, [.ref rev, .ref rod])), (rev, al (gL G) 8 (ge32)), (rod, al (gL G) 8 (go32)), (ra, al (gL G) 256 (a32)), (rS, .inr (3, [.int (iv (kd)), .int (iv (db)), .int (iv (ew)), .int (iv (ac)), .int (iv (dn)), .int (iv (pr)), .ref rE, .int (iv (nu)), .int (iv (de))])), (rL, .inr (1, [.int (iv (cP)), .int (iv (cQ)), .int (iv (nb)), .ref rl, .ref rt, .ref rw, .ref rh, .ref rf, .ref rp, .ref rb]))] → va_S A s.heap H locs → (k1 = mrA wd y a32 krp) → W p l e r_X_makeReadPicture s m args below meth c H locs 0 0 Q (F0 m 37 ls [])) (a := 0) (b := ht) (fun y hiy hjy ihy => ?_) _ _ _ krp (lv_sub hl [1, 0] rfl) hP hD hS (it_self _ _ _).symm
  intro ls H locs k1 hl hP hD hS hs
  refine lv_iload_n hx hb d_X_makeReadPicture_37 rfl (lv_at hl 1 rfl) ?_
  refine lv_aload_n hx hb d_X_makeReadPicture_38 rfl (lv_at hl 0 rfl) ?_
  refine va_get (D := gD G) (ci := 6) (v := .int (iv (ht))) (C := R_X) (T := F_X) (N := 13) hx hb hw in_X hown hK hP 0 rfl rfl 1 (by decide) (hw _ m2_5) (fun _ h => h) rfl d_X_makeReadPicture_39 ?_
  refine k_icmp_ge (tgt := 93) hx hb d_X_makeReadPicture_42 (by decide) (by omega) (by omega) (fun hc42 => ?_) (fun hc42 => ?_)
  · exact k_vret hx hb hr hlk hQ ((a32, ge32, go32, k1)) (by rw [show bwA cP cQ db ew kd (cpL krc a0, ge, go) = (a32, ge32, go32) from h32.symm]; show k1 = _; rw [hs]; unfold mrA; exact it_x _ _ hc42 hjy) hP hD hS d_X_makeReadPicture_93
  · refine lv_iconst (v := iv (0)) hx hb d_X_makeReadPicture_45 rfl ?_
    refine lv_istore_n hx hb d_X_makeReadPicture_46 rfl hl (by decide) rfl (fun ls hl => ?_)
    have hl : lv_has ls 3 [(2, .int (iv (0))), (0, .ref rX), (1, .int (iv (y)))] := hl
    refine lo_up (P := fun x => ∀ (ls : Array Slot) (H : Heap) (locs : List Loc) (k2 : Int → Int), lv_has ls 3 [(0, .ref rX), (1, .int (iv (y))), (2, .int (iv (x)))] → va_P (gD G) classes [(rX, .inr (6, [.int (iv (wd)), .int (iv (ht)), .ref rP, .ref rS, .ref rL, .ref rT, .ref rC, .ref ra, .ref rv, .int (iv (sth)), .int (iv (rth)), .ref rRC, .ref rRP])), (rRC, al (gL G) 256 (krc)), (rRP, ai (gI G) 256 (k2)), (rT, .inr (5, [.ref rev, .ref rod])), (rev, al (gL G) 8 (ge32)), (rod, al (gL G) 8 (go32)), (ra, al (gL G) 256 (a32)), (rS, .inr (3, [.int (iv (kd)), .int (iv (db)), .int (iv (ew)), .int (iv (ac)), .int (iv (dn)), .int (iv (pr)), .ref rE, .int (iv (nu)), .int (iv (de))])), (rL, .inr (1, [.int (iv (cP)), .int (iv (cQ)), .int (iv (nb)), .ref rl, .ref rt, .ref rw, .ref rh, .ref rf, .ref rp, .ref rb]))] H → va_D A [(rX, .inr (6, [.int (iv (wd)), .int (iv (ht)), .ref rP, .ref rS, .ref rL, .ref rT, .ref rC, .ref ra, .ref rv, .int (iv (sth)), .int (iv (rth)), .ref rRC, .ref rRP])), (rRC, al (gL G) 256 (krc)), (rRP, ai (gI G) 256 (k2)), (rT, .inr (5, [.ref rev, .ref rod])), (rev, al (gL G) 8 (ge32)), (rod, al (gL G) 8 (go32)), (ra, al (gL G) 256 (a32)), (rS, .inr (3, [.int (iv (kd)), .int (iv (db)), .int (iv (ew)), .int (iv (ac)), .int (iv (dn)), .int (iv (pr)), .ref rE, .int (iv (nu)), .int (iv (de))])), (rL, .inr (1, [.int (iv (cP)), .int (iv (cQ)), .int (iv (nb)), .ref rl, .ref rt, .ref rw, .ref rh, .ref rf, .ref rp, .ref rb]))] → va_S A s.heap H locs → (k2 = it (fun x f => up f (y * 16 + x) (clp (a32 (y * 16 + x)).toInt)) 0 x k1) → W p l e r_X_makeReadPicture s m args below meth c H locs 0 0 Q (F0 m 47 ls [])) (a := 0) (b := wd) (fun x hix hjx ihx => ?_) _ _ _ k1 (lv_sub hl [1, 2, 0] rfl) hP hD hS (it_self _ _ _).symm
    intro ls H locs k2 hl hP hD hS hs2
    refine lv_iload_n hx hb d_X_makeReadPicture_47 rfl (lv_at hl 2 rfl) ?_
    refine lv_aload_n hx hb d_X_makeReadPicture_48 rfl (lv_at hl 0 rfl) ?_
    refine va_get (D := gD G) (ci := 6) (v := .int (iv (wd))) (C := R_X) (T := F_X) (N := 13) hx hb hw in_X hown hK hP 0 rfl rfl 0 (by decide) (hw _ m2_4) (fun _ h => h) rfl d_X_makeReadPicture_49 ?_
    refine k_icmp_ge (tgt := 87) hx hb d_X_makeReadPicture_52 (by decide) (by omega) (by omega) (fun hc52 => ?_) (fun hc52 => ?_)
    · refine lv_iinc (k := 1) (v := iv (y + 1)) hx hb d_X_makeReadPicture_87 hl rfl (iv_add _ _) (by decide) rfl (fun ls hl => ?_)
      have hl : lv_has ls 3 [(1, .int (iv (y + 1))), (0, .ref rX), (2, .int (iv (x)))] := hl
      refine lv_goto (tgt := 37) hx hb d_X_makeReadPicture_90 (by decide) ?_
      exact ihy (by omega) _ _ _ k2 (lv_sub hl [1, 0] rfl) hP hD hS (by unfold mrA; rw [it_s _ _ hiy]; show _ = it (fun x f => up f (y * 16 + x) (clp (a32 (y * 16 + x)).toInt)) 0 wd (mrA wd y a32 krp); rw [← hs, hs2]; exact it_x _ _ hc52 hjx)
    · refine lv_aload_n hx hb d_X_makeReadPicture_55 rfl (lv_at hl 0 rfl) ?_
      refine va_get (D := gD G) (ci := 6) (v := .ref rRP) (C := R_X) (T := F_X) (N := 13) hx hb hw in_X hown hK hP 0 rfl rfl 12 (by decide) (hw _ m2_16) (fun _ h => h) rfl d_X_makeReadPicture_56 ?_
      refine lv_iload_n hx hb d_X_makeReadPicture_59 rfl (lv_at hl 1 rfl) ?_
      refine lv_bipush (v := iv (16)) hx hb d_X_makeReadPicture_60 rfl ?_
      refine k_imul hx hb d_X_makeReadPicture_62 ?_
      refine lv_iload_n hx hb d_X_makeReadPicture_63 rfl (lv_at hl 2 rfl) ?_
      refine k_iadd hx hb d_X_makeReadPicture_64 ?_
      refine lv_aload_n hx hb d_X_makeReadPicture_65 rfl (lv_at hl 0 rfl) ?_
      refine va_get (D := gD G) (ci := 6) (v := .ref ra) (C := R_X) (T := F_X) (N := 13) hx hb hw in_X hown hK hP 0 rfl rfl 7 (by decide) (hw _ m2_11) (fun _ h => h) rfl d_X_makeReadPicture_66 ?_
      refine lv_iload_n hx hb d_X_makeReadPicture_69 rfl (lv_at hl 1 rfl) ?_
      refine lv_bipush (v := iv (16)) hx hb d_X_makeReadPicture_70 rfl ?_
      refine k_imul hx hb d_X_makeReadPicture_72 ?_
      refine lv_iload_n hx hb d_X_makeReadPicture_73 rfl (lv_at hl 2 rfl) ?_
      refine k_iadd hx hb d_X_makeReadPicture_74 ?_
      refine k_lal hx hb hK hP 6 1 rfl rfl (by decide) (by omega) d_X_makeReadPicture_75 ?_
      refine k_clR (k_rs S (c_X_asSample l G _ (a32 ((y * 16) + x)) ) 1 m2_61 m2_59 m2_60 m1_1 (by decide +kernel) (by decide) rfl rfl (k_preS hK hP hD hS hA hT [] (by decide) rfl) rfl hl.1 rfl (Nat.le_of_ble_eq_true rfl) d_X_makeReadPicture_76 ⟨Nat.le_of_ble_eq_true rfl, Nat.le_of_ble_eq_true rfl⟩) (fun r76 h76 => ?_)
      subst h76
      refine k_l2i hx hb d_X_makeReadPicture_79 ?_
      refine k_eqi (b := clp (a32 (y * 16 + x)).toInt) (clp_L _) ?_
      refine k_ias hx hb hK hP hD hS 2 0 rfl rfl (by decide) (by omega) d_X_makeReadPicture_80 (fun H locs hP hD hS => ?_)
      have hP : va_P (gD G) classes [(rX, .inr (6, [.int (iv (wd)), .int (iv (ht)), .ref rP, .ref rS, .ref rL, .ref rT, .ref rC, .ref ra, .ref rv, .int (iv (sth)), .int (iv (rth)), .ref rRC, .ref rRP])), (rRC, al (gL G) 256 (krc)), (rRP, ai (gI G) 256 (up k2 ((y * 16) + x) (clp (a32 (y * 16 + x)).toInt))), (rT, .inr (5, [.ref rev, .ref rod])), (rev, al (gL G) 8 (ge32)), (rod, al (gL G) 8 (go32)), (ra, al (gL G) 256 (a32)), (rS, .inr (3, [.int (iv (kd)), .int (iv (db)), .int (iv (ew)), .int (iv (ac)), .int (iv (dn)), .int (iv (pr)), .ref rE, .int (iv (nu)), .int (iv (de))])), (rL, .inr (1, [.int (iv (cP)), .int (iv (cQ)), .int (iv (nb)), .ref rl, .ref rt, .ref rw, .ref rh, .ref rf, .ref rp, .ref rb]))] H := hP
      have hD : va_D A [(rX, .inr (6, [.int (iv (wd)), .int (iv (ht)), .ref rP, .ref rS, .ref rL, .ref rT, .ref rC, .ref ra, .ref rv, .int (iv (sth)), .int (iv (rth)), .ref rRC, .ref rRP])), (rRC, al (gL G) 256 (krc)), (rRP, ai (gI G) 256 (up k2 ((y * 16) + x) (clp (a32 (y * 16 + x)).toInt))), (rT, .inr (5, [.ref rev, .ref rod])), (rev, al (gL G) 8 (ge32)), (rod, al (gL G) 8 (go32)), (ra, al (gL G) 256 (a32)), (rS, .inr (3, [.int (iv (kd)), .int (iv (db)), .int (iv (ew)), .int (iv (ac)), .int (iv (dn)), .int (iv (pr)), .ref rE, .int (iv (nu)), .int (iv (de))])), (rL, .inr (1, [.int (iv (cP)), .int (iv (cQ)), .int (iv (nb)), .ref rl, .ref rt, .ref rw, .ref rh, .ref rf, .ref rp, .ref rb]))] := hD
      refine lv_iinc (k := 2) (v := iv (x + 1)) hx hb d_X_makeReadPicture_81 hl rfl (iv_add _ _) (by decide) rfl (fun ls hl => ?_)
      have hl : lv_has ls 3 [(2, .int (iv (x + 1))), (0, .ref rX), (1, .int (iv (y)))] := hl
      refine lv_goto (tgt := 47) hx hb d_X_makeReadPicture_84 (by decide) ?_
      exact ihx (by omega) _ _ _ (up k2 ((y * 16) + x) (clp (a32 (y * 16 + x)).toInt)) (lv_sub hl [1, 2, 0] rfl) hP hD hS (by rw [it_s _ _ hix, ← hs2])
