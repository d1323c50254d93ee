/-! lifting steps, lines, levels, as the class does them -/
theorem tabv_r {l : List Int} {A B : Int} (h0 : A ≤ 0 ∧ 0 ≤ B) (h : ∀ x ∈ l, A ≤ x ∧ x ≤ B) (z : Int) : A ≤ tabv l z ∧ tabv l z ≤ B := by
  unfold tabv
  by_cases hz : z.toNat < l.length
  · rw [List.getD_eq_getElem?_getD, List.getElem?_eq_getElem hz]
    exact h _ (List.getElem_mem hz)
  · rw [List.getD_eq_getElem?_getD, List.getElem?_eq_none (by omega)]
    exact h0
theorem stepsT_r (z : Int) : -10000 ≤ stepsT z ∧ stepsT z ≤ 10000 := tabv_r (by omega) (by decide +kernel) z
theorem gainT_r (z : Int) : 0 ≤ gainT z ∧ gainT z ≤ 1 := tabv_r (by omega) (by decide +kernel) z
theorem cnt_r {k : Int} (h : 0 ≤ k ∧ k ≤ 6) : 2 ≤ countT k ∧ countT k ≤ 4 ∧ 0 ≤ firstT k ∧ firstT k + countT k ≤ 14 := by
  rcases (show k = 0 ∨ k = 1 ∨ k = 2 ∨ k = 3 ∨ k = 4 ∨ k = 5 ∨ k = 6 by omega) with rfl | rfl | rfl | rfl | rfl | rfl | rfl <;> decide +kernel
def wgf (src : Int → Int64) (fm wts n : Int) : Int → Int64 → Int64 := fun t acc => if lw (stepsT (wts + t)) = 0 then acc else acc + lw (stepsT (wts + t)) * src (max 0 (min (n - 1) (fm + t)))
def wgA (src : Int → Int64) (fm wts n : Int) : Int64 := it (wgf src fm wts n) 0 8 0
def lfv (src : Int → Int64) (ld sg rc n k : Int) (x : Int64) : Int64 := x + lw sg * shR (lw (stepsT (ld + 2)) + wgA src (k - rc) (ld + 4) n) (stepsT (ld + 3))
def lff (src : Int → Int64) (ld sg rc n : Int) : Int → (Int → Int64) → (Int → Int64) := fun k t => up t k (lfv src ld sg rc n k (t k))
abbrev eo : Type := (Int → Int64) × (Int → Int64)
/-- the first i places of a step -/
def lfK (st dr n i : Int) (x : eo) : eo := if stepsT (st * 12) = 1 then (x.1, it (lff x.1 (st * 12) (stepsT (st * 12 + 1) * dr) 3 n) 0 i x.2) else (it (lff x.2 (st * 12) (stepsT (st * 12 + 1) * dr) 4 n) 0 i x.1, x.2)
theorem lfK_0 (st dr n : Int) (x : eo) : lfK st dr n 0 x = x := by
  unfold lfK
  rw [it_self, it_self]
  split <;> rfl
theorem lfK_t {st dr n i : Int} {x y : eo} (h : stepsT (st * 12) = 1) (hi : 0 ≤ i) (e : y = lfK st dr n i x) : (y.1, up y.2 i (lfv y.1 (st * 12) (stepsT (st * 12 + 1) * dr) 3 n i (y.2 i))) = lfK st dr n (i + 1) x := by
  subst e
  unfold lfK
  rw [if_pos h, if_pos h, it_s _ _ hi]
  rfl
theorem lfK_f {st dr n i : Int} {x y : eo} (h : ¬ stepsT (st * 12) = 1) (hi : 0 ≤ i) (e : y = lfK st dr n i x) : (up y.1 i (lfv y.2 (st * 12) (stepsT (st * 12 + 1) * dr) 4 n i (y.1 i)), y.2) = lfK st dr n (i + 1) x := by
  subst e
  unfold lfK
  rw [if_neg h, if_neg h, it_s _ _ hi]
  rfl
theorem lfK_x {st dr n i : Int} {x : eo} (h1 : n ≤ i) (h2 : i ≤ n ∨ i = 0) : lfK st dr n i x = lfK st dr n n x := by
  unfold lfK
  rw [it_x _ _ h1 h2, it_x _ _ h1 h2]
abbrev aeo : Type := (Int → Int64) × (Int → Int64) × (Int → Int64)
/-- E and O from a list, by places -/
def ldf (a : Int → Int64) (pe po : Int → Int) : Int → eo → eo := fun k x => (up x.1 k (a (pe k)), up x.2 k (a (po k)))
/-- and back -/
def stf (x : eo) (pe po : Int → Int) : Int → (Int → Int64) → (Int → Int64) := fun k a => up (up a (pe k) (x.1 k)) (po k) (x.2 k)
def spK (kd n : Int) (c : Int) (x : eo) : eo := it (fun i y => lfK (firstT kd + i) 1 n n y) 0 c x
def jnK (kd n : Int) (c : Int) (x : eo) : eo := it (fun k y => lfK (firstT kd + (countT kd - 1 - k)) (-1) n n y) 0 c x
def p2k (s d : Int) : Int → Int := fun k => s + 2 * k * d
def p2o (s d : Int) : Int → Int := fun k => s + (2 * k + 1) * d
def p1k (s d : Int) : Int → Int := fun k => s + k * d
def p1n (s d n : Int) : Int → Int := fun k => s + (n + k) * d
/-- a line split, a line joined: (list, E, O) -/
def spL (s d n kd : Int) (x : aeo) : aeo :=
  (it (stf (spK kd n (countT kd) (it (ldf x.1 (p2k s d) (p2o s d)) 0 n x.2)) (p1k s d) (p1n s d n)) 0 n x.1, spK kd n (countT kd) (it (ldf x.1 (p2k s d) (p2o s d)) 0 n x.2))
def jnL (s d n kd : Int) (x : aeo) : aeo :=
  (it (stf (jnK kd n (countT kd) (it (ldf x.1 (p1k s d) (p1n s d n)) 0 n x.2)) (p2k s d) (p2o s d)) 0 n x.1, jnK kd n (countT kd) (it (ldf x.1 (p1k s d) (p1n s d n)) 0 n x.2))
def raA (w h gn : Int) (a : Int → Int64) : Int → Int64 := it (fun y f => it (fun x f => up f (y * 16 + x) (shL (f (y * 16 + x)) gn)) 0 w f) 0 h a
def loA (w h gn : Int) (a : Int → Int64) : Int → Int64 := it (fun y f => it (fun x f => up f (y * 16 + x) (shR (f (y * 16 + x) + lw gn) gn)) 0 w f) 0 h a
/-- a level -/
def lvW (cP lv : Int) : Int := cP / 2 ^ lv.toNat
def lvH (cQ db lv : Int) : Int := cQ / 2 ^ (min lv db).toNat
def spR (w h kd : Int) (x : aeo) : aeo := it (fun y z => spL (y * 16) 1 (w / 2) kd z) 0 h x
def spC (w h kd : Int) (x : aeo) : aeo := it (fun y z => spL y 16 (h / 2) kd z) 0 w x
def jnR (w h kd : Int) (x : aeo) : aeo := it (fun y z => jnL (y * 16) 1 (w / 2) kd z) 0 h x
def jnC (w h kd : Int) (x : aeo) : aeo := it (fun y z => jnL y 16 (h / 2) kd z) 0 w x
def fwf (cP cQ db kd : Int) : Int → aeo → aeo := fun lv x =>
  let y := spR (lvW cP lv) (lvH cQ db lv) kd (raA (lvW cP lv) (lvH cQ db lv) (gainT kd) x.1, x.2)
  if lv < db then spC (lvW cP lv) (lvH cQ db lv) kd y else y
def bwf (cP cQ db kd : Int) (lv : Int) (x : aeo) : aeo :=
  let y := jnR (lvW cP lv) (lvH cQ db lv) kd (if lv < db then jnC (lvW cP lv) (lvH cQ db lv) kd x else x)
  (loA (lvW cP lv) (lvH cQ db lv) (gainT kd) y.1, y.2)
def fwA (cP cQ db ew kd : Int) (x : aeo) : aeo := it (fwf cP cQ db kd) 0 (db + ew) x
def bwA (cP cQ db ew kd : Int) (x : aeo) : aeo := it (fun k y => bwf cP cQ db kd (db + ew - 1 - k) y) 0 (db + ew) x
theorem lv_r {c lv : Int} (hc : 0 ≤ c ∧ c ≤ 16) : 0 ≤ c / 2 ^ lv.toNat ∧ c / 2 ^ lv.toNat ≤ 16 := by
  have h1 := p2_1 lv.toNat
  have h2 := Int.ediv_le_self (2 ^ lv.toNat) hc.1
  have h3 := Int.ediv_nonneg (b := 2 ^ lv.toNat) hc.1 (by omega)
  omega
theorem m2_140 : Cond.code y_Trans_lift prog_7_method_8_code 13 none ∈ wl := wl_2 140 (by decide +kernel) (by decide +kernel)
theorem m2_145 : Cond.code y_Trans_weigh prog_7_method_9_code 9 (some .long) ∈ wl := wl_2 145 (by decide +kernel) (by decide +kernel)
theorem m2_135 : Cond.fieldLink "WaveletSlices$Transform" 66 "WaveletSlices$Transform" "FIRST_STEP" "[I" ∈ wl := wl_2 135 (by decide +kernel) (by decide +kernel)
theorem m2_141 : Cond.fieldLink "WaveletSlices$Transform" 73 "WaveletSlices$Transform" "STEPS" "[I" ∈ wl := wl_2 141 (by decide +kernel) (by decide +kernel)
theorem m2_133 : Cond.fieldLink "WaveletSlices$Transform" 63 "WaveletSlices$Transform" "STEP_COUNT" "[I" ∈ wl := wl_2 133 (by decide +kernel) (by decide +kernel)
theorem m1_122 : Cond.fieldLink "WaveletSlices$Transform" 11 "WaveletSlices$Transform" "evens" "[J" ∈ wl := wl_1 122 (by decide +kernel) (by decide +kernel)
theorem m1_123 : Cond.fieldLink "WaveletSlices$Transform" 15 "WaveletSlices$Transform" "odds" "[J" ∈ wl := wl_1 123 (by decide +kernel) (by decide +kernel)
theorem m1_4 : Cond.initialized "WaveletSlices$Transform" ∈ wl := wl_1 4 (by decide +kernel) (by decide +kernel)
theorem m2_139 : Cond.instanceMethod y_Trans_lift ∈ wl := wl_2 139 (by decide +kernel) (by decide +kernel)
theorem m2_137 : Cond.methodLink "WaveletSlices$Transform" 69 y_Trans_lift ∈ wl := wl_2 137 (by decide +kernel) (by decide +kernel)
theorem m2_143 : Cond.methodLink "WaveletSlices$Transform" 76 y_Trans_weigh ∈ wl := wl_2 143 (by decide +kernel) (by decide +kernel)
theorem m2_146 : Cond.methodLink "WaveletSlices$Transform" 80 y_Jmath_max_III ∈ wl := wl_2 146 (by decide +kernel) (by decide +kernel)
theorem m2_123 : Cond.methodLink "WaveletSlices$Transform" 36 y_Jmath_min_III ∈ wl := wl_2 123 (by decide +kernel) (by decide +kernel)
theorem mp_6 : Cond.selects "WaveletSlices$Transform" y_Trans_lift y_Trans_lift ∈ wl := wl_p 6 (by decide +kernel) (by decide +kernel)
theorem m2_144 : Cond.static y_Trans_weigh ∈ wl := wl_2 144 (by decide +kernel) (by decide +kernel)
theorem d_Trans_weigh_0 : decode prog_7_method_9_code 0 = .ok (.lconst 0, 1) := by decide +kernel
theorem d_Trans_weigh_1 : decode prog_7_method_9_code 1 = .ok (.lstore 4, 2) := by decide +kernel
theorem d_Trans_weigh_3 : decode prog_7_method_9_code 3 = .ok (.iconst 0, 1) := by decide +kernel
theorem d_Trans_weigh_4 : decode prog_7_method_9_code 4 = .ok (.istore 6, 2) := by decide +kernel
theorem d_Trans_weigh_6 : decode prog_7_method_9_code 6 = .ok (.iload 6, 2) := by decide +kernel
theorem d_Trans_weigh_8 : decode prog_7_method_9_code 8 = .ok (.bipush 8, 2) := by decide +kernel
theorem d_Trans_weigh_10 : decode prog_7_method_9_code 10 = .ok (.if_icmp .ge 51, 3) := by decide +kernel
theorem d_Trans_weigh_13 : decode prog_7_method_9_code 13 = .ok (.getstatic 73, 3) := by decide +kernel
theorem d_Trans_weigh_16 : decode prog_7_method_9_code 16 = .ok (.iload_n 2, 1) := by decide +kernel
theorem d_Trans_weigh_17 : decode prog_7_method_9_code 17 = .ok (.iload 6, 2) := by decide +kernel
theorem d_Trans_weigh_19 : decode prog_7_method_9_code 19 = .ok (.iadd, 1) := by decide +kernel
theorem d_Trans_weigh_20 : decode prog_7_method_9_code 20 = .ok (.iaload, 1) := by decide +kernel
theorem d_Trans_weigh_21 : decode prog_7_method_9_code 21 = .ok (.i2l, 1) := by decide +kernel
theorem d_Trans_weigh_22 : decode prog_7_method_9_code 22 = .ok (.lstore 7, 2) := by decide +kernel
theorem d_Trans_weigh_24 : decode prog_7_method_9_code 24 = .ok (.lload 7, 2) := by decide +kernel
theorem d_Trans_weigh_26 : decode prog_7_method_9_code 26 = .ok (.lconst 0, 1) := by decide +kernel
theorem d_Trans_weigh_27 : decode prog_7_method_9_code 27 = .ok (.lcmp, 1) := by decide +kernel
theorem d_Trans_weigh_28 : decode prog_7_method_9_code 28 = .ok (.ifCond .eq 27, 3) := by decide +kernel
theorem d_Trans_weigh_31 : decode prog_7_method_9_code 31 = .ok (.lload 4, 2) := by decide +kernel
theorem d_Trans_weigh_33 : decode prog_7_method_9_code 33 = .ok (.lload 7, 2) := by decide +kernel
theorem d_Trans_weigh_35 : decode prog_7_method_9_code 35 = .ok (.aload_n 0, 1) := by decide +kernel
theorem d_Trans_weigh_36 : decode prog_7_method_9_code 36 = .ok (.iconst 0, 1) := by decide +kernel
theorem d_Trans_weigh_37 : decode prog_7_method_9_code 37 = .ok (.iload_n 3, 1) := by decide +kernel
theorem d_Trans_weigh_38 : decode prog_7_method_9_code 38 = .ok (.iconst 1, 1) := by decide +kernel
theorem d_Trans_weigh_39 : decode prog_7_method_9_code 39 = .ok (.isub, 1) := by decide +kernel
theorem d_Trans_weigh_40 : decode prog_7_method_9_code 40 = .ok (.iload_n 1, 1) := by decide +kernel
theorem d_Trans_weigh_41 : decode prog_7_method_9_code 41 = .ok (.iload 6, 2) := by decide +kernel
theorem d_Trans_weigh_43 : decode prog_7_method_9_code 43 = .ok (.iadd, 1) := by decide +kernel
theorem d_Trans_weigh_44 : decode prog_7_method_9_code 44 = .ok (.invokestatic 36, 3) := by decide +kernel
theorem d_Trans_weigh_47 : decode prog_7_method_9_code 47 = .ok (.invokestatic 80, 3) := by decide +kernel
theorem d_Trans_weigh_50 : decode prog_7_method_9_code 50 = .ok (.laload, 1) := by decide +kernel
theorem d_Trans_weigh_51 : decode prog_7_method_9_code 51 = .ok (.lmul, 1) := by decide +kernel
theorem d_Trans_weigh_52 : decode prog_7_method_9_code 52 = .ok (.ladd, 1) := by decide +kernel
theorem d_Trans_weigh_53 : decode prog_7_method_9_code 53 = .ok (.lstore 4, 2) := by decide +kernel
theorem d_Trans_weigh_55 : decode prog_7_method_9_code 55 = .ok (.iinc 6 1, 3) := by decide +kernel
theorem d_Trans_weigh_58 : decode prog_7_method_9_code 58 = .ok (.goto (-52), 3) := by decide +kernel
theorem d_Trans_weigh_61 : decode prog_7_method_9_code 61 = .ok (.lload 4, 2) := by decide +kernel
theorem d_Trans_weigh_63 : decode prog_7_method_9_code 63 = .ok (.lreturn, 1) := by decide +kernel
theorem d_Trans_lift_0 : decode prog_7_method_8_code 0 = .ok (.iload_n 1, 1) := by decide +kernel
theorem d_Trans_lift_1 : decode prog_7_method_8_code 1 = .ok (.bipush 12, 2) := by decide +kernel
theorem d_Trans_lift_3 : decode prog_7_method_8_code 3 = .ok (.imul, 1) := by decide +kernel
theorem d_Trans_lift_4 : decode prog_7_method_8_code 4 = .ok (.istore 4, 2) := by decide +kernel
theorem d_Trans_lift_6 : decode prog_7_method_8_code 6 = .ok (.getstatic 73, 3) := by decide +kernel
theorem d_Trans_lift_9 : decode prog_7_method_8_code 9 = .ok (.iload 4, 2) := by decide +kernel
theorem d_Trans_lift_11 : decode prog_7_method_8_code 11 = .ok (.iaload, 1) := by decide +kernel
theorem d_Trans_lift_12 : decode prog_7_method_8_code 12 = .ok (.iconst 1, 1) := by decide +kernel
theorem d_Trans_lift_13 : decode prog_7_method_8_code 13 = .ok (.if_icmp .ne 7, 3) := by decide +kernel
theorem d_Trans_lift_16 : decode prog_7_method_8_code 16 = .ok (.iconst 1, 1) := by decide +kernel
theorem d_Trans_lift_17 : decode prog_7_method_8_code 17 = .ok (.goto 4, 3) := by decide +kernel
theorem d_Trans_lift_20 : decode prog_7_method_8_code 20 = .ok (.iconst 0, 1) := by decide +kernel
theorem d_Trans_lift_21 : decode prog_7_method_8_code 21 = .ok (.istore 5, 2) := by decide +kernel
theorem d_Trans_lift_23 : decode prog_7_method_8_code 23 = .ok (.iload 5, 2) := by decide +kernel
theorem d_Trans_lift_25 : decode prog_7_method_8_code 25 = .ok (.ifCond .eq 10, 3) := by decide +kernel
theorem d_Trans_lift_28 : decode prog_7_method_8_code 28 = .ok (.aload_n 0, 1) := by decide +kernel
theorem d_Trans_lift_29 : decode prog_7_method_8_code 29 = .ok (.getfield 15, 3) := by decide +kernel
theorem d_Trans_lift_32 : decode prog_7_method_8_code 32 = .ok (.goto 7, 3) := by decide +kernel
theorem d_Trans_lift_35 : decode prog_7_method_8_code 35 = .ok (.aload_n 0, 1) := by decide +kernel
theorem d_Trans_lift_36 : decode prog_7_method_8_code 36 = .ok (.getfield 11, 3) := by decide +kernel
theorem d_Trans_lift_39 : decode prog_7_method_8_code 39 = .ok (.astore 6, 2) := by decide +kernel
theorem d_Trans_lift_41 : decode prog_7_method_8_code 41 = .ok (.iload 5, 2) := by decide +kernel
theorem d_Trans_lift_43 : decode prog_7_method_8_code 43 = .ok (.ifCond .eq 10, 3) := by decide +kernel
theorem d_Trans_lift_46 : decode prog_7_method_8_code 46 = .ok (.aload_n 0, 1) := by decide +kernel
theorem d_Trans_lift_47 : decode prog_7_method_8_code 47 = .ok (.getfield 11, 3) := by decide +kernel
theorem d_Trans_lift_50 : decode prog_7_method_8_code 50 = .ok (.goto 7, 3) := by decide +kernel
theorem d_Trans_lift_53 : decode prog_7_method_8_code 53 = .ok (.aload_n 0, 1) := by decide +kernel
theorem d_Trans_lift_54 : decode prog_7_method_8_code 54 = .ok (.getfield 15, 3) := by decide +kernel
theorem d_Trans_lift_57 : decode prog_7_method_8_code 57 = .ok (.astore 7, 2) := by decide +kernel
theorem d_Trans_lift_59 : decode prog_7_method_8_code 59 = .ok (.getstatic 73, 3) := by decide +kernel
theorem d_Trans_lift_62 : decode prog_7_method_8_code 62 = .ok (.iload 4, 2) := by decide +kernel
theorem d_Trans_lift_64 : decode prog_7_method_8_code 64 = .ok (.iconst 1, 1) := by decide +kernel
theorem d_Trans_lift_65 : decode prog_7_method_8_code 65 = .ok (.iadd, 1) := by decide +kernel
theorem d_Trans_lift_66 : decode prog_7_method_8_code 66 = .ok (.iaload, 1) := by decide +kernel
theorem d_Trans_lift_67 : decode prog_7_method_8_code 67 = .ok (.iload_n 2, 1) := by decide +kernel
theorem d_Trans_lift_68 : decode prog_7_method_8_code 68 = .ok (.imul, 1) := by decide +kernel
theorem d_Trans_lift_69 : decode prog_7_method_8_code 69 = .ok (.istore 8, 2) := by decide +kernel
theorem d_Trans_lift_71 : decode prog_7_method_8_code 71 = .ok (.iload 5, 2) := by decide +kernel
theorem d_Trans_lift_73 : decode prog_7_method_8_code 73 = .ok (.ifCond .eq 7, 3) := by decide +kernel
theorem d_Trans_lift_76 : decode prog_7_method_8_code 76 = .ok (.iconst 3, 1) := by decide +kernel
theorem d_Trans_lift_77 : decode prog_7_method_8_code 77 = .ok (.goto 4, 3) := by decide +kernel
theorem d_Trans_lift_80 : decode prog_7_method_8_code 80 = .ok (.iconst 4, 1) := by decide +kernel
theorem d_Trans_lift_81 : decode prog_7_method_8_code 81 = .ok (.istore 9, 2) := by decide +kernel
theorem d_Trans_lift_83 : decode prog_7_method_8_code 83 = .ok (.iconst 0, 1) := by decide +kernel
theorem d_Trans_lift_84 : decode prog_7_method_8_code 84 = .ok (.istore 10, 2) := by decide +kernel
theorem d_Trans_lift_86 : decode prog_7_method_8_code 86 = .ok (.iload 10, 2) := by decide +kernel
theorem d_Trans_lift_88 : decode prog_7_method_8_code 88 = .ok (.iload_n 3, 1) := by decide +kernel
theorem d_Trans_lift_89 : decode prog_7_method_8_code 89 = .ok (.if_icmp .ge 59, 3) := by decide +kernel
theorem d_Trans_lift_92 : decode prog_7_method_8_code 92 = .ok (.getstatic 73, 3) := by decide +kernel
theorem d_Trans_lift_95 : decode prog_7_method_8_code 95 = .ok (.iload 4, 2) := by decide +kernel
theorem d_Trans_lift_97 : decode prog_7_method_8_code 97 = .ok (.iconst 2, 1) := by decide +kernel
theorem d_Trans_lift_98 : decode prog_7_method_8_code 98 = .ok (.iadd, 1) := by decide +kernel
theorem d_Trans_lift_99 : decode prog_7_method_8_code 99 = .ok (.iaload, 1) := by decide +kernel
theorem d_Trans_lift_100 : decode prog_7_method_8_code 100 = .ok (.i2l, 1) := by decide +kernel
theorem d_Trans_lift_101 : decode prog_7_method_8_code 101 = .ok (.aload 7, 2) := by decide +kernel
theorem d_Trans_lift_103 : decode prog_7_method_8_code 103 = .ok (.iload 10, 2) := by decide +kernel
theorem d_Trans_lift_105 : decode prog_7_method_8_code 105 = .ok (.iload 9, 2) := by decide +kernel
theorem d_Trans_lift_107 : decode prog_7_method_8_code 107 = .ok (.isub, 1) := by decide +kernel
theorem d_Trans_lift_108 : decode prog_7_method_8_code 108 = .ok (.iload 4, 2) := by decide +kernel
theorem d_Trans_lift_110 : decode prog_7_method_8_code 110 = .ok (.iconst 4, 1) := by decide +kernel
theorem d_Trans_lift_111 : decode prog_7_method_8_code 111 = .ok (.iadd, 1) := by decide +kernel
theorem d_Trans_lift_112 : decode prog_7_method_8_code 112 = .ok (.iload_n 3, 1) := by decide +kernel
theorem d_Trans_lift_113 : decode prog_7_method_8_code 113 = .ok (.invokestatic 76, 3) := by decide +kernel
theorem d_Trans_lift_116 : decode prog_7_method_8_code 116 = .ok (.ladd, 1) := by decide +kernel
theorem d_Trans_lift_117 : decode prog_7_method_8_code 117 = .ok (.lstore 11, 2) := by decide +kernel
theorem d_Trans_lift_119 : decode prog_7_method_8_code 119 = .ok (.aload 6, 2) := by decide +kernel
theorem d_Trans_lift_121 : decode prog_7_method_8_code 121 = .ok (.iload 10, 2) := by decide +kernel
theorem d_Trans_lift_123 : decode prog_7_method_8_code 123 = .ok (.dup2, 1) := by decide +kernel
theorem d_Trans_lift_124 : decode prog_7_method_8_code 124 = .ok (.laload, 1) := by decide +kernel
theorem d_Trans_lift_125 : decode prog_7_method_8_code 125 = .ok (.iload 8, 2) := by decide +kernel
theorem d_Trans_lift_127 : decode prog_7_method_8_code 127 = .ok (.i2l, 1) := by decide +kernel
theorem d_Trans_lift_128 : decode prog_7_method_8_code 128 = .ok (.lload 11, 2) := by decide +kernel
theorem d_Trans_lift_130 : decode prog_7_method_8_code 130 = .ok (.getstatic 73, 3) := by decide +kernel
theorem d_Trans_lift_133 : decode prog_7_method_8_code 133 = .ok (.iload 4, 2) := by decide +kernel
theorem d_Trans_lift_135 : decode prog_7_method_8_code 135 = .ok (.iconst 3, 1) := by decide +kernel
theorem d_Trans_lift_136 : decode prog_7_method_8_code 136 = .ok (.iadd, 1) := by decide +kernel
theorem d_Trans_lift_137 : decode prog_7_method_8_code 137 = .ok (.iaload, 1) := by decide +kernel
theorem d_Trans_lift_138 : decode prog_7_method_8_code 138 = .ok (.lshr, 1) := by decide +kernel
theorem d_Trans_lift_139 : decode prog_7_method_8_code 139 = .ok (.lmul, 1) := by decide +kernel
theorem d_Trans_lift_140 : decode prog_7_method_8_code 140 = .ok (.ladd, 1) := by decide +kernel
theorem d_Trans_lift_141 : decode prog_7_method_8_code 141 = .ok (.lastore, 1) := by decide +kernel
theorem d_Trans_lift_142 : decode prog_7_method_8_code 142 = .ok (.iinc 10 1, 3) := by decide +kernel
theorem d_Trans_lift_145 : decode prog_7_method_8_code 145 = .ok (.goto (-59), 3) := by decide +kernel
theorem d_Trans_lift_148 : decode prog_7_method_8_code 148 = .ok (.return_, 1) := by decide +kernel
theorem d_Trans_splitLine_0 : decode prog_7_method_6_code 0 = .ok (.iconst 0, 1) := by decide +kernel
theorem d_Trans_splitLine_1 : decode prog_7_method_6_code 1 = .ok (.istore 6, 2) := by decide +kernel
theorem d_Trans_splitLine_3 : decode prog_7_method_6_code 3 = .ok (.iload 6, 2) := by decide +kernel
theorem d_Trans_splitLine_5 : decode prog_7_method_6_code 5 = .ok (.iload 4, 2) := by decide +kernel
theorem d_Trans_splitLine_7 : decode prog_7_method_6_code 7 = .ok (.if_icmp .ge 45, 3) := by decide +kernel
theorem d_Trans_splitLine_10 : decode prog_7_method_6_code 10 = .ok (.aload_n 0, 1) := by decide +kernel
theorem d_Trans_splitLine_11 : decode prog_7_method_6_code 11 = .ok (.getfield 11, 3) := by decide +kernel
theorem d_Trans_splitLine_14 : decode prog_7_method_6_code 14 = .ok (.iload 6, 2) := by decide +kernel
theorem d_Trans_splitLine_16 : decode prog_7_method_6_code 16 = .ok (.aload_n 1, 1) := by decide +kernel
theorem d_Trans_splitLine_17 : decode prog_7_method_6_code 17 = .ok (.iload_n 2, 1) := by decide +kernel
theorem d_Trans_splitLine_18 : decode prog_7_method_6_code 18 = .ok (.iconst 2, 1) := by decide +kernel
theorem d_Trans_splitLine_19 : decode prog_7_method_6_code 19 = .ok (.iload 6, 2) := by decide +kernel
theorem d_Trans_splitLine_21 : decode prog_7_method_6_code 21 = .ok (.imul, 1) := by decide +kernel
theorem d_Trans_splitLine_22 : decode prog_7_method_6_code 22 = .ok (.iload_n 3, 1) := by decide +kernel
theorem d_Trans_splitLine_23 : decode prog_7_method_6_code 23 = .ok (.imul, 1) := by decide +kernel
theorem d_Trans_splitLine_24 : decode prog_7_method_6_code 24 = .ok (.iadd, 1) := by decide +kernel
theorem d_Trans_splitLine_25 : decode prog_7_method_6_code 25 = .ok (.laload, 1) := by decide +kernel
theorem d_Trans_splitLine_26 : decode prog_7_method_6_code 26 = .ok (.lastore, 1) := by decide +kernel
theorem d_Trans_splitLine_27 : decode prog_7_method_6_code 27 = .ok (.aload_n 0, 1) := by decide +kernel
theorem d_Trans_splitLine_28 : decode prog_7_method_6_code 28 = .ok (.getfield 15, 3) := by decide +kernel
theorem d_Trans_splitLine_31 : decode prog_7_method_6_code 31 = .ok (.iload 6, 2) := by decide +kernel
theorem d_Trans_splitLine_33 : decode prog_7_method_6_code 33 = .ok (.aload_n 1, 1) := by decide +kernel
theorem d_Trans_splitLine_34 : decode prog_7_method_6_code 34 = .ok (.iload_n 2, 1) := by decide +kernel
theorem d_Trans_splitLine_35 : decode prog_7_method_6_code 35 = .ok (.iconst 2, 1) := by decide +kernel
theorem d_Trans_splitLine_36 : decode prog_7_method_6_code 36 = .ok (.iload 6, 2) := by decide +kernel
theorem d_Trans_splitLine_38 : decode prog_7_method_6_code 38 = .ok (.imul, 1) := by decide +kernel
theorem d_Trans_splitLine_39 : decode prog_7_method_6_code 39 = .ok (.iconst 1, 1) := by decide +kernel
theorem d_Trans_splitLine_40 : decode prog_7_method_6_code 40 = .ok (.iadd, 1) := by decide +kernel
theorem d_Trans_splitLine_41 : decode prog_7_method_6_code 41 = .ok (.iload_n 3, 1) := by decide +kernel
theorem d_Trans_splitLine_42 : decode prog_7_method_6_code 42 = .ok (.imul, 1) := by decide +kernel
theorem d_Trans_splitLine_43 : decode prog_7_method_6_code 43 = .ok (.iadd, 1) := by decide +kernel
theorem d_Trans_splitLine_44 : decode prog_7_method_6_code 44 = .ok (.laload, 1) := by decide +kernel
theorem d_Trans_splitLine_45 : decode prog_7_method_6_code 45 = .ok (.lastore, 1) := by decide +kernel
theorem d_Trans_splitLine_46 : decode prog_7_method_6_code 46 = .ok (.iinc 6 1, 3) := by decide +kernel
theorem d_Trans_splitLine_49 : decode prog_7_method_6_code 49 = .ok (.goto (-46), 3) := by decide +kernel
theorem d_Trans_splitLine_52 : decode prog_7_method_6_code 52 = .ok (.iconst 0, 1) := by decide +kernel
theorem d_Trans_splitLine_53 : decode prog_7_method_6_code 53 = .ok (.istore 6, 2) := by decide +kernel
theorem d_Trans_splitLine_55 : decode prog_7_method_6_code 55 = .ok (.iload 6, 2) := by decide +kernel
theorem d_Trans_splitLine_57 : decode prog_7_method_6_code 57 = .ok (.getstatic 63, 3) := by decide +kernel
theorem d_Trans_splitLine_60 : decode prog_7_method_6_code 60 = .ok (.iload 5, 2) := by decide +kernel
theorem d_Trans_splitLine_62 : decode prog_7_method_6_code 62 = .ok (.iaload, 1) := by decide +kernel
theorem d_Trans_splitLine_63 : decode prog_7_method_6_code 63 = .ok (.if_icmp .ge 25, 3) := by decide +kernel
theorem d_Trans_splitLine_66 : decode prog_7_method_6_code 66 = .ok (.aload_n 0, 1) := by decide +kernel
theorem d_Trans_splitLine_67 : decode prog_7_method_6_code 67 = .ok (.getstatic 66, 3) := by decide +kernel
theorem d_Trans_splitLine_70 : decode prog_7_method_6_code 70 = .ok (.iload 5, 2) := by decide +kernel
theorem d_Trans_splitLine_72 : decode prog_7_method_6_code 72 = .ok (.iaload, 1) := by decide +kernel
theorem d_Trans_splitLine_73 : decode prog_7_method_6_code 73 = .ok (.iload 6, 2) := by decide +kernel
theorem d_Trans_splitLine_75 : decode prog_7_method_6_code 75 = .ok (.iadd, 1) := by decide +kernel
theorem d_Trans_splitLine_76 : decode prog_7_method_6_code 76 = .ok (.iconst 1, 1) := by decide +kernel
theorem d_Trans_splitLine_77 : decode prog_7_method_6_code 77 = .ok (.iload 4, 2) := by decide +kernel
theorem d_Trans_splitLine_79 : decode prog_7_method_6_code 79 = .ok (.invokevirtual 69, 3) := by decide +kernel
theorem d_Trans_splitLine_82 : decode prog_7_method_6_code 82 = .ok (.iinc 6 1, 3) := by decide +kernel
theorem d_Trans_splitLine_85 : decode prog_7_method_6_code 85 = .ok (.goto (-30), 3) := by decide +kernel
theorem d_Trans_splitLine_88 : decode prog_7_method_6_code 88 = .ok (.iconst 0, 1) := by decide +kernel
theorem d_Trans_splitLine_89 : decode prog_7_method_6_code 89 = .ok (.istore 6, 2) := by decide +kernel
theorem d_Trans_splitLine_91 : decode prog_7_method_6_code 91 = .ok (.iload 6, 2) := by decide +kernel
theorem d_Trans_splitLine_93 : decode prog_7_method_6_code 93 = .ok (.iload 4, 2) := by decide +kernel
theorem d_Trans_splitLine_95 : decode prog_7_method_6_code 95 = .ok (.if_icmp .ge 42, 3) := by decide +kernel
theorem d_Trans_splitLine_98 : decode prog_7_method_6_code 98 = .ok (.aload_n 1, 1) := by decide +kernel
theorem d_Trans_splitLine_99 : decode prog_7_method_6_code 99 = .ok (.iload_n 2, 1) := by decide +kernel
theorem d_Trans_splitLine_100 : decode prog_7_method_6_code 100 = .ok (.iload 6, 2) := by decide +kernel
theorem d_Trans_splitLine_102 : decode prog_7_method_6_code 102 = .ok (.iload_n 3, 1) := by decide +kernel
theorem d_Trans_splitLine_103 : decode prog_7_method_6_code 103 = .ok (.imul, 1) := by decide +kernel
theorem d_Trans_splitLine_104 : decode prog_7_method_6_code 104 = .ok (.iadd, 1) := by decide +kernel
theorem d_Trans_splitLine_105 : decode prog_7_method_6_code 105 = .ok (.aload_n 0, 1) := by decide +kernel
theorem d_Trans_splitLine_106 : decode prog_7_method_6_code 106 = .ok (.getfield 11, 3) := by decide +kernel
theorem d_Trans_splitLine_109 : decode prog_7_method_6_code 109 = .ok (.iload 6, 2) := by decide +kernel
theorem d_Trans_splitLine_111 : decode prog_7_method_6_code 111 = .ok (.laload, 1) := by decide +kernel
theorem d_Trans_splitLine_112 : decode prog_7_method_6_code 112 = .ok (.lastore, 1) := by decide +kernel
theorem d_Trans_splitLine_113 : decode prog_7_method_6_code 113 = .ok (.aload_n 1, 1) := by decide +kernel
theorem d_Trans_splitLine_114 : decode prog_7_method_6_code 114 = .ok (.iload_n 2, 1) := by decide +kernel
theorem d_Trans_splitLine_115 : decode prog_7_method_6_code 115 = .ok (.iload 4, 2) := by decide +kernel
theorem d_Trans_splitLine_117 : decode prog_7_method_6_code 117 = .ok (.iload 6, 2) := by decide +kernel
theorem d_Trans_splitLine_119 : decode prog_7_method_6_code 119 = .ok (.iadd, 1) := by decide +kernel
theorem d_Trans_splitLine_120 : decode prog_7_method_6_code 120 = .ok (.iload_n 3, 1) := by decide +kernel
theorem d_Trans_splitLine_121 : decode prog_7_method_6_code 121 = .ok (.imul, 1) := by decide +kernel
theorem d_Trans_splitLine_122 : decode prog_7_method_6_code 122 = .ok (.iadd, 1) := by decide +kernel
theorem d_Trans_splitLine_123 : decode prog_7_method_6_code 123 = .ok (.aload_n 0, 1) := by decide +kernel
theorem d_Trans_splitLine_124 : decode prog_7_method_6_code 124 = .ok (.getfield 15, 3) := by decide +kernel
theorem d_Trans_splitLine_127 : decode prog_7_method_6_code 127 = .ok (.iload 6, 2) := by decide +kernel
theorem d_Trans_splitLine_129 : decode prog_7_method_6_code 129 = .ok (.laload, 1) := by decide +kernel
theorem d_Trans_splitLine_130 : decode prog_7_method_6_code 130 = .ok (.lastore, 1) := by decide +kernel
theorem d_Trans_splitLine_131 : decode prog_7_method_6_code 131 = .ok (.iinc 6 1, 3) := by decide +kernel
theorem d_Trans_splitLine_134 : decode prog_7_method_6_code 134 = .ok (.goto (-43), 3) := by decide +kernel
theorem d_Trans_splitLine_137 : decode prog_7_method_6_code 137 = .ok (.return_, 1) := by decide +kernel
theorem d_Trans_joinLine_0 : decode prog_7_method_7_code 0 = .ok (.iconst 0, 1) := by decide +kernel
theorem d_Trans_joinLine_1 : decode prog_7_method_7_code 1 = .ok (.istore 6, 2) := by decide +kernel
theorem d_Trans_joinLine_3 : decode prog_7_method_7_code 3 = .ok (.iload 6, 2) := by decide +kernel
theorem d_Trans_joinLine_5 : decode prog_7_method_7_code 5 = .ok (.iload 4, 2) := by decide +kernel
theorem d_Trans_joinLine_7 : decode prog_7_method_7_code 7 = .ok (.if_icmp .ge 42, 3) := by decide +kernel
theorem d_Trans_joinLine_10 : decode prog_7_method_7_code 10 = .ok (.aload_n 0, 1) := by decide +kernel
theorem d_Trans_joinLine_11 : decode prog_7_method_7_code 11 = .ok (.getfield 11, 3) := by decide +kernel
theorem d_Trans_joinLine_14 : decode prog_7_method_7_code 14 = .ok (.iload 6, 2) := by decide +kernel
theorem d_Trans_joinLine_16 : decode prog_7_method_7_code 16 = .ok (.aload_n 1, 1) := by decide +kernel
theorem d_Trans_joinLine_17 : decode prog_7_method_7_code 17 = .ok (.iload_n 2, 1) := by decide +kernel
theorem d_Trans_joinLine_18 : decode prog_7_method_7_code 18 = .ok (.iload 6, 2) := by decide +kernel
theorem d_Trans_joinLine_20 : decode prog_7_method_7_code 20 = .ok (.iload_n 3, 1) := by decide +kernel
theorem d_Trans_joinLine_21 : decode prog_7_method_7_code 21 = .ok (.imul, 1) := by decide +kernel
theorem d_Trans_joinLine_22 : decode prog_7_method_7_code 22 = .ok (.iadd, 1) := by decide +kernel
theorem d_Trans_joinLine_23 : decode prog_7_method_7_code 23 = .ok (.laload, 1) := by decide +kernel
theorem d_Trans_joinLine_24 : decode prog_7_method_7_code 24 = .ok (.lastore, 1) := by decide +kernel
theorem d_Trans_joinLine_25 : decode prog_7_method_7_code 25 = .ok (.aload_n 0, 1) := by decide +kernel
theorem d_Trans_joinLine_26 : decode prog_7_method_7_code 26 = .ok (.getfield 15, 3) := by decide +kernel
theorem d_Trans_joinLine_29 : decode prog_7_method_7_code 29 = .ok (.iload 6, 2) := by decide +kernel
theorem d_Trans_joinLine_31 : decode prog_7_method_7_code 31 = .ok (.aload_n 1, 1) := by decide +kernel
theorem d_Trans_joinLine_32 : decode prog_7_method_7_code 32 = .ok (.iload_n 2, 1) := by decide +kernel
theorem d_Trans_joinLine_33 : decode prog_7_method_7_code 33 = .ok (.iload 4, 2) := by decide +kernel
theorem d_Trans_joinLine_35 : decode prog_7_method_7_code 35 = .ok (.iload 6, 2) := by decide +kernel
theorem d_Trans_joinLine_37 : decode prog_7_method_7_code 37 = .ok (.iadd, 1) := by decide +kernel
theorem d_Trans_joinLine_38 : decode prog_7_method_7_code 38 = .ok (.iload_n 3, 1) := by decide +kernel
theorem d_Trans_joinLine_39 : decode prog_7_method_7_code 39 = .ok (.imul, 1) := by decide +kernel
theorem d_Trans_joinLine_40 : decode prog_7_method_7_code 40 = .ok (.iadd, 1) := by decide +kernel
theorem d_Trans_joinLine_41 : decode prog_7_method_7_code 41 = .ok (.laload, 1) := by decide +kernel
theorem d_Trans_joinLine_42 : decode prog_7_method_7_code 42 = .ok (.lastore, 1) := by decide +kernel
theorem d_Trans_joinLine_43 : decode prog_7_method_7_code 43 = .ok (.iinc 6 1, 3) := by decide +kernel
theorem d_Trans_joinLine_46 : decode prog_7_method_7_code 46 = .ok (.goto (-43), 3) := by decide +kernel
theorem d_Trans_joinLine_49 : decode prog_7_method_7_code 49 = .ok (.getstatic 63, 3) := by decide +kernel
theorem d_Trans_joinLine_52 : decode prog_7_method_7_code 52 = .ok (.iload 5, 2) := by decide +kernel
theorem d_Trans_joinLine_54 : decode prog_7_method_7_code 54 = .ok (.iaload, 1) := by decide +kernel
theorem d_Trans_joinLine_55 : decode prog_7_method_7_code 55 = .ok (.iconst 1, 1) := by decide +kernel
theorem d_Trans_joinLine_56 : decode prog_7_method_7_code 56 = .ok (.isub, 1) := by decide +kernel
theorem d_Trans_joinLine_57 : decode prog_7_method_7_code 57 = .ok (.istore 6, 2) := by decide +kernel
theorem d_Trans_joinLine_59 : decode prog_7_method_7_code 59 = .ok (.iload 6, 2) := by decide +kernel
theorem d_Trans_joinLine_61 : decode prog_7_method_7_code 61 = .ok (.ifCond .lt 25, 3) := by decide +kernel
theorem d_Trans_joinLine_64 : decode prog_7_method_7_code 64 = .ok (.aload_n 0, 1) := by decide +kernel
theorem d_Trans_joinLine_65 : decode prog_7_method_7_code 65 = .ok (.getstatic 66, 3) := by decide +kernel
theorem d_Trans_joinLine_68 : decode prog_7_method_7_code 68 = .ok (.iload 5, 2) := by decide +kernel
theorem d_Trans_joinLine_70 : decode prog_7_method_7_code 70 = .ok (.iaload, 1) := by decide +kernel
theorem d_Trans_joinLine_71 : decode prog_7_method_7_code 71 = .ok (.iload 6, 2) := by decide +kernel
theorem d_Trans_joinLine_73 : decode prog_7_method_7_code 73 = .ok (.iadd, 1) := by decide +kernel
theorem d_Trans_joinLine_74 : decode prog_7_method_7_code 74 = .ok (.iconst (-1), 1) := by decide +kernel
theorem d_Trans_joinLine_75 : decode prog_7_method_7_code 75 = .ok (.iload 4, 2) := by decide +kernel
theorem d_Trans_joinLine_77 : decode prog_7_method_7_code 77 = .ok (.invokevirtual 69, 3) := by decide +kernel
theorem d_Trans_joinLine_80 : decode prog_7_method_7_code 80 = .ok (.iinc 6 (-1), 3) := by decide +kernel
theorem d_Trans_joinLine_83 : decode prog_7_method_7_code 83 = .ok (.goto (-24), 3) := by decide +kernel
theorem d_Trans_joinLine_86 : decode prog_7_method_7_code 86 = .ok (.iconst 0, 1) := by decide +kernel
theorem d_Trans_joinLine_87 : decode prog_7_method_7_code 87 = .ok (.istore 6, 2) := by decide +kernel
theorem d_Trans_joinLine_89 : decode prog_7_method_7_code 89 = .ok (.iload 6, 2) := by decide +kernel
theorem d_Trans_joinLine_91 : decode prog_7_method_7_code 91 = .ok (.iload 4, 2) := by decide +kernel
theorem d_Trans_joinLine_93 : decode prog_7_method_7_code 93 = .ok (.if_icmp .ge 45, 3) := by decide +kernel
theorem d_Trans_joinLine_96 : decode prog_7_method_7_code 96 = .ok (.aload_n 1, 1) := by decide +kernel
theorem d_Trans_joinLine_97 : decode prog_7_method_7_code 97 = .ok (.iload_n 2, 1) := by decide +kernel
theorem d_Trans_joinLine_98 : decode prog_7_method_7_code 98 = .ok (.iconst 2, 1) := by decide +kernel
theorem d_Trans_joinLine_99 : decode prog_7_method_7_code 99 = .ok (.iload 6, 2) := by decide +kernel
theorem d_Trans_joinLine_101 : decode prog_7_method_7_code 101 = .ok (.imul, 1) := by decide +kernel
theorem d_Trans_joinLine_102 : decode prog_7_method_7_code 102 = .ok (.iload_n 3, 1) := by decide +kernel
theorem d_Trans_joinLine_103 : decode prog_7_method_7_code 103 = .ok (.imul, 1) := by decide +kernel
theorem d_Trans_joinLine_104 : decode prog_7_method_7_code 104 = .ok (.iadd, 1) := by decide +kernel
theorem d_Trans_joinLine_105 : decode prog_7_method_7_code 105 = .ok (.aload_n 0, 1) := by decide +kernel
theorem d_Trans_joinLine_106 : decode prog_7_method_7_code 106 = .ok (.getfield 11, 3) := by decide +kernel
theorem d_Trans_joinLine_109 : decode prog_7_method_7_code 109 = .ok (.iload 6, 2) := by decide +kernel
theorem d_Trans_joinLine_111 : decode prog_7_method_7_code 111 = .ok (.laload, 1) := by decide +kernel
theorem d_Trans_joinLine_112 : decode prog_7_method_7_code 112 = .ok (.lastore, 1) := by decide +kernel
theorem d_Trans_joinLine_113 : decode prog_7_method_7_code 113 = .ok (.aload_n 1, 1) := by decide +kernel
theorem d_Trans_joinLine_114 : decode prog_7_method_7_code 114 = .ok (.iload_n 2, 1) := by decide +kernel
theorem d_Trans_joinLine_115 : decode prog_7_method_7_code 115 = .ok (.iconst 2, 1) := by decide +kernel
theorem d_Trans_joinLine_116 : decode prog_7_method_7_code 116 = .ok (.iload 6, 2) := by decide +kernel
theorem d_Trans_joinLine_118 : decode prog_7_method_7_code 118 = .ok (.imul, 1) := by decide +kernel
theorem d_Trans_joinLine_119 : decode prog_7_method_7_code 119 = .ok (.iconst 1, 1) := by decide +kernel
theorem d_Trans_joinLine_120 : decode prog_7_method_7_code 120 = .ok (.iadd, 1) := by decide +kernel
theorem d_Trans_joinLine_121 : decode prog_7_method_7_code 121 = .ok (.iload_n 3, 1) := by decide +kernel
theorem d_Trans_joinLine_122 : decode prog_7_method_7_code 122 = .ok (.imul, 1) := by decide +kernel
theorem d_Trans_joinLine_123 : decode prog_7_method_7_code 123 = .ok (.iadd, 1) := by decide +kernel
theorem d_Trans_joinLine_124 : decode prog_7_method_7_code 124 = .ok (.aload_n 0, 1) := by decide +kernel
theorem d_Trans_joinLine_125 : decode prog_7_method_7_code 125 = .ok (.getfield 15, 3) := by decide +kernel
theorem d_Trans_joinLine_128 : decode prog_7_method_7_code 128 = .ok (.iload 6, 2) := by decide +kernel
theorem d_Trans_joinLine_130 : decode prog_7_method_7_code 130 = .ok (.laload, 1) := by decide +kernel
theorem d_Trans_joinLine_131 : decode prog_7_method_7_code 131 = .ok (.lastore, 1) := by decide +kernel
theorem d_Trans_joinLine_132 : decode prog_7_method_7_code 132 = .ok (.iinc 6 1, 3) := by decide +kernel
theorem d_Trans_joinLine_135 : decode prog_7_method_7_code 135 = .ok (.goto (-46), 3) := by decide +kernel
theorem d_Trans_joinLine_138 : decode prog_7_method_7_code 138 = .ok (.return_, 1) := by decide +kernel
theorem d_Trans_raise_0 : decode prog_7_method_4_code 0 = .ok (.iconst 0, 1) := by decide +kernel
theorem d_Trans_raise_1 : decode prog_7_method_4_code 1 = .ok (.istore 4, 2) := by decide +kernel
theorem d_Trans_raise_3 : decode prog_7_method_4_code 3 = .ok (.iload 4, 2) := by decide +kernel
theorem d_Trans_raise_5 : decode prog_7_method_4_code 5 = .ok (.iload_n 2, 1) := by decide +kernel
theorem d_Trans_raise_6 : decode prog_7_method_4_code 6 = .ok (.if_icmp .ge 38, 3) := by decide +kernel
theorem d_Trans_raise_9 : decode prog_7_method_4_code 9 = .ok (.iconst 0, 1) := by decide +kernel
theorem d_Trans_raise_10 : decode prog_7_method_4_code 10 = .ok (.istore 5, 2) := by decide +kernel
theorem d_Trans_raise_12 : decode prog_7_method_4_code 12 = .ok (.iload 5, 2) := by decide +kernel
theorem d_Trans_raise_14 : decode prog_7_method_4_code 14 = .ok (.iload_n 1, 1) := by decide +kernel
theorem d_Trans_raise_15 : decode prog_7_method_4_code 15 = .ok (.if_icmp .ge 23, 3) := by decide +kernel
theorem d_Trans_raise_18 : decode prog_7_method_4_code 18 = .ok (.aload_n 0, 1) := by decide +kernel
theorem d_Trans_raise_19 : decode prog_7_method_4_code 19 = .ok (.iload 4, 2) := by decide +kernel
theorem d_Trans_raise_21 : decode prog_7_method_4_code 21 = .ok (.bipush 16, 2) := by decide +kernel
theorem d_Trans_raise_23 : decode prog_7_method_4_code 23 = .ok (.imul, 1) := by decide +kernel
theorem d_Trans_raise_24 : decode prog_7_method_4_code 24 = .ok (.iload 5, 2) := by decide +kernel
theorem d_Trans_raise_26 : decode prog_7_method_4_code 26 = .ok (.iadd, 1) := by decide +kernel
theorem d_Trans_raise_27 : decode prog_7_method_4_code 27 = .ok (.dup2, 1) := by decide +kernel
theorem d_Trans_raise_28 : decode prog_7_method_4_code 28 = .ok (.laload, 1) := by decide +kernel
theorem d_Trans_raise_29 : decode prog_7_method_4_code 29 = .ok (.iload_n 3, 1) := by decide +kernel
theorem d_Trans_raise_30 : decode prog_7_method_4_code 30 = .ok (.lshl, 1) := by decide +kernel
theorem d_Trans_raise_31 : decode prog_7_method_4_code 31 = .ok (.lastore, 1) := by decide +kernel
theorem d_Trans_raise_32 : decode prog_7_method_4_code 32 = .ok (.iinc 5 1, 3) := by decide +kernel
theorem d_Trans_raise_35 : decode prog_7_method_4_code 35 = .ok (.goto (-23), 3) := by decide +kernel
theorem d_Trans_raise_38 : decode prog_7_method_4_code 38 = .ok (.iinc 4 1, 3) := by decide +kernel
theorem d_Trans_raise_41 : decode prog_7_method_4_code 41 = .ok (.goto (-38), 3) := by decide +kernel
theorem d_Trans_raise_44 : decode prog_7_method_4_code 44 = .ok (.return_, 1) := by decide +kernel
theorem d_Trans_lower_0 : decode prog_7_method_5_code 0 = .ok (.iconst 0, 1) := by decide +kernel
theorem d_Trans_lower_1 : decode prog_7_method_5_code 1 = .ok (.istore 4, 2) := by decide +kernel
theorem d_Trans_lower_3 : decode prog_7_method_5_code 3 = .ok (.iload 4, 2) := by decide +kernel
theorem d_Trans_lower_5 : decode prog_7_method_5_code 5 = .ok (.iload_n 2, 1) := by decide +kernel
theorem d_Trans_lower_6 : decode prog_7_method_5_code 6 = .ok (.if_icmp .ge 49, 3) := by decide +kernel
theorem d_Trans_lower_9 : decode prog_7_method_5_code 9 = .ok (.iconst 0, 1) := by decide +kernel
theorem d_Trans_lower_10 : decode prog_7_method_5_code 10 = .ok (.istore 5, 2) := by decide +kernel
theorem d_Trans_lower_12 : decode prog_7_method_5_code 12 = .ok (.iload 5, 2) := by decide +kernel
theorem d_Trans_lower_14 : decode prog_7_method_5_code 14 = .ok (.iload_n 1, 1) := by decide +kernel
theorem d_Trans_lower_15 : decode prog_7_method_5_code 15 = .ok (.if_icmp .ge 34, 3) := by decide +kernel
theorem d_Trans_lower_18 : decode prog_7_method_5_code 18 = .ok (.aload_n 0, 1) := by decide +kernel
theorem d_Trans_lower_19 : decode prog_7_method_5_code 19 = .ok (.iload 4, 2) := by decide +kernel
theorem d_Trans_lower_21 : decode prog_7_method_5_code 21 = .ok (.bipush 16, 2) := by decide +kernel
theorem d_Trans_lower_23 : decode prog_7_method_5_code 23 = .ok (.imul, 1) := by decide +kernel
theorem d_Trans_lower_24 : decode prog_7_method_5_code 24 = .ok (.iload 5, 2) := by decide +kernel
theorem d_Trans_lower_26 : decode prog_7_method_5_code 26 = .ok (.iadd, 1) := by decide +kernel
theorem d_Trans_lower_27 : decode prog_7_method_5_code 27 = .ok (.aload_n 0, 1) := by decide +kernel
theorem d_Trans_lower_28 : decode prog_7_method_5_code 28 = .ok (.iload 4, 2) := by decide +kernel
theorem d_Trans_lower_30 : decode prog_7_method_5_code 30 = .ok (.bipush 16, 2) := by decide +kernel
theorem d_Trans_lower_32 : decode prog_7_method_5_code 32 = .ok (.imul, 1) := by decide +kernel
theorem d_Trans_lower_33 : decode prog_7_method_5_code 33 = .ok (.iload 5, 2) := by decide +kernel
theorem d_Trans_lower_35 : decode prog_7_method_5_code 35 = .ok (.iadd, 1) := by decide +kernel
theorem d_Trans_lower_36 : decode prog_7_method_5_code 36 = .ok (.laload, 1) := by decide +kernel
theorem d_Trans_lower_37 : decode prog_7_method_5_code 37 = .ok (.iload_n 3, 1) := by decide +kernel
theorem d_Trans_lower_38 : decode prog_7_method_5_code 38 = .ok (.i2l, 1) := by decide +kernel
theorem d_Trans_lower_39 : decode prog_7_method_5_code 39 = .ok (.ladd, 1) := by decide +kernel
theorem d_Trans_lower_40 : decode prog_7_method_5_code 40 = .ok (.iload_n 3, 1) := by decide +kernel
theorem d_Trans_lower_41 : decode prog_7_method_5_code 41 = .ok (.lshr, 1) := by decide +kernel
theorem d_Trans_lower_42 : decode prog_7_method_5_code 42 = .ok (.lastore, 1) := by decide +kernel
theorem d_Trans_lower_43 : decode prog_7_method_5_code 43 = .ok (.iinc 5 1, 3) := by decide +kernel
theorem d_Trans_lower_46 : decode prog_7_method_5_code 46 = .ok (.goto (-34), 3) := by decide +kernel
theorem d_Trans_lower_49 : decode prog_7_method_5_code 49 = .ok (.iinc 4 1, 3) := by decide +kernel
theorem d_Trans_lower_52 : decode prog_7_method_5_code 52 = .ok (.goto (-49), 3) := by decide +kernel
theorem d_Trans_lower_55 : decode prog_7_method_5_code 55 = .ok (.return_, 1) := by decide +kernel
abbrev w_Trans_weigh : List Cond := Cond.code y_Trans_weigh prog_7_method_9_code 9 (some .long) :: wl
abbrev r_Trans_weigh : Room := { frames := 1, cells := 0, slots := 0, locals := 24 }
set_option maxHeartbeats 4000000 in
set_option maxRecDepth 100000 in
theorem c_Trans_weigh (l : Launch) (G : k_G) (sz : Nat) (rs : Nat) (fm wt n0 : Int) (src : Int → Int64) (hfm : -8 ≤ fm ∧ fm ≤ 8) (hwt : 0 ≤ wt ∧ wt ≤ 160) (hn0 : 1 ≤ n0 ∧ n0 ≤ 8) : Met l y_Trans_weigh w_Trans_weigh r_Trans_weigh (k_P G [.ref rs, .int (iv (fm)), .int (iv (wt)), .int (iv (n0))] [(rs, al (gL G) 8 (src))] sz) (vp_Sl (fun r : Int64 => r = wgA src fm wt n0)) 0 0 (fun _ => False) := by
  refine k_met (fun _ => vp_Sl (fun r : Int64 => r = wgA src fm wt n0)) (fun _ _ => False) (by decide) rfl (Nat.le_of_ble_eq_true rfl) (fun p e s m args below meth c ls A Q S hr hlk hnm hl hsz hP hK hD hS hA hT hQ => ?_)
  obtain ⟨hx, hb, hml, hown, hts⟩ := id S
  have hw : ∀ w ∈ wl, w.before args s = true := fun w h => hts w (List.mem_cons_of_mem _ h)
  obtain ⟨⟨tG, hztG, httG⟩, ⟨tF, hztF, httF⟩, ⟨tC, hztC, httC⟩, ⟨tS, hztS, httS⟩⟩ := hT.1
  have hl : lv_has ls 9 [(0, .ref rs), (1, .int (iv (fm))), (2, .int (iv (wt))), (3, .int (iv (n0)))] := hl
  refine lv_lconst (v := 0) hx hb d_Trans_weigh_0 rfl ?_
  refine lv_lstore hx hb d_Trans_weigh_1 hl (by decide) rfl (fun ls hl => ?_)
  have hl : lv_has ls 9 [(4, .long ((0 : Int64))), (0, .ref rs), (1, .int (iv (fm))), (2, .int (iv (wt))), (3, .int (iv (n0)))] := hl
  refine lv_iconst (v := iv (0)) hx hb d_Trans_weigh_3 rfl ?_
  refine lv_istore hx hb d_Trans_weigh_4 hl (by decide) rfl (fun ls hl => ?_)
  have hl : lv_has ls 9 [(6, .int (iv (0))), (4, .long ((0 : Int64))), (0, .ref rs), (1, .int (iv (fm))), (2, .int (iv (wt))), (3, .int (iv (n0)))] := hl
  refine lo_up (P := fun t => ∀ (ls : Array Slot) (a1 : Int64), lv_has ls 9 [(0, .ref rs), (1, .int (iv (fm))), (2, .int (iv (wt))), (3, .int (iv (n0))), (4, .long (a1)), (6, .int (iv (t)))] → (a1 = it (wgf src fm wt n0) 0 t 0) → W p l e r_Trans_weigh s m args below meth c s.heap [] 0 0 Q (F0 m 6 ls [])) (a := 0) (b := 8) (fun t hit hjt iht => ?_) _ ((0 : Int64)) (lv_sub hl [2, 3, 4, 5, 1, 0] rfl) (it_self _ _ _).symm
  intro ls a1 hl hs
  refine lv_iload hx hb d_Trans_weigh_6 (lv_at hl 5 rfl) ?_
  refine lv_bipush (v := iv (8)) hx hb d_Trans_weigh_8 rfl ?_
  refine k_icmp_ge (tgt := 61) hx hb d_Trans_weigh_10 (by decide) (by omega) (by omega) (fun hc10 => ?_) (fun hc10 => ?_)
  · refine lv_lload hx hb d_Trans_weigh_61 (lv_at hl 4 rfl) ?_
    exact k_lretR hx hb hr hlk hQ (by rw [hs]; exact it_x _ _ hc10 hjt) d_Trans_weigh_63
  · refine va_gets hx hb hztS hS hown (hw _ m2_141) (fun _ h => h) d_Trans_weigh_13 ?_
    refine lv_iload_n hx hb d_Trans_weigh_16 rfl (lv_at hl 2 rfl) ?_
    refine lv_iload hx hb d_Trans_weigh_17 (lv_at hl 5 rfl) ?_
    refine k_iadd hx hb d_Trans_weigh_19 ?_
    refine k_tab (f := stepsT) hx hb httS hS (by omega) d_Trans_weigh_20 ?_
    have hsr := stepsT_r (wt + t)
    refine k_i2l hx hb d_Trans_weigh_21 (by omega) ?_
    refine lv_lstore hx hb d_Trans_weigh_22 hl (by decide) rfl (fun ls hl => ?_)
    have hl : lv_has ls 9 [(7, .long (lw (stepsT (wt + t)))), (0, .ref rs), (1, .int (iv (fm))), (2, .int (iv (wt))), (3, .int (iv (n0))), (4, .long (a1)), (6, .int (iv (t)))] := hl
    refine lv_lload hx hb d_Trans_weigh_24 (lv_at hl 0 rfl) ?_
    refine lv_lconst (v := 0) hx hb d_Trans_weigh_26 rfl ?_
    refine k_leq (tgt := 55) hx hb d_Trans_weigh_27 d_Trans_weigh_28 (by decide) (fun hc27 => ?_) (fun hc27 => ?_)
    · refine lv_iinc (k := 6) (v := iv (t + 1)) hx hb d_Trans_weigh_55 hl rfl (iv_add _ _) (by decide) rfl (fun ls hl => ?_)
      have hl : lv_has ls 9 [(6, .int (iv (t + 1))), (7, .long (lw (stepsT (wt + t)))), (0, .ref rs), (1, .int (iv (fm))), (2, .int (iv (wt))), (3, .int (iv (n0))), (4, .long (a1))] := hl
      refine lv_goto (tgt := 6) hx hb d_Trans_weigh_58 (by decide) ?_
      exact iht (by omega) _ a1 (lv_sub hl [2, 3, 4, 5, 6, 0] rfl) (by rw [it_s _ _ hit, ← hs]; unfold wgf; first | rw [if_pos hc27] | rw [if_neg hc27])
    · refine lv_lload hx hb d_Trans_weigh_31 (lv_at hl 5 rfl) ?_
      refine lv_lload hx hb d_Trans_weigh_33 (lv_at hl 0 rfl) ?_
      refine lv_aload_n hx hb d_Trans_weigh_35 rfl (lv_at hl 1 rfl) ?_
      refine lv_iconst (v := iv (0)) hx hb d_Trans_weigh_36 rfl ?_
      refine lv_iload_n hx hb d_Trans_weigh_37 rfl (lv_at hl 4 rfl) ?_
      refine lv_iconst (v := iv (1)) hx hb d_Trans_weigh_38 rfl ?_
      refine k_isub hx hb d_Trans_weigh_39 ?_
      refine lv_iload_n hx hb d_Trans_weigh_40 rfl (lv_at hl 2 rfl) ?_
      refine lv_iload hx hb d_Trans_weigh_41 (lv_at hl 6 rfl) ?_
      refine k_iadd hx hb d_Trans_weigh_43 ?_
      refine k_mmin hx hb (by rw [hml]; exact hl.1.symm) hown (hw _ m2_123) (hw _ m1_212) (hw _ m1_8) (hw _ m1_213) (by decide) (Nat.le_of_ble_eq_true rfl) (by decide) (by decide) (by omega) (by omega) d_Trans_weigh_44 ?_
      refine k_mmax hx hb (by rw [hml]; exact hl.1.symm) hown (hw _ m2_146) (hw _ m1_215) (hw _ m1_8) (hw _ m1_216) (by decide) (Nat.le_of_ble_eq_true rfl) (by decide) (by decide) (by omega) (by omega) d_Trans_weigh_47 ?_
      refine k_lal hx hb hK hP 0 1 rfl rfl (by decide) (by omega) d_Trans_weigh_50 ?_
      refine lv_lmul hx hb d_Trans_weigh_51 ?_
      refine lv_ladd hx hb d_Trans_weigh_52 ?_
      refine lv_lstore hx hb d_Trans_weigh_53 hl (by decide) rfl (fun ls hl => ?_)
      have hl : lv_has ls 9 [(4, .long (a1 + ((lw (stepsT (wt + t))) * (src (max 0 (min (n0 - 1) (fm + t))))))), (7, .long (lw (stepsT (wt + t)))), (0, .ref rs), (1, .int (iv (fm))), (2, .int (iv (wt))), (3, .int (iv (n0))), (6, .int (iv (t)))] := hl
      refine lv_iinc (k := 6) (v := iv (t + 1)) hx hb d_Trans_weigh_55 hl rfl (iv_add _ _) (by decide) rfl (fun ls hl => ?_)
      have hl : lv_has ls 9 [(6, .int (iv (t + 1))), (4, .long (a1 + ((lw (stepsT (wt + t))) * (src (max 0 (min (n0 - 1) (fm + t))))))), (7, .long (lw (stepsT (wt + t)))), (0, .ref rs), (1, .int (iv (fm))), (2, .int (iv (wt))), (3, .int (iv (n0)))] := hl
      refine lv_goto (tgt := 6) hx hb d_Trans_weigh_58 (by decide) ?_
      exact iht (by omega) _ (a1 + ((lw (stepsT (wt + t))) * (src (max 0 (min (n0 - 1) (fm + t)))))) (lv_sub hl [3, 4, 5, 6, 1, 0] rfl) (by rw [it_s _ _ hit, ← hs]; unfold wgf; first | rw [if_pos hc27] | rw [if_neg hc27])
abbrev w_Trans_lift : List Cond := Cond.code y_Trans_lift prog_7_method_8_code 13 none :: wl
abbrev r_Trans_lift : Room := { frames := 2, cells := 0, slots := 0, locals := 52 }
set_option maxHeartbeats 4000000 in
set_option maxRecDepth 100000 in
theorem c_Trans_lift (l : Launch) (G : k_G) (sz : Nat) (rT rev rod : Nat) (st0 dr n0 : Int) (ge go : Int → Int64) (hst : 0 ≤ st0 ∧ st0 ≤ 13) (hdr : dr = 1 ∨ dr = -1) (hn0 : 0 ≤ n0 ∧ n0 ≤ 8) : Met l y_Trans_lift w_Trans_lift r_Trans_lift (k_P G [.ref rT, .int (iv (st0)), .int (iv (dr)), .int (iv (n0))] [(rT, .inr (5, [.ref rev, .ref rod])), (rev, al (gL G) 8 (ge)), (rod, al (gL G) 8 (go))] sz) (qv G (fun u : (Int → Int64) × (Int → Int64) => u = lfK st0 dr n0 n0 (ge, go)) (fun u : (Int → Int64) × (Int → Int64) => [(rT, .inr (5, [.ref rev, .ref rod])), (rev, al (gL G) 8 (u.1)), (rod, al (gL G) 8 (u.2))]) (va_A [(rT, .inr (5, [.ref rev, .ref rod])), (rev, al (gL G) 8 (ge)), (rod, al (gL G) 8 (go))] sz)) 0 0 (va_A [(rT, .inr (5, [.ref rev, .ref rod])), (rev, al (gL G) 8 (ge)), (rod, al (gL G) 8 (go))] sz) := by
  refine k_met (fun A => qv G (fun u : (Int → Int64) × (Int → Int64) => u = lfK st0 dr n0 n0 (ge, go)) (fun u : (Int → Int64) × (Int → Int64) => [(rT, .inr (5, [.ref rev, .ref rod])), (rev, al (gL G) 8 (u.1)), (rod, al (gL G) 8 (u.2))]) A) (fun A => A) (by decide) rfl (Nat.le_of_ble_eq_true rfl) (fun p e s m args below meth c ls A Q S hr hlk hnm hl hsz hP hK hD hS hA hT hQ => ?_)
  obtain ⟨hx, hb, hml, hown, hts⟩ := id S
  have hw : ∀ w ∈ wl, w.before args s = true := fun w h => hts w (List.mem_cons_of_mem _ h)
  obtain ⟨⟨tG, hztG, httG⟩, ⟨tF, hztF, httF⟩, ⟨tC, hztC, httC⟩, ⟨tS, hztS, httS⟩⟩ := hT.1
  have hl : lv_has ls 13 [(0, .ref rT), (1, .int (iv (st0))), (2, .int (iv (dr))), (3, .int (iv (n0)))] := hl
  have k0 := stepsT_r (st0 * 12)
  have k1 := stepsT_r (st0 * 12 + 1)
  have k2 := stepsT_r (st0 * 12 + 2)
  have k3 := stepsT_r (st0 * 12 + 3)
  have k4 : -10000 ≤ stepsT (st0 * 12 + 1) * dr ∧ stepsT (st0 * 12 + 1) * dr ≤ 10000 := by rcases hdr with rfl | rfl <;> omega
  refine lv_iload_n hx hb d_Trans_lift_0 rfl (lv_at hl 1 rfl) ?_
  refine lv_bipush (v := iv (12)) hx hb d_Trans_lift_1 rfl ?_
  refine k_imul hx hb d_Trans_lift_3 ?_
  refine lv_istore hx hb d_Trans_lift_4 hl (by decide) rfl (fun ls hl => ?_)
  have hl : lv_has ls 13 [(4, .int (iv (st0 * 12))), (0, .ref rT), (1, .int (iv (st0))), (2, .int (iv (dr))), (3, .int (iv (n0)))] := hl
  refine va_gets hx hb hztS hS hown (hw _ m2_141) (fun _ h => h) d_Trans_lift_6 ?_
  refine lv_iload hx hb d_Trans_lift_9 (lv_at hl 0 rfl) ?_
  refine k_tab (f := stepsT) hx hb httS hS (by omega) d_Trans_lift_11 ?_
  refine lv_iconst (v := iv (1)) hx hb d_Trans_lift_12 rfl ?_
  refine k_icmp_ne (tgt := 20) hx hb d_Trans_lift_13 (by decide) (by omega) (by omega) (fun hc13 => ?_) (fun hc13 => ?_)
  · refine lv_iconst (v := iv (0)) hx hb d_Trans_lift_20 rfl ?_
    refine lv_istore hx hb d_Trans_lift_21 hl (by decide) rfl (fun ls hl => ?_)
    have hl : lv_has ls 13 [(5, .int (iv (0))), (4, .int (iv (st0 * 12))), (0, .ref rT), (1, .int (iv (st0))), (2, .int (iv (dr))), (3, .int (iv (n0)))] := hl
    refine lv_iload hx hb d_Trans_lift_23 (lv_at hl 0 rfl) ?_
    refine k_if_eq (tgt := 35) hx hb d_Trans_lift_25 (by decide) (by omega) (fun hc25 => ?_) (fun hc25 => absurd hc25 (by omega))
    refine lv_aload_n hx hb d_Trans_lift_35 rfl (lv_at hl 2 rfl) ?_
    refine va_get (D := gD G) (ci := 5) (v := .ref rev) (C := R_Trans) (T := F_Trans) (N := 2) hx hb hw in_Trans hown hK hP 0 rfl rfl 0 (by decide) (hw _ m1_122) (fun _ h => h) rfl d_Trans_lift_36 ?_
    refine lv_astore hx hb d_Trans_lift_39 hl (by decide) rfl (fun ls hl => ?_)
    have hl : lv_has ls 13 [(6, .ref rev), (5, .int (iv (0))), (4, .int (iv (st0 * 12))), (0, .ref rT), (1, .int (iv (st0))), (2, .int (iv (dr))), (3, .int (iv (n0)))] := hl
    refine lv_iload hx hb d_Trans_lift_41 (lv_at hl 1 rfl) ?_
    refine k_if_eq (tgt := 53) hx hb d_Trans_lift_43 (by decide) (by omega) (fun hc43 => ?_) (fun hc43 => absurd hc43 (by omega))
    refine lv_aload_n hx hb d_Trans_lift_53 rfl (lv_at hl 3 rfl) ?_
    refine va_get (D := gD G) (ci := 5) (v := .ref rod) (C := R_Trans) (T := F_Trans) (N := 2) hx hb hw in_Trans hown hK hP 0 rfl rfl 1 (by decide) (hw _ m1_123) (fun _ h => h) rfl d_Trans_lift_54 ?_
    refine lv_astore hx hb d_Trans_lift_57 hl (by decide) rfl (fun ls hl => ?_)
    have hl : lv_has ls 13 [(7, .ref rod), (6, .ref rev), (5, .int (iv (0))), (4, .int (iv (st0 * 12))), (0, .ref rT), (1, .int (iv (st0))), (2, .int (iv (dr))), (3, .int (iv (n0)))] := hl
    refine va_gets hx hb hztS hS hown (hw _ m2_141) (fun _ h => h) d_Trans_lift_59 ?_
    refine lv_iload hx hb d_Trans_lift_62 (lv_at hl 3 rfl) ?_
    refine lv_iconst (v := iv (1)) hx hb d_Trans_lift_64 rfl ?_
    refine k_iadd hx hb d_Trans_lift_65 ?_
    refine k_tab (f := stepsT) hx hb httS hS (by omega) d_Trans_lift_66 ?_
    refine lv_iload_n hx hb d_Trans_lift_67 rfl (lv_at hl 6 rfl) ?_
    refine k_imul hx hb d_Trans_lift_68 ?_
    refine lv_istore hx hb d_Trans_lift_69 hl (by decide) rfl (fun ls hl => ?_)
    have hl : lv_has ls 13 [(8, .int (iv ((stepsT ((st0 * 12) + 1)) * dr))), (7, .ref rod), (6, .ref rev), (5, .int (iv (0))), (4, .int (iv (st0 * 12))), (0, .ref rT), (1, .int (iv (st0))), (2, .int (iv (dr))), (3, .int (iv (n0)))] := hl
    refine lv_iload hx hb d_Trans_lift_71 (lv_at hl 3 rfl) ?_
    refine k_if_eq (tgt := 80) hx hb d_Trans_lift_73 (by decide) (by omega) (fun hc73 => ?_) (fun hc73 => absurd hc73 (by omega))
    refine lv_iconst (v := iv (4)) hx hb d_Trans_lift_80 rfl ?_
    refine lv_istore hx hb d_Trans_lift_81 hl (by decide) rfl (fun ls hl => ?_)
    have hl : lv_has ls 13 [(9, .int (iv (4))), (8, .int (iv ((stepsT ((st0 * 12) + 1)) * dr))), (7, .ref rod), (6, .ref rev), (5, .int (iv (0))), (4, .int (iv (st0 * 12))), (0, .ref rT), (1, .int (iv (st0))), (2, .int (iv (dr))), (3, .int (iv (n0)))] := hl
    refine lv_iconst (v := iv (0)) hx hb d_Trans_lift_83 rfl ?_
    refine lv_istore hx hb d_Trans_lift_84 hl (by decide) rfl (fun ls hl => ?_)
    have hl : lv_has ls 13 [(10, .int (iv (0))), (9, .int (iv (4))), (8, .int (iv ((stepsT ((st0 * 12) + 1)) * dr))), (7, .ref rod), (6, .ref rev), (5, .int (iv (0))), (4, .int (iv (st0 * 12))), (0, .ref rT), (1, .int (iv (st0))), (2, .int (iv (dr))), (3, .int (iv (n0)))] := hl
    refine lo_up (P := fun k => ∀ (ls : Array Slot) (H : Heap) (locs : List Loc) (ge1 : Int → Int64) (go1 : Int → Int64), lv_has ls 13 [(0, .ref rT), (1, .int (iv (st0))), (2, .int (iv (dr))), (3, .int (iv (n0))), (4, .int (iv (st0 * 12))), (5, .int (iv (0))), (6, .ref rev), (7, .ref rod), (8, .int (iv ((stepsT ((st0 * 12) + 1)) * dr))), (9, .int (iv (4))), (10, .int (iv (k)))] → va_P (gD G) classes [(rT, .inr (5, [.ref rev, .ref rod])), (rev, al (gL G) 8 (ge1)), (rod, al (gL G) 8 (go1))] H → va_D A [(rT, .inr (5, [.ref rev, .ref rod])), (rev, al (gL G) 8 (ge1)), (rod, al (gL G) 8 (go1))] → va_S A s.heap H locs → ((ge1, go1) = lfK st0 dr n0 k (ge, go)) → W p l e r_Trans_lift s m args below meth c H locs 0 0 Q (F0 m 86 ls [])) (a := 0) (b := n0) (fun k hik hjk ihk => ?_) _ _ _ ge go (lv_sub hl [7, 8, 9, 10, 6, 5, 4, 3, 2, 1, 0] rfl) hP hD hS (lfK_0 _ _ _ _).symm
    intro ls H locs ge1 go1 hl hP hD hS hs
    refine lv_iload hx hb d_Trans_lift_86 (lv_at hl 10 rfl) ?_
    refine lv_iload_n hx hb d_Trans_lift_88 rfl (lv_at hl 3 rfl) ?_
    refine k_icmp_ge (tgt := 148) hx hb d_Trans_lift_89 (by decide) (by omega) (by omega) (fun hc89 => ?_) (fun hc89 => ?_)
    · exact k_vret hx hb hr hlk hQ ((ge1, go1)) (by rw [hs]; exact lfK_x hc89 hjk) hP hD hS d_Trans_lift_148
    · refine va_gets hx hb hztS hS hown (hw _ m2_141) (fun _ h => h) d_Trans_lift_92 ?_
      refine lv_iload hx hb d_Trans_lift_95 (lv_at hl 4 rfl) ?_
      refine lv_iconst (v := iv (2)) hx hb d_Trans_lift_97 rfl ?_
      refine k_iadd hx hb d_Trans_lift_98 ?_
      refine k_tab (f := stepsT) hx hb httS hS (by omega) d_Trans_lift_99 ?_
      refine k_i2l hx hb d_Trans_lift_100 (by omega) ?_
      refine lv_aload hx hb d_Trans_lift_101 (lv_at hl 7 rfl) ?_
      refine lv_iload hx hb d_Trans_lift_103 (lv_at hl 10 rfl) ?_
      refine lv_iload hx hb d_Trans_lift_105 (lv_at hl 9 rfl) ?_
      refine k_isub hx hb d_Trans_lift_107 ?_
      refine lv_iload hx hb d_Trans_lift_108 (lv_at hl 4 rfl) ?_
      refine lv_iconst (v := iv (4)) hx hb d_Trans_lift_110 rfl ?_
      refine k_iadd hx hb d_Trans_lift_111 ?_
      refine lv_iload_n hx hb d_Trans_lift_112 rfl (lv_at hl 3 rfl) ?_
      refine k_clR (k_rs S (c_Trans_weigh l G _ rod (k - 4) ((st0 * 12) + 4) n0 go1 (by omega) (by omega) (by omega)) 4 m2_145 m2_143 m2_144 m1_4 (by decide +kernel) (by decide) rfl rfl (k_preS hK hP hD hS hA hT [2] (by decide) rfl) rfl hl.1 rfl (Nat.le_of_ble_eq_true rfl) d_Trans_lift_113 ⟨Nat.le_of_ble_eq_true rfl, Nat.le_of_ble_eq_true rfl⟩) (fun r113 h113 => ?_)
      subst h113
      refine lv_ladd hx hb d_Trans_lift_116 ?_
      refine lv_lstore hx hb d_Trans_lift_117 hl (by decide) rfl (fun ls hl => ?_)
      have hl : lv_has ls 13 [(11, .long ((lw (stepsT ((st0 * 12) + 2))) + (wgA go1 (k - 4) ((st0 * 12) + 4) n0))), (0, .ref rT), (1, .int (iv (st0))), (2, .int (iv (dr))), (3, .int (iv (n0))), (4, .int (iv (st0 * 12))), (5, .int (iv (0))), (6, .ref rev), (7, .ref rod), (8, .int (iv ((stepsT ((st0 * 12) + 1)) * dr))), (9, .int (iv (4))), (10, .int (iv (k)))] := hl
      refine lv_aload hx hb d_Trans_lift_119 (lv_at hl 7 rfl) ?_
      refine lv_iload hx hb d_Trans_lift_121 (lv_at hl 11 rfl) ?_
      refine lv_dup2_11 hx hb d_Trans_lift_123 rfl rfl ?_
      refine k_lal hx hb hK hP 1 1 rfl rfl (by decide) (by omega) d_Trans_lift_124 ?_
      refine lv_iload hx hb d_Trans_lift_125 (lv_at hl 9 rfl) ?_
      refine k_i2l hx hb d_Trans_lift_127 (by omega) ?_
      refine lv_lload hx hb d_Trans_lift_128 (lv_at hl 0 rfl) ?_
      refine va_gets hx hb hztS hS hown (hw _ m2_141) (fun _ h => h) d_Trans_lift_130 ?_
      refine lv_iload hx hb d_Trans_lift_133 (lv_at hl 5 rfl) ?_
      refine lv_iconst (v := iv (3)) hx hb d_Trans_lift_135 rfl ?_
      refine k_iadd hx hb d_Trans_lift_136 ?_
      refine k_tab (f := stepsT) hx hb httS hS (by omega) d_Trans_lift_137 ?_
      refine k_lshr hx hb d_Trans_lift_138 ?_
      refine lv_lmul hx hb d_Trans_lift_139 ?_
      refine lv_ladd hx hb d_Trans_lift_140 ?_
      refine k_las hx hb hK hP hD hS 1 1 rfl rfl (by decide) (by omega) d_Trans_lift_141 (fun H locs hP hD hS => ?_)
      have hP : va_P (gD G) classes [(rT, .inr (5, [.ref rev, .ref rod])), (rev, al (gL G) 8 (up ge1 k ((ge1 k) + ((lw ((stepsT ((st0 * 12) + 1)) * dr)) * (shR ((lw (stepsT ((st0 * 12) + 2))) + (wgA go1 (k - 4) ((st0 * 12) + 4) n0)) (stepsT ((st0 * 12) + 3))))))), (rod, al (gL G) 8 (go1))] H := hP
      have hD : va_D A [(rT, .inr (5, [.ref rev, .ref rod])), (rev, al (gL G) 8 (up ge1 k ((ge1 k) + ((lw ((stepsT ((st0 * 12) + 1)) * dr)) * (shR ((lw (stepsT ((st0 * 12) + 2))) + (wgA go1 (k - 4) ((st0 * 12) + 4) n0)) (stepsT ((st0 * 12) + 3))))))), (rod, al (gL G) 8 (go1))] := hD
      refine lv_iinc (k := 11) (v := iv (k + 1)) hx hb d_Trans_lift_142 hl rfl (iv_add _ _) (by decide) rfl (fun ls hl => ?_)
      have hl : lv_has ls 13 [(10, .int (iv (k + 1))), (11, .long ((lw (stepsT ((st0 * 12) + 2))) + (wgA go1 (k - 4) ((st0 * 12) + 4) n0))), (0, .ref rT), (1, .int (iv (st0))), (2, .int (iv (dr))), (3, .int (iv (n0))), (4, .int (iv (st0 * 12))), (5, .int (iv (0))), (6, .ref rev), (7, .ref rod), (8, .int (iv ((stepsT ((st0 * 12) + 1)) * dr))), (9, .int (iv (4)))] := hl
      refine lv_goto (tgt := 86) hx hb d_Trans_lift_145 (by decide) ?_
      exact ihk (by omega) _ _ _ (up ge1 k ((ge1 k) + ((lw ((stepsT ((st0 * 12) + 1)) * dr)) * (shR ((lw (stepsT ((st0 * 12) + 2))) + (wgA go1 (k - 4) ((st0 * 12) + 4) n0)) (stepsT ((st0 * 12) + 3)))))) go1 (lv_sub hl [2, 3, 4, 5, 6, 7, 8, 9, 10, 11, 0] rfl) hP hD hS (by first | exact lfK_t hc13 hik hs | exact lfK_f hc13 hik hs)
  · refine lv_iconst (v := iv (1)) hx hb d_Trans_lift_16 rfl ?_
    refine lv_goto (tgt := 21) hx hb d_Trans_lift_17 (by decide) ?_
    refine lv_istore hx hb d_Trans_lift_21 hl (by decide) rfl (fun ls hl => ?_)
    have hl : lv_has ls 13 [(5, .int (iv (1))), (4, .int (iv (st0 * 12))), (0, .ref rT), (1, .int (iv (st0))), (2, .int (iv (dr))), (3, .int (iv (n0)))] := hl
    refine lv_iload hx hb d_Trans_lift_23 (lv_at hl 0 rfl) ?_
    refine k_if_eq (tgt := 35) hx hb d_Trans_lift_25 (by decide) (by omega) (fun hc25 => absurd hc25 (by omega)) (fun hc25 => ?_)
    refine lv_aload_n hx hb d_Trans_lift_28 rfl (lv_at hl 2 rfl) ?_
    refine va_get (D := gD G) (ci := 5) (v := .ref rod) (C := R_Trans) (T := F_Trans) (N := 2) hx hb hw in_Trans hown hK hP 0 rfl rfl 1 (by decide) (hw _ m1_123) (fun _ h => h) rfl d_Trans_lift_29 ?_
    refine lv_goto (tgt := 39) hx hb d_Trans_lift_32 (by decide) ?_
    refine lv_astore hx hb d_Trans_lift_39 hl (by decide) rfl (fun ls hl => ?_)
    have hl : lv_has ls 13 [(6, .ref rod), (5, .int (iv (1))), (4, .int (iv (st0 * 12))), (0, .ref rT), (1, .int (iv (st0))), (2, .int (iv (dr))), (3, .int (iv (n0)))] := hl
    refine lv_iload hx hb d_Trans_lift_41 (lv_at hl 1 rfl) ?_
    refine k_if_eq (tgt := 53) hx hb d_Trans_lift_43 (by decide) (by omega) (fun hc43 => absurd hc43 (by omega)) (fun hc43 => ?_)
    refine lv_aload_n hx hb d_Trans_lift_46 rfl (lv_at hl 3 rfl) ?_
    refine va_get (D := gD G) (ci := 5) (v := .ref rev) (C := R_Trans) (T := F_Trans) (N := 2) hx hb hw in_Trans hown hK hP 0 rfl rfl 0 (by decide) (hw _ m1_122) (fun _ h => h) rfl d_Trans_lift_47 ?_
    refine lv_goto (tgt := 57) hx hb d_Trans_lift_50 (by decide) ?_
    refine lv_astore hx hb d_Trans_lift_57 hl (by decide) rfl (fun ls hl => ?_)
    have hl : lv_has ls 13 [(7, .ref rev), (6, .ref rod), (5, .int (iv (1))), (4, .int (iv (st0 * 12))), (0, .ref rT), (1, .int (iv (st0))), (2, .int (iv (dr))), (3, .int (iv (n0)))] := hl
    refine va_gets hx hb hztS hS hown (hw _ m2_141) (fun _ h => h) d_Trans_lift_59 ?_
    refine lv_iload hx hb d_Trans_lift_62 (lv_at hl 3 rfl) ?_
    refine lv_iconst (v := iv (1)) hx hb d_Trans_lift_64 rfl ?_
    refine k_iadd hx hb d_Trans_lift_65 ?_
    refine k_tab (f := stepsT) hx hb httS hS (by omega) d_Trans_lift_66 ?_
    refine lv_iload_n hx hb d_Trans_lift_67 rfl (lv_at hl 6 rfl) ?_
    refine k_imul hx hb d_Trans_lift_68 ?_
    refine lv_istore hx hb d_Trans_lift_69 hl (by decide) rfl (fun ls hl => ?_)
    have hl : lv_has ls 13 [(8, .int (iv ((stepsT ((st0 * 12) + 1)) * dr))), (7, .ref rev), (6, .ref rod), (5, .int (iv (1))), (4, .int (iv (st0 * 12))), (0, .ref rT), (1, .int (iv (st0))), (2, .int (iv (dr))), (3, .int (iv (n0)))] := hl
    refine lv_iload hx hb d_Trans_lift_71 (lv_at hl 3 rfl) ?_
    refine k_if_eq (tgt := 80) hx hb d_Trans_lift_73 (by decide) (by omega) (fun hc73 => absurd hc73 (by omega)) (fun hc73 => ?_)
    refine lv_iconst (v := iv (3)) hx hb d_Trans_lift_76 rfl ?_
    refine lv_goto (tgt := 81) hx hb d_Trans_lift_77 (by decide) ?_
    refine lv_istore hx hb d_Trans_lift_81 hl (by decide) rfl (fun ls hl => ?_)
    have hl : lv_has ls 13 [(9, .int (iv (3))), (8, .int (iv ((stepsT ((st0 * 12) + 1)) * dr))), (7, .ref rev), (6, .ref rod), (5, .int (iv (1))), (4, .int (iv (st0 * 12))), (0, .ref rT), (1, .int (iv (st0))), (2, .int (iv (dr))), (3, .int (iv (n0)))] := hl
    refine lv_iconst (v := iv (0)) hx hb d_Trans_lift_83 rfl ?_
    refine lv_istore hx hb d_Trans_lift_84 hl (by decide) rfl (fun ls hl => ?_)
    have hl : lv_has ls 13 [(10, .int (iv (0))), (9, .int (iv (3))), (8, .int (iv ((stepsT ((st0 * 12) + 1)) * dr))), (7, .ref rev), (6, .ref rod), (5, .int (iv (1))), (4, .int (iv (st0 * 12))), (0, .ref rT), (1, .int (iv (st0))), (2, .int (iv (dr))), (3, .int (iv (n0)))] := hl
    refine lo_up (P := fun k => ∀ (ls : Array Slot) (H : Heap) (locs : List Loc) (ge1 : Int → Int64) (go1 : Int → Int64), lv_has ls 13 [(0, .ref rT), (1, .int (iv (st0))), (2, .int (iv (dr))), (3, .int (iv (n0))), (4, .int (iv (st0 * 12))), (5, .int (iv (1))), (6, .ref rod), (7, .ref rev), (8, .int (iv ((stepsT ((st0 * 12) + 1)) * dr))), (9, .int (iv (3))), (10, .int (iv (k)))] → va_P (gD G) classes [(rT, .inr (5, [.ref rev, .ref rod])), (rev, al (gL G) 8 (ge1)), (rod, al (gL G) 8 (go1))] H → va_D A [(rT, .inr (5, [.ref rev, .ref rod])), (rev, al (gL G) 8 (ge1)), (rod, al (gL G) 8 (go1))] → va_S A s.heap H locs → ((ge1, go1) = lfK st0 dr n0 k (ge, go)) → W p l e r_Trans_lift s m args below meth c H locs 0 0 Q (F0 m 86 ls [])) (a := 0) (b := n0) (fun k hik hjk ihk => ?_) _ _ _ ge go (lv_sub hl [7, 8, 9, 10, 6, 5, 4, 3, 2, 1, 0] rfl) hP hD hS (lfK_0 _ _ _ _).symm
    intro ls H locs ge1 go1 hl hP hD hS hs
    refine lv_iload hx hb d_Trans_lift_86 (lv_at hl 10 rfl) ?_
    refine lv_iload_n hx hb d_Trans_lift_88 rfl (lv_at hl 3 rfl) ?_
    refine k_icmp_ge (tgt := 148) hx hb d_Trans_lift_89 (by decide) (by omega) (by omega) (fun hc89 => ?_) (fun hc89 => ?_)
    · exact k_vret hx hb hr hlk hQ ((ge1, go1)) (by rw [hs]; exact lfK_x hc89 hjk) hP hD hS d_Trans_lift_148
    · refine va_gets hx hb hztS hS hown (hw _ m2_141) (fun _ h => h) d_Trans_lift_92 ?_
      refine lv_iload hx hb d_Trans_lift_95 (lv_at hl 4 rfl) ?_
      refine lv_iconst (v := iv (2)) hx hb d_Trans_lift_97 rfl ?_
      refine k_iadd hx hb d_Trans_lift_98 ?_
      refine k_tab (f := stepsT) hx hb httS hS (by omega) d_Trans_lift_99 ?_
      refine k_i2l hx hb d_Trans_lift_100 (by omega) ?_
      refine lv_aload hx hb d_Trans_lift_101 (lv_at hl 7 rfl) ?_
      refine lv_iload hx hb d_Trans_lift_103 (lv_at hl 10 rfl) ?_
      refine lv_iload hx hb d_Trans_lift_105 (lv_at hl 9 rfl) ?_
      refine k_isub hx hb d_Trans_lift_107 ?_
      refine lv_iload hx hb d_Trans_lift_108 (lv_at hl 4 rfl) ?_
      refine lv_iconst (v := iv (4)) hx hb d_Trans_lift_110 rfl ?_
      refine k_iadd hx hb d_Trans_lift_111 ?_
      refine lv_iload_n hx hb d_Trans_lift_112 rfl (lv_at hl 3 rfl) ?_
      refine k_clR (k_rs S (c_Trans_weigh l G _ rev (k - 3) ((st0 * 12) + 4) n0 ge1 (by omega) (by omega) (by omega)) 4 m2_145 m2_143 m2_144 m1_4 (by decide +kernel) (by decide) rfl rfl (k_preS hK hP hD hS hA hT [1] (by decide) rfl) rfl hl.1 rfl (Nat.le_of_ble_eq_true rfl) d_Trans_lift_113 ⟨Nat.le_of_ble_eq_true rfl, Nat.le_of_ble_eq_true rfl⟩) (fun r113 h113 => ?_)
      subst h113
      refine lv_ladd hx hb d_Trans_lift_116 ?_
      refine lv_lstore hx hb d_Trans_lift_117 hl (by decide) rfl (fun ls hl => ?_)
      have hl : lv_has ls 13 [(11, .long ((lw (stepsT ((st0 * 12) + 2))) + (wgA ge1 (k - 3) ((st0 * 12) + 4) n0))), (0, .ref rT), (1, .int (iv (st0))), (2, .int (iv (dr))), (3, .int (iv (n0))), (4, .int (iv (st0 * 12))), (5, .int (iv (1))), (6, .ref rod), (7, .ref rev), (8, .int (iv ((stepsT ((st0 * 12) + 1)) * dr))), (9, .int (iv (3))), (10, .int (iv (k)))] := hl
      refine lv_aload hx hb d_Trans_lift_119 (lv_at hl 7 rfl) ?_
      refine lv_iload hx hb d_Trans_lift_121 (lv_at hl 11 rfl) ?_
      refine lv_dup2_11 hx hb d_Trans_lift_123 rfl rfl ?_
      refine k_lal hx hb hK hP 2 1 rfl rfl (by decide) (by omega) d_Trans_lift_124 ?_
      refine lv_iload hx hb d_Trans_lift_125 (lv_at hl 9 rfl) ?_
      refine k_i2l hx hb d_Trans_lift_127 (by omega) ?_
      refine lv_lload hx hb d_Trans_lift_128 (lv_at hl 0 rfl) ?_
      refine va_gets hx hb hztS hS hown (hw _ m2_141) (fun _ h => h) d_Trans_lift_130 ?_
      refine lv_iload hx hb d_Trans_lift_133 (lv_at hl 5 rfl) ?_
      refine lv_iconst (v := iv (3)) hx hb d_Trans_lift_135 rfl ?_
      refine k_iadd hx hb d_Trans_lift_136 ?_
      refine k_tab (f := stepsT) hx hb httS hS (by omega) d_Trans_lift_137 ?_
      refine k_lshr hx hb d_Trans_lift_138 ?_
      refine lv_lmul hx hb d_Trans_lift_139 ?_
      refine lv_ladd hx hb d_Trans_lift_140 ?_
      refine k_las hx hb hK hP hD hS 2 1 rfl rfl (by decide) (by omega) d_Trans_lift_141 (fun H locs hP hD hS => ?_)
      have hP : va_P (gD G) classes [(rT, .inr (5, [.ref rev, .ref rod])), (rev, al (gL G) 8 (ge1)), (rod, al (gL G) 8 (up go1 k ((go1 k) + ((lw ((stepsT ((st0 * 12) + 1)) * dr)) * (shR ((lw (stepsT ((st0 * 12) + 2))) + (wgA ge1 (k - 3) ((st0 * 12) + 4) n0)) (stepsT ((st0 * 12) + 3)))))))] H := hP
      have hD : va_D A [(rT, .inr (5, [.ref rev, .ref rod])), (rev, al (gL G) 8 (ge1)), (rod, al (gL G) 8 (up go1 k ((go1 k) + ((lw ((stepsT ((st0 * 12) + 1)) * dr)) * (shR ((lw (stepsT ((st0 * 12) + 2))) + (wgA ge1 (k - 3) ((st0 * 12) + 4) n0)) (stepsT ((st0 * 12) + 3)))))))] := hD
      refine lv_iinc (k := 11) (v := iv (k + 1)) hx hb d_Trans_lift_142 hl rfl (iv_add _ _) (by decide) rfl (fun ls hl => ?_)
      have hl : lv_has ls 13 [(10, .int (iv (k + 1))), (11, .long ((lw (stepsT ((st0 * 12) + 2))) + (wgA ge1 (k - 3) ((st0 * 12) + 4) n0))), (0, .ref rT), (1, .int (iv (st0))), (2, .int (iv (dr))), (3, .int (iv (n0))), (4, .int (iv (st0 * 12))), (5, .int (iv (1))), (6, .ref rod), (7, .ref rev), (8, .int (iv ((stepsT ((st0 * 12) + 1)) * dr))), (9, .int (iv (3)))] := hl
      refine lv_goto (tgt := 86) hx hb d_Trans_lift_145 (by decide) ?_
      exact ihk (by omega) _ _ _ ge1 (up go1 k ((go1 k) + ((lw ((stepsT ((st0 * 12) + 1)) * dr)) * (shR ((lw (stepsT ((st0 * 12) + 2))) + (wgA ge1 (k - 3) ((st0 * 12) + 4) n0)) (stepsT ((st0 * 12) + 3)))))) (lv_sub hl [2, 3, 4, 5, 6, 7, 8, 9, 10, 11, 0] rfl) hP hD hS (by first | exact lfK_t hc13 hik hs | exact lfK_f hc13 hik hs)
abbrev w_Trans_splitLine : List Cond := Cond.code y_Trans_splitLine prog_7_method_6_code 7 none :: wl
abbrev r_Trans_splitLine : Room := { frames := 3, cells := 0, slots := 0, locals := 84 }
set_option maxHeartbeats 4000000 in
set_option maxRecDepth 100000 in
theorem c_Trans_splitLine (l : Launch) (G : k_G) (sz : Nat) (rT ra rev rod : Nat) (s0 sd n0 kd : Int) (ge go a0 : Int → Int64) (hn0 : 0 ≤ n0 ∧ n0 ≤ 8) (hkd : 0 ≤ kd ∧ kd ≤ 6) (hix : ∀ m, 0 ≤ m → m < 2 * n0 → 0 ≤ s0 + m * sd ∧ s0 + m * sd < 256) : Met l y_Trans_splitLine w_Trans_splitLine r_Trans_splitLine (k_P G [.ref rT, .ref ra, .int (iv (s0)), .int (iv (sd)), .int (iv (n0)), .int (iv (kd))] [(rT, .inr (5, [.ref rev, .ref rod])), (rev, al (gL G) 8 (ge)), (rod, al (gL G) 8 (go)), (ra, al (gL G) 256 (a0))] sz) (qv G (fun u : (Int → Int64) × (Int → Int64) × (Int → Int64) => u = spL s0 sd n0 kd (a0, ge, go)) (fun u : (Int → Int64) × (Int → Int64) × (Int → Int64) => [(rT, .inr (5, [.ref rev, .ref rod])), (rev, al (gL G) 8 (u.2.1)), (rod, al (gL G) 8 (u.2.2)), (ra, al (gL G) 256 (u.1))]) (va_A [(rT, .inr (5, [.ref rev, .ref rod])), (rev, al (gL G) 8 (ge)), (rod, al (gL G) 8 (go)), (ra, al (gL G) 256 (a0))] sz)) 0 0 (va_A [(rT, .inr (5, [.ref rev, .ref rod])), (rev, al (gL G) 8 (ge)), (rod, al (gL G) 8 (go)), (ra, al (gL G) 256 (a0))] sz) := by
  refine k_met (fun A => qv G (fun u : (Int → Int64) × (Int → Int64) × (Int → Int64) => u = spL s0 sd n0 kd (a0, ge, go)) (fun u : (Int → Int64) × (Int → Int64) × (Int → Int64) => [(rT, .inr (5, [.ref rev, .ref rod])), (rev, al (gL G) 8 (u.2.1)), (rod, al (gL G) 8 (u.2.2)), (ra, al (gL G) 256 (u.1))]) A) (fun A => A) (by decide) rfl (Nat.le_of_ble_eq_true rfl) (fun p e s m args below meth c ls A Q S hr hlk hnm hl hsz hP hK hD hS hA hT hQ => ?_)
  obtain ⟨hx, hb, hml, hown, hts⟩ := id S
  have hw : ∀ w ∈ wl, w.before args s = true := fun w h => hts w (List.mem_cons_of_mem _ h)
  obtain ⟨⟨tG, hztG, httG⟩, ⟨tF, hztF, httF⟩, ⟨tC, hztC, httC⟩, ⟨tS, hztS, httS⟩⟩ := hT.1
  have hl : lv_has ls 7 [(0, .ref rT), (1, .ref ra), (2, .int (iv (s0))), (3, .int (iv (sd))), (4, .int (iv (n0))), (5, .int (iv (kd)))] := hl
  have c1 := cnt_r hkd
  refine lv_iconst (v := iv (0)) hx hb d_Trans_splitLine_0 rfl ?_
  refine lv_istore hx hb d_Trans_splitLine_1 hl (by decide) rfl (fun ls hl => ?_)
  have hl : lv_has ls 7 [(6, .int (iv (0))), (0, .ref rT), (1, .ref ra), (2, .int (iv (s0))), (3, .int (iv (sd))), (4, .int (iv (n0))), (5, .int (iv (kd)))] := hl
  refine lo_up (P := fun i => ∀ (ls : Array Slot) (H : Heap) (locs : List Loc) (ge1 : Int → Int64) (go1 : Int → Int64), lv_has ls 7 [(0, .ref rT), (1, .ref ra), (2, .int (iv (s0))), (3, .int (iv (sd))), (4, .int (iv (n0))), (5, .int (iv (kd))), (6, .int (iv (i)))] → va_P (gD G) classes [(rT, .inr (5, [.ref rev, .ref rod])), (rev, al (gL G) 8 (ge1)), (rod, al (gL G) 8 (go1)), (ra, al (gL G) 256 (a0))] H → va_D A [(rT, .inr (5, [.ref rev, .ref rod])), (rev, al (gL G) 8 (ge1)), (rod, al (gL G) 8 (go1)), (ra, al (gL G) 256 (a0))] → va_S A s.heap H locs → ((ge1, go1) = it (ldf a0 (p2k s0 sd) (p2o s0 sd)) 0 i (ge, go)) → W p l e r_Trans_splitLine s m args below meth c H locs 0 0 Q (F0 m 3 ls [])) (a := 0) (b := n0) (fun i hii hji ihi => ?_) _ _ _ ge go (lv_sub hl [1, 2, 3, 4, 5, 6, 0] rfl) hP hD hS (it_self _ _ _).symm
  intro ls H locs ge1 go1 hl hP hD hS hs
  refine lv_iload hx hb d_Trans_splitLine_3 (lv_at hl 6 rfl) ?_
  refine lv_iload hx hb d_Trans_splitLine_5 (lv_at hl 4 rfl) ?_
  refine k_icmp_ge (tgt := 52) hx hb d_Trans_splitLine_7 (by decide) (by omega) (by omega) (fun hc7 => ?_) (fun hc7 => ?_)
  · have e1 : (ge1, go1) = it (ldf a0 (p2k s0 sd) (p2o s0 sd)) 0 n0 (ge, go) := by rw [hs]; exact it_x _ _ hc7 hji
    obtain ⟨ge3, hge3⟩ : ∃ z, z = ge1 := ⟨_, rfl⟩
    obtain ⟨go3, hgo3⟩ : ∃ z, z = go1 := ⟨_, rfl⟩
    subst hge3
    subst hgo3
    refine lv_iconst (v := iv (0)) hx hb d_Trans_splitLine_52 rfl ?_
    refine lv_istore hx hb d_Trans_splitLine_53 hl (by decide) rfl (fun ls hl => ?_)
    have hl : lv_has ls 7 [(6, .int (iv (0))), (0, .ref rT), (1, .ref ra), (2, .int (iv (s0))), (3, .int (iv (sd))), (4, .int (iv (n0))), (5, .int (iv (kd)))] := hl
    refine lo_up (P := fun j => ∀ (ls : Array Slot) (H : Heap) (locs : List Loc) (ge2 : Int → Int64) (go2 : Int → Int64), lv_has ls 7 [(0, .ref rT), (1, .ref ra), (2, .int (iv (s0))), (3, .int (iv (sd))), (4, .int (iv (n0))), (5, .int (iv (kd))), (6, .int (iv (j)))] → va_P (gD G) classes [(rT, .inr (5, [.ref rev, .ref rod])), (rev, al (gL G) 8 (ge2)), (rod, al (gL G) 8 (go2)), (ra, al (gL G) 256 (a0))] H → va_D A [(rT, .inr (5, [.ref rev, .ref rod])), (rev, al (gL G) 8 (ge2)), (rod, al (gL G) 8 (go2)), (ra, al (gL G) 256 (a0))] → va_S A s.heap H locs → ((ge2, go2) = spK kd n0 j (ge3, go3)) → W p l e r_Trans_splitLine s m args below meth c H locs 0 0 Q (F0 m 55 ls [])) (a := 0) (b := countT kd) (fun j hij hjj ihj => ?_) _ _ _ ge3 go3 (lv_sub hl [1, 2, 3, 4, 5, 6, 0] rfl) hP hD hS (it_self _ _ _).symm
    intro ls H locs ge2 go2 hl hP hD hS hs2
    refine lv_iload hx hb d_Trans_splitLine_55 (lv_at hl 6 rfl) ?_
    refine va_gets hx hb hztC hS hown (hw _ m2_133) (fun _ h => h) d_Trans_splitLine_57 ?_
    refine lv_iload hx hb d_Trans_splitLine_60 (lv_at hl 5 rfl) ?_
    refine k_tab (f := countT) hx hb httC hS (by omega) d_Trans_splitLine_62 ?_
    refine k_icmp_ge (tgt := 88) hx hb d_Trans_splitLine_63 (by decide) (by omega) (by omega) (fun hc63 => ?_) (fun hc63 => ?_)
    · have e2 : (ge2, go2) = spK kd n0 (countT kd) (ge3, go3) := by rw [hs2]; unfold spK; exact it_x _ _ (by omega) (by omega)
      obtain ⟨ge4, hge4⟩ : ∃ z, z = ge2 := ⟨_, rfl⟩
      obtain ⟨go4, hgo4⟩ : ∃ z, z = go2 := ⟨_, rfl⟩
      subst hge4
      subst hgo4
      refine lv_iconst (v := iv (0)) hx hb d_Trans_splitLine_88 rfl ?_
      refine lv_istore hx hb d_Trans_splitLine_89 hl (by decide) rfl (fun ls hl => ?_)
      have hl : lv_has ls 7 [(6, .int (iv (0))), (0, .ref rT), (1, .ref ra), (2, .int (iv (s0))), (3, .int (iv (sd))), (4, .int (iv (n0))), (5, .int (iv (kd)))] := hl
      refine lo_up (P := fun k => ∀ (ls : Array Slot) (H : Heap) (locs : List Loc) (a1 : Int → Int64), lv_has ls 7 [(0, .ref rT), (1, .ref ra), (2, .int (iv (s0))), (3, .int (iv (sd))), (4, .int (iv (n0))), (5, .int (iv (kd))), (6, .int (iv (k)))] → va_P (gD G) classes [(rT, .inr (5, [.ref rev, .ref rod])), (rev, al (gL G) 8 (ge4)), (rod, al (gL G) 8 (go4)), (ra, al (gL G) 256 (a1))] H → va_D A [(rT, .inr (5, [.ref rev, .ref rod])), (rev, al (gL G) 8 (ge4)), (rod, al (gL G) 8 (go4)), (ra, al (gL G) 256 (a1))] → va_S A s.heap H locs → (a1 = it (stf (ge4, go4) (p1k s0 sd) (p1n s0 sd n0)) 0 k a0) → W p l e r_Trans_splitLine s m args below meth c H locs 0 0 Q (F0 m 91 ls [])) (a := 0) (b := n0) (fun k hik hjk ihk => ?_) _ _ _ a0 (lv_sub hl [1, 2, 3, 4, 5, 6, 0] rfl) hP hD hS (it_self _ _ _).symm
      intro ls H locs a1 hl hP hD hS hs3
      refine lv_iload hx hb d_Trans_splitLine_91 (lv_at hl 6 rfl) ?_
      refine lv_iload hx hb d_Trans_splitLine_93 (lv_at hl 4 rfl) ?_
      refine k_icmp_ge (tgt := 137) hx hb d_Trans_splitLine_95 (by decide) (by omega) (by omega) (fun hc95 => ?_) (fun hc95 => ?_)
      · exact k_vret hx hb hr hlk hQ ((a1, ge4, go4)) (by unfold spL; dsimp only; rw [← e1, ← e2, hs3]; exact congrArg (fun z => (z, (ge4, go4))) (it_x _ _ (by omega) hjk)) hP hD hS d_Trans_splitLine_137
      · refine lv_aload_n hx hb d_Trans_splitLine_98 rfl (lv_at hl 1 rfl) ?_
        refine lv_iload_n hx hb d_Trans_splitLine_99 rfl (lv_at hl 2 rfl) ?_
        refine lv_iload hx hb d_Trans_splitLine_100 (lv_at hl 6 rfl) ?_
        refine lv_iload_n hx hb d_Trans_splitLine_102 rfl (lv_at hl 3 rfl) ?_
        refine k_imul hx hb d_Trans_splitLine_103 ?_
        refine k_iadd hx hb d_Trans_splitLine_104 ?_
        refine lv_aload_n hx hb d_Trans_splitLine_105 rfl (lv_at hl 0 rfl) ?_
        refine va_get (D := gD G) (ci := 5) (v := .ref rev) (C := R_Trans) (T := F_Trans) (N := 2) hx hb hw in_Trans hown hK hP 0 rfl rfl 0 (by decide) (hw _ m1_122) (fun _ h => h) rfl d_Trans_splitLine_106 ?_
        refine lv_iload hx hb d_Trans_splitLine_109 (lv_at hl 6 rfl) ?_
        refine k_lal hx hb hK hP 1 1 rfl rfl (by decide) (by omega) d_Trans_splitLine_111 ?_
        refine k_las hx hb hK hP hD hS 3 1 rfl rfl (by decide) (hix (k) (by omega) (by omega)) d_Trans_splitLine_112 (fun H locs hP hD hS => ?_)
        have hP : va_P (gD G) classes [(rT, .inr (5, [.ref rev, .ref rod])), (rev, al (gL G) 8 (ge4)), (rod, al (gL G) 8 (go4)), (ra, al (gL G) 256 (up a1 (s0 + (k * sd)) (ge4 k)))] H := hP
        have hD : va_D A [(rT, .inr (5, [.ref rev, .ref rod])), (rev, al (gL G) 8 (ge4)), (rod, al (gL G) 8 (go4)), (ra, al (gL G) 256 (up a1 (s0 + (k * sd)) (ge4 k)))] := hD
        refine lv_aload_n hx hb d_Trans_splitLine_113 rfl (lv_at hl 1 rfl) ?_
        refine lv_iload_n hx hb d_Trans_splitLine_114 rfl (lv_at hl 2 rfl) ?_
        refine lv_iload hx hb d_Trans_splitLine_115 (lv_at hl 4 rfl) ?_
        refine lv_iload hx hb d_Trans_splitLine_117 (lv_at hl 6 rfl) ?_
        refine k_iadd hx hb d_Trans_splitLine_119 ?_
        refine lv_iload_n hx hb d_Trans_splitLine_120 rfl (lv_at hl 3 rfl) ?_
        refine k_imul hx hb d_Trans_splitLine_121 ?_
        refine k_iadd hx hb d_Trans_splitLine_122 ?_
        refine lv_aload_n hx hb d_Trans_splitLine_123 rfl (lv_at hl 0 rfl) ?_
        refine va_get (D := gD G) (ci := 5) (v := .ref rod) (C := R_Trans) (T := F_Trans) (N := 2) hx hb hw in_Trans hown hK hP 0 rfl rfl 1 (by decide) (hw _ m1_123) (fun _ h => h) rfl d_Trans_splitLine_124 ?_
        refine lv_iload hx hb d_Trans_splitLine_127 (lv_at hl 6 rfl) ?_
        refine k_lal hx hb hK hP 2 1 rfl rfl (by decide) (by omega) d_Trans_splitLine_129 ?_
        refine k_las hx hb hK hP hD hS 3 1 rfl rfl (by decide) (hix (n0 + k) (by omega) (by omega)) d_Trans_splitLine_130 (fun H locs hP hD hS => ?_)
        have hP : va_P (gD G) classes [(rT, .inr (5, [.ref rev, .ref rod])), (rev, al (gL G) 8 (ge4)), (rod, al (gL G) 8 (go4)), (ra, al (gL G) 256 (up (up a1 (s0 + (k * sd)) (ge4 k)) (s0 + ((n0 + k) * sd)) (go4 k)))] H := hP
        have hD : va_D A [(rT, .inr (5, [.ref rev, .ref rod])), (rev, al (gL G) 8 (ge4)), (rod, al (gL G) 8 (go4)), (ra, al (gL G) 256 (up (up a1 (s0 + (k * sd)) (ge4 k)) (s0 + ((n0 + k) * sd)) (go4 k)))] := hD
        refine lv_iinc (k := 6) (v := iv (k + 1)) hx hb d_Trans_splitLine_131 hl rfl (iv_add _ _) (by decide) rfl (fun ls hl => ?_)
        have hl : lv_has ls 7 [(6, .int (iv (k + 1))), (0, .ref rT), (1, .ref ra), (2, .int (iv (s0))), (3, .int (iv (sd))), (4, .int (iv (n0))), (5, .int (iv (kd)))] := hl
        refine lv_goto (tgt := 91) hx hb d_Trans_splitLine_134 (by decide) ?_
        exact ihk (by omega) _ _ _ (up (up a1 (s0 + (k * sd)) (ge4 k)) (s0 + ((n0 + k) * sd)) (go4 k)) (lv_sub hl [1, 2, 3, 4, 5, 6, 0] rfl) hP hD hS (by rw [it_s _ _ hik, ← hs3]; rfl)
    · refine lv_aload_n hx hb d_Trans_splitLine_66 rfl (lv_at hl 0 rfl) ?_
      refine va_gets hx hb hztF hS hown (hw _ m2_135) (fun _ h => h) d_Trans_splitLine_67 ?_
      refine lv_iload hx hb d_Trans_splitLine_70 (lv_at hl 5 rfl) ?_
      refine k_tab (f := firstT) hx hb httF hS (by omega) d_Trans_splitLine_72 ?_
      refine lv_iload hx hb d_Trans_splitLine_73 (lv_at hl 6 rfl) ?_
      refine k_iadd hx hb d_Trans_splitLine_75 ?_
      refine lv_iconst (v := iv (1)) hx hb d_Trans_splitLine_76 rfl ?_
      refine lv_iload hx hb d_Trans_splitLine_77 (lv_at hl 4 rfl) ?_
      refine k_cv (wz := fun u : (Int → Int64) × (Int → Int64) => [(rT, .inr (5, [.ref rev, .ref rod])), (rev, al (gL G) 8 (u.1)), (rod, al (gL G) 8 (u.2)), (ra, al (gL G) 256 (a0))]) (wr := [(ra, al (gL G) 256 (a0))]) (k_rv S (c_Trans_lift l G _ rT rev rod ((firstT kd) + j) 1 n0 ge2 go2 (by omega) (by omega) (by omega)) 3 m2_140 m2_137 m2_139 mp_6 m1_4 (by decide +kernel) (by decide) rfl rfl (k_preV (q0 := 0) hK hP hD hS hA hT rfl rfl [0, 1, 2] (by decide) rfl) rfl hl.1 rfl (Nat.le_of_ble_eq_true rfl) d_Trans_splitLine_79 ⟨Nat.le_of_ble_eq_true rfl, Nat.le_of_ble_eq_true rfl⟩) hP hD hS hA [0, 1, 2] [3] [1, 2, 3, 0] rfl rfl (by decide) (by decide) (by decide) (fun _ => rfl) (fun u79 H locs h79 hP hD hS => ?_)
      obtain ⟨ge79, go79⟩ := u79
      have hP : va_P (gD G) classes [(rT, .inr (5, [.ref rev, .ref rod])), (rev, al (gL G) 8 (ge79)), (rod, al (gL G) 8 (go79)), (ra, al (gL G) 256 (a0))] H := hP
      have hD : va_D A [(rT, .inr (5, [.ref rev, .ref rod])), (rev, al (gL G) 8 (ge79)), (rod, al (gL G) 8 (go79)), (ra, al (gL G) 256 (a0))] := hD
      try dsimp only at h79
      refine lv_iinc (k := 6) (v := iv (j + 1)) hx hb d_Trans_splitLine_82 hl rfl (iv_add _ _) (by decide) rfl (fun ls hl => ?_)
      have hl : lv_has ls 7 [(6, .int (iv (j + 1))), (0, .ref rT), (1, .ref ra), (2, .int (iv (s0))), (3, .int (iv (sd))), (4, .int (iv (n0))), (5, .int (iv (kd)))] := hl
      refine lv_goto (tgt := 55) hx hb d_Trans_splitLine_85 (by decide) ?_
      exact ihj (by omega) _ _ _ ge79 go79 (lv_sub hl [1, 2, 3, 4, 5, 6, 0] rfl) hP hD hS (by unfold spK; rw [it_s _ _ hij]; show _ = lfK (firstT kd + j) 1 n0 n0 (spK kd n0 j (ge3, go3)); rw [← hs2]; exact h79)
  · refine lv_aload_n hx hb d_Trans_splitLine_10 rfl (lv_at hl 0 rfl) ?_
    refine va_get (D := gD G) (ci := 5) (v := .ref rev) (C := R_Trans) (T := F_Trans) (N := 2) hx hb hw in_Trans hown hK hP 0 rfl rfl 0 (by decide) (hw _ m1_122) (fun _ h => h) rfl d_Trans_splitLine_11 ?_
    refine lv_iload hx hb d_Trans_splitLine_14 (lv_at hl 6 rfl) ?_
    refine lv_aload_n hx hb d_Trans_splitLine_16 rfl (lv_at hl 1 rfl) ?_
    refine lv_iload_n hx hb d_Trans_splitLine_17 rfl (lv_at hl 2 rfl) ?_
    refine lv_iconst (v := iv (2)) hx hb d_Trans_splitLine_18 rfl ?_
    refine lv_iload hx hb d_Trans_splitLine_19 (lv_at hl 6 rfl) ?_
    refine k_imul hx hb d_Trans_splitLine_21 ?_
    refine lv_iload_n hx hb d_Trans_splitLine_22 rfl (lv_at hl 3 rfl) ?_
    refine k_imul hx hb d_Trans_splitLine_23 ?_
    refine k_iadd hx hb d_Trans_splitLine_24 ?_
    refine k_lal hx hb hK hP 3 1 rfl rfl (by decide) (hix (2 * i) (by omega) (by omega)) d_Trans_splitLine_25 ?_
    refine k_las hx hb hK hP hD hS 1 1 rfl rfl (by decide) (by omega) d_Trans_splitLine_26 (fun H locs hP hD hS => ?_)
    have hP : va_P (gD G) classes [(rT, .inr (5, [.ref rev, .ref rod])), (rev, al (gL G) 8 (up ge1 i (a0 (s0 + ((2 * i) * sd))))), (rod, al (gL G) 8 (go1)), (ra, al (gL G) 256 (a0))] H := hP
    have hD : va_D A [(rT, .inr (5, [.ref rev, .ref rod])), (rev, al (gL G) 8 (up ge1 i (a0 (s0 + ((2 * i) * sd))))), (rod, al (gL G) 8 (go1)), (ra, al (gL G) 256 (a0))] := hD
    refine lv_aload_n hx hb d_Trans_splitLine_27 rfl (lv_at hl 0 rfl) ?_
    refine va_get (D := gD G) (ci := 5) (v := .ref rod) (C := R_Trans) (T := F_Trans) (N := 2) hx hb hw in_Trans hown hK hP 0 rfl rfl 1 (by decide) (hw _ m1_123) (fun _ h => h) rfl d_Trans_splitLine_28 ?_
    refine lv_iload hx hb d_Trans_splitLine_31 (lv_at hl 6 rfl) ?_
    refine lv_aload_n hx hb d_Trans_splitLine_33 rfl (lv_at hl 1 rfl) ?_
    refine lv_iload_n hx hb d_Trans_splitLine_34 rfl (lv_at hl 2 rfl) ?_
    refine lv_iconst (v := iv (2)) hx hb d_Trans_splitLine_35 rfl ?_
    refine lv_iload hx hb d_Trans_splitLine_36 (lv_at hl 6 rfl) ?_
    refine k_imul hx hb d_Trans_splitLine_38 ?_
    refine lv_iconst (v := iv (1)) hx hb d_Trans_splitLine_39 rfl ?_
    refine k_iadd hx hb d_Trans_splitLine_40 ?_
    refine lv_iload_n hx hb d_Trans_splitLine_41 rfl (lv_at hl 3 rfl) ?_
    refine k_imul hx hb d_Trans_splitLine_42 ?_
    refine k_iadd hx hb d_Trans_splitLine_43 ?_
    refine k_lal hx hb hK hP 3 1 rfl rfl (by decide) (hix (2 * i + 1) (by omega) (by omega)) d_Trans_splitLine_44 ?_
    refine k_las hx hb hK hP hD hS 2 1 rfl rfl (by decide) (by omega) d_Trans_splitLine_45 (fun H locs hP hD hS => ?_)
    have hP : va_P (gD G) classes [(rT, .inr (5, [.ref rev, .ref rod])), (rev, al (gL G) 8 (up ge1 i (a0 (s0 + ((2 * i) * sd))))), (rod, al (gL G) 8 (up go1 i (a0 (s0 + (((2 * i) + 1) * sd))))), (ra, al (gL G) 256 (a0))] H := hP
    have hD : va_D A [(rT, .inr (5, [.ref rev, .ref rod])), (rev, al (gL G) 8 (up ge1 i (a0 (s0 + ((2 * i) * sd))))), (rod, al (gL G) 8 (up go1 i (a0 (s0 + (((2 * i) + 1) * sd))))), (ra, al (gL G) 256 (a0))] := hD
    refine lv_iinc (k := 6) (v := iv (i + 1)) hx hb d_Trans_splitLine_46 hl rfl (iv_add _ _) (by decide) rfl (fun ls hl => ?_)
    have hl : lv_has ls 7 [(6, .int (iv (i + 1))), (0, .ref rT), (1, .ref ra), (2, .int (iv (s0))), (3, .int (iv (sd))), (4, .int (iv (n0))), (5, .int (iv (kd)))] := hl
    refine lv_goto (tgt := 3) hx hb d_Trans_splitLine_49 (by decide) ?_
    exact ihi (by omega) _ _ _ (up ge1 i (a0 (s0 + ((2 * i) * sd)))) (up go1 i (a0 (s0 + (((2 * i) + 1) * sd)))) (lv_sub hl [1, 2, 3, 4, 5, 6, 0] rfl) hP hD hS (by rw [it_s _ _ hii, ← hs]; rfl)
abbrev w_Trans_joinLine : List Cond := Cond.code y_Trans_joinLine prog_7_method_7_code 7 none :: wl
abbrev r_Trans_joinLine : Room := { frames := 3, cells := 0, slots := 0, locals := 84 }
set_option maxHeartbeats 4000000 in
set_option maxRecDepth 100000 in
theorem c_Trans_joinLine (l : Launch) (G : k_G) (sz : Nat) (rT ra rev rod : Nat) (s0 sd n0 kd : Int) (ge go a0 : Int → Int64) (hn0 : 0 ≤ n0 ∧ n0 ≤ 8) (hkd : 0 ≤ kd ∧ kd ≤ 6) (hix : ∀ m, 0 ≤ m → m < 2 * n0 → 0 ≤ s0 + m * sd ∧ s0 + m * sd < 256) : Met l y_Trans_joinLine w_Trans_joinLine r_Trans_joinLine (k_P G [.ref rT, .ref ra, .int (iv (s0)), .int (iv (sd)), .int (iv (n0)), .int (iv (kd))] [(rT, .inr (5, [.ref rev, .ref rod])), (rev, al (gL G) 8 (ge)), (rod, al (gL G) 8 (go)), (ra, al (gL G) 256 (a0))] sz) (qv G (fun u : (Int → Int64) × (Int → Int64) × (Int → Int64) => u = jnL s0 sd n0 kd (a0, ge, go)) (fun u : (Int → Int64) × (Int → Int64) × (Int → Int64) => [(rT, .inr (5, [.ref rev, .ref rod])), (rev, al (gL G) 8 (u.2.1)), (rod, al (gL G) 8 (u.2.2)), (ra, al (gL G) 256 (u.1))]) (va_A [(rT, .inr (5, [.ref rev, .ref rod])), (rev, al (gL G) 8 (ge)), (rod, al (gL G) 8 (go)), (ra, al (gL G) 256 (a0))] sz)) 0 0 (va_A [(rT, .inr (5, [.ref rev, .ref rod])), (rev, al (gL G) 8 (ge)), (rod, al (gL G) 8 (go)), (ra, al (gL G) 256 (a0))] sz) := by
  refine k_met (fun A => qv G (fun u : (Int → Int64) × (Int → Int64) × (Int → Int64) => u = jnL s0 sd n0 kd (a0, ge, go)) (fun u : (Int → Int64) × (Int → Int64) × (Int → Int64) => [(rT, .inr (5, [.ref rev, .ref rod])), (rev, al (gL G) 8 (u.2.1)), (rod, al (gL G) 8 (u.2.2)), (ra, al (gL G) 256 (u.1))]) A) (fun A => A) (by decide) rfl (Nat.le_of_ble_eq_true rfl) (fun p e s m args below meth c ls A Q S hr hlk hnm hl hsz hP hK hD hS hA hT hQ => ?_)
  obtain ⟨hx, hb, hml, hown, hts⟩ := id S
  have hw : ∀ w ∈ wl, w.before args s = true := fun w h => hts w (List.mem_cons_of_mem _ h)
  obtain ⟨⟨tG, hztG, httG⟩, ⟨tF, hztF, httF⟩, ⟨tC, hztC, httC⟩, ⟨tS, hztS, httS⟩⟩ := hT.1
  have hl : lv_has ls 7 [(0, .ref rT), (1, .ref ra), (2, .int (iv (s0))), (3, .int (iv (sd))), (4, .int (iv (n0))), (5, .int (iv (kd)))] := hl
  have c1 := cnt_r hkd
  refine lv_iconst (v := iv (0)) hx hb d_Trans_joinLine_0 rfl ?_
  refine lv_istore hx hb d_Trans_joinLine_1 hl (by decide) rfl (fun ls hl => ?_)
  have hl : lv_has ls 7 [(6, .int (iv (0))), (0, .ref rT), (1, .ref ra), (2, .int (iv (s0))), (3, .int (iv (sd))), (4, .int (iv (n0))), (5, .int (iv (kd)))] := hl
  refine lo_up (P := fun i => ∀ (ls : Array Slot) (H : Heap) (locs : List Loc) (ge1 : Int → Int64) (go1 : Int → Int64), lv_has ls 7 [(0, .ref rT), (1, .ref ra), (2, .int (iv (s0))), (3, .int (iv (sd))), (4, .int (iv (n0))), (5, .int (iv (kd))), (6, .int (iv (i)))] → va_P (gD G) classes [(rT, .inr (5, [.ref rev, .ref rod])), (rev, al (gL G) 8 (ge1)), (rod, al (gL G) 8 (go1)), (ra, al (gL G) 256 (a0))] H → va_D A [(rT, .inr (5, [.ref rev, .ref rod])), (rev, al (gL G) 8 (ge1)), (rod, al (gL G) 8 (go1)), (ra, al (gL G) 256 (a0))] → va_S A s.heap H locs → ((ge1, go1) = it (ldf a0 (p1k s0 sd) (p1n s0 sd n0)) 0 i (ge, go)) → W p l e r_Trans_joinLine s m args below meth c H locs 0 0 Q (F0 m 3 ls [])) (a := 0) (b := n0) (fun i hii hji ihi => ?_) _ _ _ ge go (lv_sub hl [1, 2, 3, 4, 5, 6, 0] rfl) hP hD hS (it_self _ _ _).symm
  intro ls H locs ge1 go1 hl hP hD hS hs
  refine lv_iload hx hb d_Trans_joinLine_3 (lv_at hl 6 rfl) ?_
  refine lv_iload hx hb d_Trans_joinLine_5 (lv_at hl 4 rfl) ?_
  refine k_icmp_ge (tgt := 49) hx hb d_Trans_joinLine_7 (by decide) (by omega) (by omega) (fun hc7 => ?_) (fun hc7 => ?_)
  · have e1 : (ge1, go1) = it (ldf a0 (p1k s0 sd) (p1n s0 sd n0)) 0 n0 (ge, go) := by rw [hs]; exact it_x _ _ hc7 hji
    obtain ⟨ge3, hge3⟩ : ∃ z, z = ge1 := ⟨_, rfl⟩
    obtain ⟨go3, hgo3⟩ : ∃ z, z = go1 := ⟨_, rfl⟩
    subst hge3
    subst hgo3
    refine va_gets hx hb hztC hS hown (hw _ m2_133) (fun _ h => h) d_Trans_joinLine_49 ?_
    refine lv_iload hx hb d_Trans_joinLine_52 (lv_at hl 5 rfl) ?_
    refine k_tab (f := countT) hx hb httC hS (by omega) d_Trans_joinLine_54 ?_
    refine lv_iconst (v := iv (1)) hx hb d_Trans_joinLine_55 rfl ?_
    refine k_isub hx hb d_Trans_joinLine_56 ?_
    refine lv_istore hx hb d_Trans_joinLine_57 hl (by decide) rfl (fun ls hl => ?_)
    have hl : lv_has ls 7 [(6, .int (iv ((countT kd) - 1))), (0, .ref rT), (1, .ref ra), (2, .int (iv (s0))), (3, .int (iv (sd))), (4, .int (iv (n0))), (5, .int (iv (kd)))] := hl
    refine lo_dn (P := fun j => ∀ (ls : Array Slot) (H : Heap) (locs : List Loc) (ge2 : Int → Int64) (go2 : Int → Int64), lv_has ls 7 [(0, .ref rT), (1, .ref ra), (2, .int (iv (s0))), (3, .int (iv (sd))), (4, .int (iv (n0))), (5, .int (iv (kd))), (6, .int (iv (j)))] → va_P (gD G) classes [(rT, .inr (5, [.ref rev, .ref rod])), (rev, al (gL G) 8 (ge2)), (rod, al (gL G) 8 (go2)), (ra, al (gL G) 256 (a0))] H → va_D A [(rT, .inr (5, [.ref rev, .ref rod])), (rev, al (gL G) 8 (ge2)), (rod, al (gL G) 8 (go2)), (ra, al (gL G) 256 (a0))] → va_S A s.heap H locs → ((ge2, go2) = jnK kd n0 (countT kd - 1 - j) (ge3, go3)) → W p l e r_Trans_joinLine s m args below meth c H locs 0 0 Q (F0 m 59 ls [])) (a := countT kd - 1) (fun j hij hjj ihj => ?_) _ _ _ ge3 go3 (lv_sub hl [1, 2, 3, 4, 5, 6, 0] rfl) hP hD hS (by unfold jnK; rw [Int.sub_self, it_self])
    intro ls H locs ge2 go2 hl hP hD hS hs2
    refine lv_iload hx hb d_Trans_joinLine_59 (lv_at hl 6 rfl) ?_
    refine k_if_lt (tgt := 86) hx hb d_Trans_joinLine_61 (by decide) (by omega) (fun hc61 => ?_) (fun hc61 => ?_)
    · have e2 : (ge2, go2) = jnK kd n0 (countT kd) (ge3, go3) := by rw [hs2]; unfold jnK; exact it_x _ _ (by omega) (by omega)
      obtain ⟨ge4, hge4⟩ : ∃ z, z = ge2 := ⟨_, rfl⟩
      obtain ⟨go4, hgo4⟩ : ∃ z, z = go2 := ⟨_, rfl⟩
      subst hge4
      subst hgo4
      refine lv_iconst (v := iv (0)) hx hb d_Trans_joinLine_86 rfl ?_
      refine lv_istore hx hb d_Trans_joinLine_87 hl (by decide) rfl (fun ls hl => ?_)
      have hl : lv_has ls 7 [(6, .int (iv (0))), (0, .ref rT), (1, .ref ra), (2, .int (iv (s0))), (3, .int (iv (sd))), (4, .int (iv (n0))), (5, .int (iv (kd)))] := hl
      refine lo_up (P := fun k => ∀ (ls : Array Slot) (H : Heap) (locs : List Loc) (a1 : Int → Int64), lv_has ls 7 [(0, .ref rT), (1, .ref ra), (2, .int (iv (s0))), (3, .int (iv (sd))), (4, .int (iv (n0))), (5, .int (iv (kd))), (6, .int (iv (k)))] → va_P (gD G) classes [(rT, .inr (5, [.ref rev, .ref rod])), (rev, al (gL G) 8 (ge4)), (rod, al (gL G) 8 (go4)), (ra, al (gL G) 256 (a1))] H → va_D A [(rT, .inr (5, [.ref rev, .ref rod])), (rev, al (gL G) 8 (ge4)), (rod, al (gL G) 8 (go4)), (ra, al (gL G) 256 (a1))] → va_S A s.heap H locs → (a1 = it (stf (ge4, go4) (p2k s0 sd) (p2o s0 sd)) 0 k a0) → W p l e r_Trans_joinLine s m args below meth c H locs 0 0 Q (F0 m 89 ls [])) (a := 0) (b := n0) (fun k hik hjk ihk => ?_) _ _ _ a0 (lv_sub hl [1, 2, 3, 4, 5, 6, 0] rfl) hP hD hS (it_self _ _ _).symm
      intro ls H locs a1 hl hP hD hS hs3
      refine lv_iload hx hb d_Trans_joinLine_89 (lv_at hl 6 rfl) ?_
      refine lv_iload hx hb d_Trans_joinLine_91 (lv_at hl 4 rfl) ?_
      refine k_icmp_ge (tgt := 138) hx hb d_Trans_joinLine_93 (by decide) (by omega) (by omega) (fun hc93 => ?_) (fun hc93 => ?_)
      · exact k_vret hx hb hr hlk hQ ((a1, ge4, go4)) (by unfold jnL; dsimp only; rw [← e1, ← e2, hs3]; exact congrArg (fun z => (z, (ge4, go4))) (it_x _ _ (by omega) hjk)) hP hD hS d_Trans_joinLine_138
      · refine lv_aload_n hx hb d_Trans_joinLine_96 rfl (lv_at hl 1 rfl) ?_
        refine lv_iload_n hx hb d_Trans_joinLine_97 rfl (lv_at hl 2 rfl) ?_
        refine lv_iconst (v := iv (2)) hx hb d_Trans_joinLine_98 rfl ?_
        refine lv_iload hx hb d_Trans_joinLine_99 (lv_at hl 6 rfl) ?_
        refine k_imul hx hb d_Trans_joinLine_101 ?_
        refine lv_iload_n hx hb d_Trans_joinLine_102 rfl (lv_at hl 3 rfl) ?_
        refine k_imul hx hb d_Trans_joinLine_103 ?_
        refine k_iadd hx hb d_Trans_joinLine_104 ?_
        refine lv_aload_n hx hb d_Trans_joinLine_105 rfl (lv_at hl 0 rfl) ?_
        refine va_get (D := gD G) (ci := 5) (v := .ref rev) (C := R_Trans) (T := F_Trans) (N := 2) hx hb hw in_Trans hown hK hP 0 rfl rfl 0 (by decide) (hw _ m1_122) (fun _ h => h) rfl d_Trans_joinLine_106 ?_
        refine lv_iload hx hb d_Trans_joinLine_109 (lv_at hl 6 rfl) ?_
        refine k_lal hx hb hK hP 1 1 rfl rfl (by decide) (by omega) d_Trans_joinLine_111 ?_
        refine k_las hx hb hK hP hD hS 3 1 rfl rfl (by decide) (hix (2 * k) (by omega) (by omega)) d_Trans_joinLine_112 (fun H locs hP hD hS => ?_)
        have hP : va_P (gD G) classes [(rT, .inr (5, [.ref rev, .ref rod])), (rev, al (gL G) 8 (ge4)), (rod, al (gL G) 8 (go4)), (ra, al (gL G) 256 (up a1 (s0 + ((2 * k) * sd)) (ge4 k)))] H := hP
        have hD : va_D A [(rT, .inr (5, [.ref rev, .ref rod])), (rev, al (gL G) 8 (ge4)), (rod, al (gL G) 8 (go4)), (ra, al (gL G) 256 (up a1 (s0 + ((2 * k) * sd)) (ge4 k)))] := hD
        refine lv_aload_n hx hb d_Trans_joinLine_113 rfl (lv_at hl 1 rfl) ?_
        refine lv_iload_n hx hb d_Trans_joinLine_114 rfl (lv_at hl 2 rfl) ?_
        refine lv_iconst (v := iv (2)) hx hb d_Trans_joinLine_115 rfl ?_
        refine lv_iload hx hb d_Trans_joinLine_116 (lv_at hl 6 rfl) ?_
        refine k_imul hx hb d_Trans_joinLine_118 ?_
        refine lv_iconst (v := iv (1)) hx hb d_Trans_joinLine_119 rfl ?_
        refine k_iadd hx hb d_Trans_joinLine_120 ?_
        refine lv_iload_n hx hb d_Trans_joinLine_121 rfl (lv_at hl 3 rfl) ?_
        refine k_imul hx hb d_Trans_joinLine_122 ?_
        refine k_iadd hx hb d_Trans_joinLine_123 ?_
        refine lv_aload_n hx hb d_Trans_joinLine_124 rfl (lv_at hl 0 rfl) ?_
        refine va_get (D := gD G) (ci := 5) (v := .ref rod) (C := R_Trans) (T := F_Trans) (N := 2) hx hb hw in_Trans hown hK hP 0 rfl rfl 1 (by decide) (hw _ m1_123) (fun _ h => h) rfl d_Trans_joinLine_125 ?_
        refine lv_iload hx hb d_Trans_joinLine_128 (lv_at hl 6 rfl) ?_
        refine k_lal hx hb hK hP 2 1 rfl rfl (by decide) (by omega) d_Trans_joinLine_130 ?_
        refine k_las hx hb hK hP hD hS 3 1 rfl rfl (by decide) (hix (2 * k + 1) (by omega) (by omega)) d_Trans_joinLine_131 (fun H locs hP hD hS => ?_)
        have hP : va_P (gD G) classes [(rT, .inr (5, [.ref rev, .ref rod])), (rev, al (gL G) 8 (ge4)), (rod, al (gL G) 8 (go4)), (ra, al (gL G) 256 (up (up a1 (s0 + ((2 * k) * sd)) (ge4 k)) (s0 + (((2 * k) + 1) * sd)) (go4 k)))] H := hP
        have hD : va_D A [(rT, .inr (5, [.ref rev, .ref rod])), (rev, al (gL G) 8 (ge4)), (rod, al (gL G) 8 (go4)), (ra, al (gL G) 256 (up (up a1 (s0 + ((2 * k) * sd)) (ge4 k)) (s0 + (((2 * k) + 1) * sd)) (go4 k)))] := hD
        refine lv_iinc (k := 6) (v := iv (k + 1)) hx hb d_Trans_joinLine_132 hl rfl (iv_add _ _) (by decide) rfl (fun ls hl => ?_)
        have hl : lv_has ls 7 [(6, .int (iv (k + 1))), (0, .ref rT), (1, .ref ra), (2, .int (iv (s0))), (3, .int (iv (sd))), (4, .int (iv (n0))), (5, .int (iv (kd)))] := hl
        refine lv_goto (tgt := 89) hx hb d_Trans_joinLine_135 (by decide) ?_
        exact ihk (by omega) _ _ _ (up (up a1 (s0 + ((2 * k) * sd)) (ge4 k)) (s0 + (((2 * k) + 1) * sd)) (go4 k)) (lv_sub hl [1, 2, 3, 4, 5, 6, 0] rfl) hP hD hS (by rw [it_s _ _ hik, ← hs3]; rfl)
    · refine lv_aload_n hx hb d_Trans_joinLine_64 rfl (lv_at hl 0 rfl) ?_
      refine va_gets hx hb hztF hS hown (hw _ m2_135) (fun _ h => h) d_Trans_joinLine_65 ?_
      refine lv_iload hx hb d_Trans_joinLine_68 (lv_at hl 5 rfl) ?_
      refine k_tab (f := firstT) hx hb httF hS (by omega) d_Trans_joinLine_70 ?_
      refine lv_iload hx hb d_Trans_joinLine_71 (lv_at hl 6 rfl) ?_
      refine k_iadd hx hb d_Trans_joinLine_73 ?_
      refine lv_iconst (v := iv (-1)) hx hb d_Trans_joinLine_74 rfl ?_
      refine lv_iload hx hb d_Trans_joinLine_75 (lv_at hl 4 rfl) ?_
      refine k_cv (wz := fun u : (Int → Int64) × (Int → Int64) => [(rT, .inr (5, [.ref rev, .ref rod])), (rev, al (gL G) 8 (u.1)), (rod, al (gL G) 8 (u.2)), (ra, al (gL G) 256 (a0))]) (wr := [(ra, al (gL G) 256 (a0))]) (k_rv S (c_Trans_lift l G _ rT rev rod ((firstT kd) + j) ((-1)) n0 ge2 go2 (by omega) (by omega) (by omega)) 3 m2_140 m2_137 m2_139 mp_6 m1_4 (by decide +kernel) (by decide) rfl rfl (k_preV (q0 := 0) hK hP hD hS hA hT rfl rfl [0, 1, 2] (by decide) rfl) rfl hl.1 rfl (Nat.le_of_ble_eq_true rfl) d_Trans_joinLine_77 ⟨Nat.le_of_ble_eq_true rfl, Nat.le_of_ble_eq_true rfl⟩) hP hD hS hA [0, 1, 2] [3] [1, 2, 3, 0] rfl rfl (by decide) (by decide) (by decide) (fun _ => rfl) (fun u77 H locs h77 hP hD hS => ?_)
      obtain ⟨ge77, go77⟩ := u77
      have hP : va_P (gD G) classes [(rT, .inr (5, [.ref rev, .ref rod])), (rev, al (gL G) 8 (ge77)), (rod, al (gL G) 8 (go77)), (ra, al (gL G) 256 (a0))] H := hP
      have hD : va_D A [(rT, .inr (5, [.ref rev, .ref rod])), (rev, al (gL G) 8 (ge77)), (rod, al (gL G) 8 (go77)), (ra, al (gL G) 256 (a0))] := hD
      try dsimp only at h77
      refine lv_iinc (k := 6) (v := iv (j + (-1))) hx hb d_Trans_joinLine_80 hl rfl (iv_add _ _) (by decide) rfl (fun ls hl => ?_)
      have hl : lv_has ls 7 [(6, .int (iv (j + (-1)))), (0, .ref rT), (1, .ref ra), (2, .int (iv (s0))), (3, .int (iv (sd))), (4, .int (iv (n0))), (5, .int (iv (kd)))] := hl
      refine lv_goto (tgt := 59) hx hb d_Trans_joinLine_83 (by decide) ?_
      exact ihj (by omega) _ _ _ ge77 go77 (lv_sub hl [1, 2, 3, 4, 5, 6, 0] rfl) hP hD hS (by unfold jnK; rw [show countT kd - 1 - (j + (-1)) = (countT kd - 1 - j) + 1 by omega, it_s _ _ (by omega)]; show _ = lfK (firstT kd + (countT kd - 1 - (countT kd - 1 - j))) (-1) n0 n0 (jnK kd n0 (countT kd - 1 - j) (ge3, go3)); rw [← hs2, show countT kd - 1 - (countT kd - 1 - j) = j by omega]; exact h77)
  · refine lv_aload_n hx hb d_Trans_joinLine_10 rfl (lv_at hl 0 rfl) ?_
    refine va_get (D := gD G) (ci := 5) (v := .ref rev) (C := R_Trans) (T := F_Trans) (N := 2) hx hb hw in_Trans hown hK hP 0 rfl rfl 0 (by decide) (hw _ m1_122) (fun _ h => h) rfl d_Trans_joinLine_11 ?_
    refine lv_iload hx hb d_Trans_joinLine_14 (lv_at hl 6 rfl) ?_
    refine lv_aload_n hx hb d_Trans_joinLine_16 rfl (lv_at hl 1 rfl) ?_
    refine lv_iload_n hx hb d_Trans_joinLine_17 rfl (lv_at hl 2 rfl) ?_
    refine lv_iload hx hb d_Trans_joinLine_18 (lv_at hl 6 rfl) ?_
    refine lv_iload_n hx hb d_Trans_joinLine_20 rfl (lv_at hl 3 rfl) ?_
    refine k_imul hx hb d_Trans_joinLine_21 ?_
    refine k_iadd hx hb d_Trans_joinLine_22 ?_
    refine k_lal hx hb hK hP 3 1 rfl rfl (by decide) (hix (i) (by omega) (by omega)) d_Trans_joinLine_23 ?_
    refine k_las hx hb hK hP hD hS 1 1 rfl rfl (by decide) (by omega) d_Trans_joinLine_24 (fun H locs hP hD hS => ?_)
    have hP : va_P (gD G) classes [(rT, .inr (5, [.ref rev, .ref rod])), (rev, al (gL G) 8 (up ge1 i (a0 (s0 + (i * sd))))), (rod, al (gL G) 8 (go1)), (ra, al (gL G) 256 (a0))] H := hP
    have hD : va_D A [(rT, .inr (5, [.ref rev, .ref rod])), (rev, al (gL G) 8 (up ge1 i (a0 (s0 + (i * sd))))), (rod, al (gL G) 8 (go1)), (ra, al (gL G) 256 (a0))] := hD
    refine lv_aload_n hx hb d_Trans_joinLine_25 rfl (lv_at hl 0 rfl) ?_
    refine va_get (D := gD G) (ci := 5) (v := .ref rod) (C := R_Trans) (T := F_Trans) (N := 2) hx hb hw in_Trans hown hK hP 0 rfl rfl 1 (by decide) (hw _ m1_123) (fun _ h => h) rfl d_Trans_joinLine_26 ?_
    refine lv_iload hx hb d_Trans_joinLine_29 (lv_at hl 6 rfl) ?_
    refine lv_aload_n hx hb d_Trans_joinLine_31 rfl (lv_at hl 1 rfl) ?_
    refine lv_iload_n hx hb d_Trans_joinLine_32 rfl (lv_at hl 2 rfl) ?_
    refine lv_iload hx hb d_Trans_joinLine_33 (lv_at hl 4 rfl) ?_
    refine lv_iload hx hb d_Trans_joinLine_35 (lv_at hl 6 rfl) ?_
    refine k_iadd hx hb d_Trans_joinLine_37 ?_
    refine lv_iload_n hx hb d_Trans_joinLine_38 rfl (lv_at hl 3 rfl) ?_
    refine k_imul hx hb d_Trans_joinLine_39 ?_
    refine k_iadd hx hb d_Trans_joinLine_40 ?_
    refine k_lal hx hb hK hP 3 1 rfl rfl (by decide) (hix (n0 + i) (by omega) (by omega)) d_Trans_joinLine_41 ?_
    refine k_las hx hb hK hP hD hS 2 1 rfl rfl (by decide) (by omega) d_Trans_joinLine_42 (fun H locs hP hD hS => ?_)
    have hP : va_P (gD G) classes [(rT, .inr (5, [.ref rev, .ref rod])), (rev, al (gL G) 8 (up ge1 i (a0 (s0 + (i * sd))))), (rod, al (gL G) 8 (up go1 i (a0 (s0 + ((n0 + i) * sd))))), (ra, al (gL G) 256 (a0))] H := hP
    have hD : va_D A [(rT, .inr (5, [.ref rev, .ref rod])), (rev, al (gL G) 8 (up ge1 i (a0 (s0 + (i * sd))))), (rod, al (gL G) 8 (up go1 i (a0 (s0 + ((n0 + i) * sd))))), (ra, al (gL G) 256 (a0))] := hD
    refine lv_iinc (k := 6) (v := iv (i + 1)) hx hb d_Trans_joinLine_43 hl rfl (iv_add _ _) (by decide) rfl (fun ls hl => ?_)
    have hl : lv_has ls 7 [(6, .int (iv (i + 1))), (0, .ref rT), (1, .ref ra), (2, .int (iv (s0))), (3, .int (iv (sd))), (4, .int (iv (n0))), (5, .int (iv (kd)))] := hl
    refine lv_goto (tgt := 3) hx hb d_Trans_joinLine_46 (by decide) ?_
    exact ihi (by omega) _ _ _ (up ge1 i (a0 (s0 + (i * sd)))) (up go1 i (a0 (s0 + ((n0 + i) * sd)))) (lv_sub hl [1, 2, 3, 4, 5, 6, 0] rfl) hP hD hS (by rw [it_s _ _ hii, ← hs]; rfl)
abbrev w_Trans_raise : List Cond := Cond.code y_Trans_raise prog_7_method_4_code 6 none :: wl
abbrev r_Trans_raise : Room := { frames := 0, cells := 0, slots := 0, locals := 0 }
set_option maxHeartbeats 4000000 in
set_option maxRecDepth 100000 in
theorem c_Trans_raise (l : Launch) (G : k_G) (sz : Nat) (ra : Nat) (w0 h0 gn0 : Int) (a0 : Int → Int64) (hw0 : 0 ≤ w0 ∧ w0 ≤ 16) (hh0 : 0 ≤ h0 ∧ h0 ≤ 16) (hgn : 0 ≤ gn0 ∧ gn0 ≤ 1) : Met l y_Trans_raise w_Trans_raise r_Trans_raise (k_P G [.ref ra, .int (iv (w0)), .int (iv (h0)), .int (iv (gn0))] [(ra, al (gL G) 256 (a0))] sz) (qv G (fun u : Int → Int64 => u = raA w0 h0 gn0 a0) (fun u : Int → Int64 => [(ra, al (gL G) 256 (u))]) (va_A [(ra, al (gL G) 256 (a0))] sz)) 0 0 (va_A [(ra, al (gL G) 256 (a0))] sz) := by
  refine k_met (fun A => qv G (fun u : Int → Int64 => u = raA w0 h0 gn0 a0) (fun u : Int → Int64 => [(ra, al (gL G) 256 (u))]) A) (fun A => A) (by decide) rfl (Nat.le_of_ble_eq_true rfl) (fun p e s m args below meth c ls A Q S hr hlk hnm hl hsz hP hK hD hS hA hT hQ => ?_)
  obtain ⟨hx, hb, hml, hown, hts⟩ := id S
  have hw : ∀ w ∈ wl, w.before args s = true := fun w h => hts w (List.mem_cons_of_mem _ h)
  have hl : lv_has ls 6 [(0, .ref ra), (1, .int (iv (w0))), (2, .int (iv (h0))), (3, .int (iv (gn0)))] := hl
  refine lv_iconst (v := iv (0)) hx hb d_Trans_raise_0 rfl ?_
  refine lv_istore hx hb d_Trans_raise_1 hl (by decide) rfl (fun ls hl => ?_)
  have hl : lv_has ls 6 [(4, .int (iv (0))), (0, .ref ra), (1, .int (iv (w0))), (2, .int (iv (h0))), (3, .int (iv (gn0)))] := hl
  refine lo_up (P := fun y => ∀ (ls : Array Slot) (H : Heap) (locs : List Loc) (a1 : Int → Int64), lv_has ls 6 [(0, .ref ra), (1, .int (iv (w0))), (2, .int (iv (h0))), (3, .int (iv (gn0))), (4, .int (iv (y)))] → va_P (gD G) classes [(ra, al (gL G) 256 (a1))] H → va_D A [(ra, al (gL G) 256 (a1))] → va_S A s.heap H locs → (a1 = raA w0 y gn0 a0) → W p l e r_Trans_raise s m args below meth c H locs 0 0 Q (F0 m 3 ls [])) (a := 0) (b := h0) (fun y hiy hjy ihy => ?_) _ _ _ a0 (lv_sub hl [1, 2, 3, 4, 0] rfl) hP hD hS (it_self _ _ _).symm
  intro ls H locs a1 hl hP hD hS hs
  refine lv_iload hx hb d_Trans_raise_3 (lv_at hl 4 rfl) ?_
  refine lv_iload_n hx hb d_Trans_raise_5 rfl (lv_at hl 2 rfl) ?_
  refine k_icmp_ge (tgt := 44) hx hb d_Trans_raise_6 (by decide) (by omega) (by omega) (fun hc6 => ?_) (fun hc6 => ?_)
  · exact k_vret hx hb hr hlk hQ (a1) (by rw [hs]; unfold raA; exact it_x _ _ hc6 hjy) hP hD hS d_Trans_raise_44
  · refine lv_iconst (v := iv (0)) hx hb d_Trans_raise_9 rfl ?_
    refine lv_istore hx hb d_Trans_raise_10 hl (by decide) rfl (fun ls hl => ?_)
    have hl : lv_has ls 6 [(5, .int (iv (0))), (0, .ref ra), (1, .int (iv (w0))), (2, .int (iv (h0))), (3, .int (iv (gn0))), (4, .int (iv (y)))] := hl
    refine lo_up (P := fun x => ∀ (ls : Array Slot) (H : Heap) (locs : List Loc) (a2 : Int → Int64), lv_has ls 6 [(0, .ref ra), (1, .int (iv (w0))), (2, .int (iv (h0))), (3, .int (iv (gn0))), (4, .int (iv (y))), (5, .int (iv (x)))] → va_P (gD G) classes [(ra, al (gL G) 256 (a2))] H → va_D A [(ra, al (gL G) 256 (a2))] → va_S A s.heap H locs → (a2 = it (fun x f => up f (y * 16 + x) (shL (f (y * 16 + x)) gn0)) 0 x a1) → W p l e r_Trans_raise s m args below meth c H locs 0 0 Q (F0 m 12 ls [])) (a := 0) (b := w0) (fun x hix hjx ihx => ?_) _ _ _ a1 (lv_sub hl [1, 2, 3, 4, 5, 0] rfl) hP hD hS (it_self _ _ _).symm
    intro ls H locs a2 hl hP hD hS hs2
    refine lv_iload hx hb d_Trans_raise_12 (lv_at hl 5 rfl) ?_
    refine lv_iload_n hx hb d_Trans_raise_14 rfl (lv_at hl 1 rfl) ?_
    refine k_icmp_ge (tgt := 38) hx hb d_Trans_raise_15 (by decide) (by omega) (by omega) (fun hc15 => ?_) (fun hc15 => ?_)
    · refine lv_iinc (k := 4) (v := iv (y + 1)) hx hb d_Trans_raise_38 hl rfl (iv_add _ _) (by decide) rfl (fun ls hl => ?_)
      have hl : lv_has ls 6 [(4, .int (iv (y + 1))), (0, .ref ra), (1, .int (iv (w0))), (2, .int (iv (h0))), (3, .int (iv (gn0))), (5, .int (iv (x)))] := hl
      refine lv_goto (tgt := 3) hx hb d_Trans_raise_41 (by decide) ?_
      exact ihy (by omega) _ _ _ a2 (lv_sub hl [1, 2, 3, 4, 0] rfl) hP hD hS (by unfold raA; rw [it_s _ _ hiy]; show _ = it (fun x f => up f (y * 16 + x) (shL (f (y * 16 + x)) gn0)) 0 w0 (raA w0 y gn0 a0); rw [← hs, hs2]; exact it_x _ _ hc15 hjx)
    · refine lv_aload_n hx hb d_Trans_raise_18 rfl (lv_at hl 0 rfl) ?_
      refine lv_iload hx hb d_Trans_raise_19 (lv_at hl 4 rfl) ?_
      refine lv_bipush (v := iv (16)) hx hb d_Trans_raise_21 rfl ?_
      refine k_imul hx hb d_Trans_raise_23 ?_
      refine lv_iload hx hb d_Trans_raise_24 (lv_at hl 5 rfl) ?_
      refine k_iadd hx hb d_Trans_raise_26 ?_
      refine lv_dup2_11 hx hb d_Trans_raise_27 rfl rfl ?_
      refine k_lal hx hb hK hP 0 1 rfl rfl (by decide) (by omega) d_Trans_raise_28 ?_
      refine lv_iload_n hx hb d_Trans_raise_29 rfl (lv_at hl 3 rfl) ?_
      refine k_lshl hx hb d_Trans_raise_30 ?_
      refine k_las hx hb hK hP hD hS 0 1 rfl rfl (by decide) (by omega) d_Trans_raise_31 (fun H locs hP hD hS => ?_)
      have hP : va_P (gD G) classes [(ra, al (gL G) 256 (up a2 ((y * 16) + x) (shL (a2 ((y * 16) + x)) gn0)))] H := hP
      have hD : va_D A [(ra, al (gL G) 256 (up a2 ((y * 16) + x) (shL (a2 ((y * 16) + x)) gn0)))] := hD
      refine lv_iinc (k := 5) (v := iv (x + 1)) hx hb d_Trans_raise_32 hl rfl (iv_add _ _) (by decide) rfl (fun ls hl => ?_)
      have hl : lv_has ls 6 [(5, .int (iv (x + 1))), (0, .ref ra), (1, .int (iv (w0))), (2, .int (iv (h0))), (3, .int (iv (gn0))), (4, .int (iv (y)))] := hl
      refine lv_goto (tgt := 12) hx hb d_Trans_raise_35 (by decide) ?_
      exact ihx (by omega) _ _ _ (up a2 ((y * 16) + x) (shL (a2 ((y * 16) + x)) gn0)) (lv_sub hl [1, 2, 3, 4, 5, 0] rfl) hP hD hS (by rw [it_s _ _ hix, ← hs2])
abbrev w_Trans_lower : List Cond := Cond.code y_Trans_lower prog_7_method_5_code 6 none :: wl
abbrev r_Trans_lower : Room := { frames := 0, cells := 0, slots := 0, locals := 0 }
set_option maxHeartbeats 4000000 in
set_option maxRecDepth 100000 in
theorem c_Trans_lower (l : Launch) (G : k_G) (sz : Nat) (ra : Nat) (w0 h0 gn0 : Int) (a0 : Int → Int64) (hw0 : 0 ≤ w0 ∧ w0 ≤ 16) (hh0 : 0 ≤ h0 ∧ h0 ≤ 16) (hgn : 0 ≤ gn0 ∧ gn0 ≤ 1) : Met l y_Trans_lower w_Trans_lower r_Trans_lower (k_P G [.ref ra, .int (iv (w0)), .int (iv (h0)), .int (iv (gn0))] [(ra, al (gL G) 256 (a0))] sz) (qv G (fun u : Int → Int64 => u = loA w0 h0 gn0 a0) (fun u : Int → Int64 => [(ra, al (gL G) 256 (u))]) (va_A [(ra, al (gL G) 256 (a0))] sz)) 0 0 (va_A [(ra, al (gL G) 256 (a0))] sz) := by
  refine k_met (fun A => qv G (fun u : Int → Int64 => u = loA w0 h0 gn0 a0) (fun u : Int → Int64 => [(ra, al (gL G) 256 (u))]) A) (fun A => A) (by decide) rfl (Nat.le_of_ble_eq_true rfl) (fun p e s m args below meth c ls A Q S hr hlk hnm hl hsz hP hK hD hS hA hT hQ => ?_)
  obtain ⟨hx, hb, hml, hown, hts⟩ := id S
  have hw : ∀ w ∈ wl, w.before args s = true := fun w h => hts w (List.mem_cons_of_mem _ h)
  have hl : lv_has ls 6 [(0, .ref ra), (1, .int (iv (w0))), (2, .int (iv (h0))), (3, .int (iv (gn0)))] := hl
  refine lv_iconst (v := iv (0)) hx hb d_Trans_lower_0 rfl ?_
  refine lv_istore hx hb d_Trans_lower_1 hl (by decide) rfl (fun ls hl => ?_)
  have hl : lv_has ls 6 [(4, .int (iv (0))), (0, .ref ra), (1, .int (iv (w0))), (2, .int (iv (h0))), (3, .int (iv (gn0)))] := hl
  refine lo_up (P := fun y => ∀ (ls : Array Slot) (H : Heap) (locs : List Loc) (a1 : Int → Int64), lv_has ls 6 [(0, .ref ra), (1, .int (iv (w0))), (2, .int (iv (h0))), (3, .int (iv (gn0))), (4, .int (iv (y)))] → va_P (gD G) classes [(ra, al (gL G) 256 (a1))] H → va_D A [(ra, al (gL G) 256 (a1))] → va_S A s.heap H locs → (a1 = loA w0 y gn0 a0) → W p l e r_Trans_lower s m args below meth c H locs 0 0 Q (F0 m 3 ls [])) (a := 0) (b := h0) (fun y hiy hjy ihy => ?_) _ _ _ a0 (lv_sub hl [1, 2, 3, 4, 0] rfl) hP hD hS (it_self _ _ _).symm
  intro ls H locs a1 hl hP hD hS hs
  refine lv_iload hx hb d_Trans_lower_3 (lv_at hl 4 rfl) ?_
  refine lv_iload_n hx hb d_Trans_lower_5 rfl (lv_at hl 2 rfl) ?_
  refine k_icmp_ge (tgt := 55) hx hb d_Trans_lower_6 (by decide) (by omega) (by omega) (fun hc6 => ?_) (fun hc6 => ?_)
  · exact k_vret hx hb hr hlk hQ (a1) (by rw [hs]; unfold loA; exact it_x _ _ hc6 hjy) hP hD hS d_Trans_lower_55
  · refine lv_iconst (v := iv (0)) hx hb d_Trans_lower_9 rfl ?_
    refine lv_istore hx hb d_Trans_lower_10 hl (by decide) rfl (fun ls hl => ?_)
    have hl : lv_has ls 6 [(5, .int (iv (0))), (0, .ref ra), (1, .int (iv (w0))), (2, .int (iv (h0))), (3, .int (iv (gn0))), (4, .int (iv (y)))] := hl
    refine lo_up (P := fun x => ∀ (ls : Array Slot) (H : Heap) (locs : List Loc) (a2 : Int → Int64), lv_has ls 6 [(0, .ref ra), (1, .int (iv (w0))), (2, .int (iv (h0))), (3, .int (iv (gn0))), (4, .int (iv (y))), (5, .int (iv (x)))] → va_P (gD G) classes [(ra, al (gL G) 256 (a2))] H → va_D A [(ra, al (gL G) 256 (a2))] → va_S A s.heap H locs → (a2 = it (fun x f => up f (y * 16 + x) (shR (f (y * 16 + x) + lw gn0) gn0)) 0 x a1) → W p l e r_Trans_lower s m args below meth c H locs 0 0 Q (F0 m 12 ls [])) (a := 0) (b := w0) (fun x hix hjx ihx => ?_) _ _ _ a1 (lv_sub hl [1, 2, 3, 4, 5, 0] rfl) hP hD hS (it_self _ _ _).symm
    intro ls H locs a2 hl hP hD hS hs2
    refine lv_iload hx hb d_Trans_lower_12 (lv_at hl 5 rfl) ?_
    refine lv_iload_n hx hb d_Trans_lower_14 rfl (lv_at hl 1 rfl) ?_
    refine k_icmp_ge (tgt := 49) hx hb d_Trans_lower_15 (by decide) (by omega) (by omega) (fun hc15 => ?_) (fun hc15 => ?_)
    · refine lv_iinc (k := 4) (v := iv (y + 1)) hx hb d_Trans_lower_49 hl rfl (iv_add _ _) (by decide) rfl (fun ls hl => ?_)
      have hl : lv_has ls 6 [(4, .int (iv (y + 1))), (0, .ref ra), (1, .int (iv (w0))), (2, .int (iv (h0))), (3, .int (iv (gn0))), (5, .int (iv (x)))] := hl
      refine lv_goto (tgt := 3) hx hb d_Trans_lower_52 (by decide) ?_
      exact ihy (by omega) _ _ _ a2 (lv_sub hl [1, 2, 3, 4, 0] rfl) hP hD hS (by unfold loA; rw [it_s _ _ hiy]; show _ = it (fun x f => up f (y * 16 + x) (shR (f (y * 16 + x) + lw gn0) gn0)) 0 w0 (loA w0 y gn0 a0); rw [← hs, hs2]; exact it_x _ _ hc15 hjx)
    · refine lv_aload_n hx hb d_Trans_lower_18 rfl (lv_at hl 0 rfl) ?_
      refine lv_iload hx hb d_Trans_lower_19 (lv_at hl 4 rfl) ?_
      refine lv_bipush (v := iv (16)) hx hb d_Trans_lower_21 rfl ?_
      refine k_imul hx hb d_Trans_lower_23 ?_
      refine lv_iload hx hb d_Trans_lower_24 (lv_at hl 5 rfl) ?_
      refine k_iadd hx hb d_Trans_lower_26 ?_
      refine lv_aload_n hx hb d_Trans_lower_27 rfl (lv_at hl 0 rfl) ?_
      refine lv_iload hx hb d_Trans_lower_28 (lv_at hl 4 rfl) ?_
      refine lv_bipush (v := iv (16)) hx hb d_Trans_lower_30 rfl ?_
      refine k_imul hx hb d_Trans_lower_32 ?_
      refine lv_iload hx hb d_Trans_lower_33 (lv_at hl 5 rfl) ?_
      refine k_iadd hx hb d_Trans_lower_35 ?_
      refine k_lal hx hb hK hP 0 1 rfl rfl (by decide) (by omega) d_Trans_lower_36 ?_
      refine lv_iload_n hx hb d_Trans_lower_37 rfl (lv_at hl 3 rfl) ?_
      refine k_i2l hx hb d_Trans_lower_38 (by omega) ?_
      refine lv_ladd hx hb d_Trans_lower_39 ?_
      refine lv_iload_n hx hb d_Trans_lower_40 rfl (lv_at hl 3 rfl) ?_
      refine k_lshr hx hb d_Trans_lower_41 ?_
      refine k_las hx hb hK hP hD hS 0 1 rfl rfl (by decide) (by omega) d_Trans_lower_42 (fun H locs hP hD hS => ?_)
      have hP : va_P (gD G) classes [(ra, al (gL G) 256 (up a2 ((y * 16) + x) (shR ((a2 ((y * 16) + x)) + (lw gn0)) gn0)))] H := hP
      have hD : va_D A [(ra, al (gL G) 256 (up a2 ((y * 16) + x) (shR ((a2 ((y * 16) + x)) + (lw gn0)) gn0)))] := hD
      refine lv_iinc (k := 5) (v := iv (x + 1)) hx hb d_Trans_lower_43 hl rfl (iv_add _ _) (by decide) rfl (fun ls hl => ?_)
      have hl : lv_has ls 6 [(5, .int (iv (x + 1))), (0, .ref ra), (1, .int (iv (w0))), (2, .int (iv (h0))), (3, .int (iv (gn0))), (4, .int (iv (y)))] := hl
      refine lv_goto (tgt := 12) hx hb d_Trans_lower_46 (by decide) ?_
      exact ihx (by omega) _ _ _ (up a2 ((y * 16) + x) (shR ((a2 ((y * 16) + x)) + (lw gn0)) gn0)) (lv_sub hl [1, 2, 3, 4, 5, 0] rfl) hP hD hS (by rw [it_s _ _ hix, ← hs2])
