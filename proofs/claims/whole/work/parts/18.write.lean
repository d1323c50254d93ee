/-! rebuilding a slice, measuring, writing -/
def prd (pr : Int) (gb gp : Int → Int) (v : Int → Int64) (i : Int) : Int64 := if pr = 0 ∨ ¬ gb i = 0 then 0 else fcL v (gp i)
def rrI (es gb : Int → Int) (q i : Int) : Int := max 0 (q - es (gb i))
def rbs (pr : Int) (es gb gp qf qo n : Int → Int) (q : Int) : Int → (Int → Int64) → (Int → Int64) := fun i v => up v (gp i) (bdL (prd pr gb gp v i + vlC (n i) (qf (rrI es gb q i)) (qo (rrI es gb q i))))
theorem rqI_r {g : Int → Int} {nu de s : Int} (hok : okR nu de) (hs : 0 ≤ s ∧ s < 16) : 0 ≤ rqI g nu de s ∧ rqI g nu de s ≤ 31 := by
  have q1 := sBy_r hok (s := s) (by omega)
  have q2 := sBy_r hok (s := s + 1) (by omega)
  have q3 := sBy_s hok (s := s)
  have q7 := tkF_r (g := g) (n := 5) (a := 8 * sBy nu de s) (en := 8 * sBy nu de s + 5) (by omega) (by omega) (by omega)
  have e : (2 : Int) ^ (5 : Int).toNat = 32 := by decide
  unfold rqI
  omega
/-- an Int64 within a bound -/
def bd (B : Int) (x : Int64) : Prop := -B ≤ x.toInt ∧ x.toInt ≤ B
theorem bd_0 {B : Int} (h : 0 ≤ B) : bd B 0 := by
  have e : (0 : Int64).toInt = 0 := by decide
  unfold bd; omega
theorem bm_e {z : Int} (h : -9223372036854775808 ≤ z ∧ z < 9223372036854775808) : z.bmod (2 ^ 64) = z := Int.bmod_eq_of_le (by omega) (by omega)
theorem bd_add {A B : Int} {x y : Int64} (hx : bd A x) (hy : bd B y) (h : A + B < 9223372036854775808) : bd (A + B) (x + y) ∧ (x + y).toInt = x.toInt + y.toInt := by
  unfold bd at *
  have e : (x + y).toInt = x.toInt + y.toInt := by rw [Int64.toInt_add, bm_e ⟨by omega, by omega⟩]
  omega
theorem bd_sub {A B : Int} {x y : Int64} (hx : bd A x) (hy : bd B y) (h : A + B < 9223372036854775808) : bd (A + B) (x - y) ∧ (x - y).toInt = x.toInt - y.toInt := by
  unfold bd at *
  have e : (x - y).toInt = x.toInt - y.toInt := by rw [Int64.toInt_sub, bm_e ⟨by omega, by omega⟩]
  omega
theorem bd_neg {A : Int} {x : Int64} (hx : bd A x) (h : A < 9223372036854775808) : bd A (-x) ∧ (-x).toInt = -x.toInt := by
  unfold bd at *
  have e : (-x).toInt = -x.toInt := by rw [Int64.toInt_neg, bm_e ⟨by omega, by omega⟩]
  omega
theorem bd_le {A B : Int} {x : Int64} (hx : bd A x) (h : A ≤ B) : bd B x := by unfold bd at *; omega
theorem bdL_b (c : Int64) : bd 134217728 (bdL c) := by
  unfold bdL mxL mnL bd
  have e1 : (-134217728 : Int64).toInt = -134217728 := by decide
  have e2 : (134217728 : Int64).toInt = 134217728 := by decide
  by_cases h1 : c < 134217728
  · rw [if_pos h1]
    rw [Int64.lt_iff_toInt_lt] at h1
    by_cases h2 : c < -134217728
    · rw [if_pos h2, e1]; omega
    · rw [if_neg h2]
      rw [Int64.lt_iff_toInt_lt] at h2
      omega
  · rw [if_neg h1, if_neg (by decide), e2]; omega
theorem l3 : (3 : Int64).toInt = 3 := by decide
theorem fdv3 {B : Int} {x : Int64} (hx : bd B x) (h : B < 9223372036854775800) : bd (B + 1) (fdv x 3) := by
  have hd : (x / 3).toInt = x.toInt.tdiv 3 := by rw [Int64.toInt_div_of_ne_right _ _ (by decide), l3]
  have hq : -B ≤ x.toInt.tdiv 3 ∧ x.toInt.tdiv 3 ≤ B := by
    unfold bd at hx
    by_cases h0 : 0 ≤ x.toInt
    · rw [Int.tdiv_eq_ediv_of_nonneg h0]; omega
    · have : x.toInt.tdiv 3 = -((-x.toInt) / 3) := by
        rw [← Int.tdiv_eq_ediv_of_nonneg (by omega), Int.neg_tdiv, Int.neg_neg]
      rw [this]; omega
  have b1 : bd B (x / 3) := by unfold bd; rw [hd]; exact hq
  have hB : 0 ≤ B := by unfold bd at hx; omega
  have o1 : bd 1 (1 : Int64) := by unfold bd; decide
  unfold fdv
  split
  · exact bd_le b1 (by omega)
  · split
    · exact bd_le b1 (by omega)
    · exact (bd_sub b1 o1 (by omega)).1
theorem fcL_b {v : Int → Int64} {p : Int} (hv : ∀ j, bd 134217728 (v j)) : bd 402653186 (fcL v p) := by
  have o1 : bd 1 (1 : Int64) := by unfold bd; decide
  unfold fcL
  split
  · split
    · exact bd_0 (by omega)
    · exact bd_le (hv _) (by omega)
  · split
    · exact bd_le (hv _) (by omega)
    · have a1 := (bd_add (hv (p - 1)) (hv (p - 16)) (by omega)).1
      have a2 := (bd_add a1 (hv (p - 17)) (by omega)).1
      have a3 := (bd_add a2 o1 (by omega)).1
      exact bd_le (fdv3 a3 (by omega)) (by omega)
theorem prd_b {pr : Int} {gb gp : Int → Int} {v : Int → Int64} {i : Int} (hv : ∀ j, bd 134217728 (v j)) : bd 402653186 (prd pr gb gp v i) := by
  unfold prd
  split
  · exact bd_0 (by omega)
  · exact fcL_b hv
theorem bd_up {B : Int} {v : Int → Int64} {k : Int} {x : Int64} (hv : ∀ j, bd B (v j)) (hx : bd B x) : ∀ j, bd B (up v k x j) := by
  intro j
  unfold up
  split
  · exact hx
  · exact hv j
/-- the number of a bounded coefficient -/
theorem nmC_v {c : Int64} {f : Int} (hc : bd 1152921504606846976 c) (hf : 0 < f ∧ f < 2147483648) : nmC c f = if 0 ≤ c.toInt then min 134217726 (4 * c.toInt / f) else -(min 134217726 (4 * -c.toInt / f)) := by
  have z : (0 : Int64).toInt = 0 := by decide
  have e4 : (4 : Int64).toInt = 4 := by decide
  have em : (134217726 : Int64).toInt = 134217726 := by decide
  have ha : (abL c).toInt = if 0 ≤ c.toInt then c.toInt else -c.toInt := by
    unfold abL
    by_cases h : (0 : Int64) < c
    · rw [if_pos h]
      rw [Int64.lt_iff_toInt_lt, z] at h
      rw [if_pos (by omega)]
    · rw [if_neg h, (bd_neg hc (by omega)).2]
      rw [Int64.lt_iff_toInt_lt, z] at h
      split <;> omega
  have h0 : 0 ≤ (abL c).toInt ∧ (abL c).toInt ≤ 1152921504606846976 := by
    unfold bd at hc
    rw [ha]; split <;> omega
  have h4 : (4 * abL c).toInt = 4 * (abL c).toInt := by
    rw [Int64.toInt_mul, e4, bm_e ⟨by omega, by omega⟩]
  have hf2 : (lw f).toInt = f := lw_toInt ⟨by omega, by omega⟩
  have hd : (4 * abL c / lw f).toInt = 4 * (abL c).toInt / f := by
    rw [Int64.toInt_div_of_ne_right _ _ (by intro q; have := congrArg Int64.toInt q; rw [hf2] at this; have e1 : (-1 : Int64).toInt = -1 := by decide
                                            omega), h4, hf2, Int.tdiv_eq_ediv_of_nonneg (by omega)]
  have hm : (mnL 134217726 (4 * abL c / lw f)).toInt = min 134217726 (4 * (abL c).toInt / f) := by
    unfold mnL
    by_cases h : 4 * abL c / lw f < 134217726
    · rw [if_pos h, hd]
      rw [Int64.lt_iff_toInt_lt, hd, em] at h
      omega
    · rw [if_neg h, em]
      rw [Int64.lt_iff_toInt_lt, hd, em] at h
      omega
  unfold nmC
  by_cases h : (0 : Int64) ≤ c
  · rw [if_pos h, hm, ha]
    rw [Int64.le_iff_toInt_le, z] at h
    rw [if_pos h, if_pos h]
  · rw [if_neg h, hm, ha]
    rw [Int64.le_iff_toInt_le, z] at h
    rw [if_neg h, if_neg h]
theorem nmC_r {c : Int64} {f : Int} (hc : bd 1152921504606846976 c) (hf : 0 < f ∧ f < 2147483648) : -134217726 ≤ nmC c f ∧ nmC c f ≤ 134217726 := by
  rw [nmC_v hc hf]
  have h1 : 0 ≤ c.toInt → 0 ≤ 4 * c.toInt / f := fun h => Int.ediv_nonneg (by omega) (by omega)
  have h2 : ¬ 0 ≤ c.toInt → 0 ≤ 4 * -c.toInt / f := fun h => Int.ediv_nonneg (by omega) (by omega)
  split
  · rename_i h; have := h1 h; omega
  · rename_i h; have := h2 h; omega
/-- measuring: (size, length, numbers, row) -/
def msx (pr : Int) (es gb gp qf qo : Int → Int) (cf : Int → Int64) (q : Int) : Int → Int × Int × (Int → Int) × (Int → Int64) → Int × Int × (Int → Int) × (Int → Int64) := fun i x =>
  let v := nmC (cf (gp i) - prd pr gb gp x.2.2.2 i) (qf (rrI es gb q i))
  (x.1 + szN v, (if 0 < zlN v then x.1 + zlN v else x.2.1), up x.2.2.1 i v, up x.2.2.2 (gp i) (bdL (prd pr gb gp x.2.2.2 i + vlC (up x.2.2.1 i v i) (qf (rrI es gb q i)) (qo (rrI es gb q i)))))
def msf (ro : Int) (pr : Int) (es gb gp qf qo : Int → Int) (cf : Int → Int64) (q : Int) : Int → Int × Int × (Int → Int) × (Int → Int64) → Int × Int × (Int → Int) × (Int → Int64) := fun i x => if ro < x.2.1 then x else msx pr es gb gp qf qo cf q i x
theorem msx_e {pr : Int} {es gb gp qf qo : Int → Int} {cf : Int → Int64} {q i z n v : Int} {gn : Int → Int} {gv : Int → Int64} {p : Int64} (hp : p = prd pr gb gp gv i) (hv : v = nmC (cf (gp i) - p) (qf (rrI es gb q i))) :
    msx pr es gb gp qf qo cf q i (z, n, gn, gv) = (z + szN v, (if 0 < zlN v then z + zlN v else n), up gn i v, up gv (gp i) (bdL (p + vlC (up gn i v i) (qf (rrI es gb q i)) (qo (rrI es gb q i))))) := by
  subst hp; subst hv; rfl
theorem it_stop {σ : Type} {f : Int → σ → σ} {a b i : Int} {x y : σ} (hi : a ≤ i) (hb : i ≤ b) (h : it f a i x = y) (hf : ∀ j, f j y = y) : it f a b x = y := by
  obtain ⟨n, hn⟩ : ∃ n : Nat, b = i + n := ⟨(b - i).toNat, by omega⟩
  subst hn
  clear hb
  induction n with
  | zero => simpa using h
  | succ n ih =>
    have e : i + ((n + 1 : Nat) : Int) = (i + n) + 1 := by omega
    rw [e, it_s f x (by omega), ih, hf]
theorem szN_r {v : Int} (h : -134217726 ≤ v ∧ v ≤ 134217726) : 1 ≤ szN v ∧ szN v ≤ 54 ∧ zlN v ≤ szN v ∧ -1 ≤ zlN v := by
  have hab : 0 ≤ absI v ∧ absI v ≤ 134217726 := by unfold absI; split <;> omega
  have hlg := lg_r (i := absI v + 1) 27 134217728 (by decide) (by omega) (by omega)
  have e : v < 0 → absI v + 1 = 1 - v := fun q => by unfold absI; rw [if_neg (by omega)]; omega
  have e2 : v < 0 → lg (1 - v) = lg (absI v + 1) := fun q => by rw [e q]
  unfold zlN szN
  by_cases q : v < 0
  · have e3 := e2 q
    repeat' split
    all_goals omega
  · repeat' split
    all_goals omega
/-- the bits of a slice, written -/
def wbf (en : Int) (gn : Int → Int) : Int → Int × (Int → Int) → Int × (Int → Int) := fun i x => ptN en (gn i) x
def wbA (fb ld fr tt q len : Int) (gn g : Int → Int) : Int × (Int → Int) := it (wbf (fb + (5 + ld + len)) gn) fr tt (ptF (fb + (5 + ld + len)) len ld (ptF (fb + (5 + ld + len)) q 5 (fb, g)))
theorem it_r {en : Int} {f : Int → Int × (Int → Int) → Int × (Int → Int)} {a b : Int} {x : Int × (Int → Int)} (hf : ∀ i y, (0 ≤ y.1 ∧ y.1 ≤ 16384) → 0 ≤ (f i y).1 ∧ (f i y).1 ≤ 16384) (h : 0 ≤ x.1 ∧ x.1 ≤ 16384) : 0 ≤ (it f a b x).1 ∧ (it f a b x).1 ≤ 16384 := by
  by_cases hab : a ≤ b
  · exact it_inv (I := fun _ (y : Int × (Int → Int)) => 0 ≤ y.1 ∧ y.1 ≤ 16384) h (fun i y _ _ hy => hf i y hy) hab
  · rw [it_le _ _ (by omega)]; exact h
theorem ptF_r {en v n : Int} {x : Int × (Int → Int)} (h : 0 ≤ x.1 ∧ x.1 ≤ 16384) (he : 0 ≤ en ∧ en ≤ 16384) : 0 ≤ (ptF en v n x).1 ∧ (ptF en v n x).1 ≤ 16384 := it_r (en := en) (fun i y hy => pt_r hy he) h
theorem ptN_r {en v : Int} {x : Int × (Int → Int)} (h : 0 ≤ x.1 ∧ x.1 ≤ 16384) (he : 0 ≤ en ∧ en ≤ 16384) : 0 ≤ (ptN en v x).1 ∧ (ptN en v x).1 ≤ 16384 := by
  have h1 := it_r (en := en) (f := ptg en (absI v + 1) (lg (absI v + 1))) (a := 0) (b := lg (absI v + 1)) (x := x) (fun i y hy => pt_r (pt_r hy he) he) h
  unfold ptN
  dsimp only
  by_cases c1 : lg (absI v + 1) < 26
  · rw [if_pos c1]
    have h2 := pt_r (b := 1) h1 he
    split
    · exact h2
    · exact pt_r h2 he
  · rw [if_neg c1]
    split
    · exact h1
    · exact pt_r h1 he
theorem m3_0 : Cond.code y_Bits_putField prog_2_method_5_code 4 none ∈ wl := wl_3 0 (by decide +kernel) (by decide +kernel)
theorem m3_8 : Cond.code y_Bits_putNumber prog_2_method_7_code 5 none ∈ wl := wl_3 8 (by decide +kernel) (by decide +kernel)
theorem m2_218 : Cond.code y_Bits_sizeToLastZero prog_2_method_10_code 3 (some .int) ∈ wl := wl_2 218 (by decide +kernel) (by decide +kernel)
theorem m2_193 : Cond.code y_Quant_numberOf prog_4_method_2_code 5 (some .int) ∈ wl := wl_2 193 (by decide +kernel) (by decide +kernel)
theorem m2_180 : Cond.code y_Coder_predictionAt prog_6_method_14_code 8 (some .long) ∈ wl := wl_2 180 (by decide +kernel) (by decide +kernel)
theorem m3_16 : Cond.code y_Coder_readQuantiser prog_6_method_3_code 2 (some .int) ∈ wl := wl_3 16 (by decide +kernel) (by decide +kernel)
theorem m2_203 : Cond.code y_Coder_rebuildAt prog_6_method_13_code 8 none ∈ wl := wl_2 203 (by decide +kernel) (by decide +kernel)
theorem m2_238 : Cond.instanceMethod y_Bits_putField ∈ wl := wl_2 238 (by decide +kernel) (by decide +kernel)
theorem m3_6 : Cond.instanceMethod y_Bits_putNumber ∈ wl := wl_3 6 (by decide +kernel) (by decide +kernel)
theorem m2_191 : Cond.instanceMethod y_Quant_numberOf ∈ wl := wl_2 191 (by decide +kernel) (by decide +kernel)
theorem m2_179 : Cond.instanceMethod y_Coder_predictionAt ∈ wl := wl_2 179 (by decide +kernel) (by decide +kernel)
theorem m3_14 : Cond.instanceMethod y_Coder_readQuantiser ∈ wl := wl_3 14 (by decide +kernel) (by decide +kernel)
theorem m2_202 : Cond.instanceMethod y_Coder_rebuildAt ∈ wl := wl_2 202 (by decide +kernel) (by decide +kernel)
theorem m2_237 : Cond.methodLink "WaveletSlices$SliceCoder" 145 y_Bits_putField ∈ wl := wl_2 237 (by decide +kernel) (by decide +kernel)
theorem m3_5 : Cond.methodLink "WaveletSlices$SliceCoder" 148 y_Bits_putNumber ∈ wl := wl_3 5 (by decide +kernel) (by decide +kernel)
theorem m2_227 : Cond.methodLink "WaveletSlices$SliceCoder" 142 y_Bits_sizeOf ∈ wl := wl_2 227 (by decide +kernel) (by decide +kernel)
theorem m2_216 : Cond.methodLink "WaveletSlices$SliceCoder" 139 y_Bits_sizeToLastZero ∈ wl := wl_2 216 (by decide +kernel) (by decide +kernel)
theorem m2_190 : Cond.methodLink "WaveletSlices$SliceCoder" 135 y_Quant_numberOf ∈ wl := wl_2 190 (by decide +kernel) (by decide +kernel)
theorem m2_177 : Cond.methodLink "WaveletSlices$SliceCoder" 88 y_Coder_predictionAt ∈ wl := wl_2 177 (by decide +kernel) (by decide +kernel)
theorem m3_13 : Cond.methodLink "WaveletSlices$SliceCoder" 85 y_Coder_readQuantiser ∈ wl := wl_3 13 (by decide +kernel) (by decide +kernel)
theorem m2_200 : Cond.methodLink "WaveletSlices$SliceCoder" 92 y_Coder_rebuildAt ∈ wl := wl_2 200 (by decide +kernel) (by decide +kernel)
theorem m2_239 : Cond.selects "WaveletSlices$Bits" y_Bits_putField y_Bits_putField ∈ wl := wl_2 239 (by decide +kernel) (by decide +kernel)
theorem m3_7 : Cond.selects "WaveletSlices$Bits" y_Bits_putNumber y_Bits_putNumber ∈ wl := wl_3 7 (by decide +kernel) (by decide +kernel)
theorem m2_192 : Cond.selects "WaveletSlices$Quantiser" y_Quant_numberOf y_Quant_numberOf ∈ wl := wl_2 192 (by decide +kernel) (by decide +kernel)
theorem mp_9 : Cond.selects "WaveletSlices$SliceCoder" y_Coder_predictionAt y_Coder_predictionAt ∈ wl := wl_p 9 (by decide +kernel) (by decide +kernel)
theorem m3_15 : Cond.selects "WaveletSlices$SliceCoder" y_Coder_readQuantiser y_Coder_readQuantiser ∈ wl := wl_3 15 (by decide +kernel) (by decide +kernel)
theorem mp_11 : Cond.selects "WaveletSlices$SliceCoder" y_Coder_rebuildAt y_Coder_rebuildAt ∈ wl := wl_p 11 (by decide +kernel) (by decide +kernel)
theorem m2_217 : Cond.static y_Bits_sizeToLastZero ∈ wl := wl_2 217 (by decide +kernel) (by decide +kernel)
theorem d_Coder_readSlice_0 : decode prog_6_method_6_code 0 = .ok (.aload_n 0, 1) := by decide +kernel
theorem d_Coder_readSlice_1 : decode prog_6_method_6_code 1 = .ok (.iload_n 1, 1) := by decide +kernel
theorem d_Coder_readSlice_2 : decode prog_6_method_6_code 2 = .ok (.invokevirtual 85, 3) := by decide +kernel
theorem d_Coder_readSlice_5 : decode prog_6_method_6_code 5 = .ok (.istore_n 3, 1) := by decide +kernel
theorem d_Coder_readSlice_6 : decode prog_6_method_6_code 6 = .ok (.aload_n 0, 1) := by decide +kernel
theorem d_Coder_readSlice_7 : decode prog_6_method_6_code 7 = .ok (.iload_n 1, 1) := by decide +kernel
theorem d_Coder_readSlice_8 : decode prog_6_method_6_code 8 = .ok (.invokevirtual 82, 3) := by decide +kernel
theorem d_Coder_readSlice_11 : decode prog_6_method_6_code 11 = .ok (.aload_n 0, 1) := by decide +kernel
theorem d_Coder_readSlice_12 : decode prog_6_method_6_code 12 = .ok (.getfield 34, 3) := by decide +kernel
theorem d_Coder_readSlice_15 : decode prog_6_method_6_code 15 = .ok (.istore 4, 2) := by decide +kernel
theorem d_Coder_readSlice_17 : decode prog_6_method_6_code 17 = .ok (.iload 4, 2) := by decide +kernel
theorem d_Coder_readSlice_19 : decode prog_6_method_6_code 19 = .ok (.aload_n 0, 1) := by decide +kernel
theorem d_Coder_readSlice_20 : decode prog_6_method_6_code 20 = .ok (.getfield 38, 3) := by decide +kernel
theorem d_Coder_readSlice_23 : decode prog_6_method_6_code 23 = .ok (.if_icmp .ge 24, 3) := by decide +kernel
theorem d_Coder_readSlice_26 : decode prog_6_method_6_code 26 = .ok (.aload_n 0, 1) := by decide +kernel
theorem d_Coder_readSlice_27 : decode prog_6_method_6_code 27 = .ok (.iload 4, 2) := by decide +kernel
theorem d_Coder_readSlice_29 : decode prog_6_method_6_code 29 = .ok (.iload_n 3, 1) := by decide +kernel
theorem d_Coder_readSlice_30 : decode prog_6_method_6_code 30 = .ok (.aload_n 0, 1) := by decide +kernel
theorem d_Coder_readSlice_31 : decode prog_6_method_6_code 31 = .ok (.iload 4, 2) := by decide +kernel
theorem d_Coder_readSlice_33 : decode prog_6_method_6_code 33 = .ok (.aload_n 2, 1) := by decide +kernel
theorem d_Coder_readSlice_34 : decode prog_6_method_6_code 34 = .ok (.invokevirtual 88, 3) := by decide +kernel
theorem d_Coder_readSlice_37 : decode prog_6_method_6_code 37 = .ok (.aload_n 2, 1) := by decide +kernel
theorem d_Coder_readSlice_38 : decode prog_6_method_6_code 38 = .ok (.invokevirtual 92, 3) := by decide +kernel
theorem d_Coder_readSlice_41 : decode prog_6_method_6_code 41 = .ok (.iinc 4 1, 3) := by decide +kernel
theorem d_Coder_readSlice_44 : decode prog_6_method_6_code 44 = .ok (.goto (-27), 3) := by decide +kernel
theorem d_Coder_readSlice_47 : decode prog_6_method_6_code 47 = .ok (.return_, 1) := by decide +kernel
theorem d_Coder_writeBits_0 : decode prog_6_method_11_code 0 = .ok (.aload_n 0, 1) := by decide +kernel
theorem d_Coder_writeBits_1 : decode prog_6_method_11_code 1 = .ok (.getfield 27, 3) := by decide +kernel
theorem d_Coder_writeBits_4 : decode prog_6_method_11_code 4 = .ok (.aload_n 0, 1) := by decide +kernel
theorem d_Coder_writeBits_5 : decode prog_6_method_11_code 5 = .ok (.getfield 41, 3) := by decide +kernel
theorem d_Coder_writeBits_8 : decode prog_6_method_11_code 8 = .ok (.iconst 5, 1) := by decide +kernel
theorem d_Coder_writeBits_9 : decode prog_6_method_11_code 9 = .ok (.aload_n 0, 1) := by decide +kernel
theorem d_Coder_writeBits_10 : decode prog_6_method_11_code 10 = .ok (.getfield 44, 3) := by decide +kernel
theorem d_Coder_writeBits_13 : decode prog_6_method_11_code 13 = .ok (.iadd, 1) := by decide +kernel
theorem d_Coder_writeBits_14 : decode prog_6_method_11_code 14 = .ok (.iload_n 2, 1) := by decide +kernel
theorem d_Coder_writeBits_15 : decode prog_6_method_11_code 15 = .ok (.iadd, 1) := by decide +kernel
theorem d_Coder_writeBits_16 : decode prog_6_method_11_code 16 = .ok (.invokevirtual 68, 3) := by decide +kernel
theorem d_Coder_writeBits_19 : decode prog_6_method_11_code 19 = .ok (.aload_n 0, 1) := by decide +kernel
theorem d_Coder_writeBits_20 : decode prog_6_method_11_code 20 = .ok (.getfield 27, 3) := by decide +kernel
theorem d_Coder_writeBits_23 : decode prog_6_method_11_code 23 = .ok (.iload_n 1, 1) := by decide +kernel
theorem d_Coder_writeBits_24 : decode prog_6_method_11_code 24 = .ok (.iconst 5, 1) := by decide +kernel
theorem d_Coder_writeBits_25 : decode prog_6_method_11_code 25 = .ok (.invokevirtual 145, 3) := by decide +kernel
theorem d_Coder_writeBits_28 : decode prog_6_method_11_code 28 = .ok (.aload_n 0, 1) := by decide +kernel
theorem d_Coder_writeBits_29 : decode prog_6_method_11_code 29 = .ok (.getfield 27, 3) := by decide +kernel
theorem d_Coder_writeBits_32 : decode prog_6_method_11_code 32 = .ok (.iload_n 2, 1) := by decide +kernel
theorem d_Coder_writeBits_33 : decode prog_6_method_11_code 33 = .ok (.aload_n 0, 1) := by decide +kernel
theorem d_Coder_writeBits_34 : decode prog_6_method_11_code 34 = .ok (.getfield 44, 3) := by decide +kernel
theorem d_Coder_writeBits_37 : decode prog_6_method_11_code 37 = .ok (.invokevirtual 145, 3) := by decide +kernel
theorem d_Coder_writeBits_40 : decode prog_6_method_11_code 40 = .ok (.aload_n 0, 1) := by decide +kernel
theorem d_Coder_writeBits_41 : decode prog_6_method_11_code 41 = .ok (.getfield 34, 3) := by decide +kernel
theorem d_Coder_writeBits_44 : decode prog_6_method_11_code 44 = .ok (.istore_n 3, 1) := by decide +kernel
theorem d_Coder_writeBits_45 : decode prog_6_method_11_code 45 = .ok (.iload_n 3, 1) := by decide +kernel
theorem d_Coder_writeBits_46 : decode prog_6_method_11_code 46 = .ok (.aload_n 0, 1) := by decide +kernel
theorem d_Coder_writeBits_47 : decode prog_6_method_11_code 47 = .ok (.getfield 38, 3) := by decide +kernel
theorem d_Coder_writeBits_50 : decode prog_6_method_11_code 50 = .ok (.if_icmp .ge 22, 3) := by decide +kernel
theorem d_Coder_writeBits_53 : decode prog_6_method_11_code 53 = .ok (.aload_n 0, 1) := by decide +kernel
theorem d_Coder_writeBits_54 : decode prog_6_method_11_code 54 = .ok (.getfield 27, 3) := by decide +kernel
theorem d_Coder_writeBits_57 : decode prog_6_method_11_code 57 = .ok (.aload_n 0, 1) := by decide +kernel
theorem d_Coder_writeBits_58 : decode prog_6_method_11_code 58 = .ok (.getfield 31, 3) := by decide +kernel
theorem d_Coder_writeBits_61 : decode prog_6_method_11_code 61 = .ok (.iload_n 3, 1) := by decide +kernel
theorem d_Coder_writeBits_62 : decode prog_6_method_11_code 62 = .ok (.iaload, 1) := by decide +kernel
theorem d_Coder_writeBits_63 : decode prog_6_method_11_code 63 = .ok (.invokevirtual 148, 3) := by decide +kernel
theorem d_Coder_writeBits_66 : decode prog_6_method_11_code 66 = .ok (.iinc 3 1, 3) := by decide +kernel
theorem d_Coder_writeBits_69 : decode prog_6_method_11_code 69 = .ok (.goto (-24), 3) := by decide +kernel
theorem d_Coder_writeBits_72 : decode prog_6_method_11_code 72 = .ok (.return_, 1) := by decide +kernel
theorem d_Coder_measure_0 : decode prog_6_method_10_code 0 = .ok (.iconst 0, 1) := by decide +kernel
theorem d_Coder_measure_1 : decode prog_6_method_10_code 1 = .ok (.istore 4, 2) := by decide +kernel
theorem d_Coder_measure_3 : decode prog_6_method_10_code 3 = .ok (.iconst 0, 1) := by decide +kernel
theorem d_Coder_measure_4 : decode prog_6_method_10_code 4 = .ok (.istore 5, 2) := by decide +kernel
theorem d_Coder_measure_6 : decode prog_6_method_10_code 6 = .ok (.aload_n 0, 1) := by decide +kernel
theorem d_Coder_measure_7 : decode prog_6_method_10_code 7 = .ok (.getfield 34, 3) := by decide +kernel
theorem d_Coder_measure_10 : decode prog_6_method_10_code 10 = .ok (.istore 6, 2) := by decide +kernel
theorem d_Coder_measure_12 : decode prog_6_method_10_code 12 = .ok (.iload 6, 2) := by decide +kernel
theorem d_Coder_measure_14 : decode prog_6_method_10_code 14 = .ok (.aload_n 0, 1) := by decide +kernel
theorem d_Coder_measure_15 : decode prog_6_method_10_code 15 = .ok (.getfield 38, 3) := by decide +kernel
theorem d_Coder_measure_18 : decode prog_6_method_10_code 18 = .ok (.if_icmp .ge 106, 3) := by decide +kernel
theorem d_Coder_measure_21 : decode prog_6_method_10_code 21 = .ok (.iload 5, 2) := by decide +kernel
theorem d_Coder_measure_23 : decode prog_6_method_10_code 23 = .ok (.aload_n 0, 1) := by decide +kernel
theorem d_Coder_measure_24 : decode prog_6_method_10_code 24 = .ok (.getfield 47, 3) := by decide +kernel
theorem d_Coder_measure_27 : decode prog_6_method_10_code 27 = .ok (.if_icmp .gt 97, 3) := by decide +kernel
theorem d_Coder_measure_30 : decode prog_6_method_10_code 30 = .ok (.aload_n 0, 1) := by decide +kernel
theorem d_Coder_measure_31 : decode prog_6_method_10_code 31 = .ok (.iload 6, 2) := by decide +kernel
theorem d_Coder_measure_33 : decode prog_6_method_10_code 33 = .ok (.aload_n 3, 1) := by decide +kernel
theorem d_Coder_measure_34 : decode prog_6_method_10_code 34 = .ok (.invokevirtual 88, 3) := by decide +kernel
theorem d_Coder_measure_37 : decode prog_6_method_10_code 37 = .ok (.lstore 7, 2) := by decide +kernel
theorem d_Coder_measure_39 : decode prog_6_method_10_code 39 = .ok (.aload_n 0, 1) := by decide +kernel
theorem d_Coder_measure_40 : decode prog_6_method_10_code 40 = .ok (.getfield 18, 3) := by decide +kernel
theorem d_Coder_measure_43 : decode prog_6_method_10_code 43 = .ok (.aload_n 2, 1) := by decide +kernel
theorem d_Coder_measure_44 : decode prog_6_method_10_code 44 = .ok (.aload_n 0, 1) := by decide +kernel
theorem d_Coder_measure_45 : decode prog_6_method_10_code 45 = .ok (.getfield 54, 3) := by decide +kernel
theorem d_Coder_measure_48 : decode prog_6_method_10_code 48 = .ok (.getfield 129, 3) := by decide +kernel
theorem d_Coder_measure_51 : decode prog_6_method_10_code 51 = .ok (.iload 6, 2) := by decide +kernel
theorem d_Coder_measure_53 : decode prog_6_method_10_code 53 = .ok (.iaload, 1) := by decide +kernel
theorem d_Coder_measure_54 : decode prog_6_method_10_code 54 = .ok (.laload, 1) := by decide +kernel
theorem d_Coder_measure_55 : decode prog_6_method_10_code 55 = .ok (.lload 7, 2) := by decide +kernel
theorem d_Coder_measure_57 : decode prog_6_method_10_code 57 = .ok (.lsub, 1) := by decide +kernel
theorem d_Coder_measure_58 : decode prog_6_method_10_code 58 = .ok (.aload_n 0, 1) := by decide +kernel
theorem d_Coder_measure_59 : decode prog_6_method_10_code 59 = .ok (.iload 6, 2) := by decide +kernel
theorem d_Coder_measure_61 : decode prog_6_method_10_code 61 = .ok (.iload_n 1, 1) := by decide +kernel
theorem d_Coder_measure_62 : decode prog_6_method_10_code 62 = .ok (.invokevirtual 132, 3) := by decide +kernel
theorem d_Coder_measure_65 : decode prog_6_method_10_code 65 = .ok (.invokevirtual 135, 3) := by decide +kernel
theorem d_Coder_measure_68 : decode prog_6_method_10_code 68 = .ok (.istore 9, 2) := by decide +kernel
theorem d_Coder_measure_70 : decode prog_6_method_10_code 70 = .ok (.aload_n 0, 1) := by decide +kernel
theorem d_Coder_measure_71 : decode prog_6_method_10_code 71 = .ok (.getfield 31, 3) := by decide +kernel
theorem d_Coder_measure_74 : decode prog_6_method_10_code 74 = .ok (.iload 6, 2) := by decide +kernel
theorem d_Coder_measure_76 : decode prog_6_method_10_code 76 = .ok (.iload 9, 2) := by decide +kernel
theorem d_Coder_measure_78 : decode prog_6_method_10_code 78 = .ok (.iastore, 1) := by decide +kernel
theorem d_Coder_measure_79 : decode prog_6_method_10_code 79 = .ok (.aload_n 0, 1) := by decide +kernel
theorem d_Coder_measure_80 : decode prog_6_method_10_code 80 = .ok (.iload 6, 2) := by decide +kernel
theorem d_Coder_measure_82 : decode prog_6_method_10_code 82 = .ok (.iload_n 1, 1) := by decide +kernel
theorem d_Coder_measure_83 : decode prog_6_method_10_code 83 = .ok (.lload 7, 2) := by decide +kernel
theorem d_Coder_measure_85 : decode prog_6_method_10_code 85 = .ok (.aload_n 3, 1) := by decide +kernel
theorem d_Coder_measure_86 : decode prog_6_method_10_code 86 = .ok (.invokevirtual 92, 3) := by decide +kernel
theorem d_Coder_measure_89 : decode prog_6_method_10_code 89 = .ok (.iload 9, 2) := by decide +kernel
theorem d_Coder_measure_91 : decode prog_6_method_10_code 91 = .ok (.invokestatic 139, 3) := by decide +kernel
theorem d_Coder_measure_94 : decode prog_6_method_10_code 94 = .ok (.istore 10, 2) := by decide +kernel
theorem d_Coder_measure_96 : decode prog_6_method_10_code 96 = .ok (.iload 10, 2) := by decide +kernel
theorem d_Coder_measure_98 : decode prog_6_method_10_code 98 = .ok (.ifCond .le 10, 3) := by decide +kernel
theorem d_Coder_measure_101 : decode prog_6_method_10_code 101 = .ok (.iload 4, 2) := by decide +kernel
theorem d_Coder_measure_103 : decode prog_6_method_10_code 103 = .ok (.iload 10, 2) := by decide +kernel
theorem d_Coder_measure_105 : decode prog_6_method_10_code 105 = .ok (.iadd, 1) := by decide +kernel
theorem d_Coder_measure_106 : decode prog_6_method_10_code 106 = .ok (.istore 5, 2) := by decide +kernel
theorem d_Coder_measure_108 : decode prog_6_method_10_code 108 = .ok (.iload 4, 2) := by decide +kernel
theorem d_Coder_measure_110 : decode prog_6_method_10_code 110 = .ok (.iload 9, 2) := by decide +kernel
theorem d_Coder_measure_112 : decode prog_6_method_10_code 112 = .ok (.invokestatic 142, 3) := by decide +kernel
theorem d_Coder_measure_115 : decode prog_6_method_10_code 115 = .ok (.iadd, 1) := by decide +kernel
theorem d_Coder_measure_116 : decode prog_6_method_10_code 116 = .ok (.istore 4, 2) := by decide +kernel
theorem d_Coder_measure_118 : decode prog_6_method_10_code 118 = .ok (.iinc 6 1, 3) := by decide +kernel
theorem d_Coder_measure_121 : decode prog_6_method_10_code 121 = .ok (.goto (-109), 3) := by decide +kernel
theorem d_Coder_measure_124 : decode prog_6_method_10_code 124 = .ok (.iload 5, 2) := by decide +kernel
theorem d_Coder_measure_126 : decode prog_6_method_10_code 126 = .ok (.ireturn, 1) := by decide +kernel
abbrev w_Coder_readSlice : List Cond := Cond.code y_Coder_readSlice prog_6_method_6_code 5 none :: wl
abbrev r_Coder_readSlice : Room := { frames := 4, cells := 0, slots := 0, locals := 88 }
set_option maxHeartbeats 4000000 in
set_option maxRecDepth 100000 in
theorem c_Coder_readSlice (l : Launch) (G : k_G) (sz : Nat) (rC rv rst rS rL rQ rB rN rE rl rt rw rh rf rp rb rqf rqo : Nat) (s0 fr tt fb ld ro kd db ew ac dn pr nu de cP cQ nb fa fe : Int) (gf g gn es gp gb qf qo : Int → Int) (gv : Int → Int64) (hok : okR nu de) (hs0 : 0 ≤ s0 ∧ s0 < 16) (hg : ∀ j, 0 ≤ g j ∧ g j < 256) (hgf : 0 ≤ gf s0 ∧ gf s0 ≤ gf (s0 + 1) ∧ gf (s0 + 1) ≤ 256) (hpr : pr = 0 ∨ pr = 1) (hes : ∀ b, 0 ≤ b → b < 8 → 0 ≤ es b ∧ es b ≤ 15) (hgp : ∀ i, gf s0 ≤ i → i < gf (s0 + 1) → (0 ≤ gp i ∧ gp i < 256) ∧ 0 ≤ gb i ∧ gb i < 8) (hqf : ∀ r, 0 ≤ r → r < 32 → 0 < qf r ∧ qf r < 2147483648) (hqo : ∀ r, 0 ≤ r → r < 32 → 0 ≤ qo r ∧ qo r < 2147483648) : Met l y_Coder_readSlice w_Coder_readSlice r_Coder_readSlice (k_P G [.ref rC, .int (iv (s0)), .ref rv] [(rC, .inr (4, [.ref rst, .ref rS, .ref rL, .ref rQ, .ref rB, .ref rN, .int (iv (fr)), .int (iv (tt)), .int (iv (fb)), .int (iv (ld)), .int (iv (ro))])), (rS, .inr (3, [.int (iv (kd)), .int (iv (db)), .int (iv (ew)), .int (iv (ac)), .int (iv (dn)), .int (iv (pr)), .ref rE, .int (iv (nu)), .int (iv (de))])), (rL, .inr (1, [.int (iv (cP)), .int (iv (cQ)), .int (iv (nb)), .ref rl, .ref rt, .ref rw, .ref rh, .ref rf, .ref rp, .ref rb])), (rf, ai (gI G) 17 (gf)), (rB, .inr (0, [.ref rst, .int (iv (fa)), .int (iv (fe))])), (rst, ai (gI G) 2048 (g)), (rN, ai (gI G) 256 (gn)), (rE, ai (gI G) 8 (es)), (rp, ai (gI G) 256 (gp)), (rb, ai (gI G) 256 (gb)), (rQ, .inr (2, [.ref rqf, .ref rqo])), (rqf, ai (gI G) 32 (qf)), (rqo, ai (gI G) 32 (qo)), (rv, al (gL G) 256 (gv))] sz) (qv G (fun u : Int × Int × Int × Int × Int × Int × Int × (Int → Int) × (Int → Int64) => u = (gf s0, gf (s0 + 1), 8 * sBy nu de s0, ldI nu de s0, rmI nu de s0, (rnA g nu de gf s0 gn).2, (8 * sBy nu de s0 + 5 + ldI nu de s0 + rlI g nu de s0), (rnA g nu de gf s0 gn).1, it (rbs pr es gb gp qf qo (rnA g nu de gf s0 gn).1 (rqI g nu de s0)) (gf s0) (gf (s0 + 1)) gv)) (fun u : Int × Int × Int × Int × Int × Int × Int × (Int → Int) × (Int → Int64) => [(rC, .inr (4, [.ref rst, .ref rS, .ref rL, .ref rQ, .ref rB, .ref rN, .int (iv (u.1)), .int (iv (u.2.1)), .int (iv (u.2.2.1)), .int (iv (u.2.2.2.1)), .int (iv (u.2.2.2.2.1))])), (rS, .inr (3, [.int (iv (kd)), .int (iv (db)), .int (iv (ew)), .int (iv (ac)), .int (iv (dn)), .int (iv (pr)), .ref rE, .int (iv (nu)), .int (iv (de))])), (rL, .inr (1, [.int (iv (cP)), .int (iv (cQ)), .int (iv (nb)), .ref rl, .ref rt, .ref rw, .ref rh, .ref rf, .ref rp, .ref rb])), (rf, ai (gI G) 17 (gf)), (rB, .inr (0, [.ref rst, .int (iv (u.2.2.2.2.2.1)), .int (iv (u.2.2.2.2.2.2.1))])), (rst, ai (gI G) 2048 (g)), (rN, ai (gI G) 256 (u.2.2.2.2.2.2.2.1)), (rE, ai (gI G) 8 (es)), (rp, ai (gI G) 256 (gp)), (rb, ai (gI G) 256 (gb)), (rQ, .inr (2, [.ref rqf, .ref rqo])), (rqf, ai (gI G) 32 (qf)), (rqo, ai (gI G) 32 (qo)), (rv, al (gL G) 256 (u.2.2.2.2.2.2.2.2))]) (va_A [(rC, .inr (4, [.ref rst, .ref rS, .ref rL, .ref rQ, .ref rB, .ref rN, .int (iv (fr)), .int (iv (tt)), .int (iv (fb)), .int (iv (ld)), .int (iv (ro))])), (rS, .inr (3, [.int (iv (kd)), .int (iv (db)), .int (iv (ew)), .int (iv (ac)), .int (iv (dn)), .int (iv (pr)), .ref rE, .int (iv (nu)), .int (iv (de))])), (rL, .inr (1, [.int (iv (cP)), .int (iv (cQ)), .int (iv (nb)), .ref rl, .ref rt, .ref rw, .ref rh, .ref rf, .ref rp, .ref rb])), (rf, ai (gI G) 17 (gf)), (rB, .inr (0, [.ref rst, .int (iv (fa)), .int (iv (fe))])), (rst, ai (gI G) 2048 (g)), (rN, ai (gI G) 256 (gn)), (rE, ai (gI G) 8 (es)), (rp, ai (gI G) 256 (gp)), (rb, ai (gI G) 256 (gb)), (rQ, .inr (2, [.ref rqf, .ref rqo])), (rqf, ai (gI G) 32 (qf)), (rqo, ai (gI G) 32 (qo)), (rv, al (gL G) 256 (gv))] sz)) 0 0 (va_A [(rC, .inr (4, [.ref rst, .ref rS, .ref rL, .ref rQ, .ref rB, .ref rN, .int (iv (fr)), .int (iv (tt)), .int (iv (fb)), .int (iv (ld)), .int (iv (ro))])), (rS, .inr (3, [.int (iv (kd)), .int (iv (db)), .int (iv (ew)), .int (iv (ac)), .int (iv (dn)), .int (iv (pr)), .ref rE, .int (iv (nu)), .int (iv (de))])), (rL, .inr (1, [.int (iv (cP)), .int (iv (cQ)), .int (iv (nb)), .ref rl, .ref rt, .ref rw, .ref rh, .ref rf, .ref rp, .ref rb])), (rf, ai (gI G) 17 (gf)), (rB, .inr (0, [.ref rst, .int (iv (fa)), .int (iv (fe))])), (rst, ai (gI G) 2048 (g)), (rN, ai (gI G) 256 (gn)), (rE, ai (gI G) 8 (es)), (rp, ai (gI G) 256 (gp)), (rb, ai (gI G) 256 (gb)), (rQ, .inr (2, [.ref rqf, .ref rqo])), (rqf, ai (gI G) 32 (qf)), (rqo, ai (gI G) 32 (qo)), (rv, al (gL G) 256 (gv))] sz) := by
  refine k_met (fun A => qv G (fun u : Int × Int × Int × Int × Int × Int × Int × (Int → Int) × (Int → Int64) => u = (gf s0, gf (s0 + 1), 8 * sBy nu de s0, ldI nu de s0, rmI nu de s0, (rnA g nu de gf s0 gn).2, (8 * sBy nu de s0 + 5 + ldI nu de s0 + rlI g nu de s0), (rnA g nu de gf s0 gn).1, it (rbs pr es gb gp qf qo (rnA g nu de gf s0 gn).1 (rqI g nu de s0)) (gf s0) (gf (s0 + 1)) gv)) (fun u : Int × Int × Int × Int × Int × Int × Int × (Int → Int) × (Int → Int64) => [(rC, .inr (4, [.ref rst, .ref rS, .ref rL, .ref rQ, .ref rB, .ref rN, .int (iv (u.1)), .int (iv (u.2.1)), .int (iv (u.2.2.1)), .int (iv (u.2.2.2.1)), .int (iv (u.2.2.2.2.1))])), (rS, .inr (3, [.int (iv (kd)), .int (iv (db)), .int (iv (ew)), .int (iv (ac)), .int (iv (dn)), .int (iv (pr)), .ref rE, .int (iv (nu)), .int (iv (de))])), (rL, .inr (1, [.int (iv (cP)), .int (iv (cQ)), .int (iv (nb)), .ref rl, .ref rt, .ref rw, .ref rh, .ref rf, .ref rp, .ref rb])), (rf, ai (gI G) 17 (gf)), (rB, .inr (0, [.ref rst, .int (iv (u.2.2.2.2.2.1)), .int (iv (u.2.2.2.2.2.2.1))])), (rst, ai (gI G) 2048 (g)), (rN, ai (gI G) 256 (u.2.2.2.2.2.2.2.1)), (rE, ai (gI G) 8 (es)), (rp, ai (gI G) 256 (gp)), (rb, ai (gI G) 256 (gb)), (rQ, .inr (2, [.ref rqf, .ref rqo])), (rqf, ai (gI G) 32 (qf)), (rqo, ai (gI G) 32 (qo)), (rv, al (gL G) 256 (u.2.2.2.2.2.2.2.2))]) A) (fun A => A) (by decide) rfl (Nat.le_of_ble_eq_true rfl) (fun p e s m args below meth c ls A Q S hr hlk hnm hl hsz hP hK hD hS hA hT hQ => ?_)
  obtain ⟨hx, hb, hml, hown, hts⟩ := id S
  have hw : ∀ w ∈ wl, w.before args s = true := fun w h => hts w (List.mem_cons_of_mem _ h)
  have hl : lv_has ls 5 [(0, .ref rC), (1, .int (iv (s0))), (2, .ref rv)] := hl
  have q1 := sBy_r hok (s := s0) (by omega)
  have q2 := sBy_r hok (s := s0 + 1) (by omega)
  have q3 := sBy_s hok (s := s0)
  have q4 := ldI_r hok (s := s0)
  have q5 := rmI_r hok (s := s0)
  have q6 : rmI nu de s0 = 8 * sBy nu de (s0 + 1) - 8 * sBy nu de s0 - 5 - ldI nu de s0 := rfl
  have q7 := rlI_r (g := g) hok hs0
  have q8 := rqI_r (g := g) hok hs0
  refine lv_aload_n hx hb d_Coder_readSlice_0 rfl (lv_at hl 0 rfl) ?_
  refine lv_iload_n hx hb d_Coder_readSlice_1 rfl (lv_at hl 1 rfl) ?_
  refine k_ci (wz := fun u : Int × Int × Int × Int × Int × Int × Int × Int => [(rC, .inr (4, [.ref rst, .ref rS, .ref rL, .ref rQ, .ref rB, .ref rN, .int (iv (u.2.1)), .int (iv (u.2.2.1)), .int (iv (u.2.2.2.1)), .int (iv (u.2.2.2.2.1)), .int (iv (u.2.2.2.2.2.1))])), (rS, .inr (3, [.int (iv (kd)), .int (iv (db)), .int (iv (ew)), .int (iv (ac)), .int (iv (dn)), .int (iv (pr)), .ref rE, .int (iv (nu)), .int (iv (de))])), (rL, .inr (1, [.int (iv (cP)), .int (iv (cQ)), .int (iv (nb)), .ref rl, .ref rt, .ref rw, .ref rh, .ref rf, .ref rp, .ref rb])), (rf, ai (gI G) 17 (gf)), (rB, .inr (0, [.ref rst, .int (iv (u.2.2.2.2.2.2.1)), .int (iv (u.2.2.2.2.2.2.2))])), (rst, ai (gI G) 2048 (g)), (rN, ai (gI G) 256 (gn)), (rE, ai (gI G) 8 (es)), (rp, ai (gI G) 256 (gp)), (rb, ai (gI G) 256 (gb)), (rQ, .inr (2, [.ref rqf, .ref rqo])), (rqf, ai (gI G) 32 (qf)), (rqo, ai (gI G) 32 (qo)), (rv, al (gL G) 256 (gv))]) (wr := [(rN, ai (gI G) 256 (gn)), (rE, ai (gI G) 8 (es)), (rp, ai (gI G) 256 (gp)), (rb, ai (gI G) 256 (gb)), (rQ, .inr (2, [.ref rqf, .ref rqo])), (rqf, ai (gI G) 32 (qf)), (rqo, ai (gI G) 32 (qo)), (rv, al (gL G) 256 (gv))]) (k_rv S (c_Coder_readQuantiser l G _ rC rst rS rL rQ rB rN rE rl rt rw rh rf rp rb s0 fr tt fb ld ro kd db ew ac dn pr nu de cP cQ nb fa fe gf g hok (by omega) hg) 1 m3_16 m3_13 m3_14 m3_15 m1_5 (by decide +kernel) (by decide) rfl rfl (k_preV (q0 := 0) hK hP hD hS hA hT rfl rfl [0, 1, 2, 3, 4, 5] (by decide) rfl) rfl hl.1 rfl (Nat.le_of_ble_eq_true rfl) d_Coder_readSlice_2 ⟨Nat.le_of_ble_eq_true rfl, Nat.le_of_ble_eq_true rfl⟩) hP hD hS hA [0, 1, 2, 3, 4, 5] [6, 7, 8, 9, 10, 11, 12, 13] [8, 9, 10, 11, 12, 13, 0, 1, 2, 3, 4, 5, 6, 7] rfl rfl (by decide) (by decide) (by decide) (fun _ => rfl) (fun r2 u2 H locs h2 hP hD hS => ?_)
  obtain ⟨hr2, h2⟩ := h2
  subst h2
  subst hr2
  have hP : va_P (gD G) classes [(rC, .inr (4, [.ref rst, .ref rS, .ref rL, .ref rQ, .ref rB, .ref rN, .int (iv (gf s0)), .int (iv (gf (s0 + 1))), .int (iv (8 * sBy nu de s0)), .int (iv (ldI nu de s0)), .int (iv (rmI nu de s0))])), (rS, .inr (3, [.int (iv (kd)), .int (iv (db)), .int (iv (ew)), .int (iv (ac)), .int (iv (dn)), .int (iv (pr)), .ref rE, .int (iv (nu)), .int (iv (de))])), (rL, .inr (1, [.int (iv (cP)), .int (iv (cQ)), .int (iv (nb)), .ref rl, .ref rt, .ref rw, .ref rh, .ref rf, .ref rp, .ref rb])), (rf, ai (gI G) 17 (gf)), (rB, .inr (0, [.ref rst, .int (iv ((tkF g (8 * sBy nu de s0 + 5) 5 (8 * sBy nu de s0)).2)), .int (iv (8 * sBy nu de s0 + 5))])), (rst, ai (gI G) 2048 (g)), (rN, ai (gI G) 256 (gn)), (rE, ai (gI G) 8 (es)), (rp, ai (gI G) 256 (gp)), (rb, ai (gI G) 256 (gb)), (rQ, .inr (2, [.ref rqf, .ref rqo])), (rqf, ai (gI G) 32 (qf)), (rqo, ai (gI G) 32 (qo)), (rv, al (gL G) 256 (gv))] H := hP
  have hD : va_D A [(rC, .inr (4, [.ref rst, .ref rS, .ref rL, .ref rQ, .ref rB, .ref rN, .int (iv (gf s0)), .int (iv (gf (s0 + 1))), .int (iv (8 * sBy nu de s0)), .int (iv (ldI nu de s0)), .int (iv (rmI nu de s0))])), (rS, .inr (3, [.int (iv (kd)), .int (iv (db)), .int (iv (ew)), .int (iv (ac)), .int (iv (dn)), .int (iv (pr)), .ref rE, .int (iv (nu)), .int (iv (de))])), (rL, .inr (1, [.int (iv (cP)), .int (iv (cQ)), .int (iv (nb)), .ref rl, .ref rt, .ref rw, .ref rh, .ref rf, .ref rp, .ref rb])), (rf, ai (gI G) 17 (gf)), (rB, .inr (0, [.ref rst, .int (iv ((tkF g (8 * sBy nu de s0 + 5) 5 (8 * sBy nu de s0)).2)), .int (iv (8 * sBy nu de s0 + 5))])), (rst, ai (gI G) 2048 (g)), (rN, ai (gI G) 256 (gn)), (rE, ai (gI G) 8 (es)), (rp, ai (gI G) 256 (gp)), (rb, ai (gI G) 256 (gb)), (rQ, .inr (2, [.ref rqf, .ref rqo])), (rqf, ai (gI G) 32 (qf)), (rqo, ai (gI G) 32 (qo)), (rv, al (gL G) 256 (gv))] := hD
  refine lv_istore_n hx hb d_Coder_readSlice_5 rfl hl (by decide) rfl (fun ls hl => ?_)
  have hl : lv_has ls 5 [(3, .int (iv (rqI g nu de s0))), (0, .ref rC), (1, .int (iv (s0))), (2, .ref rv)] := hl
  refine lv_aload_n hx hb d_Coder_readSlice_6 rfl (lv_at hl 1 rfl) ?_
  refine lv_iload_n hx hb d_Coder_readSlice_7 rfl (lv_at hl 2 rfl) ?_
  refine k_cv (wz := fun u : Int × Int × Int × Int × Int × Int × Int × (Int → Int) => [(rC, .inr (4, [.ref rst, .ref rS, .ref rL, .ref rQ, .ref rB, .ref rN, .int (iv (u.1)), .int (iv (u.2.1)), .int (iv (u.2.2.1)), .int (iv (u.2.2.2.1)), .int (iv (u.2.2.2.2.1))])), (rS, .inr (3, [.int (iv (kd)), .int (iv (db)), .int (iv (ew)), .int (iv (ac)), .int (iv (dn)), .int (iv (pr)), .ref rE, .int (iv (nu)), .int (iv (de))])), (rL, .inr (1, [.int (iv (cP)), .int (iv (cQ)), .int (iv (nb)), .ref rl, .ref rt, .ref rw, .ref rh, .ref rf, .ref rp, .ref rb])), (rf, ai (gI G) 17 (gf)), (rB, .inr (0, [.ref rst, .int (iv (u.2.2.2.2.2.1)), .int (iv (u.2.2.2.2.2.2.1))])), (rst, ai (gI G) 2048 (g)), (rN, ai (gI G) 256 (u.2.2.2.2.2.2.2)), (rE, ai (gI G) 8 (es)), (rp, ai (gI G) 256 (gp)), (rb, ai (gI G) 256 (gb)), (rQ, .inr (2, [.ref rqf, .ref rqo])), (rqf, ai (gI G) 32 (qf)), (rqo, ai (gI G) 32 (qo)), (rv, al (gL G) 256 (gv))]) (wr := [(rE, ai (gI G) 8 (es)), (rp, ai (gI G) 256 (gp)), (rb, ai (gI G) 256 (gb)), (rQ, .inr (2, [.ref rqf, .ref rqo])), (rqf, ai (gI G) 32 (qf)), (rqo, ai (gI G) 32 (qo)), (rv, al (gL G) 256 (gv))]) (k_rv S (c_Coder_readNumbers l G _ rC rst rS rL rQ rB rN rE rl rt rw rh rf rp rb s0 (gf s0) (gf (s0 + 1)) (8 * sBy nu de s0) (ldI nu de s0) (rmI nu de s0) kd db ew ac dn pr nu de cP cQ nb ((tkF g (8 * sBy nu de s0 + 5) 5 (8 * sBy nu de s0)).2) (8 * sBy nu de s0 + 5) gf g gn hok (by omega) hg (by omega)) 1 m3_28 m3_25 m3_27 mp_13 m1_5 (by decide +kernel) (by decide) rfl rfl (k_preV (q0 := 0) hK hP hD hS hA hT rfl rfl [0, 1, 2, 3, 4, 5, 6] (by decide) rfl) rfl hl.1 rfl (Nat.le_of_ble_eq_true rfl) d_Coder_readSlice_8 ⟨Nat.le_of_ble_eq_true rfl, Nat.le_of_ble_eq_true rfl⟩) hP hD hS hA [0, 1, 2, 3, 4, 5, 6] [7, 8, 9, 10, 11, 12, 13] [7, 8, 9, 10, 11, 12, 13, 0, 1, 2, 3, 4, 5, 6] rfl rfl (by decide) (by decide) (by decide) (fun _ => rfl) (fun u8 H locs h8 hP hD hS => ?_)
  subst h8
  have hP : va_P (gD G) classes [(rC, .inr (4, [.ref rst, .ref rS, .ref rL, .ref rQ, .ref rB, .ref rN, .int (iv (gf s0)), .int (iv (gf (s0 + 1))), .int (iv (8 * sBy nu de s0)), .int (iv (ldI nu de s0)), .int (iv (rmI nu de s0))])), (rS, .inr (3, [.int (iv (kd)), .int (iv (db)), .int (iv (ew)), .int (iv (ac)), .int (iv (dn)), .int (iv (pr)), .ref rE, .int (iv (nu)), .int (iv (de))])), (rL, .inr (1, [.int (iv (cP)), .int (iv (cQ)), .int (iv (nb)), .ref rl, .ref rt, .ref rw, .ref rh, .ref rf, .ref rp, .ref rb])), (rf, ai (gI G) 17 (gf)), (rB, .inr (0, [.ref rst, .int (iv ((rnA g nu de gf s0 gn).2)), .int (iv ((8 * sBy nu de s0 + 5 + ldI nu de s0 + rlI g nu de s0)))])), (rst, ai (gI G) 2048 (g)), (rN, ai (gI G) 256 ((rnA g nu de gf s0 gn).1)), (rE, ai (gI G) 8 (es)), (rp, ai (gI G) 256 (gp)), (rb, ai (gI G) 256 (gb)), (rQ, .inr (2, [.ref rqf, .ref rqo])), (rqf, ai (gI G) 32 (qf)), (rqo, ai (gI G) 32 (qo)), (rv, al (gL G) 256 (gv))] H := hP
  have hD : va_D A [(rC, .inr (4, [.ref rst, .ref rS, .ref rL, .ref rQ, .ref rB, .ref rN, .int (iv (gf s0)), .int (iv (gf (s0 + 1))), .int (iv (8 * sBy nu de s0)), .int (iv (ldI nu de s0)), .int (iv (rmI nu de s0))])), (rS, .inr (3, [.int (iv (kd)), .int (iv (db)), .int (iv (ew)), .int (iv (ac)), .int (iv (dn)), .int (iv (pr)), .ref rE, .int (iv (nu)), .int (iv (de))])), (rL, .inr (1, [.int (iv (cP)), .int (iv (cQ)), .int (iv (nb)), .ref rl, .ref rt, .ref rw, .ref rh, .ref rf, .ref rp, .ref rb])), (rf, ai (gI G) 17 (gf)), (rB, .inr (0, [.ref rst, .int (iv ((rnA g nu de gf s0 gn).2)), .int (iv ((8 * sBy nu de s0 + 5 + ldI nu de s0 + rlI g nu de s0)))])), (rst, ai (gI G) 2048 (g)), (rN, ai (gI G) 256 ((rnA g nu de gf s0 gn).1)), (rE, ai (gI G) 8 (es)), (rp, ai (gI G) 256 (gp)), (rb, ai (gI G) 256 (gb)), (rQ, .inr (2, [.ref rqf, .ref rqo])), (rqf, ai (gI G) 32 (qf)), (rqo, ai (gI G) 32 (qo)), (rv, al (gL G) 256 (gv))] := hD
  refine lv_aload_n hx hb d_Coder_readSlice_11 rfl (lv_at hl 1 rfl) ?_
  refine va_get (D := gD G) (ci := 4) (v := .int (iv (gf s0))) (C := R_Coder) (T := F_Coder) (N := 11) hx hb hw in_Coder hown hK hP 0 rfl rfl 6 (by decide) (hw _ m1_183) (fun _ h => h) rfl d_Coder_readSlice_12 ?_
  refine lv_istore hx hb d_Coder_readSlice_15 hl (by decide) rfl (fun ls hl => ?_)
  have hl : lv_has ls 5 [(4, .int (iv (gf s0))), (3, .int (iv (rqI g nu de s0))), (0, .ref rC), (1, .int (iv (s0))), (2, .ref rv)] := hl
  refine lo_up (P := fun i => ∀ (ls : Array Slot) (H : Heap) (locs : List Loc) (gv1 : Int → Int64), lv_has ls 5 [(0, .ref rC), (1, .int (iv (s0))), (2, .ref rv), (3, .int (iv (rqI g nu de s0))), (4, .int (iv (i)))] → va_P (gD G) classes [(rC, .inr (4, [.ref rst, .ref rS, .ref rL, .ref rQ, .ref rB, .ref rN, .int (iv (gf s0)), .int (iv (gf (s0 + 1))), .int (iv (8 * sBy nu de s0)), .int (iv (ldI nu de s0)), .int (iv (rmI nu de s0))])), (rS, .inr (3, [.int (iv (kd)), .int (iv (db)), .int (iv (ew)), .int (iv (ac)), .int (iv (dn)), .int (iv (pr)), .ref rE, .int (iv (nu)), .int (iv (de))])), (rL, .inr (1, [.int (iv (cP)), .int (iv (cQ)), .int (iv (nb)), .ref rl, .ref rt, .ref rw, .ref rh, .ref rf, .ref rp, .ref rb])), (rf, ai (gI G) 17 (gf)), (rB, .inr (0, [.ref rst, .int (iv ((rnA g nu de gf s0 gn).2)), .int (iv ((8 * sBy nu de s0 + 5 + ldI nu de s0 + rlI g nu de s0)))])), (rst, ai (gI G) 2048 (g)), (rN, ai (gI G) 256 ((rnA g nu de gf s0 gn).1)), (rE, ai (gI G) 8 (es)), (rp, ai (gI G) 256 (gp)), (rb, ai (gI G) 256 (gb)), (rQ, .inr (2, [.ref rqf, .ref rqo])), (rqf, ai (gI G) 32 (qf)), (rqo, ai (gI G) 32 (qo)), (rv, al (gL G) 256 (gv1))] H → va_D A [(rC, .inr (4, [.ref rst, .ref rS, .ref rL, .ref rQ, .ref rB, .ref rN, .int (iv (gf s0)), .int (iv (gf (s0 + 1))), .int (iv (8 * sBy nu de s0)), .int (iv (ldI nu de s0)), .int (iv (rmI nu de s0))])), (rS, .inr (3, [.int (iv (kd)), .int (iv (db)), .int (iv (ew)), .int (iv (ac)), .int (iv (dn)), .int (iv (pr)), .ref rE, .int (iv (nu)), .int (iv (de))])), (rL, .inr (1, [.int (iv (cP)), .int (iv (cQ)), .int (iv (nb)), .ref rl, .ref rt, .ref rw, .ref rh, .ref rf, .ref rp, .ref rb])), (rf, ai (gI G) 17 (gf)), (rB, .inr (0, [.ref rst, .int (iv ((rnA g nu de gf s0 gn).2)), .int (iv ((8 * sBy nu de s0 + 5 + ldI nu de s0 + rlI g nu de s0)))])), (rst, ai (gI G) 2048 (g)), (rN, ai (gI G) 256 ((rnA g nu de gf s0 gn).1)), (rE, ai (gI G) 8 (es)), (rp, ai (gI G) 256 (gp)), (rb, ai (gI G) 256 (gb)), (rQ, .inr (2, [.ref rqf, .ref rqo])), (rqf, ai (gI G) 32 (qf)), (rqo, ai (gI G) 32 (qo)), (rv, al (gL G) 256 (gv1))] → va_S A s.heap H locs → (gv1 = it (rbs pr es gb gp qf qo (rnA g nu de gf s0 gn).1 (rqI g nu de s0)) (gf s0) i gv) → W p l e r_Coder_readSlice s m args below meth c H locs 0 0 Q (F0 m 17 ls [])) (a := gf s0) (b := gf (s0 + 1)) (fun i hii hji ihi => ?_) _ _ _ gv (lv_sub hl [2, 3, 4, 1, 0] rfl) hP hD hS (it_self _ _ _).symm
  intro ls H locs gv1 hl hP hD hS hs
  refine lv_iload hx hb d_Coder_readSlice_17 (lv_at hl 4 rfl) ?_
  refine lv_aload_n hx hb d_Coder_readSlice_19 rfl (lv_at hl 0 rfl) ?_
  refine va_get (D := gD G) (ci := 4) (v := .int (iv (gf (s0 + 1)))) (C := R_Coder) (T := F_Coder) (N := 11) hx hb hw in_Coder hown hK hP 0 rfl rfl 7 (by decide) (hw _ m1_184) (fun _ h => h) rfl d_Coder_readSlice_20 ?_
  refine k_icmp_ge (tgt := 47) hx hb d_Coder_readSlice_23 (by decide) (by omega) (by omega) (fun hc23 => ?_) (fun hc23 => ?_)
  · exact k_vret hx hb hr hlk hQ ((gf s0, gf (s0 + 1), 8 * sBy nu de s0, ldI nu de s0, rmI nu de s0, (rnA g nu de gf s0 gn).2, (8 * sBy nu de s0 + 5 + ldI nu de s0 + rlI g nu de s0), (rnA g nu de gf s0 gn).1, gv1)) (by rw [show gv1 = it (rbs pr es gb gp qf qo (rnA g nu de gf s0 gn).1 (rqI g nu de s0)) (gf s0) (gf (s0 + 1)) gv from by rw [hs]; exact it_x _ _ hc23 hji]) hP hD hS d_Coder_readSlice_47
  · have hp1 := hgp i hii hc23
    have hz := rnA_r (gn := gn) (gf := gf) (i := i) g nu de s0 (by omega)
    refine lv_aload_n hx hb d_Coder_readSlice_26 rfl (lv_at hl 0 rfl) ?_
    refine lv_iload hx hb d_Coder_readSlice_27 (lv_at hl 4 rfl) ?_
    refine lv_iload_n hx hb d_Coder_readSlice_29 rfl (lv_at hl 3 rfl) ?_
    refine lv_aload_n hx hb d_Coder_readSlice_30 rfl (lv_at hl 0 rfl) ?_
    refine lv_iload hx hb d_Coder_readSlice_31 (lv_at hl 4 rfl) ?_
    refine lv_aload_n hx hb d_Coder_readSlice_33 rfl (lv_at hl 2 rfl) ?_
    refine k_clR (k_rv S (c_Coder_predictionAt l G _ rC rv rst rS rL rQ rB rN rE rl rt rw rh rf rp rb i (gf s0) (gf (s0 + 1)) (8 * sBy nu de s0) (ldI nu de s0) (rmI nu de s0) kd db ew ac dn pr nu de cP cQ nb gp gb gv1 (by omega) hpr hp1.2 hp1.1) 2 m2_180 m2_177 m2_179 mp_9 m1_5 (by decide +kernel) (by decide) rfl rfl (k_preV (q0 := 0) hK hP hD hS hA hT rfl rfl [0, 1, 2, 8, 9, 13] (by decide) rfl) rfl hl.1 rfl (Nat.le_of_ble_eq_true rfl) d_Coder_readSlice_34 ⟨Nat.le_of_ble_eq_true rfl, Nat.le_of_ble_eq_true rfl⟩) (fun r34 h34 => ?_)
    subst h34
    refine lv_aload_n hx hb d_Coder_readSlice_37 rfl (lv_at hl 2 rfl) ?_
    refine k_cv (wz := fun u : Int → Int64 => [(rC, .inr (4, [.ref rst, .ref rS, .ref rL, .ref rQ, .ref rB, .ref rN, .int (iv (gf s0)), .int (iv (gf (s0 + 1))), .int (iv (8 * sBy nu de s0)), .int (iv (ldI nu de s0)), .int (iv (rmI nu de s0))])), (rS, .inr (3, [.int (iv (kd)), .int (iv (db)), .int (iv (ew)), .int (iv (ac)), .int (iv (dn)), .int (iv (pr)), .ref rE, .int (iv (nu)), .int (iv (de))])), (rL, .inr (1, [.int (iv (cP)), .int (iv (cQ)), .int (iv (nb)), .ref rl, .ref rt, .ref rw, .ref rh, .ref rf, .ref rp, .ref rb])), (rf, ai (gI G) 17 (gf)), (rB, .inr (0, [.ref rst, .int (iv ((rnA g nu de gf s0 gn).2)), .int (iv ((8 * sBy nu de s0 + 5 + ldI nu de s0 + rlI g nu de s0)))])), (rst, ai (gI G) 2048 (g)), (rN, ai (gI G) 256 ((rnA g nu de gf s0 gn).1)), (rE, ai (gI G) 8 (es)), (rp, ai (gI G) 256 (gp)), (rb, ai (gI G) 256 (gb)), (rQ, .inr (2, [.ref rqf, .ref rqo])), (rqf, ai (gI G) 32 (qf)), (rqo, ai (gI G) 32 (qo)), (rv, al (gL G) 256 (u))]) (wr := [(rf, ai (gI G) 17 (gf)), (rB, .inr (0, [.ref rst, .int (iv ((rnA g nu de gf s0 gn).2)), .int (iv ((8 * sBy nu de s0 + 5 + ldI nu de s0 + rlI g nu de s0)))])), (rst, ai (gI G) 2048 (g))]) (k_rv S (c_Coder_rebuildAt l G _ rC rv rst rS rL rQ rB rN rE rl rt rw rh rf rp rb rqf rqo i (rqI g nu de s0) (gf s0) (gf (s0 + 1)) (8 * sBy nu de s0) (ldI nu de s0) (rmI nu de s0) kd db ew ac dn pr nu de cP cQ nb (if pr = 0 ∨ ¬ gb i = 0 then 0 else fcL gv1 (gp i)) es gp gb ((rnA g nu de gf s0 gn).1) qf qo gv1 (by omega) (by omega) hp1.2 (hes _ hp1.2.1 hp1.2.2) hp1.1 hz hqf hqo) 4 m2_203 m2_200 m2_202 mp_11 m1_5 (by decide +kernel) (by decide) rfl rfl (k_preV (q0 := 0) hK hP hD hS hA hT rfl rfl [0, 1, 2, 7, 8, 9, 6, 10, 11, 12, 13] (by decide) rfl) rfl hl.1 rfl (Nat.le_of_ble_eq_true rfl) d_Coder_readSlice_38 ⟨Nat.le_of_ble_eq_true rfl, Nat.le_of_ble_eq_true rfl⟩) hP hD hS hA [0, 1, 2, 7, 8, 9, 6, 10, 11, 12, 13] [3, 4, 5] [3, 4, 5, 0, 1, 2, 9, 6, 7, 8, 10, 11, 12, 13] rfl rfl (by decide) (by decide) (by decide) (fun _ => rfl) (fun u38 H locs h38 hP hD hS => ?_)
    subst h38
    have hP : va_P (gD G) classes [(rC, .inr (4, [.ref rst, .ref rS, .ref rL, .ref rQ, .ref rB, .ref rN, .int (iv (gf s0)), .int (iv (gf (s0 + 1))), .int (iv (8 * sBy nu de s0)), .int (iv (ldI nu de s0)), .int (iv (rmI nu de s0))])), (rS, .inr (3, [.int (iv (kd)), .int (iv (db)), .int (iv (ew)), .int (iv (ac)), .int (iv (dn)), .int (iv (pr)), .ref rE, .int (iv (nu)), .int (iv (de))])), (rL, .inr (1, [.int (iv (cP)), .int (iv (cQ)), .int (iv (nb)), .ref rl, .ref rt, .ref rw, .ref rh, .ref rf, .ref rp, .ref rb])), (rf, ai (gI G) 17 (gf)), (rB, .inr (0, [.ref rst, .int (iv ((rnA g nu de gf s0 gn).2)), .int (iv ((8 * sBy nu de s0 + 5 + ldI nu de s0 + rlI g nu de s0)))])), (rst, ai (gI G) 2048 (g)), (rN, ai (gI G) 256 ((rnA g nu de gf s0 gn).1)), (rE, ai (gI G) 8 (es)), (rp, ai (gI G) 256 (gp)), (rb, ai (gI G) 256 (gb)), (rQ, .inr (2, [.ref rqf, .ref rqo])), (rqf, ai (gI G) 32 (qf)), (rqo, ai (gI G) 32 (qo)), (rv, al (gL G) 256 (up gv1 (gp i) (bdL ((if pr = 0 ∨ ¬ gb i = 0 then 0 else fcL gv1 (gp i)) + vlC (((rnA g nu de gf s0 gn).1) i) (qf (max 0 ((rqI g nu de s0) - es (gb i)))) (qo (max 0 ((rqI g nu de s0) - es (gb i))))))))] H := hP
    have hD : va_D A [(rC, .inr (4, [.ref rst, .ref rS, .ref rL, .ref rQ, .ref rB, .ref rN, .int (iv (gf s0)), .int (iv (gf (s0 + 1))), .int (iv (8 * sBy nu de s0)), .int (iv (ldI nu de s0)), .int (iv (rmI nu de s0))])), (rS, .inr (3, [.int (iv (kd)), .int (iv (db)), .int (iv (ew)), .int (iv (ac)), .int (iv (dn)), .int (iv (pr)), .ref rE, .int (iv (nu)), .int (iv (de))])), (rL, .inr (1, [.int (iv (cP)), .int (iv (cQ)), .int (iv (nb)), .ref rl, .ref rt, .ref rw, .ref rh, .ref rf, .ref rp, .ref rb])), (rf, ai (gI G) 17 (gf)), (rB, .inr (0, [.ref rst, .int (iv ((rnA g nu de gf s0 gn).2)), .int (iv ((8 * sBy nu de s0 + 5 + ldI nu de s0 + rlI g nu de s0)))])), (rst, ai (gI G) 2048 (g)), (rN, ai (gI G) 256 ((rnA g nu de gf s0 gn).1)), (rE, ai (gI G) 8 (es)), (rp, ai (gI G) 256 (gp)), (rb, ai (gI G) 256 (gb)), (rQ, .inr (2, [.ref rqf, .ref rqo])), (rqf, ai (gI G) 32 (qf)), (rqo, ai (gI G) 32 (qo)), (rv, al (gL G) 256 (up gv1 (gp i) (bdL ((if pr = 0 ∨ ¬ gb i = 0 then 0 else fcL gv1 (gp i)) + vlC (((rnA g nu de gf s0 gn).1) i) (qf (max 0 ((rqI g nu de s0) - es (gb i)))) (qo (max 0 ((rqI g nu de s0) - es (gb i))))))))] := hD
    refine lv_iinc (k := 4) (v := iv (i + 1)) hx hb d_Coder_readSlice_41 hl rfl (iv_add _ _) (by decide) rfl (fun ls hl => ?_)
    have hl : lv_has ls 5 [(4, .int (iv (i + 1))), (0, .ref rC), (1, .int (iv (s0))), (2, .ref rv), (3, .int (iv (rqI g nu de s0)))] := hl
    refine lv_goto (tgt := 17) hx hb d_Coder_readSlice_44 (by decide) ?_
    exact ihi (by omega) _ _ _ (up gv1 (gp i) (bdL ((if pr = 0 ∨ ¬ gb i = 0 then 0 else fcL gv1 (gp i)) + vlC (((rnA g nu de gf s0 gn).1) i) (qf (max 0 ((rqI g nu de s0) - es (gb i)))) (qo (max 0 ((rqI g nu de s0) - es (gb i))))))) (lv_sub hl [1, 2, 3, 4, 0] rfl) hP hD hS (by rw [it_s _ _ hii, ← hs]; rfl)
abbrev w_Coder_writeBits : List Cond := Cond.code y_Coder_writeBits prog_6_method_11_code 4 none :: wl
abbrev r_Coder_writeBits : Room := { frames := 3, cells := 0, slots := 0, locals := 65 }
set_option maxHeartbeats 4000000 in
set_option maxRecDepth 100000 in
theorem c_Coder_writeBits (l : Launch) (G : k_G) (sz : Nat) (rC rst rS rL rQ rB rN : Nat) (q0 n0 fr tt fb ld ro fa fe : Int) (g gn : Int → Int) (hq0 : 0 ≤ q0 ∧ q0 ≤ 31) (hft : 0 ≤ fr ∧ fr ≤ tt ∧ tt ≤ 256) (hld : 4 ≤ ld ∧ ld ≤ 10) (hen : 0 ≤ fb ∧ 0 ≤ n0 ∧ (fb + (5 + ld + n0)) ≤ 16384) (hgn : ∀ j, -134217726 ≤ gn j ∧ gn j ≤ 134217726) : Met l y_Coder_writeBits w_Coder_writeBits r_Coder_writeBits (k_P G [.ref rC, .int (iv (q0)), .int (iv (n0))] [(rC, .inr (4, [.ref rst, .ref rS, .ref rL, .ref rQ, .ref rB, .ref rN, .int (iv (fr)), .int (iv (tt)), .int (iv (fb)), .int (iv (ld)), .int (iv (ro))])), (rB, .inr (0, [.ref rst, .int (iv (fa)), .int (iv (fe))])), (rst, ai (gI G) 2048 (g)), (rN, ai (gI G) 256 (gn))] sz) (qv G (fun u : Int × Int × (Int → Int) => u = ((wbA fb ld fr tt q0 n0 gn g).1, (fb + (5 + ld + n0)), (wbA fb ld fr tt q0 n0 gn g).2)) (fun u : Int × Int × (Int → Int) => [(rC, .inr (4, [.ref rst, .ref rS, .ref rL, .ref rQ, .ref rB, .ref rN, .int (iv (fr)), .int (iv (tt)), .int (iv (fb)), .int (iv (ld)), .int (iv (ro))])), (rB, .inr (0, [.ref rst, .int (iv (u.1)), .int (iv (u.2.1))])), (rst, ai (gI G) 2048 (u.2.2)), (rN, ai (gI G) 256 (gn))]) (va_A [(rC, .inr (4, [.ref rst, .ref rS, .ref rL, .ref rQ, .ref rB, .ref rN, .int (iv (fr)), .int (iv (tt)), .int (iv (fb)), .int (iv (ld)), .int (iv (ro))])), (rB, .inr (0, [.ref rst, .int (iv (fa)), .int (iv (fe))])), (rst, ai (gI G) 2048 (g)), (rN, ai (gI G) 256 (gn))] sz)) 0 0 (va_A [(rC, .inr (4, [.ref rst, .ref rS, .ref rL, .ref rQ, .ref rB, .ref rN, .int (iv (fr)), .int (iv (tt)), .int (iv (fb)), .int (iv (ld)), .int (iv (ro))])), (rB, .inr (0, [.ref rst, .int (iv (fa)), .int (iv (fe))])), (rst, ai (gI G) 2048 (g)), (rN, ai (gI G) 256 (gn))] sz) := by
  refine k_met (fun A => qv G (fun u : Int × Int × (Int → Int) => u = ((wbA fb ld fr tt q0 n0 gn g).1, (fb + (5 + ld + n0)), (wbA fb ld fr tt q0 n0 gn g).2)) (fun u : Int × Int × (Int → Int) => [(rC, .inr (4, [.ref rst, .ref rS, .ref rL, .ref rQ, .ref rB, .ref rN, .int (iv (fr)), .int (iv (tt)), .int (iv (fb)), .int (iv (ld)), .int (iv (ro))])), (rB, .inr (0, [.ref rst, .int (iv (u.1)), .int (iv (u.2.1))])), (rst, ai (gI G) 2048 (u.2.2)), (rN, ai (gI G) 256 (gn))]) A) (fun A => A) (by decide) rfl (Nat.le_of_ble_eq_true rfl) (fun p e s m args below meth c ls A Q S hr hlk hnm hl hsz hP hK hD hS hA hT hQ => ?_)
  obtain ⟨hx, hb, hml, hown, hts⟩ := id S
  have hw : ∀ w ∈ wl, w.before args s = true := fun w h => hts w (List.mem_cons_of_mem _ h)
  have hl : lv_has ls 4 [(0, .ref rC), (1, .int (iv (q0))), (2, .int (iv (n0)))] := hl
  refine lv_aload_n hx hb d_Coder_writeBits_0 rfl (lv_at hl 0 rfl) ?_
  refine va_get (D := gD G) (ci := 4) (v := .ref rB) (C := R_Coder) (T := F_Coder) (N := 11) hx hb hw in_Coder hown hK hP 0 rfl rfl 4 (by decide) (hw _ m1_181) (fun _ h => h) rfl d_Coder_writeBits_1 ?_
  refine lv_aload_n hx hb d_Coder_writeBits_4 rfl (lv_at hl 0 rfl) ?_
  refine va_get (D := gD G) (ci := 4) (v := .int (iv (fb))) (C := R_Coder) (T := F_Coder) (N := 11) hx hb hw in_Coder hown hK hP 0 rfl rfl 8 (by decide) (hw _ m1_185) (fun _ h => h) rfl d_Coder_writeBits_5 ?_
  refine lv_iconst (v := iv (5)) hx hb d_Coder_writeBits_8 rfl ?_
  refine lv_aload_n hx hb d_Coder_writeBits_9 rfl (lv_at hl 0 rfl) ?_
  refine va_get (D := gD G) (ci := 4) (v := .int (iv (ld))) (C := R_Coder) (T := F_Coder) (N := 11) hx hb hw in_Coder hown hK hP 0 rfl rfl 9 (by decide) (hw _ m1_186) (fun _ h => h) rfl d_Coder_writeBits_10 ?_
  refine k_iadd hx hb d_Coder_writeBits_13 ?_
  refine lv_iload_n hx hb d_Coder_writeBits_14 rfl (lv_at hl 2 rfl) ?_
  refine k_iadd hx hb d_Coder_writeBits_15 ?_
  refine k_cv (wz := fun u : Int × Int => [(rC, .inr (4, [.ref rst, .ref rS, .ref rL, .ref rQ, .ref rB, .ref rN, .int (iv (fr)), .int (iv (tt)), .int (iv (fb)), .int (iv (ld)), .int (iv (ro))])), (rB, .inr (0, [.ref rst, .int (iv (u.1)), .int (iv (u.2))])), (rst, ai (gI G) 2048 (g)), (rN, ai (gI G) 256 (gn))]) (wr := [(rC, .inr (4, [.ref rst, .ref rS, .ref rL, .ref rQ, .ref rB, .ref rN, .int (iv (fr)), .int (iv (tt)), .int (iv (fb)), .int (iv (ld)), .int (iv (ro))])), (rst, ai (gI G) 2048 (g)), (rN, ai (gI G) 256 (gn))]) (k_rv S (c_Bits_open l G _ rB rst fb ((5 + ld) + n0) fa fe ) 2 m2_236 m2_233 m2_234 m2_235 m1_7 (by decide +kernel) (by decide) rfl rfl (k_preV (q0 := 1) hK hP hD hS hA hT rfl rfl [1] (by decide) rfl) rfl hl.1 rfl (Nat.le_of_ble_eq_true rfl) d_Coder_writeBits_16 ⟨Nat.le_of_ble_eq_true rfl, Nat.le_of_ble_eq_true rfl⟩) hP hD hS hA [1] [0, 2, 3] [0, 3, 1, 2] rfl rfl (by decide) (by decide) (by decide) (fun _ => rfl) (fun u16 H locs h16 hP hD hS => ?_)
  subst h16
  have hP : va_P (gD G) classes [(rC, .inr (4, [.ref rst, .ref rS, .ref rL, .ref rQ, .ref rB, .ref rN, .int (iv (fr)), .int (iv (tt)), .int (iv (fb)), .int (iv (ld)), .int (iv (ro))])), (rB, .inr (0, [.ref rst, .int (iv (fb)), .int (iv (fb + ((5 + ld) + n0)))])), (rst, ai (gI G) 2048 (g)), (rN, ai (gI G) 256 (gn))] H := hP
  have hD : va_D A [(rC, .inr (4, [.ref rst, .ref rS, .ref rL, .ref rQ, .ref rB, .ref rN, .int (iv (fr)), .int (iv (tt)), .int (iv (fb)), .int (iv (ld)), .int (iv (ro))])), (rB, .inr (0, [.ref rst, .int (iv (fb)), .int (iv (fb + ((5 + ld) + n0)))])), (rst, ai (gI G) 2048 (g)), (rN, ai (gI G) 256 (gn))] := hD
  refine lv_aload_n hx hb d_Coder_writeBits_19 rfl (lv_at hl 0 rfl) ?_
  refine va_get (D := gD G) (ci := 4) (v := .ref rB) (C := R_Coder) (T := F_Coder) (N := 11) hx hb hw in_Coder hown hK hP 0 rfl rfl 4 (by decide) (hw _ m1_181) (fun _ h => h) rfl d_Coder_writeBits_20 ?_
  refine lv_iload_n hx hb d_Coder_writeBits_23 rfl (lv_at hl 1 rfl) ?_
  refine lv_iconst (v := iv (5)) hx hb d_Coder_writeBits_24 rfl ?_
  refine k_cv (wz := fun u : Int × (Int → Int) => [(rC, .inr (4, [.ref rst, .ref rS, .ref rL, .ref rQ, .ref rB, .ref rN, .int (iv (fr)), .int (iv (tt)), .int (iv (fb)), .int (iv (ld)), .int (iv (ro))])), (rB, .inr (0, [.ref rst, .int (iv (u.1)), .int (iv (fb + ((5 + ld) + n0)))])), (rst, ai (gI G) 2048 (u.2)), (rN, ai (gI G) 256 (gn))]) (wr := [(rC, .inr (4, [.ref rst, .ref rS, .ref rL, .ref rQ, .ref rB, .ref rN, .int (iv (fr)), .int (iv (tt)), .int (iv (fb)), .int (iv (ld)), .int (iv (ro))])), (rN, ai (gI G) 256 (gn))]) (k_rv S (c_Bits_putField l G _ rB rst q0 5 fb (fb + ((5 + ld) + n0)) g (by omega) (by omega) (by omega) (by omega)) 2 m3_0 m2_237 m2_238 m2_239 m1_7 (by decide +kernel) (by decide) rfl rfl (k_preV (q0 := 1) hK hP hD hS hA hT rfl rfl [1, 2] (by decide) rfl) rfl hl.1 rfl (Nat.le_of_ble_eq_true rfl) d_Coder_writeBits_25 ⟨Nat.le_of_ble_eq_true rfl, Nat.le_of_ble_eq_true rfl⟩) hP hD hS hA [1, 2] [0, 3] [0, 2, 3, 1] rfl rfl (by decide) (by decide) (by decide) (fun _ => rfl) (fun u25 H locs h25 hP hD hS => ?_)
  obtain ⟨fa25, g25⟩ := u25
  have hP : va_P (gD G) classes [(rC, .inr (4, [.ref rst, .ref rS, .ref rL, .ref rQ, .ref rB, .ref rN, .int (iv (fr)), .int (iv (tt)), .int (iv (fb)), .int (iv (ld)), .int (iv (ro))])), (rB, .inr (0, [.ref rst, .int (iv (fa25)), .int (iv (fb + ((5 + ld) + n0)))])), (rst, ai (gI G) 2048 (g25)), (rN, ai (gI G) 256 (gn))] H := hP
  have hD : va_D A [(rC, .inr (4, [.ref rst, .ref rS, .ref rL, .ref rQ, .ref rB, .ref rN, .int (iv (fr)), .int (iv (tt)), .int (iv (fb)), .int (iv (ld)), .int (iv (ro))])), (rB, .inr (0, [.ref rst, .int (iv (fa25)), .int (iv (fb + ((5 + ld) + n0)))])), (rst, ai (gI G) 2048 (g25)), (rN, ai (gI G) 256 (gn))] := hD
  try dsimp only at h25
  have k1 := ptF_r (en := (fb + (5 + ld + n0))) (v := q0) (n := 5) (x := (fb, g)) (by show 0 ≤ fb ∧ fb ≤ 16384; omega) (by omega)
  rw [← h25] at k1
  dsimp only at k1
  refine lv_aload_n hx hb d_Coder_writeBits_28 rfl (lv_at hl 0 rfl) ?_
  refine va_get (D := gD G) (ci := 4) (v := .ref rB) (C := R_Coder) (T := F_Coder) (N := 11) hx hb hw in_Coder hown hK hP 0 rfl rfl 4 (by decide) (hw _ m1_181) (fun _ h => h) rfl d_Coder_writeBits_29 ?_
  refine lv_iload_n hx hb d_Coder_writeBits_32 rfl (lv_at hl 2 rfl) ?_
  refine lv_aload_n hx hb d_Coder_writeBits_33 rfl (lv_at hl 0 rfl) ?_
  refine va_get (D := gD G) (ci := 4) (v := .int (iv (ld))) (C := R_Coder) (T := F_Coder) (N := 11) hx hb hw in_Coder hown hK hP 0 rfl rfl 9 (by decide) (hw _ m1_186) (fun _ h => h) rfl d_Coder_writeBits_34 ?_
  refine k_cv (wz := fun u : Int × (Int → Int) => [(rC, .inr (4, [.ref rst, .ref rS, .ref rL, .ref rQ, .ref rB, .ref rN, .int (iv (fr)), .int (iv (tt)), .int (iv (fb)), .int (iv (ld)), .int (iv (ro))])), (rB, .inr (0, [.ref rst, .int (iv (u.1)), .int (iv (fb + ((5 + ld) + n0)))])), (rst, ai (gI G) 2048 (u.2)), (rN, ai (gI G) 256 (gn))]) (wr := [(rC, .inr (4, [.ref rst, .ref rS, .ref rL, .ref rQ, .ref rB, .ref rN, .int (iv (fr)), .int (iv (tt)), .int (iv (fb)), .int (iv (ld)), .int (iv (ro))])), (rN, ai (gI G) 256 (gn))]) (k_rv S (c_Bits_putField l G _ rB rst n0 ld fa25 (fb + ((5 + ld) + n0)) g25 (by omega) (by omega) (by omega) (by omega)) 2 m3_0 m2_237 m2_238 m2_239 m1_7 (by decide +kernel) (by decide) rfl rfl (k_preV (q0 := 1) hK hP hD hS hA hT rfl rfl [1, 2] (by decide) rfl) rfl hl.1 rfl (Nat.le_of_ble_eq_true rfl) d_Coder_writeBits_37 ⟨Nat.le_of_ble_eq_true rfl, Nat.le_of_ble_eq_true rfl⟩) hP hD hS hA [1, 2] [0, 3] [0, 2, 3, 1] rfl rfl (by decide) (by decide) (by decide) (fun _ => rfl) (fun u37 H locs h37 hP hD hS => ?_)
  obtain ⟨fa37, g37⟩ := u37
  have hP : va_P (gD G) classes [(rC, .inr (4, [.ref rst, .ref rS, .ref rL, .ref rQ, .ref rB, .ref rN, .int (iv (fr)), .int (iv (tt)), .int (iv (fb)), .int (iv (ld)), .int (iv (ro))])), (rB, .inr (0, [.ref rst, .int (iv (fa37)), .int (iv (fb + ((5 + ld) + n0)))])), (rst, ai (gI G) 2048 (g37)), (rN, ai (gI G) 256 (gn))] H := hP
  have hD : va_D A [(rC, .inr (4, [.ref rst, .ref rS, .ref rL, .ref rQ, .ref rB, .ref rN, .int (iv (fr)), .int (iv (tt)), .int (iv (fb)), .int (iv (ld)), .int (iv (ro))])), (rB, .inr (0, [.ref rst, .int (iv (fa37)), .int (iv (fb + ((5 + ld) + n0)))])), (rst, ai (gI G) 2048 (g37)), (rN, ai (gI G) 256 (gn))] := hD
  try dsimp only at h37
  have k2 := ptF_r (en := (fb + (5 + ld + n0))) (v := n0) (n := ld) (x := (fa25, g25)) k1 (by omega)
  rw [← h37] at k2
  dsimp only at k2
  refine lv_aload_n hx hb d_Coder_writeBits_40 rfl (lv_at hl 0 rfl) ?_
  refine va_get (D := gD G) (ci := 4) (v := .int (iv (fr))) (C := R_Coder) (T := F_Coder) (N := 11) hx hb hw in_Coder hown hK hP 0 rfl rfl 6 (by decide) (hw _ m1_183) (fun _ h => h) rfl d_Coder_writeBits_41 ?_
  refine lv_istore_n hx hb d_Coder_writeBits_44 rfl hl (by decide) rfl (fun ls hl => ?_)
  have hl : lv_has ls 4 [(3, .int (iv (fr))), (0, .ref rC), (1, .int (iv (q0))), (2, .int (iv (n0)))] := hl
  refine lo_up (P := fun i => ∀ (ls : Array Slot) (H : Heap) (locs : List Loc) (fa1 : Int) (g1 : Int → Int), lv_has ls 4 [(0, .ref rC), (1, .int (iv (q0))), (2, .int (iv (n0))), (3, .int (iv (i)))] → va_P (gD G) classes [(rC, .inr (4, [.ref rst, .ref rS, .ref rL, .ref rQ, .ref rB, .ref rN, .int (iv (fr)), .int (iv (tt)), .int (iv (fb)), .int (iv (ld)), .int (iv (ro))])), (rB, .inr (0, [.ref rst, .int (iv (fa1)), .int (iv (fb + ((5 + ld) + n0)))])), (rst, ai (gI G) 2048 (g1)), (rN, ai (gI G) 256 (gn))] H → va_D A [(rC, .inr (4, [.ref rst, .ref rS, .ref rL, .ref rQ, .ref rB, .ref rN, .int (iv (fr)), .int (iv (tt)), .int (iv (fb)), .int (iv (ld)), .int (iv (ro))])), (rB, .inr (0, [.ref rst, .int (iv (fa1)), .int (iv (fb + ((5 + ld) + n0)))])), (rst, ai (gI G) 2048 (g1)), (rN, ai (gI G) 256 (gn))] → va_S A s.heap H locs → ((fa1, g1) = it (wbf (fb + (5 + ld + n0)) gn) fr i (fa37, g37)) → (0 ≤ fa1 ∧ fa1 ≤ 16384) → W p l e r_Coder_writeBits s m args below meth c H locs 0 0 Q (F0 m 45 ls [])) (a := fr) (b := tt) (fun i hii hji ihi => ?_) _ _ _ fa37 g37 (lv_sub hl [1, 2, 3, 0] rfl) hP hD hS (it_self _ _ _).symm k2
  intro ls H locs fa1 g1 hl hP hD hS hs hrg
  refine lv_iload_n hx hb d_Coder_writeBits_45 rfl (lv_at hl 3 rfl) ?_
  refine lv_aload_n hx hb d_Coder_writeBits_46 rfl (lv_at hl 0 rfl) ?_
  refine va_get (D := gD G) (ci := 4) (v := .int (iv (tt))) (C := R_Coder) (T := F_Coder) (N := 11) hx hb hw in_Coder hown hK hP 0 rfl rfl 7 (by decide) (hw _ m1_184) (fun _ h => h) rfl d_Coder_writeBits_47 ?_
  refine k_icmp_ge (tgt := 72) hx hb d_Coder_writeBits_50 (by decide) (by omega) (by omega) (fun hc50 => ?_) (fun hc50 => ?_)
  · exact k_vret hx hb hr hlk hQ ((fa1, fb + ((5 + ld) + n0), g1)) (by rw [show wbA fb ld fr tt q0 n0 gn g = (fa1, g1) from by unfold wbA; rw [← h25, ← h37, hs]; exact (it_x _ _ hc50 hji).symm]) hP hD hS d_Coder_writeBits_72
  · refine lv_aload_n hx hb d_Coder_writeBits_53 rfl (lv_at hl 0 rfl) ?_
    refine va_get (D := gD G) (ci := 4) (v := .ref rB) (C := R_Coder) (T := F_Coder) (N := 11) hx hb hw in_Coder hown hK hP 0 rfl rfl 4 (by decide) (hw _ m1_181) (fun _ h => h) rfl d_Coder_writeBits_54 ?_
    refine lv_aload_n hx hb d_Coder_writeBits_57 rfl (lv_at hl 0 rfl) ?_
    refine va_get (D := gD G) (ci := 4) (v := .ref rN) (C := R_Coder) (T := F_Coder) (N := 11) hx hb hw in_Coder hown hK hP 0 rfl rfl 5 (by decide) (hw _ m1_182) (fun _ h => h) rfl d_Coder_writeBits_58 ?_
    refine lv_iload_n hx hb d_Coder_writeBits_61 rfl (lv_at hl 3 rfl) ?_
    refine k_ial hx hb hK hP 3 0 rfl rfl (by decide) (by omega) d_Coder_writeBits_62 ?_
    refine k_cv (wz := fun u : Int × (Int → Int) => [(rC, .inr (4, [.ref rst, .ref rS, .ref rL, .ref rQ, .ref rB, .ref rN, .int (iv (fr)), .int (iv (tt)), .int (iv (fb)), .int (iv (ld)), .int (iv (ro))])), (rB, .inr (0, [.ref rst, .int (iv (u.1)), .int (iv (fb + ((5 + ld) + n0)))])), (rst, ai (gI G) 2048 (u.2)), (rN, ai (gI G) 256 (gn))]) (wr := [(rC, .inr (4, [.ref rst, .ref rS, .ref rL, .ref rQ, .ref rB, .ref rN, .int (iv (fr)), .int (iv (tt)), .int (iv (fb)), .int (iv (ld)), .int (iv (ro))])), (rN, ai (gI G) 256 (gn))]) (k_rv S (c_Bits_putNumber l G _ rB rst (gn i) fa1 (fb + ((5 + ld) + n0)) g1 (by omega) (by omega) (hgn i)) 1 m3_8 m3_5 m3_6 m3_7 m1_7 (by decide +kernel) (by decide) rfl rfl (k_preV (q0 := 1) hK hP hD hS hA hT rfl rfl [1, 2] (by decide) rfl) rfl hl.1 rfl (Nat.le_of_ble_eq_true rfl) d_Coder_writeBits_63 ⟨Nat.le_of_ble_eq_true rfl, Nat.le_of_ble_eq_true rfl⟩) hP hD hS hA [1, 2] [0, 3] [0, 2, 3, 1] rfl rfl (by decide) (by decide) (by decide) (fun _ => rfl) (fun u63 H locs h63 hP hD hS => ?_)
    obtain ⟨fa63, g63⟩ := u63
    have hP : va_P (gD G) classes [(rC, .inr (4, [.ref rst, .ref rS, .ref rL, .ref rQ, .ref rB, .ref rN, .int (iv (fr)), .int (iv (tt)), .int (iv (fb)), .int (iv (ld)), .int (iv (ro))])), (rB, .inr (0, [.ref rst, .int (iv (fa63)), .int (iv (fb + ((5 + ld) + n0)))])), (rst, ai (gI G) 2048 (g63)), (rN, ai (gI G) 256 (gn))] H := hP
    have hD : va_D A [(rC, .inr (4, [.ref rst, .ref rS, .ref rL, .ref rQ, .ref rB, .ref rN, .int (iv (fr)), .int (iv (tt)), .int (iv (fb)), .int (iv (ld)), .int (iv (ro))])), (rB, .inr (0, [.ref rst, .int (iv (fa63)), .int (iv (fb + ((5 + ld) + n0)))])), (rst, ai (gI G) 2048 (g63)), (rN, ai (gI G) 256 (gn))] := hD
    try dsimp only at h63
    refine lv_iinc (k := 3) (v := iv (i + 1)) hx hb d_Coder_writeBits_66 hl rfl (iv_add _ _) (by decide) rfl (fun ls hl => ?_)
    have hl : lv_has ls 4 [(3, .int (iv (i + 1))), (0, .ref rC), (1, .int (iv (q0))), (2, .int (iv (n0)))] := hl
    refine lv_goto (tgt := 45) hx hb d_Coder_writeBits_69 (by decide) ?_
    exact ihi (by omega) _ _ _ fa63 g63 (lv_sub hl [1, 2, 3, 0] rfl) hP hD hS (by rw [it_s _ _ hii, ← hs]; exact h63) (by have := ptN_r (en := (fb + (5 + ld + n0))) (v := gn i) (x := (fa1, g1)) hrg (by omega); rw [← h63] at this; exact this)
abbrev w_Coder_measure : List Cond := Cond.code y_Coder_measure prog_6_method_10_code 11 (some .int) :: wl
abbrev r_Coder_measure : Room := { frames := 4, cells := 0, slots := 0, locals := 84 }
set_option maxHeartbeats 4000000 in
set_option maxRecDepth 100000 in
theorem c_Coder_measure (l : Launch) (G : k_G) (sz : Nat) (rC rc rv rst rS rL rQ rB rN rE rl rt rw rh rf rp rb rqf rqo : Nat) (q0 fr tt fb ld ro kd db ew ac dn pr nu de cP cQ nb : Int) (es gp gb gn qf qo : Int → Int) (cf gv : Int → Int64) (hq0 : 0 ≤ q0 ∧ q0 ≤ 31) (hft : 0 ≤ fr ∧ fr ≤ tt ∧ tt ≤ 256) (hro : 1 ≤ ro ∧ ro ≤ 1015) (hpr : pr = 0 ∨ pr = 1) (hes : ∀ b, 0 ≤ b → b < 8 → 0 ≤ es b ∧ es b ≤ 15) (hgp : ∀ i, fr ≤ i → i < tt → (0 ≤ gp i ∧ gp i < 256) ∧ 0 ≤ gb i ∧ gb i < 8) (hcf : ∀ i, fr ≤ i → i < tt → bd 576460752303423488 (cf (gp i))) (hgv : ∀ j, bd 134217728 (gv j)) (hqf : ∀ r, 0 ≤ r → r < 32 → 0 < qf r ∧ qf r < 2147483648) (hqo : ∀ r, 0 ≤ r → r < 32 → 0 ≤ qo r ∧ qo r < 2147483648) : Met l y_Coder_measure w_Coder_measure r_Coder_measure (k_P G [.ref rC, .int (iv (q0)), .ref rc, .ref rv] [(rC, .inr (4, [.ref rst, .ref rS, .ref rL, .ref rQ, .ref rB, .ref rN, .int (iv (fr)), .int (iv (tt)), .int (iv (fb)), .int (iv (ld)), .int (iv (ro))])), (rS, .inr (3, [.int (iv (kd)), .int (iv (db)), .int (iv (ew)), .int (iv (ac)), .int (iv (dn)), .int (iv (pr)), .ref rE, .int (iv (nu)), .int (iv (de))])), (rL, .inr (1, [.int (iv (cP)), .int (iv (cQ)), .int (iv (nb)), .ref rl, .ref rt, .ref rw, .ref rh, .ref rf, .ref rp, .ref rb])), (rE, ai (gI G) 8 (es)), (rp, ai (gI G) 256 (gp)), (rb, ai (gI G) 256 (gb)), (rN, ai (gI G) 256 (gn)), (rQ, .inr (2, [.ref rqf, .ref rqo])), (rqf, ai (gI G) 32 (qf)), (rqo, ai (gI G) 32 (qo)), (rc, al (gL G) 256 (cf)), (rv, al (gL G) 256 (gv))] sz) (qi G (fun (r : Int32) (u : Int × (Int → Int) × (Int → Int64)) => r = iv (u.1) ∧ (∃ sz1, (it (msf ro pr es gb gp qf qo cf q0) fr tt (0, 0, gn, gv)) = (sz1, u.1, u.2.1, u.2.2))) (fun u : Int × (Int → Int) × (Int → Int64) => [(rC, .inr (4, [.ref rst, .ref rS, .ref rL, .ref rQ, .ref rB, .ref rN, .int (iv (fr)), .int (iv (tt)), .int (iv (fb)), .int (iv (ld)), .int (iv (ro))])), (rS, .inr (3, [.int (iv (kd)), .int (iv (db)), .int (iv (ew)), .int (iv (ac)), .int (iv (dn)), .int (iv (pr)), .ref rE, .int (iv (nu)), .int (iv (de))])), (rL, .inr (1, [.int (iv (cP)), .int (iv (cQ)), .int (iv (nb)), .ref rl, .ref rt, .ref rw, .ref rh, .ref rf, .ref rp, .ref rb])), (rE, ai (gI G) 8 (es)), (rp, ai (gI G) 256 (gp)), (rb, ai (gI G) 256 (gb)), (rN, ai (gI G) 256 (u.2.1)), (rQ, .inr (2, [.ref rqf, .ref rqo])), (rqf, ai (gI G) 32 (qf)), (rqo, ai (gI G) 32 (qo)), (rc, al (gL G) 256 (cf)), (rv, al (gL G) 256 (u.2.2))]) (va_A [(rC, .inr (4, [.ref rst, .ref rS, .ref rL, .ref rQ, .ref rB, .ref rN, .int (iv (fr)), .int (iv (tt)), .int (iv (fb)), .int (iv (ld)), .int (iv (ro))])), (rS, .inr (3, [.int (iv (kd)), .int (iv (db)), .int (iv (ew)), .int (iv (ac)), .int (iv (dn)), .int (iv (pr)), .ref rE, .int (iv (nu)), .int (iv (de))])), (rL, .inr (1, [.int (iv (cP)), .int (iv (cQ)), .int (iv (nb)), .ref rl, .ref rt, .ref rw, .ref rh, .ref rf, .ref rp, .ref rb])), (rE, ai (gI G) 8 (es)), (rp, ai (gI G) 256 (gp)), (rb, ai (gI G) 256 (gb)), (rN, ai (gI G) 256 (gn)), (rQ, .inr (2, [.ref rqf, .ref rqo])), (rqf, ai (gI G) 32 (qf)), (rqo, ai (gI G) 32 (qo)), (rc, al (gL G) 256 (cf)), (rv, al (gL G) 256 (gv))] sz)) 0 0 (va_A [(rC, .inr (4, [.ref rst, .ref rS, .ref rL, .ref rQ, .ref rB, .ref rN, .int (iv (fr)), .int (iv (tt)), .int (iv (fb)), .int (iv (ld)), .int (iv (ro))])), (rS, .inr (3, [.int (iv (kd)), .int (iv (db)), .int (iv (ew)), .int (iv (ac)), .int (iv (dn)), .int (iv (pr)), .ref rE, .int (iv (nu)), .int (iv (de))])), (rL, .inr (1, [.int (iv (cP)), .int (iv (cQ)), .int (iv (nb)), .ref rl, .ref rt, .ref rw, .ref rh, .ref rf, .ref rp, .ref rb])), (rE, ai (gI G) 8 (es)), (rp, ai (gI G) 256 (gp)), (rb, ai (gI G) 256 (gb)), (rN, ai (gI G) 256 (gn)), (rQ, .inr (2, [.ref rqf, .ref rqo])), (rqf, ai (gI G) 32 (qf)), (rqo, ai (gI G) 32 (qo)), (rc, al (gL G) 256 (cf)), (rv, al (gL G) 256 (gv))] sz) := by
  refine k_met (fun A => qi G (fun (r : Int32) (u : Int × (Int → Int) × (Int → Int64)) => r = iv (u.1) ∧ (∃ sz1, (it (msf ro pr es gb gp qf qo cf q0) fr tt (0, 0, gn, gv)) = (sz1, u.1, u.2.1, u.2.2))) (fun u : Int × (Int → Int) × (Int → Int64) => [(rC, .inr (4, [.ref rst, .ref rS, .ref rL, .ref rQ, .ref rB, .ref rN, .int (iv (fr)), .int (iv (tt)), .int (iv (fb)), .int (iv (ld)), .int (iv (ro))])), (rS, .inr (3, [.int (iv (kd)), .int (iv (db)), .int (iv (ew)), .int (iv (ac)), .int (iv (dn)), .int (iv (pr)), .ref rE, .int (iv (nu)), .int (iv (de))])), (rL, .inr (1, [.int (iv (cP)), .int (iv (cQ)), .int (iv (nb)), .ref rl, .ref rt, .ref rw, .ref rh, .ref rf, .ref rp, .ref rb])), (rE, ai (gI G) 8 (es)), (rp, ai (gI G) 256 (gp)), (rb, ai (gI G) 256 (gb)), (rN, ai (gI G) 256 (u.2.1)), (rQ, .inr (2, [.ref rqf, .ref rqo])), (rqf, ai (gI G) 32 (qf)), (rqo, ai (gI G) 32 (qo)), (rc, al (gL G) 256 (cf)), (rv, al (gL G) 256 (u.2.2))]) A) (fun A => A) (by decide) rfl (Nat.le_of_ble_eq_true rfl) (fun p e s m args below meth c ls A Q S hr hlk hnm hl hsz hP hK hD hS hA hT hQ => ?_)
  obtain ⟨hx, hb, hml, hown, hts⟩ := id S
  have hw : ∀ w ∈ wl, w.before args s = true := fun w h => hts w (List.mem_cons_of_mem _ h)
  have hl : lv_has ls 11 [(0, .ref rC), (1, .int (iv (q0))), (2, .ref rc), (3, .ref rv)] := hl
  refine lv_iconst (v := iv (0)) hx hb d_Coder_measure_0 rfl ?_
  refine lv_istore hx hb d_Coder_measure_1 hl (by decide) rfl (fun ls hl => ?_)
  have hl : lv_has ls 11 [(4, .int (iv (0))), (0, .ref rC), (1, .int (iv (q0))), (2, .ref rc), (3, .ref rv)] := hl
  refine lv_iconst (v := iv (0)) hx hb d_Coder_measure_3 rfl ?_
  refine lv_istore hx hb d_Coder_measure_4 hl (by decide) rfl (fun ls hl => ?_)
  have hl : lv_has ls 11 [(5, .int (iv (0))), (4, .int (iv (0))), (0, .ref rC), (1, .int (iv (q0))), (2, .ref rc), (3, .ref rv)] := hl
  refine lv_aload_n hx hb d_Coder_measure_6 rfl (lv_at hl 2 rfl) ?_
  refine va_get (D := gD G) (ci := 4) (v := .int (iv (fr))) (C := R_Coder) (T := F_Coder) (N := 11) hx hb hw in_Coder hown hK hP 0 rfl rfl 6 (by decide) (hw _ m1_183) (fun _ h => h) rfl d_Coder_measure_7 ?_
  refine lv_istore hx hb d_Coder_measure_10 hl (by decide) rfl (fun ls hl => ?_)
  have hl : lv_has ls 11 [(6, .int (iv (fr))), (5, .int (iv (0))), (4, .int (iv (0))), (0, .ref rC), (1, .int (iv (q0))), (2, .ref rc), (3, .ref rv)] := hl
  refine lo_up (P := fun i => ∀ (ls : Array Slot) (H : Heap) (locs : List Loc) (z1 : Int) (n1 : Int) (gn1 : Int → Int) (gv1 : Int → Int64), lv_has ls 11 [(0, .ref rC), (1, .int (iv (q0))), (2, .ref rc), (3, .ref rv), (4, .int (iv (z1))), (5, .int (iv (n1))), (6, .int (iv (i)))] → va_P (gD G) classes [(rC, .inr (4, [.ref rst, .ref rS, .ref rL, .ref rQ, .ref rB, .ref rN, .int (iv (fr)), .int (iv (tt)), .int (iv (fb)), .int (iv (ld)), .int (iv (ro))])), (rS, .inr (3, [.int (iv (kd)), .int (iv (db)), .int (iv (ew)), .int (iv (ac)), .int (iv (dn)), .int (iv (pr)), .ref rE, .int (iv (nu)), .int (iv (de))])), (rL, .inr (1, [.int (iv (cP)), .int (iv (cQ)), .int (iv (nb)), .ref rl, .ref rt, .ref rw, .ref rh, .ref rf, .ref rp, .ref rb])), (rE, ai (gI G) 8 (es)), (rp, ai (gI G) 256 (gp)), (rb, ai (gI G) 256 (gb)), (rN, ai (gI G) 256 (gn1)), (rQ, .inr (2, [.ref rqf, .ref rqo])), (rqf, ai (gI G) 32 (qf)), (rqo, ai (gI G) 32 (qo)), (rc, al (gL G) 256 (cf)), (rv, al (gL G) 256 (gv1))] H → va_D A [(rC, .inr (4, [.ref rst, .ref rS, .ref rL, .ref rQ, .ref rB, .ref rN, .int (iv (fr)), .int (iv (tt)), .int (iv (fb)), .int (iv (ld)), .int (iv (ro))])), (rS, .inr (3, [.int (iv (kd)), .int (iv (db)), .int (iv (ew)), .int (iv (ac)), .int (iv (dn)), .int (iv (pr)), .ref rE, .int (iv (nu)), .int (iv (de))])), (rL, .inr (1, [.int (iv (cP)), .int (iv (cQ)), .int (iv (nb)), .ref rl, .ref rt, .ref rw, .ref rh, .ref rf, .ref rp, .ref rb])), (rE, ai (gI G) 8 (es)), (rp, ai (gI G) 256 (gp)), (rb, ai (gI G) 256 (gb)), (rN, ai (gI G) 256 (gn1)), (rQ, .inr (2, [.ref rqf, .ref rqo])), (rqf, ai (gI G) 32 (qf)), (rqo, ai (gI G) 32 (qo)), (rc, al (gL G) 256 (cf)), (rv, al (gL G) 256 (gv1))] → va_S A s.heap H locs → ((it (msf ro pr es gb gp qf qo cf q0) fr i (0, 0, gn, gv)) = (z1, n1, gn1, gv1)) → (∀ j, bd 134217728 (gv1 j)) → (0 ≤ z1 ∧ z1 ≤ 54 * (i - fr) ∧ 0 ≤ n1 ∧ n1 ≤ z1) → W p l e r_Coder_measure s m args below meth c H locs 0 0 Q (F0 m 12 ls [])) (a := fr) (b := tt) (fun i hii hji ihi => ?_) _ _ _ 0 0 gn gv (lv_sub hl [3, 4, 5, 6, 2, 1, 0] rfl) hP hD hS (it_self _ _ _) hgv (by omega)
  intro ls H locs z1 n1 gn1 gv1 hl hP hD hS hs hv1 hz1
  refine lv_iload hx hb d_Coder_measure_12 (lv_at hl 6 rfl) ?_
  refine lv_aload_n hx hb d_Coder_measure_14 rfl (lv_at hl 0 rfl) ?_
  refine va_get (D := gD G) (ci := 4) (v := .int (iv (tt))) (C := R_Coder) (T := F_Coder) (N := 11) hx hb hw in_Coder hown hK hP 0 rfl rfl 7 (by decide) (hw _ m1_184) (fun _ h => h) rfl d_Coder_measure_15 ?_
  refine k_icmp_ge (tgt := 124) hx hb d_Coder_measure_18 (by decide) (by omega) (by omega) (fun hc18 => ?_) (fun hc18 => ?_)
  · refine lv_iload hx hb d_Coder_measure_124 (lv_at hl 5 rfl) ?_
    exact k_iret hx hb hr hlk hQ ((n1, gn1, gv1)) (by first | exact ⟨rfl, z1, by rw [← it_x _ _ hc18 hji]; exact hs⟩ | exact ⟨rfl, z1, it_stop hii (by omega) hs (fun j => if_pos hc27)⟩) hP hD hS d_Coder_measure_126
  · refine lv_iload hx hb d_Coder_measure_21 (lv_at hl 5 rfl) ?_
    refine lv_aload_n hx hb d_Coder_measure_23 rfl (lv_at hl 0 rfl) ?_
    refine va_get (D := gD G) (ci := 4) (v := .int (iv (ro))) (C := R_Coder) (T := F_Coder) (N := 11) hx hb hw in_Coder hown hK hP 0 rfl rfl 10 (by decide) (hw _ m1_187) (fun _ h => h) rfl d_Coder_measure_24 ?_
    refine k_icmp_gt (tgt := 124) hx hb d_Coder_measure_27 (by decide) (by omega) (by omega) (fun hc27 => ?_) (fun hc27 => ?_)
    · refine lv_iload hx hb d_Coder_measure_124 (lv_at hl 5 rfl) ?_
      exact k_iret hx hb hr hlk hQ ((n1, gn1, gv1)) (by first | exact ⟨rfl, z1, by rw [← it_x _ _ hc18 hji]; exact hs⟩ | exact ⟨rfl, z1, it_stop hii (by omega) hs (fun j => if_pos hc27)⟩) hP hD hS d_Coder_measure_126
    · have hp1 := hgp i hii hc18
      have hes1 := hes _ hp1.2.1 hp1.2.2
      refine lv_aload_n hx hb d_Coder_measure_30 rfl (lv_at hl 0 rfl) ?_
      refine lv_iload hx hb d_Coder_measure_31 (lv_at hl 6 rfl) ?_
      refine lv_aload_n hx hb d_Coder_measure_33 rfl (lv_at hl 3 rfl) ?_
      refine k_clR (k_rv S (c_Coder_predictionAt l G _ rC rv rst rS rL rQ rB rN rE rl rt rw rh rf rp rb i fr tt fb ld ro kd db ew ac dn pr nu de cP cQ nb gp gb gv1 (by omega) hpr hp1.2 hp1.1) 2 m2_180 m2_177 m2_179 mp_9 m1_5 (by decide +kernel) (by decide) rfl rfl (k_preV (q0 := 0) hK hP hD hS hA hT rfl rfl [0, 1, 2, 4, 5, 11] (by decide) rfl) rfl hl.1 rfl (Nat.le_of_ble_eq_true rfl) d_Coder_measure_34 ⟨Nat.le_of_ble_eq_true rfl, Nat.le_of_ble_eq_true rfl⟩) (fun r34 h34 => ?_)
      subst h34
      refine k_nml (fun p34 hp34 => ?_)
      have hb34 : bd 402653186 p34 := by rw [hp34]; exact prd_b hv1
      refine lv_lstore hx hb d_Coder_measure_37 hl (by decide) rfl (fun ls hl => ?_)
      have hl : lv_has ls 11 [(7, .long (p34)), (0, .ref rC), (1, .int (iv (q0))), (2, .ref rc), (3, .ref rv), (4, .int (iv (z1))), (5, .int (iv (n1))), (6, .int (iv (i)))] := hl
      refine lv_aload_n hx hb d_Coder_measure_39 rfl (lv_at hl 1 rfl) ?_
      refine va_get (D := gD G) (ci := 4) (v := .ref rQ) (C := R_Coder) (T := F_Coder) (N := 11) hx hb hw in_Coder hown hK hP 0 rfl rfl 3 (by decide) (hw _ m1_180) (fun _ h => h) rfl d_Coder_measure_40 ?_
      refine lv_aload_n hx hb d_Coder_measure_43 rfl (lv_at hl 3 rfl) ?_
      refine lv_aload_n hx hb d_Coder_measure_44 rfl (lv_at hl 1 rfl) ?_
      refine va_get (D := gD G) (ci := 4) (v := .ref rL) (C := R_Coder) (T := F_Coder) (N := 11) hx hb hw in_Coder hown hK hP 0 rfl rfl 2 (by decide) (hw _ m1_179) (fun _ h => h) rfl d_Coder_measure_45 ?_
      refine va_get (D := gD G) (ci := 1) (v := .ref rp) (C := R_Layout) (T := F_Layout) (N := 10) hx hb hw in_Layout hown hK hP 2 rfl rfl 8 (by decide) (hw _ m1_92) (fun _ h => h) rfl d_Coder_measure_48 ?_
      refine lv_iload hx hb d_Coder_measure_51 (lv_at hl 7 rfl) ?_
      refine k_ial hx hb hK hP 4 0 rfl rfl (by decide) (by omega) d_Coder_measure_53 ?_
      refine k_lal hx hb hK hP 10 1 rfl rfl (by decide) (by omega) d_Coder_measure_54 ?_
      refine lv_lload hx hb d_Coder_measure_55 (lv_at hl 0 rfl) ?_
      refine lv_lsub hx hb d_Coder_measure_57 ?_
      refine lv_aload_n hx hb d_Coder_measure_58 rfl (lv_at hl 1 rfl) ?_
      refine lv_iload hx hb d_Coder_measure_59 (lv_at hl 7 rfl) ?_
      refine lv_iload_n hx hb d_Coder_measure_61 rfl (lv_at hl 2 rfl) ?_
      refine k_ciR (k_rv S (c_Coder_easedAt l G _ rC rst rS rL rQ rB rN rE rl rt rw rh rf rp rb i q0 fr tt fb ld ro kd db ew ac dn pr nu de cP cQ nb es gb (by omega) (by omega) hp1.2 hes1) 2 m2_188 m2_185 m2_187 mp_10 m1_5 (by decide +kernel) (by decide) rfl rfl (k_preV (q0 := 0) hK hP hD hS hA hT rfl rfl [0, 1, 2, 3, 5] (by decide) rfl) rfl hl.1 rfl (Nat.le_of_ble_eq_true rfl) d_Coder_measure_62 ⟨Nat.le_of_ble_eq_true rfl, Nat.le_of_ble_eq_true rfl⟩) (fun r62 h62 => ?_)
      subst h62
      refine k_ciR (k_rv S (c_Quant_numberOf l G _ rQ rqf rqo (max 0 (q0 - es (gb i))) ((cf (gp i)) - p34) qf qo (by omega) (hqf _ (by omega) (by omega))) 2 m2_193 m2_190 m2_191 m2_192 m1_6 (by decide +kernel) (by decide) rfl rfl (k_preV (q0 := 7) hK hP hD hS hA hT rfl rfl [7, 8, 9] (by decide) rfl) rfl hl.1 rfl (Nat.le_of_ble_eq_true rfl) d_Coder_measure_65 ⟨Nat.le_of_ble_eq_true rfl, Nat.le_of_ble_eq_true rfl⟩) (fun r65 h65 => ?_)
      subst h65
      refine k_nmi (fun v65 hq65 => ?_)
      have hv65 : -134217726 ≤ v65 ∧ v65 ≤ 134217726 := by rw [hq65]; exact nmC_r (bd_le (bd_sub (hcf i hii hc18) hb34 (by omega)).1 (by omega)) (hqf _ (by omega) (by omega))
      have hsz := szN_r hv65
      have hq66 : v65 = nmC (cf (gp i) - prd pr gb gp gv1 i) (qf (rrI es gb q0 i)) := by rw [hq65, hp34]; rfl
      refine lv_istore hx hb d_Coder_measure_68 hl (by decide) rfl (fun ls hl => ?_)
      have hl : lv_has ls 11 [(9, .int (iv (v65))), (7, .long (p34)), (0, .ref rC), (1, .int (iv (q0))), (2, .ref rc), (3, .ref rv), (4, .int (iv (z1))), (5, .int (iv (n1))), (6, .int (iv (i)))] := hl
      refine lv_aload_n hx hb d_Coder_measure_70 rfl (lv_at hl 2 rfl) ?_
      refine va_get (D := gD G) (ci := 4) (v := .ref rN) (C := R_Coder) (T := F_Coder) (N := 11) hx hb hw in_Coder hown hK hP 0 rfl rfl 5 (by decide) (hw _ m1_182) (fun _ h => h) rfl d_Coder_measure_71 ?_
      refine lv_iload hx hb d_Coder_measure_74 (lv_at hl 8 rfl) ?_
      refine lv_iload hx hb d_Coder_measure_76 (lv_at hl 0 rfl) ?_
      refine k_ias hx hb hK hP hD hS 6 0 rfl rfl (by decide) (by omega) d_Coder_measure_78 (fun H locs hP hD hS => ?_)
      have hP : va_P (gD G) classes [(rC, .inr (4, [.ref rst, .ref rS, .ref rL, .ref rQ, .ref rB, .ref rN, .int (iv (fr)), .int (iv (tt)), .int (iv (fb)), .int (iv (ld)), .int (iv (ro))])), (rS, .inr (3, [.int (iv (kd)), .int (iv (db)), .int (iv (ew)), .int (iv (ac)), .int (iv (dn)), .int (iv (pr)), .ref rE, .int (iv (nu)), .int (iv (de))])), (rL, .inr (1, [.int (iv (cP)), .int (iv (cQ)), .int (iv (nb)), .ref rl, .ref rt, .ref rw, .ref rh, .ref rf, .ref rp, .ref rb])), (rE, ai (gI G) 8 (es)), (rp, ai (gI G) 256 (gp)), (rb, ai (gI G) 256 (gb)), (rN, ai (gI G) 256 (up gn1 i v65)), (rQ, .inr (2, [.ref rqf, .ref rqo])), (rqf, ai (gI G) 32 (qf)), (rqo, ai (gI G) 32 (qo)), (rc, al (gL G) 256 (cf)), (rv, al (gL G) 256 (gv1))] H := hP
      have hD : va_D A [(rC, .inr (4, [.ref rst, .ref rS, .ref rL, .ref rQ, .ref rB, .ref rN, .int (iv (fr)), .int (iv (tt)), .int (iv (fb)), .int (iv (ld)), .int (iv (ro))])), (rS, .inr (3, [.int (iv (kd)), .int (iv (db)), .int (iv (ew)), .int (iv (ac)), .int (iv (dn)), .int (iv (pr)), .ref rE, .int (iv (nu)), .int (iv (de))])), (rL, .inr (1, [.int (iv (cP)), .int (iv (cQ)), .int (iv (nb)), .ref rl, .ref rt, .ref rw, .ref rh, .ref rf, .ref rp, .ref rb])), (rE, ai (gI G) 8 (es)), (rp, ai (gI G) 256 (gp)), (rb, ai (gI G) 256 (gb)), (rN, ai (gI G) 256 (up gn1 i v65)), (rQ, .inr (2, [.ref rqf, .ref rqo])), (rqf, ai (gI G) 32 (qf)), (rqo, ai (gI G) 32 (qo)), (rc, al (gL G) 256 (cf)), (rv, al (gL G) 256 (gv1))] := hD
      refine lv_aload_n hx hb d_Coder_measure_79 rfl (lv_at hl 2 rfl) ?_
      refine lv_iload hx hb d_Coder_measure_80 (lv_at hl 8 rfl) ?_
      refine lv_iload_n hx hb d_Coder_measure_82 rfl (lv_at hl 3 rfl) ?_
      refine lv_lload hx hb d_Coder_measure_83 (lv_at hl 1 rfl) ?_
      refine lv_aload_n hx hb d_Coder_measure_85 rfl (lv_at hl 5 rfl) ?_
      refine k_cv (wz := fun u : Int → Int64 => [(rC, .inr (4, [.ref rst, .ref rS, .ref rL, .ref rQ, .ref rB, .ref rN, .int (iv (fr)), .int (iv (tt)), .int (iv (fb)), .int (iv (ld)), .int (iv (ro))])), (rS, .inr (3, [.int (iv (kd)), .int (iv (db)), .int (iv (ew)), .int (iv (ac)), .int (iv (dn)), .int (iv (pr)), .ref rE, .int (iv (nu)), .int (iv (de))])), (rL, .inr (1, [.int (iv (cP)), .int (iv (cQ)), .int (iv (nb)), .ref rl, .ref rt, .ref rw, .ref rh, .ref rf, .ref rp, .ref rb])), (rE, ai (gI G) 8 (es)), (rp, ai (gI G) 256 (gp)), (rb, ai (gI G) 256 (gb)), (rN, ai (gI G) 256 (up gn1 i v65)), (rQ, .inr (2, [.ref rqf, .ref rqo])), (rqf, ai (gI G) 32 (qf)), (rqo, ai (gI G) 32 (qo)), (rc, al (gL G) 256 (cf)), (rv, al (gL G) 256 (u))]) (wr := [(rc, al (gL G) 256 (cf))]) (k_rv S (c_Coder_rebuildAt l G _ rC rv rst rS rL rQ rB rN rE rl rt rw rh rf rp rb rqf rqo i q0 fr tt fb ld ro kd db ew ac dn pr nu de cP cQ nb p34 es gp gb (up gn1 i v65) qf qo gv1 (by omega) (by omega) hp1.2 hes1 hp1.1 (by rw [up_self]; exact hv65) hqf hqo) 4 m2_203 m2_200 m2_202 mp_11 m1_5 (by decide +kernel) (by decide) rfl rfl (k_preV (q0 := 0) hK hP hD hS hA hT rfl rfl [0, 1, 2, 3, 4, 5, 6, 7, 8, 9, 11] (by decide) rfl) rfl hl.1 rfl (Nat.le_of_ble_eq_true rfl) d_Coder_measure_86 ⟨Nat.le_of_ble_eq_true rfl, Nat.le_of_ble_eq_true rfl⟩) hP hD hS hA [0, 1, 2, 3, 4, 5, 6, 7, 8, 9, 11] [10] [1, 2, 3, 4, 5, 6, 7, 8, 9, 10, 0, 11] rfl rfl (by decide) (by decide) (by decide) (fun _ => rfl) (fun u86 H locs h86 hP hD hS => ?_)
      subst h86
      have hP : va_P (gD G) classes [(rC, .inr (4, [.ref rst, .ref rS, .ref rL, .ref rQ, .ref rB, .ref rN, .int (iv (fr)), .int (iv (tt)), .int (iv (fb)), .int (iv (ld)), .int (iv (ro))])), (rS, .inr (3, [.int (iv (kd)), .int (iv (db)), .int (iv (ew)), .int (iv (ac)), .int (iv (dn)), .int (iv (pr)), .ref rE, .int (iv (nu)), .int (iv (de))])), (rL, .inr (1, [.int (iv (cP)), .int (iv (cQ)), .int (iv (nb)), .ref rl, .ref rt, .ref rw, .ref rh, .ref rf, .ref rp, .ref rb])), (rE, ai (gI G) 8 (es)), (rp, ai (gI G) 256 (gp)), (rb, ai (gI G) 256 (gb)), (rN, ai (gI G) 256 (up gn1 i v65)), (rQ, .inr (2, [.ref rqf, .ref rqo])), (rqf, ai (gI G) 32 (qf)), (rqo, ai (gI G) 32 (qo)), (rc, al (gL G) 256 (cf)), (rv, al (gL G) 256 (up gv1 (gp i) (bdL (p34 + vlC ((up gn1 i v65) i) (qf (max 0 (q0 - es (gb i)))) (qo (max 0 (q0 - es (gb i))))))))] H := hP
      have hD : va_D A [(rC, .inr (4, [.ref rst, .ref rS, .ref rL, .ref rQ, .ref rB, .ref rN, .int (iv (fr)), .int (iv (tt)), .int (iv (fb)), .int (iv (ld)), .int (iv (ro))])), (rS, .inr (3, [.int (iv (kd)), .int (iv (db)), .int (iv (ew)), .int (iv (ac)), .int (iv (dn)), .int (iv (pr)), .ref rE, .int (iv (nu)), .int (iv (de))])), (rL, .inr (1, [.int (iv (cP)), .int (iv (cQ)), .int (iv (nb)), .ref rl, .ref rt, .ref rw, .ref rh, .ref rf, .ref rp, .ref rb])), (rE, ai (gI G) 8 (es)), (rp, ai (gI G) 256 (gp)), (rb, ai (gI G) 256 (gb)), (rN, ai (gI G) 256 (up gn1 i v65)), (rQ, .inr (2, [.ref rqf, .ref rqo])), (rqf, ai (gI G) 32 (qf)), (rqo, ai (gI G) 32 (qo)), (rc, al (gL G) 256 (cf)), (rv, al (gL G) 256 (up gv1 (gp i) (bdL (p34 + vlC ((up gn1 i v65) i) (qf (max 0 (q0 - es (gb i)))) (qo (max 0 (q0 - es (gb i))))))))] := hD
      refine lv_iload hx hb d_Coder_measure_89 (lv_at hl 0 rfl) ?_
      refine k_ciR (k_rs S (c_Bits_sizeToLastZero l G _ v65 hv65) 1 m2_218 m2_216 m2_217 m1_7 (by decide +kernel) (by decide) rfl rfl (k_preS hK hP hD hS hA hT [] (by decide) rfl) rfl hl.1 rfl (Nat.le_of_ble_eq_true rfl) d_Coder_measure_91 ⟨Nat.le_of_ble_eq_true rfl, Nat.le_of_ble_eq_true rfl⟩) (fun r91 h91 => ?_)
      subst h91
      refine lv_istore hx hb d_Coder_measure_94 hl (by decide) rfl (fun ls hl => ?_)
      have hl : lv_has ls 11 [(10, .int (iv (zlN v65))), (9, .int (iv (v65))), (7, .long (p34)), (0, .ref rC), (1, .int (iv (q0))), (2, .ref rc), (3, .ref rv), (4, .int (iv (z1))), (5, .int (iv (n1))), (6, .int (iv (i)))] := hl
      refine lv_iload hx hb d_Coder_measure_96 (lv_at hl 0 rfl) ?_
      refine k_if_le (tgt := 108) hx hb d_Coder_measure_98 (by decide) (by omega) (fun hc98 => ?_) (fun hc98 => ?_)
      · refine lv_iload hx hb d_Coder_measure_108 (lv_at hl 7 rfl) ?_
        refine lv_iload hx hb d_Coder_measure_110 (lv_at hl 1 rfl) ?_
        refine k_ciR (k_rs S (c_Bits_sizeOf l G _ v65 hv65) 1 m2_221 m2_227 m2_220 m1_7 (by decide +kernel) (by decide) rfl rfl (k_preS hK hP hD hS hA hT [] (by decide) rfl) rfl hl.1 rfl (Nat.le_of_ble_eq_true rfl) d_Coder_measure_112 ⟨Nat.le_of_ble_eq_true rfl, Nat.le_of_ble_eq_true rfl⟩) (fun r112 h112 => ?_)
        subst h112
        refine k_iadd hx hb d_Coder_measure_115 ?_
        refine lv_istore hx hb d_Coder_measure_116 hl (by decide) rfl (fun ls hl => ?_)
        have hl : lv_has ls 11 [(4, .int (iv (z1 + (szN v65)))), (10, .int (iv (zlN v65))), (9, .int (iv (v65))), (7, .long (p34)), (0, .ref rC), (1, .int (iv (q0))), (2, .ref rc), (3, .ref rv), (5, .int (iv (n1))), (6, .int (iv (i)))] := hl
        refine lv_iinc (k := 9) (v := iv (i + 1)) hx hb d_Coder_measure_118 hl rfl (iv_add _ _) (by decide) rfl (fun ls hl => ?_)
        have hl : lv_has ls 11 [(6, .int (iv (i + 1))), (4, .int (iv (z1 + (szN v65)))), (10, .int (iv (zlN v65))), (9, .int (iv (v65))), (7, .long (p34)), (0, .ref rC), (1, .int (iv (q0))), (2, .ref rc), (3, .ref rv), (5, .int (iv (n1)))] := hl
        refine lv_goto (tgt := 12) hx hb d_Coder_measure_121 (by decide) ?_
        exact ihi (by omega) _ _ _ (z1 + (szN v65)) n1 (up gn1 i v65) (up gv1 (gp i) (bdL (p34 + vlC ((up gn1 i v65) i) (qf (max 0 (q0 - es (gb i)))) (qo (max 0 (q0 - es (gb i))))))) (lv_sub hl [5, 6, 7, 8, 1, 9, 0] rfl) hP hD hS (by rw [it_s _ _ hii, hs]; show (if ro < n1 then _ else _) = _; rw [if_neg (by omega), msx_e hp34 hq65]; first | (rw [if_pos (by omega)]; rfl) | (rw [if_neg (by omega)]; rfl)) (bd_up hv1 (bdL_b _)) (by omega)
      · refine lv_iload hx hb d_Coder_measure_101 (lv_at hl 7 rfl) ?_
        refine lv_iload hx hb d_Coder_measure_103 (lv_at hl 0 rfl) ?_
        refine k_iadd hx hb d_Coder_measure_105 ?_
        refine lv_istore hx hb d_Coder_measure_106 hl (by decide) rfl (fun ls hl => ?_)
        have hl : lv_has ls 11 [(5, .int (iv (z1 + (zlN v65)))), (10, .int (iv (zlN v65))), (9, .int (iv (v65))), (7, .long (p34)), (0, .ref rC), (1, .int (iv (q0))), (2, .ref rc), (3, .ref rv), (4, .int (iv (z1))), (6, .int (iv (i)))] := hl
        refine lv_iload hx hb d_Coder_measure_108 (lv_at hl 8 rfl) ?_
        refine lv_iload hx hb d_Coder_measure_110 (lv_at hl 2 rfl) ?_
        refine k_ciR (k_rs S (c_Bits_sizeOf l G _ v65 hv65) 1 m2_221 m2_227 m2_220 m1_7 (by decide +kernel) (by decide) rfl rfl (k_preS hK hP hD hS hA hT [] (by decide) rfl) rfl hl.1 rfl (Nat.le_of_ble_eq_true rfl) d_Coder_measure_112 ⟨Nat.le_of_ble_eq_true rfl, Nat.le_of_ble_eq_true rfl⟩) (fun r112 h112 => ?_)
        subst h112
        refine k_iadd hx hb d_Coder_measure_115 ?_
        refine lv_istore hx hb d_Coder_measure_116 hl (by decide) rfl (fun ls hl => ?_)
        have hl : lv_has ls 11 [(4, .int (iv (z1 + (szN v65)))), (5, .int (iv (z1 + (zlN v65)))), (10, .int (iv (zlN v65))), (9, .int (iv (v65))), (7, .long (p34)), (0, .ref rC), (1, .int (iv (q0))), (2, .ref rc), (3, .ref rv), (6, .int (iv (i)))] := hl
        refine lv_iinc (k := 9) (v := iv (i + 1)) hx hb d_Coder_measure_118 hl rfl (iv_add _ _) (by decide) rfl (fun ls hl => ?_)
        have hl : lv_has ls 11 [(6, .int (iv (i + 1))), (4, .int (iv (z1 + (szN v65)))), (5, .int (iv (z1 + (zlN v65)))), (10, .int (iv (zlN v65))), (9, .int (iv (v65))), (7, .long (p34)), (0, .ref rC), (1, .int (iv (q0))), (2, .ref rc), (3, .ref rv)] := hl
        refine lv_goto (tgt := 12) hx hb d_Coder_measure_121 (by decide) ?_
        exact ihi (by omega) _ _ _ (z1 + (szN v65)) (z1 + (zlN v65)) (up gn1 i v65) (up gv1 (gp i) (bdL (p34 + vlC ((up gn1 i v65) i) (qf (max 0 (q0 - es (gb i)))) (qo (max 0 (q0 - es (gb i))))))) (lv_sub hl [6, 7, 8, 9, 1, 2, 0] rfl) hP hD hS (by rw [it_s _ _ hii, hs]; show (if ro < n1 then _ else _) = _; rw [if_neg (by omega), msx_e hp34 hq65]; first | (rw [if_pos (by omega)]; rfl) | (rw [if_neg (by omega)]; rfl)) (bd_up hv1 (bdL_b _)) (by omega)
