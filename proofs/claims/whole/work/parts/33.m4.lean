/-! the reference: places of a slice, its bits -/
theorem ls_cap {cP cQ db ew ac dn s b : Int} {gp gb : Int → Int} (hP : 0 ≤ cP ∧ cP ≤ 16) (hQ : 0 ≤ cQ ∧ cQ ≤ 16) (h : 0 ≤ db ∧ db ≤ 2 ∧ 0 ≤ ew ∧ ew ≤ 2 ∧ db + ew ≤ 3) (ha : 1 ≤ ac ∧ ac ≤ 4) (hd : 1 ≤ dn ∧ dn ≤ 4) (hs : 0 ≤ s ∧ s < ac * dn) (hb : 0 ≤ b ∧ b < nBd db ew) :
    0 ≤ (it (lsB cP cQ db ew ac dn s) 0 b (0, gp, gb)).1 ∧ (it (lsB cP cQ db ew ac dn s) 0 b (0, gp, gb)).1 + psz (bWd cP db ew b) (bHt cQ db ew b) ac dn s ≤ 256 := by
  have tr := tot_r hP hQ h
  have hc : ∀ k, 0 ≤ k → k ≤ nBd db ew → (it (lsB cP cQ db ew ac dn s) 0 k (0, gp, gb)).1 = Sm (fun b => psz (bWd cP db ew b) (bHt cQ db ew b) ac dn s) k := by
    intro k k0 k1
    refine Sm_i (P := fun k => k ≤ nBd db ew → (it (lsB cP cQ db ew ac dn s) 0 k (0, gp, gb)).1 = Sm (fun b => psz (bWd cP db ew b) (bHt cQ db ew b) ac dn s) k) k0 (fun _ => by rw [it_self, Sm_0]) (fun i h1 h2 h3 h4 => ?_) k1
    rw [it_s _ _ h1, Sm_s _ h1]
    have ht := tr.2 i h1 (by omega)
    show (prt _ _ _ _ i ac dn s _).1 = _
    rw [prt_c ht.1.1 ht.2.1 ha.1 hd.1, h3 (by omega)]
  have hps : ∀ i, 0 ≤ i → i < nBd db ew → 0 ≤ psz (bWd cP db ew i) (bHt cQ db ew i) ac dn s := fun i i0 i1 => psz_n (tr.2 i i0 i1).1.1 (tr.2 i i0 i1).2.1 ha.1 hd.1
  have hle : Sm (fun b => psz (bWd cP db ew b) (bHt cQ db ew b) ac dn s) (nBd db ew) ≤ 256 := by
    have := Sm_le (f := fun b => psz (bWd cP db ew b) (bHt cQ db ew b) ac dn s) (g := fun b => bWd cP db ew b * bHt cQ db ew b) (n := nBd db ew) (by omega) (fun i i0 i1 => by
      have h1 := bfS_h (tr.2 i i0 i1).1.1 (tr.2 i i0 i1).2.1 ha.1 hd.1 hs
      have h2 : 0 ≤ bfS (bWd cP db ew i) (bHt cQ db ew i) ac dn s := Sm_i (P := fun k => 0 ≤ bfS (bWd cP db ew i) (bHt cQ db ew i) ac dn k) hs.1 (by rw [bfS_0 ha.1]; omega) (fun j j1 _ j3 => by
        rw [bfS_s ha j1]
        have := psz_n (s := j) (tr.2 i i0 i1).1.1 (tr.2 i i0 i1).2.1 ha.1 hd.1
        omega)
      omega)
    have h3 := tr.1
    omega
  rw [hc b hb.1 (by omega)]
  have h1 := Sm_p (f := fun b => psz (bWd cP db ew b) (bHt cQ db ew b) ac dn s) (m := b + 1) (n := nBd db ew) ⟨by omega, by omega⟩ hps
  have h2 := Sm_n (f := fun b => psz (bWd cP db ew b) (bHt cQ db ew b) ac dn s) (n := b) hb.1 (fun i i0 i1 => hps i i0 (by omega))
  rw [Sm_s _ hb.1] at h1
  omega
theorem lo_ha {P : Int → Prop} {a : Int} (h : ∀ i, i ≤ a → (∀ j, 0 ≤ j → j < i → P j) → P i) : P a := by
  have key : ∀ n : Nat, ∀ i, i ≤ a → i.toNat ≤ n → P i := by
    intro n
    induction n with
    | zero => intro i h1 h2; exact h i h1 (fun j h3 h4 => by omega)
    | succ n ih => intro i h1 h2; exact h i h1 (fun j h3 h4 => ih j (by omega) (by omega))
  exact key _ a (Int.le_refl a) (Nat.le_refl _)
def dgI (v : Int) : Int := if v ≤ 0 then 0 else 1 + lg v
theorem dgI_s {v : Int} (h : 0 < v) : dgI v = 1 + dgI (v / 2) := by
  unfold dgI
  rw [if_neg (by omega)]
  by_cases h1 : v = 1
  · subst h1; decide +kernel
  · rw [if_neg (by omega)]
    have e := lg_s (i := v / 2) (by omega)
    have h2 : lg v = ((lg (v / 2)).toNat + 1 : Nat) := lg_p (i := v) ((lg (v / 2)).toNat + 1) (2 ^ (lg (v / 2)).toNat * 2) (by rw [Int.pow_succ]) (by omega) (by omega)
    have h3 : 0 ≤ lg (v / 2) := Int.natCast_nonneg _
    omega
theorem fac_k : ∀ r : Fin 32, (r.val % 4 = 0 → 4 * shL 1 ((r.val : Int) / 4) = lw (facI r.val)) ∧ (r.val % 4 = 1 → (503829 * shL 1 ((r.val : Int) / 4) + 52958) / 105917 = lw (facI r.val)) ∧ (r.val % 4 = 2 → (665857 * shL 1 ((r.val : Int) / 4) + 58854) / 117708 = lw (facI r.val)) ∧ (r.val % 4 = 3 → (440253 * shL 1 ((r.val : Int) / 4) + 32722) / 65444 = lw (facI r.val)) := by decide +kernel
theorem fac_L {r : Int} (h : 0 ≤ r ∧ r < 32) : (r % 4 = 0 → 4 * shL 1 (r / 4) = lw (facI r)) ∧ (r % 4 = 1 → (503829 * shL 1 (r / 4) + 52958) / 105917 = lw (facI r)) ∧ (r % 4 = 2 → (665857 * shL 1 (r / 4) + 58854) / 117708 = lw (facI r)) ∧ (r % 4 = 3 → (440253 * shL 1 (r / 4) + 32722) / 65444 = lw (facI r)) := by
  have k := fac_k ⟨r.toNat, by omega⟩
  simp only [Int.toNat_of_nonneg h.1] at k
  exact ⟨fun q => k.1 (by omega), fun q => k.2.1 (by omega), fun q => k.2.2.1 (by omega), fun q => k.2.2.2 (by omega)⟩
theorem fac_r {r : Int} (h : 0 ≤ r ∧ r < 32) : 0 < facI r ∧ facI r < 2147483648 := by
  have k := (show ∀ r : Fin 32, 0 < facI r.val ∧ facI r.val < 2147483648 by decide +kernel) ⟨r.toNat, by omega⟩
  simp only [Int.toNat_of_nonneg h.1] at k
  exact k
def nmM (c : Int64) (r : Int) : Int64 := if 0 ≤ c then (if 4 * c / lw (facI r) ≤ 134217726 then 4 * c / lw (facI r) else 134217726) else -(if 4 * -c / lw (facI r) ≤ 134217726 then 4 * -c / lw (facI r) else 134217726)
def hfM (r : Int) : Int64 := if r = 0 then 1 else if r = 1 then 2 else shR (lw (facI r) + 1) 1
def vlM (v : Int64) (r : Int) : Int64 := if 0 ≤ v then (if v = 0 then 0 else shR (v * lw (facI r) + hfM r + 2) 2) else -(if -v = 0 then 0 else shR (-v * lw (facI r) + hfM r + 2) 2)
theorem bdL_1 {v : Int64} (h : ¬ -134217728 ≤ v) : bdL v = -134217728 := by
  have e1 : (-134217728 : Int64).toInt = -134217728 := by decide
  have e2 : (134217728 : Int64).toInt = 134217728 := by decide
  rw [Int64.le_iff_toInt_le, e1] at h
  unfold bdL mnL mxL
  have h1 : v < 134217728 := by rw [Int64.lt_iff_toInt_lt, e2]; omega
  have h2 : v < -134217728 := by rw [Int64.lt_iff_toInt_lt, e1]; omega
  rw [if_pos h1, if_pos h2]
theorem bdL_2 {v : Int64} (h : ¬ v ≤ 134217728) : bdL v = 134217728 := by
  have e2 : (134217728 : Int64).toInt = 134217728 := by decide
  rw [Int64.le_iff_toInt_le, e2] at h
  unfold bdL mnL mxL
  have h1 : ¬ v < 134217728 := by rw [Int64.lt_iff_toInt_lt, e2]; omega
  rw [if_neg h1, if_neg (by decide)]
theorem bdL_3 {v : Int64} (h1 : -134217728 ≤ v) (h2 : v ≤ 134217728) : bdL v = v := by
  have e1 : (-134217728 : Int64).toInt = -134217728 := by decide
  have e2 : (134217728 : Int64).toInt = 134217728 := by decide
  rw [Int64.le_iff_toInt_le, e1] at h1
  rw [Int64.le_iff_toInt_le, e2] at h2
  unfold bdL mnL mxL
  have h3 : ¬ v < -134217728 := by rw [Int64.lt_iff_toInt_lt, e1]; omega
  by_cases h4 : v < 134217728
  · rw [if_pos h4, if_neg h3]
  · rw [if_neg h4, if_neg (by decide)]
    apply Int64.toInt.inj
    rw [Int64.lt_iff_toInt_lt, e2] at h4
    rw [e2]; omega
def fdM (x : Int64) : Int64 := if 0 ≤ x - x / 3 * 3 then x / 3 else x / 3 - 1
def fcM (v : Int → Int64) (p : Int) : Int64 := if p < 16 then (if p = 0 then 0 else v (p - 1)) else if p % 16 = 0 then v (p - 16) else fdM (v (p - 1) + v (p - 16) + v (p - 17) + 1)
def btM (g : Int → Int) (ba i : Int) : Int := g (ba + i / 8) / 2 ^ (7 - i % 8).toNat % 2
def bsM (g : Int → Int) (ba fm n : Int) : Int := it (fun i v => 2 * v + btM g ba i) fm (fm + n) 0
def nxM (g : Int → Int) (ba sp cu : Int) : Int := if cu < sp then btM g ba cu else 1
theorem m4_191 : Cond.code y_Mod_bitAt prog_9_method_38_code 2 (some .int) ∈ wl := wl_4 191 (by decide +kernel) (by decide +kernel)
theorem m4_145 : Cond.code y_Mod_factor prog_9_method_33_code 4 (some .long) ∈ wl := wl_4 145 (by decide +kernel) (by decide +kernel)
theorem m4_125 : Cond.code y_Mod_left prog_9_method_27_code 4 (some .int) ∈ wl := wl_4 125 (by decide +kernel) (by decide +kernel)
theorem m4_121 : Cond.code y_Mod_top prog_9_method_28_code 3 (some .int) ∈ wl := wl_4 121 (by decide +kernel) (by decide +kernel)
theorem m4_142 : Cond.constantLong "WaveletSlicesModel" 202 (4) ∈ wl := wl_4 142 (by decide +kernel) (by decide +kernel)
theorem m4_146 : Cond.constantLong "WaveletSlicesModel" 204 (503829) ∈ wl := wl_4 146 (by decide +kernel) (by decide +kernel)
theorem m4_147 : Cond.constantLong "WaveletSlicesModel" 206 (52958) ∈ wl := wl_4 147 (by decide +kernel) (by decide +kernel)
theorem m4_148 : Cond.constantLong "WaveletSlicesModel" 208 (105917) ∈ wl := wl_4 148 (by decide +kernel) (by decide +kernel)
theorem m4_149 : Cond.constantLong "WaveletSlicesModel" 210 (665857) ∈ wl := wl_4 149 (by decide +kernel) (by decide +kernel)
theorem m4_150 : Cond.constantLong "WaveletSlicesModel" 212 (58854) ∈ wl := wl_4 150 (by decide +kernel) (by decide +kernel)
theorem m4_151 : Cond.constantLong "WaveletSlicesModel" 214 (117708) ∈ wl := wl_4 151 (by decide +kernel) (by decide +kernel)
theorem m4_152 : Cond.constantLong "WaveletSlicesModel" 216 (440253) ∈ wl := wl_4 152 (by decide +kernel) (by decide +kernel)
theorem m4_153 : Cond.constantLong "WaveletSlicesModel" 218 (32722) ∈ wl := wl_4 153 (by decide +kernel) (by decide +kernel)
theorem m4_154 : Cond.constantLong "WaveletSlicesModel" 220 (65444) ∈ wl := wl_4 154 (by decide +kernel) (by decide +kernel)
theorem m4_155 : Cond.constantLong "WaveletSlicesModel" 226 (134217726) ∈ wl := wl_4 155 (by decide +kernel) (by decide +kernel)
theorem m4_170 : Cond.constantLong "WaveletSlicesModel" 228 (-134217728) ∈ wl := wl_4 170 (by decide +kernel) (by decide +kernel)
theorem m4_171 : Cond.constantLong "WaveletSlicesModel" 230 (134217728) ∈ wl := wl_4 171 (by decide +kernel) (by decide +kernel)
theorem m4_138 : Cond.constantLong "WaveletSlicesModel" 232 (3) ∈ wl := wl_4 138 (by decide +kernel) (by decide +kernel)
theorem m3_147 : Cond.fieldLink "WaveletSlicesModel" 58 "WaveletSlicesModel" "bandOf" "[I" ∈ wl := wl_3 147 (by decide +kernel) (by decide +kernel)
theorem m3_148 : Cond.fieldLink "WaveletSlicesModel" 190 "WaveletSlicesModel" "base" "I" ∈ wl := wl_3 148 (by decide +kernel) (by decide +kernel)
theorem m3_145 : Cond.fieldLink "WaveletSlicesModel" 180 "WaveletSlicesModel" "count" "I" ∈ wl := wl_3 145 (by decide +kernel) (by decide +kernel)
theorem m3_152 : Cond.fieldLink "WaveletSlicesModel" 245 "WaveletSlicesModel" "cursor" "I" ∈ wl := wl_3 152 (by decide +kernel) (by decide +kernel)
theorem m3_150 : Cond.fieldLink "WaveletSlicesModel" 196 "WaveletSlicesModel" "lengthBits" "I" ∈ wl := wl_3 150 (by decide +kernel) (by decide +kernel)
theorem m3_146 : Cond.fieldLink "WaveletSlicesModel" 55 "WaveletSlicesModel" "place" "[I" ∈ wl := wl_3 146 (by decide +kernel) (by decide +kernel)
theorem m3_151 : Cond.fieldLink "WaveletSlicesModel" 199 "WaveletSlicesModel" "room" "I" ∈ wl := wl_3 151 (by decide +kernel) (by decide +kernel)
theorem m3_149 : Cond.fieldLink "WaveletSlicesModel" 193 "WaveletSlicesModel" "size" "I" ∈ wl := wl_3 149 (by decide +kernel) (by decide +kernel)
theorem m3_153 : Cond.fieldLink "WaveletSlicesModel" 248 "WaveletSlicesModel" "stop" "I" ∈ wl := wl_3 153 (by decide +kernel) (by decide +kernel)
theorem m3_140 : Cond.fieldLink "WaveletSlicesModel" 45 "WaveletSlicesModel" "stream" "[B" ∈ wl := wl_3 140 (by decide +kernel) (by decide +kernel)
theorem m3_129 : Cond.fieldLink "WaveletSlicesModel" 20 "WaveletSlicesModel" "work" "[J" ∈ wl := wl_3 129 (by decide +kernel) (by decide +kernel)
theorem m4_190 : Cond.instanceMethod y_Mod_bitAt ∈ wl := wl_4 190 (by decide +kernel) (by decide +kernel)
theorem m4_124 : Cond.instanceMethod y_Mod_left ∈ wl := wl_4 124 (by decide +kernel) (by decide +kernel)
theorem m4_120 : Cond.instanceMethod y_Mod_top ∈ wl := wl_4 120 (by decide +kernel) (by decide +kernel)
theorem m4_188 : Cond.methodLink "WaveletSlicesModel" 234 y_Mod_bitAt ∈ wl := wl_4 188 (by decide +kernel) (by decide +kernel)
theorem m4_143 : Cond.methodLink "WaveletSlicesModel" 222 y_Mod_factor ∈ wl := wl_4 143 (by decide +kernel) (by decide +kernel)
theorem m4_122 : Cond.methodLink "WaveletSlicesModel" 187 y_Mod_left ∈ wl := wl_4 122 (by decide +kernel) (by decide +kernel)
theorem m4_118 : Cond.methodLink "WaveletSlicesModel" 183 y_Mod_top ∈ wl := wl_4 118 (by decide +kernel) (by decide +kernel)
theorem mp_48 : Cond.selects "WaveletSlicesModel" y_Mod_bitAt y_Mod_bitAt ∈ wl := wl_p 48 (by decide +kernel) (by decide +kernel)
theorem mp_38 : Cond.selects "WaveletSlicesModel" y_Mod_left y_Mod_left ∈ wl := wl_p 38 (by decide +kernel) (by decide +kernel)
theorem mp_37 : Cond.selects "WaveletSlicesModel" y_Mod_top y_Mod_top ∈ wl := wl_p 37 (by decide +kernel) (by decide +kernel)
theorem m4_144 : Cond.static y_Mod_factor ∈ wl := wl_4 144 (by decide +kernel) (by decide +kernel)
theorem d_Mod_list_0 : decode prog_9_method_29_code 0 = .ok (.iload_n 1, 1) := by decide +kernel
theorem d_Mod_list_1 : decode prog_9_method_29_code 1 = .ok (.aload_n 0, 1) := by decide +kernel
theorem d_Mod_list_2 : decode prog_9_method_29_code 2 = .ok (.getfield 30, 3) := by decide +kernel
theorem d_Mod_list_5 : decode prog_9_method_29_code 5 = .ok (.irem, 1) := by decide +kernel
theorem d_Mod_list_6 : decode prog_9_method_29_code 6 = .ok (.istore_n 2, 1) := by decide +kernel
theorem d_Mod_list_7 : decode prog_9_method_29_code 7 = .ok (.iload_n 1, 1) := by decide +kernel
theorem d_Mod_list_8 : decode prog_9_method_29_code 8 = .ok (.aload_n 0, 1) := by decide +kernel
theorem d_Mod_list_9 : decode prog_9_method_29_code 9 = .ok (.getfield 30, 3) := by decide +kernel
theorem d_Mod_list_12 : decode prog_9_method_29_code 12 = .ok (.idiv, 1) := by decide +kernel
theorem d_Mod_list_13 : decode prog_9_method_29_code 13 = .ok (.istore_n 3, 1) := by decide +kernel
theorem d_Mod_list_14 : decode prog_9_method_29_code 14 = .ok (.aload_n 0, 1) := by decide +kernel
theorem d_Mod_list_15 : decode prog_9_method_29_code 15 = .ok (.iconst 0, 1) := by decide +kernel
theorem d_Mod_list_16 : decode prog_9_method_29_code 16 = .ok (.putfield 180, 3) := by decide +kernel
theorem d_Mod_list_19 : decode prog_9_method_29_code 19 = .ok (.iconst 0, 1) := by decide +kernel
theorem d_Mod_list_20 : decode prog_9_method_29_code 20 = .ok (.istore 4, 2) := by decide +kernel
theorem d_Mod_list_22 : decode prog_9_method_29_code 22 = .ok (.iload 4, 2) := by decide +kernel
theorem d_Mod_list_24 : decode prog_9_method_29_code 24 = .ok (.aload_n 0, 1) := by decide +kernel
theorem d_Mod_list_25 : decode prog_9_method_29_code 25 = .ok (.invokevirtual 101, 3) := by decide +kernel
theorem d_Mod_list_28 : decode prog_9_method_29_code 28 = .ok (.if_icmp .ge 155, 3) := by decide +kernel
theorem d_Mod_list_31 : decode prog_9_method_29_code 31 = .ok (.aload_n 0, 1) := by decide +kernel
theorem d_Mod_list_32 : decode prog_9_method_29_code 32 = .ok (.invokevirtual 160, 3) := by decide +kernel
theorem d_Mod_list_35 : decode prog_9_method_29_code 35 = .ok (.aload_n 0, 1) := by decide +kernel
theorem d_Mod_list_36 : decode prog_9_method_29_code 36 = .ok (.iload 4, 2) := by decide +kernel
theorem d_Mod_list_38 : decode prog_9_method_29_code 38 = .ok (.iconst 1, 1) := by decide +kernel
theorem d_Mod_list_39 : decode prog_9_method_29_code 39 = .ok (.invokevirtual 176, 3) := by decide +kernel
theorem d_Mod_list_42 : decode prog_9_method_29_code 42 = .ok (.ishr, 1) := by decide +kernel
theorem d_Mod_list_43 : decode prog_9_method_29_code 43 = .ok (.istore 5, 2) := by decide +kernel
theorem d_Mod_list_45 : decode prog_9_method_29_code 45 = .ok (.aload_n 0, 1) := by decide +kernel
theorem d_Mod_list_46 : decode prog_9_method_29_code 46 = .ok (.invokevirtual 163, 3) := by decide +kernel
theorem d_Mod_list_49 : decode prog_9_method_29_code 49 = .ok (.aload_n 0, 1) := by decide +kernel
theorem d_Mod_list_50 : decode prog_9_method_29_code 50 = .ok (.iload 4, 2) := by decide +kernel
theorem d_Mod_list_52 : decode prog_9_method_29_code 52 = .ok (.iconst 0, 1) := by decide +kernel
theorem d_Mod_list_53 : decode prog_9_method_29_code 53 = .ok (.invokevirtual 176, 3) := by decide +kernel
theorem d_Mod_list_56 : decode prog_9_method_29_code 56 = .ok (.ishr, 1) := by decide +kernel
theorem d_Mod_list_57 : decode prog_9_method_29_code 57 = .ok (.istore 6, 2) := by decide +kernel
theorem d_Mod_list_59 : decode prog_9_method_29_code 59 = .ok (.iload 6, 2) := by decide +kernel
theorem d_Mod_list_61 : decode prog_9_method_29_code 61 = .ok (.iload_n 3, 1) := by decide +kernel
theorem d_Mod_list_62 : decode prog_9_method_29_code 62 = .ok (.imul, 1) := by decide +kernel
theorem d_Mod_list_63 : decode prog_9_method_29_code 63 = .ok (.aload_n 0, 1) := by decide +kernel
theorem d_Mod_list_64 : decode prog_9_method_29_code 64 = .ok (.getfield 33, 3) := by decide +kernel
theorem d_Mod_list_67 : decode prog_9_method_29_code 67 = .ok (.idiv, 1) := by decide +kernel
theorem d_Mod_list_68 : decode prog_9_method_29_code 68 = .ok (.istore 7, 2) := by decide +kernel
theorem d_Mod_list_70 : decode prog_9_method_29_code 70 = .ok (.iload 7, 2) := by decide +kernel
theorem d_Mod_list_72 : decode prog_9_method_29_code 72 = .ok (.iload 6, 2) := by decide +kernel
theorem d_Mod_list_74 : decode prog_9_method_29_code 74 = .ok (.iload_n 3, 1) := by decide +kernel
theorem d_Mod_list_75 : decode prog_9_method_29_code 75 = .ok (.iconst 1, 1) := by decide +kernel
theorem d_Mod_list_76 : decode prog_9_method_29_code 76 = .ok (.iadd, 1) := by decide +kernel
theorem d_Mod_list_77 : decode prog_9_method_29_code 77 = .ok (.imul, 1) := by decide +kernel
theorem d_Mod_list_78 : decode prog_9_method_29_code 78 = .ok (.aload_n 0, 1) := by decide +kernel
theorem d_Mod_list_79 : decode prog_9_method_29_code 79 = .ok (.getfield 33, 3) := by decide +kernel
theorem d_Mod_list_82 : decode prog_9_method_29_code 82 = .ok (.idiv, 1) := by decide +kernel
theorem d_Mod_list_83 : decode prog_9_method_29_code 83 = .ok (.if_icmp .ge 94, 3) := by decide +kernel
theorem d_Mod_list_86 : decode prog_9_method_29_code 86 = .ok (.iload 5, 2) := by decide +kernel
theorem d_Mod_list_88 : decode prog_9_method_29_code 88 = .ok (.iload_n 2, 1) := by decide +kernel
theorem d_Mod_list_89 : decode prog_9_method_29_code 89 = .ok (.imul, 1) := by decide +kernel
theorem d_Mod_list_90 : decode prog_9_method_29_code 90 = .ok (.aload_n 0, 1) := by decide +kernel
theorem d_Mod_list_91 : decode prog_9_method_29_code 91 = .ok (.getfield 30, 3) := by decide +kernel
theorem d_Mod_list_94 : decode prog_9_method_29_code 94 = .ok (.idiv, 1) := by decide +kernel
theorem d_Mod_list_95 : decode prog_9_method_29_code 95 = .ok (.istore 8, 2) := by decide +kernel
theorem d_Mod_list_97 : decode prog_9_method_29_code 97 = .ok (.iload 8, 2) := by decide +kernel
theorem d_Mod_list_99 : decode prog_9_method_29_code 99 = .ok (.iload 5, 2) := by decide +kernel
theorem d_Mod_list_101 : decode prog_9_method_29_code 101 = .ok (.iload_n 2, 1) := by decide +kernel
theorem d_Mod_list_102 : decode prog_9_method_29_code 102 = .ok (.iconst 1, 1) := by decide +kernel
theorem d_Mod_list_103 : decode prog_9_method_29_code 103 = .ok (.iadd, 1) := by decide +kernel
theorem d_Mod_list_104 : decode prog_9_method_29_code 104 = .ok (.imul, 1) := by decide +kernel
theorem d_Mod_list_105 : decode prog_9_method_29_code 105 = .ok (.aload_n 0, 1) := by decide +kernel
theorem d_Mod_list_106 : decode prog_9_method_29_code 106 = .ok (.getfield 30, 3) := by decide +kernel
theorem d_Mod_list_109 : decode prog_9_method_29_code 109 = .ok (.idiv, 1) := by decide +kernel
theorem d_Mod_list_110 : decode prog_9_method_29_code 110 = .ok (.if_icmp .ge 61, 3) := by decide +kernel
theorem d_Mod_list_113 : decode prog_9_method_29_code 113 = .ok (.aload_n 0, 1) := by decide +kernel
theorem d_Mod_list_114 : decode prog_9_method_29_code 114 = .ok (.getfield 55, 3) := by decide +kernel
theorem d_Mod_list_117 : decode prog_9_method_29_code 117 = .ok (.aload_n 0, 1) := by decide +kernel
theorem d_Mod_list_118 : decode prog_9_method_29_code 118 = .ok (.getfield 180, 3) := by decide +kernel
theorem d_Mod_list_121 : decode prog_9_method_29_code 121 = .ok (.bipush 16, 2) := by decide +kernel
theorem d_Mod_list_123 : decode prog_9_method_29_code 123 = .ok (.aload_n 0, 1) := by decide +kernel
theorem d_Mod_list_124 : decode prog_9_method_29_code 124 = .ok (.iload 4, 2) := by decide +kernel
theorem d_Mod_list_126 : decode prog_9_method_29_code 126 = .ok (.invokevirtual 183, 3) := by decide +kernel
theorem d_Mod_list_129 : decode prog_9_method_29_code 129 = .ok (.iload 7, 2) := by decide +kernel
theorem d_Mod_list_131 : decode prog_9_method_29_code 131 = .ok (.iadd, 1) := by decide +kernel
theorem d_Mod_list_132 : decode prog_9_method_29_code 132 = .ok (.imul, 1) := by decide +kernel
theorem d_Mod_list_133 : decode prog_9_method_29_code 133 = .ok (.aload_n 0, 1) := by decide +kernel
theorem d_Mod_list_134 : decode prog_9_method_29_code 134 = .ok (.iload 4, 2) := by decide +kernel
theorem d_Mod_list_136 : decode prog_9_method_29_code 136 = .ok (.invokevirtual 187, 3) := by decide +kernel
theorem d_Mod_list_139 : decode prog_9_method_29_code 139 = .ok (.iadd, 1) := by decide +kernel
theorem d_Mod_list_140 : decode prog_9_method_29_code 140 = .ok (.iload 8, 2) := by decide +kernel
theorem d_Mod_list_142 : decode prog_9_method_29_code 142 = .ok (.iadd, 1) := by decide +kernel
theorem d_Mod_list_143 : decode prog_9_method_29_code 143 = .ok (.iastore, 1) := by decide +kernel
theorem d_Mod_list_144 : decode prog_9_method_29_code 144 = .ok (.aload_n 0, 1) := by decide +kernel
theorem d_Mod_list_145 : decode prog_9_method_29_code 145 = .ok (.getfield 58, 3) := by decide +kernel
theorem d_Mod_list_148 : decode prog_9_method_29_code 148 = .ok (.aload_n 0, 1) := by decide +kernel
theorem d_Mod_list_149 : decode prog_9_method_29_code 149 = .ok (.getfield 180, 3) := by decide +kernel
theorem d_Mod_list_152 : decode prog_9_method_29_code 152 = .ok (.iload 4, 2) := by decide +kernel
theorem d_Mod_list_154 : decode prog_9_method_29_code 154 = .ok (.iastore, 1) := by decide +kernel
theorem d_Mod_list_155 : decode prog_9_method_29_code 155 = .ok (.aload_n 0, 1) := by decide +kernel
theorem d_Mod_list_156 : decode prog_9_method_29_code 156 = .ok (.dup, 1) := by decide +kernel
theorem d_Mod_list_157 : decode prog_9_method_29_code 157 = .ok (.getfield 180, 3) := by decide +kernel
theorem d_Mod_list_160 : decode prog_9_method_29_code 160 = .ok (.iconst 1, 1) := by decide +kernel
theorem d_Mod_list_161 : decode prog_9_method_29_code 161 = .ok (.iadd, 1) := by decide +kernel
theorem d_Mod_list_162 : decode prog_9_method_29_code 162 = .ok (.putfield 180, 3) := by decide +kernel
theorem d_Mod_list_165 : decode prog_9_method_29_code 165 = .ok (.iinc 8 1, 3) := by decide +kernel
theorem d_Mod_list_168 : decode prog_9_method_29_code 168 = .ok (.goto (-71), 3) := by decide +kernel
theorem d_Mod_list_171 : decode prog_9_method_29_code 171 = .ok (.iinc 7 1, 3) := by decide +kernel
theorem d_Mod_list_174 : decode prog_9_method_29_code 174 = .ok (.goto (-104), 3) := by decide +kernel
theorem d_Mod_list_177 : decode prog_9_method_29_code 177 = .ok (.iinc 4 1, 3) := by decide +kernel
theorem d_Mod_list_180 : decode prog_9_method_29_code 180 = .ok (.goto (-158), 3) := by decide +kernel
theorem d_Mod_list_183 : decode prog_9_method_29_code 183 = .ok (.return_, 1) := by decide +kernel
theorem d_Mod_isSlice_0 : decode prog_9_method_30_code 0 = .ok (.aload_n 0, 1) := by decide +kernel
theorem d_Mod_isSlice_1 : decode prog_9_method_30_code 1 = .ok (.getfield 82, 3) := by decide +kernel
theorem d_Mod_isSlice_4 : decode prog_9_method_30_code 4 = .ok (.ifCond .eq 24, 3) := by decide +kernel
theorem d_Mod_isSlice_7 : decode prog_9_method_30_code 7 = .ok (.iload_n 1, 1) := by decide +kernel
theorem d_Mod_isSlice_8 : decode prog_9_method_30_code 8 = .ok (.ifCond .lt 20, 3) := by decide +kernel
theorem d_Mod_isSlice_11 : decode prog_9_method_30_code 11 = .ok (.iload_n 1, 1) := by decide +kernel
theorem d_Mod_isSlice_12 : decode prog_9_method_30_code 12 = .ok (.aload_n 0, 1) := by decide +kernel
theorem d_Mod_isSlice_13 : decode prog_9_method_30_code 13 = .ok (.getfield 30, 3) := by decide +kernel
theorem d_Mod_isSlice_16 : decode prog_9_method_30_code 16 = .ok (.aload_n 0, 1) := by decide +kernel
theorem d_Mod_isSlice_17 : decode prog_9_method_30_code 17 = .ok (.getfield 33, 3) := by decide +kernel
theorem d_Mod_isSlice_20 : decode prog_9_method_30_code 20 = .ok (.imul, 1) := by decide +kernel
theorem d_Mod_isSlice_21 : decode prog_9_method_30_code 21 = .ok (.if_icmp .ge 7, 3) := by decide +kernel
theorem d_Mod_isSlice_24 : decode prog_9_method_30_code 24 = .ok (.iconst 1, 1) := by decide +kernel
theorem d_Mod_isSlice_25 : decode prog_9_method_30_code 25 = .ok (.goto 4, 3) := by decide +kernel
theorem d_Mod_isSlice_28 : decode prog_9_method_30_code 28 = .ok (.iconst 0, 1) := by decide +kernel
theorem d_Mod_isSlice_29 : decode prog_9_method_30_code 29 = .ok (.ireturn, 1) := by decide +kernel
theorem d_Mod_look_0 : decode prog_9_method_31_code 0 = .ok (.aload_n 0, 1) := by decide +kernel
theorem d_Mod_look_1 : decode prog_9_method_31_code 1 = .ok (.iload_n 1, 1) := by decide +kernel
theorem d_Mod_look_2 : decode prog_9_method_31_code 2 = .ok (.aload_n 0, 1) := by decide +kernel
theorem d_Mod_look_3 : decode prog_9_method_31_code 3 = .ok (.getfield 36, 3) := by decide +kernel
theorem d_Mod_look_6 : decode prog_9_method_31_code 6 = .ok (.imul, 1) := by decide +kernel
theorem d_Mod_look_7 : decode prog_9_method_31_code 7 = .ok (.aload_n 0, 1) := by decide +kernel
theorem d_Mod_look_8 : decode prog_9_method_31_code 8 = .ok (.getfield 39, 3) := by decide +kernel
theorem d_Mod_look_11 : decode prog_9_method_31_code 11 = .ok (.idiv, 1) := by decide +kernel
theorem d_Mod_look_12 : decode prog_9_method_31_code 12 = .ok (.putfield 190, 3) := by decide +kernel
theorem d_Mod_look_15 : decode prog_9_method_31_code 15 = .ok (.aload_n 0, 1) := by decide +kernel
theorem d_Mod_look_16 : decode prog_9_method_31_code 16 = .ok (.iload_n 1, 1) := by decide +kernel
theorem d_Mod_look_17 : decode prog_9_method_31_code 17 = .ok (.iconst 1, 1) := by decide +kernel
theorem d_Mod_look_18 : decode prog_9_method_31_code 18 = .ok (.iadd, 1) := by decide +kernel
theorem d_Mod_look_19 : decode prog_9_method_31_code 19 = .ok (.aload_n 0, 1) := by decide +kernel
theorem d_Mod_look_20 : decode prog_9_method_31_code 20 = .ok (.getfield 36, 3) := by decide +kernel
theorem d_Mod_look_23 : decode prog_9_method_31_code 23 = .ok (.imul, 1) := by decide +kernel
theorem d_Mod_look_24 : decode prog_9_method_31_code 24 = .ok (.aload_n 0, 1) := by decide +kernel
theorem d_Mod_look_25 : decode prog_9_method_31_code 25 = .ok (.getfield 39, 3) := by decide +kernel
theorem d_Mod_look_28 : decode prog_9_method_31_code 28 = .ok (.idiv, 1) := by decide +kernel
theorem d_Mod_look_29 : decode prog_9_method_31_code 29 = .ok (.aload_n 0, 1) := by decide +kernel
theorem d_Mod_look_30 : decode prog_9_method_31_code 30 = .ok (.getfield 190, 3) := by decide +kernel
theorem d_Mod_look_33 : decode prog_9_method_31_code 33 = .ok (.isub, 1) := by decide +kernel
theorem d_Mod_look_34 : decode prog_9_method_31_code 34 = .ok (.putfield 193, 3) := by decide +kernel
theorem d_Mod_look_37 : decode prog_9_method_31_code 37 = .ok (.aload_n 0, 1) := by decide +kernel
theorem d_Mod_look_38 : decode prog_9_method_31_code 38 = .ok (.iconst 0, 1) := by decide +kernel
theorem d_Mod_look_39 : decode prog_9_method_31_code 39 = .ok (.putfield 196, 3) := by decide +kernel
theorem d_Mod_look_42 : decode prog_9_method_31_code 42 = .ok (.bipush 8, 2) := by decide +kernel
theorem d_Mod_look_44 : decode prog_9_method_31_code 44 = .ok (.aload_n 0, 1) := by decide +kernel
theorem d_Mod_look_45 : decode prog_9_method_31_code 45 = .ok (.getfield 193, 3) := by decide +kernel
theorem d_Mod_look_48 : decode prog_9_method_31_code 48 = .ok (.imul, 1) := by decide +kernel
theorem d_Mod_look_49 : decode prog_9_method_31_code 49 = .ok (.iconst 5, 1) := by decide +kernel
theorem d_Mod_look_50 : decode prog_9_method_31_code 50 = .ok (.isub, 1) := by decide +kernel
theorem d_Mod_look_51 : decode prog_9_method_31_code 51 = .ok (.istore_n 2, 1) := by decide +kernel
theorem d_Mod_look_52 : decode prog_9_method_31_code 52 = .ok (.iload_n 2, 1) := by decide +kernel
theorem d_Mod_look_53 : decode prog_9_method_31_code 53 = .ok (.ifCond .le 20, 3) := by decide +kernel
theorem d_Mod_look_56 : decode prog_9_method_31_code 56 = .ok (.aload_n 0, 1) := by decide +kernel
theorem d_Mod_look_57 : decode prog_9_method_31_code 57 = .ok (.dup, 1) := by decide +kernel
theorem d_Mod_look_58 : decode prog_9_method_31_code 58 = .ok (.getfield 196, 3) := by decide +kernel
theorem d_Mod_look_61 : decode prog_9_method_31_code 61 = .ok (.iconst 1, 1) := by decide +kernel
theorem d_Mod_look_62 : decode prog_9_method_31_code 62 = .ok (.iadd, 1) := by decide +kernel
theorem d_Mod_look_63 : decode prog_9_method_31_code 63 = .ok (.putfield 196, 3) := by decide +kernel
theorem d_Mod_look_66 : decode prog_9_method_31_code 66 = .ok (.iload_n 2, 1) := by decide +kernel
theorem d_Mod_look_67 : decode prog_9_method_31_code 67 = .ok (.iconst 2, 1) := by decide +kernel
theorem d_Mod_look_68 : decode prog_9_method_31_code 68 = .ok (.idiv, 1) := by decide +kernel
theorem d_Mod_look_69 : decode prog_9_method_31_code 69 = .ok (.istore_n 2, 1) := by decide +kernel
theorem d_Mod_look_70 : decode prog_9_method_31_code 70 = .ok (.goto (-18), 3) := by decide +kernel
theorem d_Mod_look_73 : decode prog_9_method_31_code 73 = .ok (.aload_n 0, 1) := by decide +kernel
theorem d_Mod_look_74 : decode prog_9_method_31_code 74 = .ok (.bipush 8, 2) := by decide +kernel
theorem d_Mod_look_76 : decode prog_9_method_31_code 76 = .ok (.aload_n 0, 1) := by decide +kernel
theorem d_Mod_look_77 : decode prog_9_method_31_code 77 = .ok (.getfield 193, 3) := by decide +kernel
theorem d_Mod_look_80 : decode prog_9_method_31_code 80 = .ok (.imul, 1) := by decide +kernel
theorem d_Mod_look_81 : decode prog_9_method_31_code 81 = .ok (.iconst 5, 1) := by decide +kernel
theorem d_Mod_look_82 : decode prog_9_method_31_code 82 = .ok (.isub, 1) := by decide +kernel
theorem d_Mod_look_83 : decode prog_9_method_31_code 83 = .ok (.aload_n 0, 1) := by decide +kernel
theorem d_Mod_look_84 : decode prog_9_method_31_code 84 = .ok (.getfield 196, 3) := by decide +kernel
theorem d_Mod_look_87 : decode prog_9_method_31_code 87 = .ok (.isub, 1) := by decide +kernel
theorem d_Mod_look_88 : decode prog_9_method_31_code 88 = .ok (.putfield 199, 3) := by decide +kernel
theorem d_Mod_look_91 : decode prog_9_method_31_code 91 = .ok (.return_, 1) := by decide +kernel
theorem d_Mod_fineness_0 : decode prog_9_method_32_code 0 = .ok (.iload_n 1, 1) := by decide +kernel
theorem d_Mod_fineness_1 : decode prog_9_method_32_code 1 = .ok (.aload_n 0, 1) := by decide +kernel
theorem d_Mod_fineness_2 : decode prog_9_method_32_code 2 = .ok (.getfield 42, 3) := by decide +kernel
theorem d_Mod_fineness_5 : decode prog_9_method_32_code 5 = .ok (.iload_n 2, 1) := by decide +kernel
theorem d_Mod_fineness_6 : decode prog_9_method_32_code 6 = .ok (.iaload, 1) := by decide +kernel
theorem d_Mod_fineness_7 : decode prog_9_method_32_code 7 = .ok (.if_icmp .ge 7, 3) := by decide +kernel
theorem d_Mod_fineness_10 : decode prog_9_method_32_code 10 = .ok (.iconst 0, 1) := by decide +kernel
theorem d_Mod_fineness_11 : decode prog_9_method_32_code 11 = .ok (.goto 11, 3) := by decide +kernel
theorem d_Mod_fineness_14 : decode prog_9_method_32_code 14 = .ok (.iload_n 1, 1) := by decide +kernel
theorem d_Mod_fineness_15 : decode prog_9_method_32_code 15 = .ok (.aload_n 0, 1) := by decide +kernel
theorem d_Mod_fineness_16 : decode prog_9_method_32_code 16 = .ok (.getfield 42, 3) := by decide +kernel
theorem d_Mod_fineness_19 : decode prog_9_method_32_code 19 = .ok (.iload_n 2, 1) := by decide +kernel
theorem d_Mod_fineness_20 : decode prog_9_method_32_code 20 = .ok (.iaload, 1) := by decide +kernel
theorem d_Mod_fineness_21 : decode prog_9_method_32_code 21 = .ok (.isub, 1) := by decide +kernel
theorem d_Mod_fineness_22 : decode prog_9_method_32_code 22 = .ok (.ireturn, 1) := by decide +kernel
theorem d_Mod_factor_0 : decode prog_9_method_33_code 0 = .ok (.lconst 1, 1) := by decide +kernel
theorem d_Mod_factor_1 : decode prog_9_method_33_code 1 = .ok (.iload_n 0, 1) := by decide +kernel
theorem d_Mod_factor_2 : decode prog_9_method_33_code 2 = .ok (.iconst 2, 1) := by decide +kernel
theorem d_Mod_factor_3 : decode prog_9_method_33_code 3 = .ok (.ishr, 1) := by decide +kernel
theorem d_Mod_factor_4 : decode prog_9_method_33_code 4 = .ok (.lshl, 1) := by decide +kernel
theorem d_Mod_factor_5 : decode prog_9_method_33_code 5 = .ok (.lstore_n 1, 1) := by decide +kernel
theorem d_Mod_factor_6 : decode prog_9_method_33_code 6 = .ok (.iload_n 0, 1) := by decide +kernel
theorem d_Mod_factor_7 : decode prog_9_method_33_code 7 = .ok (.iconst 3, 1) := by decide +kernel
theorem d_Mod_factor_8 : decode prog_9_method_33_code 8 = .ok (.iand, 1) := by decide +kernel
theorem d_Mod_factor_9 : decode prog_9_method_33_code 9 = .ok (.istore_n 3, 1) := by decide +kernel
theorem d_Mod_factor_10 : decode prog_9_method_33_code 10 = .ok (.iload_n 3, 1) := by decide +kernel
theorem d_Mod_factor_11 : decode prog_9_method_33_code 11 = .ok (.ifCond .ne 11, 3) := by decide +kernel
theorem d_Mod_factor_14 : decode prog_9_method_33_code 14 = .ok (.ldc2_w 202, 3) := by decide +kernel
theorem d_Mod_factor_17 : decode prog_9_method_33_code 17 = .ok (.lload_n 1, 1) := by decide +kernel
theorem d_Mod_factor_18 : decode prog_9_method_33_code 18 = .ok (.lmul, 1) := by decide +kernel
theorem d_Mod_factor_19 : decode prog_9_method_33_code 19 = .ok (.goto 58, 3) := by decide +kernel
theorem d_Mod_factor_22 : decode prog_9_method_33_code 22 = .ok (.iload_n 3, 1) := by decide +kernel
theorem d_Mod_factor_23 : decode prog_9_method_33_code 23 = .ok (.iconst 1, 1) := by decide +kernel
theorem d_Mod_factor_24 : decode prog_9_method_33_code 24 = .ok (.if_icmp .ne 19, 3) := by decide +kernel
theorem d_Mod_factor_27 : decode prog_9_method_33_code 27 = .ok (.ldc2_w 204, 3) := by decide +kernel
theorem d_Mod_factor_30 : decode prog_9_method_33_code 30 = .ok (.lload_n 1, 1) := by decide +kernel
theorem d_Mod_factor_31 : decode prog_9_method_33_code 31 = .ok (.lmul, 1) := by decide +kernel
theorem d_Mod_factor_32 : decode prog_9_method_33_code 32 = .ok (.ldc2_w 206, 3) := by decide +kernel
theorem d_Mod_factor_35 : decode prog_9_method_33_code 35 = .ok (.ladd, 1) := by decide +kernel
theorem d_Mod_factor_36 : decode prog_9_method_33_code 36 = .ok (.ldc2_w 208, 3) := by decide +kernel
theorem d_Mod_factor_39 : decode prog_9_method_33_code 39 = .ok (.ldiv, 1) := by decide +kernel
theorem d_Mod_factor_40 : decode prog_9_method_33_code 40 = .ok (.goto 37, 3) := by decide +kernel
theorem d_Mod_factor_43 : decode prog_9_method_33_code 43 = .ok (.iload_n 3, 1) := by decide +kernel
theorem d_Mod_factor_44 : decode prog_9_method_33_code 44 = .ok (.iconst 2, 1) := by decide +kernel
theorem d_Mod_factor_45 : decode prog_9_method_33_code 45 = .ok (.if_icmp .ne 19, 3) := by decide +kernel
theorem d_Mod_factor_48 : decode prog_9_method_33_code 48 = .ok (.ldc2_w 210, 3) := by decide +kernel
theorem d_Mod_factor_51 : decode prog_9_method_33_code 51 = .ok (.lload_n 1, 1) := by decide +kernel
theorem d_Mod_factor_52 : decode prog_9_method_33_code 52 = .ok (.lmul, 1) := by decide +kernel
theorem d_Mod_factor_53 : decode prog_9_method_33_code 53 = .ok (.ldc2_w 212, 3) := by decide +kernel
theorem d_Mod_factor_56 : decode prog_9_method_33_code 56 = .ok (.ladd, 1) := by decide +kernel
theorem d_Mod_factor_57 : decode prog_9_method_33_code 57 = .ok (.ldc2_w 214, 3) := by decide +kernel
theorem d_Mod_factor_60 : decode prog_9_method_33_code 60 = .ok (.ldiv, 1) := by decide +kernel
theorem d_Mod_factor_61 : decode prog_9_method_33_code 61 = .ok (.goto 16, 3) := by decide +kernel
theorem d_Mod_factor_64 : decode prog_9_method_33_code 64 = .ok (.ldc2_w 216, 3) := by decide +kernel
theorem d_Mod_factor_67 : decode prog_9_method_33_code 67 = .ok (.lload_n 1, 1) := by decide +kernel
theorem d_Mod_factor_68 : decode prog_9_method_33_code 68 = .ok (.lmul, 1) := by decide +kernel
theorem d_Mod_factor_69 : decode prog_9_method_33_code 69 = .ok (.ldc2_w 218, 3) := by decide +kernel
theorem d_Mod_factor_72 : decode prog_9_method_33_code 72 = .ok (.ladd, 1) := by decide +kernel
theorem d_Mod_factor_73 : decode prog_9_method_33_code 73 = .ok (.ldc2_w 220, 3) := by decide +kernel
theorem d_Mod_factor_76 : decode prog_9_method_33_code 76 = .ok (.ldiv, 1) := by decide +kernel
theorem d_Mod_factor_77 : decode prog_9_method_33_code 77 = .ok (.lreturn, 1) := by decide +kernel
theorem d_Mod_number_0 : decode prog_9_method_34_code 0 = .ok (.ldc2_w 202, 3) := by decide +kernel
theorem d_Mod_number_3 : decode prog_9_method_34_code 3 = .ok (.lload_n 0, 1) := by decide +kernel
theorem d_Mod_number_4 : decode prog_9_method_34_code 4 = .ok (.lconst 0, 1) := by decide +kernel
theorem d_Mod_number_5 : decode prog_9_method_34_code 5 = .ok (.lcmp, 1) := by decide +kernel
theorem d_Mod_number_6 : decode prog_9_method_34_code 6 = .ok (.ifCond .ge 8, 3) := by decide +kernel
theorem d_Mod_number_9 : decode prog_9_method_34_code 9 = .ok (.lload_n 0, 1) := by decide +kernel
theorem d_Mod_number_10 : decode prog_9_method_34_code 10 = .ok (.lneg, 1) := by decide +kernel
theorem d_Mod_number_11 : decode prog_9_method_34_code 11 = .ok (.goto 4, 3) := by decide +kernel
theorem d_Mod_number_14 : decode prog_9_method_34_code 14 = .ok (.lload_n 0, 1) := by decide +kernel
theorem d_Mod_number_15 : decode prog_9_method_34_code 15 = .ok (.lmul, 1) := by decide +kernel
theorem d_Mod_number_16 : decode prog_9_method_34_code 16 = .ok (.iload_n 2, 1) := by decide +kernel
theorem d_Mod_number_17 : decode prog_9_method_34_code 17 = .ok (.invokestatic 222, 3) := by decide +kernel
theorem d_Mod_number_20 : decode prog_9_method_34_code 20 = .ok (.ldiv, 1) := by decide +kernel
theorem d_Mod_number_21 : decode prog_9_method_34_code 21 = .ok (.lstore_n 3, 1) := by decide +kernel
theorem d_Mod_number_22 : decode prog_9_method_34_code 22 = .ok (.lload_n 3, 1) := by decide +kernel
theorem d_Mod_number_23 : decode prog_9_method_34_code 23 = .ok (.ldc2_w 226, 3) := by decide +kernel
theorem d_Mod_number_26 : decode prog_9_method_34_code 26 = .ok (.lcmp, 1) := by decide +kernel
theorem d_Mod_number_27 : decode prog_9_method_34_code 27 = .ok (.ifCond .le 9, 3) := by decide +kernel
theorem d_Mod_number_30 : decode prog_9_method_34_code 30 = .ok (.ldc2_w 226, 3) := by decide +kernel
theorem d_Mod_number_33 : decode prog_9_method_34_code 33 = .ok (.goto 4, 3) := by decide +kernel
theorem d_Mod_number_36 : decode prog_9_method_34_code 36 = .ok (.lload_n 3, 1) := by decide +kernel
theorem d_Mod_number_37 : decode prog_9_method_34_code 37 = .ok (.lstore_n 3, 1) := by decide +kernel
theorem d_Mod_number_38 : decode prog_9_method_34_code 38 = .ok (.lload_n 0, 1) := by decide +kernel
theorem d_Mod_number_39 : decode prog_9_method_34_code 39 = .ok (.lconst 0, 1) := by decide +kernel
theorem d_Mod_number_40 : decode prog_9_method_34_code 40 = .ok (.lcmp, 1) := by decide +kernel
theorem d_Mod_number_41 : decode prog_9_method_34_code 41 = .ok (.ifCond .ge 8, 3) := by decide +kernel
theorem d_Mod_number_44 : decode prog_9_method_34_code 44 = .ok (.lload_n 3, 1) := by decide +kernel
theorem d_Mod_number_45 : decode prog_9_method_34_code 45 = .ok (.lneg, 1) := by decide +kernel
theorem d_Mod_number_46 : decode prog_9_method_34_code 46 = .ok (.goto 4, 3) := by decide +kernel
theorem d_Mod_number_49 : decode prog_9_method_34_code 49 = .ok (.lload_n 3, 1) := by decide +kernel
theorem d_Mod_number_50 : decode prog_9_method_34_code 50 = .ok (.lreturn, 1) := by decide +kernel
theorem d_Mod_value_0 : decode prog_9_method_35_code 0 = .ok (.iload_n 2, 1) := by decide +kernel
theorem d_Mod_value_1 : decode prog_9_method_35_code 1 = .ok (.invokestatic 222, 3) := by decide +kernel
theorem d_Mod_value_4 : decode prog_9_method_35_code 4 = .ok (.lstore_n 3, 1) := by decide +kernel
theorem d_Mod_value_5 : decode prog_9_method_35_code 5 = .ok (.iload_n 2, 1) := by decide +kernel
theorem d_Mod_value_6 : decode prog_9_method_35_code 6 = .ok (.ifCond .ne 7, 3) := by decide +kernel
theorem d_Mod_value_9 : decode prog_9_method_35_code 9 = .ok (.lconst 1, 1) := by decide +kernel
theorem d_Mod_value_10 : decode prog_9_method_35_code 10 = .ok (.goto 19, 3) := by decide +kernel
theorem d_Mod_value_13 : decode prog_9_method_35_code 13 = .ok (.iload_n 2, 1) := by decide +kernel
theorem d_Mod_value_14 : decode prog_9_method_35_code 14 = .ok (.iconst 1, 1) := by decide +kernel
theorem d_Mod_value_15 : decode prog_9_method_35_code 15 = .ok (.if_icmp .ne 9, 3) := by decide +kernel
theorem d_Mod_value_18 : decode prog_9_method_35_code 18 = .ok (.ldc2_w 139, 3) := by decide +kernel
theorem d_Mod_value_21 : decode prog_9_method_35_code 21 = .ok (.goto 8, 3) := by decide +kernel
theorem d_Mod_value_24 : decode prog_9_method_35_code 24 = .ok (.lload_n 3, 1) := by decide +kernel
theorem d_Mod_value_25 : decode prog_9_method_35_code 25 = .ok (.lconst 1, 1) := by decide +kernel
theorem d_Mod_value_26 : decode prog_9_method_35_code 26 = .ok (.ladd, 1) := by decide +kernel
theorem d_Mod_value_27 : decode prog_9_method_35_code 27 = .ok (.iconst 1, 1) := by decide +kernel
theorem d_Mod_value_28 : decode prog_9_method_35_code 28 = .ok (.lshr, 1) := by decide +kernel
theorem d_Mod_value_29 : decode prog_9_method_35_code 29 = .ok (.lstore 5, 2) := by decide +kernel
theorem d_Mod_value_31 : decode prog_9_method_35_code 31 = .ok (.lload_n 0, 1) := by decide +kernel
theorem d_Mod_value_32 : decode prog_9_method_35_code 32 = .ok (.lconst 0, 1) := by decide +kernel
theorem d_Mod_value_33 : decode prog_9_method_35_code 33 = .ok (.lcmp, 1) := by decide +kernel
theorem d_Mod_value_34 : decode prog_9_method_35_code 34 = .ok (.ifCond .ge 8, 3) := by decide +kernel
theorem d_Mod_value_37 : decode prog_9_method_35_code 37 = .ok (.lload_n 0, 1) := by decide +kernel
theorem d_Mod_value_38 : decode prog_9_method_35_code 38 = .ok (.lneg, 1) := by decide +kernel
theorem d_Mod_value_39 : decode prog_9_method_35_code 39 = .ok (.goto 4, 3) := by decide +kernel
theorem d_Mod_value_42 : decode prog_9_method_35_code 42 = .ok (.lload_n 0, 1) := by decide +kernel
theorem d_Mod_value_43 : decode prog_9_method_35_code 43 = .ok (.lstore 7, 2) := by decide +kernel
theorem d_Mod_value_45 : decode prog_9_method_35_code 45 = .ok (.lload 7, 2) := by decide +kernel
theorem d_Mod_value_47 : decode prog_9_method_35_code 47 = .ok (.lconst 0, 1) := by decide +kernel
theorem d_Mod_value_48 : decode prog_9_method_35_code 48 = .ok (.lcmp, 1) := by decide +kernel
theorem d_Mod_value_49 : decode prog_9_method_35_code 49 = .ok (.ifCond .ne 7, 3) := by decide +kernel
theorem d_Mod_value_52 : decode prog_9_method_35_code 52 = .ok (.lconst 0, 1) := by decide +kernel
theorem d_Mod_value_53 : decode prog_9_method_35_code 53 = .ok (.goto 16, 3) := by decide +kernel
theorem d_Mod_value_56 : decode prog_9_method_35_code 56 = .ok (.lload 7, 2) := by decide +kernel
theorem d_Mod_value_58 : decode prog_9_method_35_code 58 = .ok (.lload_n 3, 1) := by decide +kernel
theorem d_Mod_value_59 : decode prog_9_method_35_code 59 = .ok (.lmul, 1) := by decide +kernel
theorem d_Mod_value_60 : decode prog_9_method_35_code 60 = .ok (.lload 5, 2) := by decide +kernel
theorem d_Mod_value_62 : decode prog_9_method_35_code 62 = .ok (.ladd, 1) := by decide +kernel
theorem d_Mod_value_63 : decode prog_9_method_35_code 63 = .ok (.ldc2_w 139, 3) := by decide +kernel
theorem d_Mod_value_66 : decode prog_9_method_35_code 66 = .ok (.ladd, 1) := by decide +kernel
theorem d_Mod_value_67 : decode prog_9_method_35_code 67 = .ok (.iconst 2, 1) := by decide +kernel
theorem d_Mod_value_68 : decode prog_9_method_35_code 68 = .ok (.lshr, 1) := by decide +kernel
theorem d_Mod_value_69 : decode prog_9_method_35_code 69 = .ok (.lstore 9, 2) := by decide +kernel
theorem d_Mod_value_71 : decode prog_9_method_35_code 71 = .ok (.lload_n 0, 1) := by decide +kernel
theorem d_Mod_value_72 : decode prog_9_method_35_code 72 = .ok (.lconst 0, 1) := by decide +kernel
theorem d_Mod_value_73 : decode prog_9_method_35_code 73 = .ok (.lcmp, 1) := by decide +kernel
theorem d_Mod_value_74 : decode prog_9_method_35_code 74 = .ok (.ifCond .ge 9, 3) := by decide +kernel
theorem d_Mod_value_77 : decode prog_9_method_35_code 77 = .ok (.lload 9, 2) := by decide +kernel
theorem d_Mod_value_79 : decode prog_9_method_35_code 79 = .ok (.lneg, 1) := by decide +kernel
theorem d_Mod_value_80 : decode prog_9_method_35_code 80 = .ok (.goto 5, 3) := by decide +kernel
theorem d_Mod_value_83 : decode prog_9_method_35_code 83 = .ok (.lload 9, 2) := by decide +kernel
theorem d_Mod_value_85 : decode prog_9_method_35_code 85 = .ok (.lreturn, 1) := by decide +kernel
theorem d_Mod_bound_0 : decode prog_9_method_36_code 0 = .ok (.lload_n 0, 1) := by decide +kernel
theorem d_Mod_bound_1 : decode prog_9_method_36_code 1 = .ok (.ldc2_w 228, 3) := by decide +kernel
theorem d_Mod_bound_4 : decode prog_9_method_36_code 4 = .ok (.lcmp, 1) := by decide +kernel
theorem d_Mod_bound_5 : decode prog_9_method_36_code 5 = .ok (.ifCond .ge 9, 3) := by decide +kernel
theorem d_Mod_bound_8 : decode prog_9_method_36_code 8 = .ok (.ldc2_w 228, 3) := by decide +kernel
theorem d_Mod_bound_11 : decode prog_9_method_36_code 11 = .ok (.goto 18, 3) := by decide +kernel
theorem d_Mod_bound_14 : decode prog_9_method_36_code 14 = .ok (.lload_n 0, 1) := by decide +kernel
theorem d_Mod_bound_15 : decode prog_9_method_36_code 15 = .ok (.ldc2_w 230, 3) := by decide +kernel
theorem d_Mod_bound_18 : decode prog_9_method_36_code 18 = .ok (.lcmp, 1) := by decide +kernel
theorem d_Mod_bound_19 : decode prog_9_method_36_code 19 = .ok (.ifCond .le 9, 3) := by decide +kernel
theorem d_Mod_bound_22 : decode prog_9_method_36_code 22 = .ok (.ldc2_w 230, 3) := by decide +kernel
theorem d_Mod_bound_25 : decode prog_9_method_36_code 25 = .ok (.goto 4, 3) := by decide +kernel
theorem d_Mod_bound_28 : decode prog_9_method_36_code 28 = .ok (.lload_n 0, 1) := by decide +kernel
theorem d_Mod_bound_29 : decode prog_9_method_36_code 29 = .ok (.lreturn, 1) := by decide +kernel
theorem d_Mod_forecast_0 : decode prog_9_method_37_code 0 = .ok (.iload_n 1, 1) := by decide +kernel
theorem d_Mod_forecast_1 : decode prog_9_method_37_code 1 = .ok (.bipush 16, 2) := by decide +kernel
theorem d_Mod_forecast_3 : decode prog_9_method_37_code 3 = .ok (.if_icmp .ge 20, 3) := by decide +kernel
theorem d_Mod_forecast_6 : decode prog_9_method_37_code 6 = .ok (.iload_n 1, 1) := by decide +kernel
theorem d_Mod_forecast_7 : decode prog_9_method_37_code 7 = .ok (.ifCond .ne 7, 3) := by decide +kernel
theorem d_Mod_forecast_10 : decode prog_9_method_37_code 10 = .ok (.lconst 0, 1) := by decide +kernel
theorem d_Mod_forecast_11 : decode prog_9_method_37_code 11 = .ok (.goto 11, 3) := by decide +kernel
theorem d_Mod_forecast_14 : decode prog_9_method_37_code 14 = .ok (.aload_n 0, 1) := by decide +kernel
theorem d_Mod_forecast_15 : decode prog_9_method_37_code 15 = .ok (.getfield 20, 3) := by decide +kernel
theorem d_Mod_forecast_18 : decode prog_9_method_37_code 18 = .ok (.iload_n 1, 1) := by decide +kernel
theorem d_Mod_forecast_19 : decode prog_9_method_37_code 19 = .ok (.iconst 1, 1) := by decide +kernel
theorem d_Mod_forecast_20 : decode prog_9_method_37_code 20 = .ok (.isub, 1) := by decide +kernel
theorem d_Mod_forecast_21 : decode prog_9_method_37_code 21 = .ok (.laload, 1) := by decide +kernel
theorem d_Mod_forecast_22 : decode prog_9_method_37_code 22 = .ok (.lreturn, 1) := by decide +kernel
theorem d_Mod_forecast_23 : decode prog_9_method_37_code 23 = .ok (.iload_n 1, 1) := by decide +kernel
theorem d_Mod_forecast_24 : decode prog_9_method_37_code 24 = .ok (.bipush 16, 2) := by decide +kernel
theorem d_Mod_forecast_26 : decode prog_9_method_37_code 26 = .ok (.irem, 1) := by decide +kernel
theorem d_Mod_forecast_27 : decode prog_9_method_37_code 27 = .ok (.ifCond .ne 13, 3) := by decide +kernel
theorem d_Mod_forecast_30 : decode prog_9_method_37_code 30 = .ok (.aload_n 0, 1) := by decide +kernel
theorem d_Mod_forecast_31 : decode prog_9_method_37_code 31 = .ok (.getfield 20, 3) := by decide +kernel
theorem d_Mod_forecast_34 : decode prog_9_method_37_code 34 = .ok (.iload_n 1, 1) := by decide +kernel
theorem d_Mod_forecast_35 : decode prog_9_method_37_code 35 = .ok (.bipush 16, 2) := by decide +kernel
theorem d_Mod_forecast_37 : decode prog_9_method_37_code 37 = .ok (.isub, 1) := by decide +kernel
theorem d_Mod_forecast_38 : decode prog_9_method_37_code 38 = .ok (.laload, 1) := by decide +kernel
theorem d_Mod_forecast_39 : decode prog_9_method_37_code 39 = .ok (.lreturn, 1) := by decide +kernel
theorem d_Mod_forecast_40 : decode prog_9_method_37_code 40 = .ok (.aload_n 0, 1) := by decide +kernel
theorem d_Mod_forecast_41 : decode prog_9_method_37_code 41 = .ok (.getfield 20, 3) := by decide +kernel
theorem d_Mod_forecast_44 : decode prog_9_method_37_code 44 = .ok (.iload_n 1, 1) := by decide +kernel
theorem d_Mod_forecast_45 : decode prog_9_method_37_code 45 = .ok (.iconst 1, 1) := by decide +kernel
theorem d_Mod_forecast_46 : decode prog_9_method_37_code 46 = .ok (.isub, 1) := by decide +kernel
theorem d_Mod_forecast_47 : decode prog_9_method_37_code 47 = .ok (.laload, 1) := by decide +kernel
theorem d_Mod_forecast_48 : decode prog_9_method_37_code 48 = .ok (.aload_n 0, 1) := by decide +kernel
theorem d_Mod_forecast_49 : decode prog_9_method_37_code 49 = .ok (.getfield 20, 3) := by decide +kernel
theorem d_Mod_forecast_52 : decode prog_9_method_37_code 52 = .ok (.iload_n 1, 1) := by decide +kernel
theorem d_Mod_forecast_53 : decode prog_9_method_37_code 53 = .ok (.bipush 16, 2) := by decide +kernel
theorem d_Mod_forecast_55 : decode prog_9_method_37_code 55 = .ok (.isub, 1) := by decide +kernel
theorem d_Mod_forecast_56 : decode prog_9_method_37_code 56 = .ok (.laload, 1) := by decide +kernel
theorem d_Mod_forecast_57 : decode prog_9_method_37_code 57 = .ok (.ladd, 1) := by decide +kernel
theorem d_Mod_forecast_58 : decode prog_9_method_37_code 58 = .ok (.aload_n 0, 1) := by decide +kernel
theorem d_Mod_forecast_59 : decode prog_9_method_37_code 59 = .ok (.getfield 20, 3) := by decide +kernel
theorem d_Mod_forecast_62 : decode prog_9_method_37_code 62 = .ok (.iload_n 1, 1) := by decide +kernel
theorem d_Mod_forecast_63 : decode prog_9_method_37_code 63 = .ok (.bipush 17, 2) := by decide +kernel
theorem d_Mod_forecast_65 : decode prog_9_method_37_code 65 = .ok (.isub, 1) := by decide +kernel
theorem d_Mod_forecast_66 : decode prog_9_method_37_code 66 = .ok (.laload, 1) := by decide +kernel
theorem d_Mod_forecast_67 : decode prog_9_method_37_code 67 = .ok (.ladd, 1) := by decide +kernel
theorem d_Mod_forecast_68 : decode prog_9_method_37_code 68 = .ok (.lconst 1, 1) := by decide +kernel
theorem d_Mod_forecast_69 : decode prog_9_method_37_code 69 = .ok (.ladd, 1) := by decide +kernel
theorem d_Mod_forecast_70 : decode prog_9_method_37_code 70 = .ok (.lstore_n 2, 1) := by decide +kernel
theorem d_Mod_forecast_71 : decode prog_9_method_37_code 71 = .ok (.lload_n 2, 1) := by decide +kernel
theorem d_Mod_forecast_72 : decode prog_9_method_37_code 72 = .ok (.ldc2_w 232, 3) := by decide +kernel
theorem d_Mod_forecast_75 : decode prog_9_method_37_code 75 = .ok (.lrem, 1) := by decide +kernel
theorem d_Mod_forecast_76 : decode prog_9_method_37_code 76 = .ok (.lconst 0, 1) := by decide +kernel
theorem d_Mod_forecast_77 : decode prog_9_method_37_code 77 = .ok (.lcmp, 1) := by decide +kernel
theorem d_Mod_forecast_78 : decode prog_9_method_37_code 78 = .ok (.ifCond .ge 13, 3) := by decide +kernel
theorem d_Mod_forecast_81 : decode prog_9_method_37_code 81 = .ok (.lload_n 2, 1) := by decide +kernel
theorem d_Mod_forecast_82 : decode prog_9_method_37_code 82 = .ok (.ldc2_w 232, 3) := by decide +kernel
theorem d_Mod_forecast_85 : decode prog_9_method_37_code 85 = .ok (.ldiv, 1) := by decide +kernel
theorem d_Mod_forecast_86 : decode prog_9_method_37_code 86 = .ok (.lconst 1, 1) := by decide +kernel
theorem d_Mod_forecast_87 : decode prog_9_method_37_code 87 = .ok (.lsub, 1) := by decide +kernel
theorem d_Mod_forecast_88 : decode prog_9_method_37_code 88 = .ok (.goto 8, 3) := by decide +kernel
theorem d_Mod_forecast_91 : decode prog_9_method_37_code 91 = .ok (.lload_n 2, 1) := by decide +kernel
theorem d_Mod_forecast_92 : decode prog_9_method_37_code 92 = .ok (.ldc2_w 232, 3) := by decide +kernel
theorem d_Mod_forecast_95 : decode prog_9_method_37_code 95 = .ok (.ldiv, 1) := by decide +kernel
theorem d_Mod_forecast_96 : decode prog_9_method_37_code 96 = .ok (.lreturn, 1) := by decide +kernel
theorem d_Mod_bitAt_0 : decode prog_9_method_38_code 0 = .ok (.aload_n 0, 1) := by decide +kernel
theorem d_Mod_bitAt_1 : decode prog_9_method_38_code 1 = .ok (.getfield 45, 3) := by decide +kernel
theorem d_Mod_bitAt_4 : decode prog_9_method_38_code 4 = .ok (.aload_n 0, 1) := by decide +kernel
theorem d_Mod_bitAt_5 : decode prog_9_method_38_code 5 = .ok (.getfield 190, 3) := by decide +kernel
theorem d_Mod_bitAt_8 : decode prog_9_method_38_code 8 = .ok (.iload_n 1, 1) := by decide +kernel
theorem d_Mod_bitAt_9 : decode prog_9_method_38_code 9 = .ok (.bipush 8, 2) := by decide +kernel
theorem d_Mod_bitAt_11 : decode prog_9_method_38_code 11 = .ok (.idiv, 1) := by decide +kernel
theorem d_Mod_bitAt_12 : decode prog_9_method_38_code 12 = .ok (.iadd, 1) := by decide +kernel
theorem d_Mod_bitAt_13 : decode prog_9_method_38_code 13 = .ok (.baload, 1) := by decide +kernel
theorem d_Mod_bitAt_14 : decode prog_9_method_38_code 14 = .ok (.bipush 7, 2) := by decide +kernel
theorem d_Mod_bitAt_16 : decode prog_9_method_38_code 16 = .ok (.iload_n 1, 1) := by decide +kernel
theorem d_Mod_bitAt_17 : decode prog_9_method_38_code 17 = .ok (.bipush 8, 2) := by decide +kernel
theorem d_Mod_bitAt_19 : decode prog_9_method_38_code 19 = .ok (.irem, 1) := by decide +kernel
theorem d_Mod_bitAt_20 : decode prog_9_method_38_code 20 = .ok (.isub, 1) := by decide +kernel
theorem d_Mod_bitAt_21 : decode prog_9_method_38_code 21 = .ok (.ishr, 1) := by decide +kernel
theorem d_Mod_bitAt_22 : decode prog_9_method_38_code 22 = .ok (.iconst 1, 1) := by decide +kernel
theorem d_Mod_bitAt_23 : decode prog_9_method_38_code 23 = .ok (.iand, 1) := by decide +kernel
theorem d_Mod_bitAt_24 : decode prog_9_method_38_code 24 = .ok (.ireturn, 1) := by decide +kernel
theorem d_Mod_bitsAt_0 : decode prog_9_method_39_code 0 = .ok (.iconst 0, 1) := by decide +kernel
theorem d_Mod_bitsAt_1 : decode prog_9_method_39_code 1 = .ok (.istore_n 3, 1) := by decide +kernel
theorem d_Mod_bitsAt_2 : decode prog_9_method_39_code 2 = .ok (.iload_n 1, 1) := by decide +kernel
theorem d_Mod_bitsAt_3 : decode prog_9_method_39_code 3 = .ok (.istore 4, 2) := by decide +kernel
theorem d_Mod_bitsAt_5 : decode prog_9_method_39_code 5 = .ok (.iload 4, 2) := by decide +kernel
theorem d_Mod_bitsAt_7 : decode prog_9_method_39_code 7 = .ok (.iload_n 1, 1) := by decide +kernel
theorem d_Mod_bitsAt_8 : decode prog_9_method_39_code 8 = .ok (.iload_n 2, 1) := by decide +kernel
theorem d_Mod_bitsAt_9 : decode prog_9_method_39_code 9 = .ok (.iadd, 1) := by decide +kernel
theorem d_Mod_bitsAt_10 : decode prog_9_method_39_code 10 = .ok (.if_icmp .ge 20, 3) := by decide +kernel
theorem d_Mod_bitsAt_13 : decode prog_9_method_39_code 13 = .ok (.iconst 2, 1) := by decide +kernel
theorem d_Mod_bitsAt_14 : decode prog_9_method_39_code 14 = .ok (.iload_n 3, 1) := by decide +kernel
theorem d_Mod_bitsAt_15 : decode prog_9_method_39_code 15 = .ok (.imul, 1) := by decide +kernel
theorem d_Mod_bitsAt_16 : decode prog_9_method_39_code 16 = .ok (.aload_n 0, 1) := by decide +kernel
theorem d_Mod_bitsAt_17 : decode prog_9_method_39_code 17 = .ok (.iload 4, 2) := by decide +kernel
theorem d_Mod_bitsAt_19 : decode prog_9_method_39_code 19 = .ok (.invokevirtual 234, 3) := by decide +kernel
theorem d_Mod_bitsAt_22 : decode prog_9_method_39_code 22 = .ok (.iadd, 1) := by decide +kernel
theorem d_Mod_bitsAt_23 : decode prog_9_method_39_code 23 = .ok (.istore_n 3, 1) := by decide +kernel
theorem d_Mod_bitsAt_24 : decode prog_9_method_39_code 24 = .ok (.iinc 4 1, 3) := by decide +kernel
theorem d_Mod_bitsAt_27 : decode prog_9_method_39_code 27 = .ok (.goto (-22), 3) := by decide +kernel
theorem d_Mod_bitsAt_30 : decode prog_9_method_39_code 30 = .ok (.iload_n 3, 1) := by decide +kernel
theorem d_Mod_bitsAt_31 : decode prog_9_method_39_code 31 = .ok (.ireturn, 1) := by decide +kernel
theorem d_Mod_next_0 : decode prog_9_method_41_code 0 = .ok (.aload_n 0, 1) := by decide +kernel
theorem d_Mod_next_1 : decode prog_9_method_41_code 1 = .ok (.getfield 245, 3) := by decide +kernel
theorem d_Mod_next_4 : decode prog_9_method_41_code 4 = .ok (.aload_n 0, 1) := by decide +kernel
theorem d_Mod_next_5 : decode prog_9_method_41_code 5 = .ok (.getfield 248, 3) := by decide +kernel
theorem d_Mod_next_8 : decode prog_9_method_41_code 8 = .ok (.if_icmp .ge 14, 3) := by decide +kernel
theorem d_Mod_next_11 : decode prog_9_method_41_code 11 = .ok (.aload_n 0, 1) := by decide +kernel
theorem d_Mod_next_12 : decode prog_9_method_41_code 12 = .ok (.aload_n 0, 1) := by decide +kernel
theorem d_Mod_next_13 : decode prog_9_method_41_code 13 = .ok (.getfield 245, 3) := by decide +kernel
theorem d_Mod_next_16 : decode prog_9_method_41_code 16 = .ok (.invokevirtual 234, 3) := by decide +kernel
theorem d_Mod_next_19 : decode prog_9_method_41_code 19 = .ok (.goto 4, 3) := by decide +kernel
theorem d_Mod_next_22 : decode prog_9_method_41_code 22 = .ok (.iconst 1, 1) := by decide +kernel
theorem d_Mod_next_23 : decode prog_9_method_41_code 23 = .ok (.istore_n 1, 1) := by decide +kernel
theorem d_Mod_next_24 : decode prog_9_method_41_code 24 = .ok (.aload_n 0, 1) := by decide +kernel
theorem d_Mod_next_25 : decode prog_9_method_41_code 25 = .ok (.dup, 1) := by decide +kernel
theorem d_Mod_next_26 : decode prog_9_method_41_code 26 = .ok (.getfield 245, 3) := by decide +kernel
theorem d_Mod_next_29 : decode prog_9_method_41_code 29 = .ok (.iconst 1, 1) := by decide +kernel
theorem d_Mod_next_30 : decode prog_9_method_41_code 30 = .ok (.iadd, 1) := by decide +kernel
theorem d_Mod_next_31 : decode prog_9_method_41_code 31 = .ok (.putfield 245, 3) := by decide +kernel
theorem d_Mod_next_34 : decode prog_9_method_41_code 34 = .ok (.iload_n 1, 1) := by decide +kernel
theorem d_Mod_next_35 : decode prog_9_method_41_code 35 = .ok (.ireturn, 1) := by decide +kernel
abbrev w_Mod_list : List Cond := Cond.code y_Mod_list prog_9_method_29_code 9 none :: wl
abbrev r_Mod_list : Room := { frames := 2, cells := 0, slots := 0, locals := 45 }
set_option maxHeartbeats 4000000 in
set_option maxRecDepth 100000 in
theorem c_Mod_list (l : Launch) (G : k_G) (sz : Nat) (rM rP rk rG rW rK rE rst rev rod rp rb rbl : Nat) (s0 wd ht kd db ew ac dn pr nu de wr rd cn ba sz1 lb rm cu sp nz sl uz : Int) (gp gb : Int → Int) (hde : 0 ≤ db ∧ db ≤ 2 ∧ 0 ≤ ew ∧ ew ≤ 2 ∧ db + ew ≤ 3) (hwd : 1 ≤ wd ∧ wd ≤ 16) (hht : 1 ≤ ht ∧ ht ≤ 16) (hac : 1 ≤ ac ∧ ac ≤ 4) (hdn : 1 ≤ dn ∧ dn ≤ 4) (hs0 : 0 ≤ s0 ∧ s0 < ac * dn) : Met l y_Mod_list w_Mod_list r_Mod_list (k_P G [.ref rM, .int (iv (s0))] [o_Mod rM wd ht rP rk rG rW rK kd db ew ac dn pr nu de rE rst wr rd rev rod cn rp rb ba sz1 lb rm cu sp nz rbl sl uz, (rp, ai (gI G) 256 (gp)), (rb, ai (gI G) 256 (gb))] sz) (qv G (fun u : Int × (Int → Int) × (Int → Int) => u = it (lsB (lmI wd (2 ^ (db + ew).toNat)) (lmI ht (2 ^ db.toNat)) db ew ac dn s0) 0 (nBd db ew) (0, gp, gb)) (fun u : Int × (Int → Int) × (Int → Int) => [o_Mod rM wd ht rP rk rG rW rK kd db ew ac dn pr nu de rE rst wr rd rev rod u.1 rp rb ba sz1 lb rm cu sp nz rbl sl uz, (rp, ai (gI G) 256 (u.2.1)), (rb, ai (gI G) 256 (u.2.2))]) (va_A [o_Mod rM wd ht rP rk rG rW rK kd db ew ac dn pr nu de rE rst wr rd rev rod cn rp rb ba sz1 lb rm cu sp nz rbl sl uz, (rp, ai (gI G) 256 (gp)), (rb, ai (gI G) 256 (gb))] sz)) 0 0 (va_A [o_Mod rM wd ht rP rk rG rW rK kd db ew ac dn pr nu de rE rst wr rd rev rod cn rp rb ba sz1 lb rm cu sp nz rbl sl uz, (rp, ai (gI G) 256 (gp)), (rb, ai (gI G) 256 (gb))] sz) := by
  refine k_met (fun A => qv G (fun u : Int × (Int → Int) × (Int → Int) => u = it (lsB (lmI wd (2 ^ (db + ew).toNat)) (lmI ht (2 ^ db.toNat)) db ew ac dn s0) 0 (nBd db ew) (0, gp, gb)) (fun u : Int × (Int → Int) × (Int → Int) => [o_Mod rM wd ht rP rk rG rW rK kd db ew ac dn pr nu de rE rst wr rd rev rod u.1 rp rb ba sz1 lb rm cu sp nz rbl sl uz, (rp, ai (gI G) 256 (u.2.1)), (rb, ai (gI G) 256 (u.2.2))]) A) (fun A => A) (by decide) rfl (Nat.le_of_ble_eq_true rfl) (fun p e s m args below meth c ls A Q S hr hlk hnm hl hsz hP hK hD hS hA hT hQ => ?_)
  obtain ⟨hx, hb, hml, hown, hts⟩ := id S
  have hw : ∀ w ∈ wl, w.before args s = true := fun w h => hts w (List.mem_cons_of_mem _ h)
  have hl : lv_has ls 9 [(0, .ref rM), (1, .int (iv (s0)))] := hl
  have e1 := lmI_r hwd (p2_c (k := db + ew) (by omega))
  have e2 := lmI_r hht (p2_c (k := db) (by omega))
  obtain ⟨cP, hcP⟩ : ∃ z, z = lmI wd (2 ^ (db + ew).toNat) := ⟨_, rfl⟩
  obtain ⟨cQ, hcQ⟩ : ∃ z, z = lmI ht (2 ^ db.toNat) := ⟨_, rfl⟩
  rw [← hcP] at e1
  rw [← hcQ] at e2
  have n0 := mul_r (a := ac) (b := dn) (A := 4) (B := 4) (by omega) (by omega)
  have nb1 : nBd db ew = 1 + ew + 3 * db := rfl
  have si := sl_i hac.1 hs0
  have tr := (tot_r (cP := cP) (cQ := cQ) (by omega) (by omega) hde).2
  refine lv_iload_n hx hb d_Mod_list_0 rfl (lv_at hl 1 rfl) ?_
  refine lv_aload_n hx hb d_Mod_list_1 rfl (lv_at hl 0 rfl) ?_
  refine va_get (D := gD G) (ci := 7) (v := .int (iv (ac))) (C := R_Mod) (T := F_Mod) (N := 34) hx hb hw in_Mod hown hK hP 0 rfl rfl 10 (by decide) (hw _ m3_134) (fun _ h => h) rfl d_Mod_list_2 ?_
  refine k_irem hx hb d_Mod_list_5 (by omega) (by omega) ?_
  refine lv_istore_n hx hb d_Mod_list_6 rfl hl (by decide) rfl (fun ls hl => ?_)
  have hl : lv_has ls 9 [(2, .int (iv (s0 % ac))), (0, .ref rM), (1, .int (iv (s0)))] := hl
  refine lv_iload_n hx hb d_Mod_list_7 rfl (lv_at hl 2 rfl) ?_
  refine lv_aload_n hx hb d_Mod_list_8 rfl (lv_at hl 1 rfl) ?_
  refine va_get (D := gD G) (ci := 7) (v := .int (iv (ac))) (C := R_Mod) (T := F_Mod) (N := 34) hx hb hw in_Mod hown hK hP 0 rfl rfl 10 (by decide) (hw _ m3_134) (fun _ h => h) rfl d_Mod_list_9 ?_
  refine k_idiv hx hb d_Mod_list_12 (by omega) (by omega) ?_
  refine lv_istore_n hx hb d_Mod_list_13 rfl hl (by decide) rfl (fun ls hl => ?_)
  have hl : lv_has ls 9 [(3, .int (iv (s0 / ac))), (2, .int (iv (s0 % ac))), (0, .ref rM), (1, .int (iv (s0)))] := hl
  refine lv_aload_n hx hb d_Mod_list_14 rfl (lv_at hl 2 rfl) ?_
  refine lv_iconst (v := iv (0)) hx hb d_Mod_list_15 rfl ?_
  refine va_put (D := gD G) (ci := 7) (v := .int (iv (0))) (ty := .int) (C := R_Mod) (T := F_Mod) (N := 34) hx hb hw in_Mod t_Mod t_Mod_ok n_Mod hown hK hP hD hS 0 rfl rfl 21 (by decide) (hw _ m3_145) (fun _ h => h) rfl (by decide +kernel) rfl rfl (Nat.le_of_ble_eq_true rfl) d_Mod_list_16 (fun H locs hP hD hS => ?_)
  have hP : va_P (gD G) classes [o_Mod rM wd ht rP rk rG rW rK kd db ew ac dn pr nu de rE rst wr rd rev rod 0 rp rb ba sz1 lb rm cu sp nz rbl sl uz, (rp, ai (gI G) 256 (gp)), (rb, ai (gI G) 256 (gb))] H := hP
  have hD : va_D A [o_Mod rM wd ht rP rk rG rW rK kd db ew ac dn pr nu de rE rst wr rd rev rod 0 rp rb ba sz1 lb rm cu sp nz rbl sl uz, (rp, ai (gI G) 256 (gp)), (rb, ai (gI G) 256 (gb))] := hD
  refine lv_iconst (v := iv (0)) hx hb d_Mod_list_19 rfl ?_
  refine lv_istore hx hb d_Mod_list_20 hl (by decide) rfl (fun ls hl => ?_)
  have hl : lv_has ls 9 [(4, .int (iv (0))), (3, .int (iv (s0 / ac))), (2, .int (iv (s0 % ac))), (0, .ref rM), (1, .int (iv (s0)))] := hl
  refine lo_up (P := fun b => ∀ (ls : Array Slot) (H : Heap) (locs : List Loc) (n1 : Int) (gp1 : Int → Int) (gb1 : Int → Int), lv_has ls 9 [(0, .ref rM), (1, .int (iv (s0))), (2, .int (iv (s0 % ac))), (3, .int (iv (s0 / ac))), (4, .int (iv (b)))] → va_P (gD G) classes [o_Mod rM wd ht rP rk rG rW rK kd db ew ac dn pr nu de rE rst wr rd rev rod n1 rp rb ba sz1 lb rm cu sp nz rbl sl uz, (rp, ai (gI G) 256 (gp1)), (rb, ai (gI G) 256 (gb1))] H → va_D A [o_Mod rM wd ht rP rk rG rW rK kd db ew ac dn pr nu de rE rst wr rd rev rod n1 rp rb ba sz1 lb rm cu sp nz rbl sl uz, (rp, ai (gI G) 256 (gp1)), (rb, ai (gI G) 256 (gb1))] → va_S A s.heap H locs → ((n1, gp1, gb1) = it (lsB cP cQ db ew ac dn s0) 0 b (0, gp, gb)) → W p l e r_Mod_list s m args below meth c H locs 0 0 Q (F0 m 22 ls [])) (a := 0) (b := 1 + ew + 3 * db) (fun b hib hjb ihb => ?_) _ _ _ 0 gp gb (lv_sub hl [3, 4, 2, 1, 0] rfl) hP hD hS (it_self _ _ _).symm
  intro ls H locs n1 gp1 gb1 hl hP hD hS hs
  refine lv_iload hx hb d_Mod_list_22 (lv_at hl 4 rfl) ?_
  refine lv_aload_n hx hb d_Mod_list_24 rfl (lv_at hl 0 rfl) ?_
  refine k_ciR (k_rv S (c_Mod_bands l G _ rM rP rk rG rW rK rE rst rev rod rp rb rbl wd ht kd db ew ac dn pr nu de wr rd n1 ba sz1 lb rm cu sp nz sl uz ) 0 m4_28 m4_25 m4_26 m4_27 m1_9 (by decide +kernel) (by decide) rfl rfl (k_preV (q0 := 0) hK hP hD hS hA hT rfl rfl [0] (by decide) rfl) rfl hl.1 rfl (Nat.le_of_ble_eq_true rfl) d_Mod_list_25 ⟨Nat.le_of_ble_eq_true rfl, Nat.le_of_ble_eq_true rfl⟩) (fun r25 h25 => ?_)
  subst h25
  refine k_icmp_ge (tgt := 183) hx hb d_Mod_list_28 (by decide) (by omega) (by omega) (fun hc28 => ?_) (fun hc28 => ?_)
  · exact k_vret hx hb hr hlk hQ ((n1, gp1, gb1)) (by rw [← hcP, ← hcQ, nb1, hs]; exact it_x _ _ hc28 hjb) hP hD hS d_Mod_list_183
  · have hb0 : 0 ≤ b ∧ b < nBd db ew := ⟨hib, by rw [nb1]; exact hc28⟩
    have n2 := hv_r hde hb0
    have tb1 := tr b hb0.1 hb0.2
    have cap := ls_cap (cP := cP) (cQ := cQ) (gp := gp) (gb := gb) (by omega) (by omega) hde hac hdn hs0 hb0
    rw [← hs] at cap
    dsimp only at cap
    obtain ⟨w1, hw1⟩ : ∃ z, z = bWd cP db ew b := ⟨_, rfl⟩
    obtain ⟨h1, hh1⟩ : ∃ z, z = bHt cQ db ew b := ⟨_, rfl⟩
    rw [← hw1, ← hh1] at cap tb1
    have m3 := cut_r (w := w1) (a := ac) (i := s0 % ac) (by omega) hac (by omega)
    have m4 := cut_r (w := w1) (a := ac) (i := s0 % ac + 1) (by omega) hac (by omega)
    have m5 := cut_r (w := h1) (a := dn) (i := s0 / ac) (by omega) hdn (by omega)
    have m6 := cut_r (w := h1) (a := dn) (i := s0 / ac + 1) (by omega) hdn (by omega)
    have m7 := cut_m (w := w1) (a := ac) (i := s0 % ac) (by omega) hac.1
    have m8 := cut_m (w := h1) (a := dn) (i := s0 / ac) (by omega) hdn.1
    obtain ⟨xe, hxe⟩ : ∃ z, z = cutI w1 ac (s0 % ac + 1) := ⟨_, rfl⟩
    obtain ⟨ye, hye⟩ : ∃ z, z = cutI h1 dn (s0 / ac + 1) := ⟨_, rfl⟩
    obtain ⟨ys, hys⟩ : ∃ z, z = cutI h1 dn (s0 / ac) := ⟨_, rfl⟩
    obtain ⟨xs, hxs⟩ : ∃ z, z = cutI w1 ac (s0 % ac) := ⟨_, rfl⟩
    have hcap2 : n1 + (ye - ys) * (xe - xs) ≤ 256 := by rw [hxe, hye, hys, hxs]; exact cap.2
    refine lv_aload_n hx hb d_Mod_list_31 rfl (lv_at hl 0 rfl) ?_
    refine k_ciR (k_rv S (c_Mod_columns l G _ rM rP rk rG rW rK rE rst rev rod rp rb rbl wd ht kd db ew ac dn pr nu de wr rd n1 ba sz1 lb rm cu sp nz sl uz (by omega) (by omega) (by omega)) 0 m4_45 m4_42 m4_44 mp_23 m1_9 (by decide +kernel) (by decide) rfl rfl (k_preV (q0 := 0) hK hP hD hS hA hT rfl rfl [0] (by decide) rfl) rfl hl.1 rfl (Nat.le_of_ble_eq_true rfl) d_Mod_list_32 ⟨Nat.le_of_ble_eq_true rfl, Nat.le_of_ble_eq_true rfl⟩) (fun r32 h32 => ?_)
    subst h32
    refine k_eqi (b := cP) (by rw [hcP]) ?_
    refine lv_aload_n hx hb d_Mod_list_35 rfl (lv_at hl 0 rfl) ?_
    refine lv_iload hx hb d_Mod_list_36 (lv_at hl 4 rfl) ?_
    refine lv_iconst (v := iv (1)) hx hb d_Mod_list_38 rfl ?_
    refine k_ciR (k_rv S (c_Mod_halvings l G _ rM rP rk rG rW rK rE rst rev rod rp rb rbl b 1 wd ht kd db ew ac dn pr nu de wr rd n1 ba sz1 lb rm cu sp nz sl uz (by omega) hb0 (by omega)) 2 m4_117 m4_114 m4_116 mp_36 m1_9 (by decide +kernel) (by decide) rfl rfl (k_preV (q0 := 0) hK hP hD hS hA hT rfl rfl [0] (by decide) rfl) rfl hl.1 rfl (Nat.le_of_ble_eq_true rfl) d_Mod_list_39 ⟨Nat.le_of_ble_eq_true rfl, Nat.le_of_ble_eq_true rfl⟩) (fun r39 h39 => ?_)
    subst h39
    refine k_eqi (b := hvW db ew b) (by rw [if_neg (by decide)]) ?_
    refine k_ishr hx hb d_Mod_list_42 (by omega) (by omega) ?_
    refine k_eqi (b := w1) (by rw [hw1]; rfl) ?_
    refine lv_istore hx hb d_Mod_list_43 hl (by decide) rfl (fun ls hl => ?_)
    have hl : lv_has ls 9 [(5, .int (iv (w1))), (0, .ref rM), (1, .int (iv (s0))), (2, .int (iv (s0 % ac))), (3, .int (iv (s0 / ac))), (4, .int (iv (b)))] := hl
    refine lv_aload_n hx hb d_Mod_list_45 rfl (lv_at hl 1 rfl) ?_
    refine k_ciR (k_rv S (c_Mod_rows l G _ rM rP rk rG rW rK rE rst rev rod rp rb rbl wd ht kd db ew ac dn pr nu de wr rd n1 ba sz1 lb rm cu sp nz sl uz (by omega) (by omega) (by omega)) 0 m4_49 m4_46 m4_48 mp_24 m1_9 (by decide +kernel) (by decide) rfl rfl (k_preV (q0 := 0) hK hP hD hS hA hT rfl rfl [0] (by decide) rfl) rfl hl.1 rfl (Nat.le_of_ble_eq_true rfl) d_Mod_list_46 ⟨Nat.le_of_ble_eq_true rfl, Nat.le_of_ble_eq_true rfl⟩) (fun r46 h46 => ?_)
    subst h46
    refine k_eqi (b := cQ) (by rw [hcQ]) ?_
    refine lv_aload_n hx hb d_Mod_list_49 rfl (lv_at hl 1 rfl) ?_
    refine lv_iload hx hb d_Mod_list_50 (lv_at hl 5 rfl) ?_
    refine lv_iconst (v := iv (0)) hx hb d_Mod_list_52 rfl ?_
    refine k_ciR (k_rv S (c_Mod_halvings l G _ rM rP rk rG rW rK rE rst rev rod rp rb rbl b 0 wd ht kd db ew ac dn pr nu de wr rd n1 ba sz1 lb rm cu sp nz sl uz (by omega) hb0 (by omega)) 2 m4_117 m4_114 m4_116 mp_36 m1_9 (by decide +kernel) (by decide) rfl rfl (k_preV (q0 := 0) hK hP hD hS hA hT rfl rfl [0] (by decide) rfl) rfl hl.1 rfl (Nat.le_of_ble_eq_true rfl) d_Mod_list_53 ⟨Nat.le_of_ble_eq_true rfl, Nat.le_of_ble_eq_true rfl⟩) (fun r53 h53 => ?_)
    subst h53
    refine k_eqi (b := hvH db ew b) (by rw [if_pos (by decide)]) ?_
    refine k_ishr hx hb d_Mod_list_56 (by omega) (by omega) ?_
    refine k_eqi (b := h1) (by rw [hh1]; rfl) ?_
    refine lv_istore hx hb d_Mod_list_57 hl (by decide) rfl (fun ls hl => ?_)
    have hl : lv_has ls 9 [(6, .int (iv (h1))), (5, .int (iv (w1))), (0, .ref rM), (1, .int (iv (s0))), (2, .int (iv (s0 % ac))), (3, .int (iv (s0 / ac))), (4, .int (iv (b)))] := hl
    refine lv_iload hx hb d_Mod_list_59 (lv_at hl 0 rfl) ?_
    refine lv_iload_n hx hb d_Mod_list_61 rfl (lv_at hl 5 rfl) ?_
    refine k_imul hx hb d_Mod_list_62 ?_
    refine lv_aload_n hx hb d_Mod_list_63 rfl (lv_at hl 2 rfl) ?_
    refine va_get (D := gD G) (ci := 7) (v := .int (iv (dn))) (C := R_Mod) (T := F_Mod) (N := 34) hx hb hw in_Mod hown hK hP 0 rfl rfl 11 (by decide) (hw _ m3_135) (fun _ h => h) rfl d_Mod_list_64 ?_
    refine k_idiv hx hb d_Mod_list_67 (by omega) (by omega) ?_
    refine k_eqi (b := ys) (by rw [hys]; rfl) ?_
    refine lv_istore hx hb d_Mod_list_68 hl (by decide) rfl (fun ls hl => ?_)
    have hl : lv_has ls 9 [(7, .int (iv (ys))), (6, .int (iv (h1))), (5, .int (iv (w1))), (0, .ref rM), (1, .int (iv (s0))), (2, .int (iv (s0 % ac))), (3, .int (iv (s0 / ac))), (4, .int (iv (b)))] := hl
    refine lo_up (P := fun y => ∀ (ls : Array Slot) (H : Heap) (locs : List Loc) (n2 : Int) (gp2 : Int → Int) (gb2 : Int → Int), lv_has ls 9 [(0, .ref rM), (1, .int (iv (s0))), (2, .int (iv (s0 % ac))), (3, .int (iv (s0 / ac))), (4, .int (iv (b))), (5, .int (iv (w1))), (6, .int (iv (h1))), (7, .int (iv (y)))] → va_P (gD G) classes [o_Mod rM wd ht rP rk rG rW rK kd db ew ac dn pr nu de rE rst wr rd rev rod n2 rp rb ba sz1 lb rm cu sp nz rbl sl uz, (rp, ai (gI G) 256 (gp2)), (rb, ai (gI G) 256 (gb2))] H → va_D A [o_Mod rM wd ht rP rk rG rW rK kd db ew ac dn pr nu de rE rst wr rd rev rod n2 rp rb ba sz1 lb rm cu sp nz rbl sl uz, (rp, ai (gI G) 256 (gp2)), (rb, ai (gI G) 256 (gb2))] → va_S A s.heap H locs → ((n2, gp2, gb2) = it (pry (bLf cP db ew b) (bTp cQ db ew b) b xs xe) ys y (n1, gp1, gb1)) → (n2 = n1 + (y - ys) * (xe - xs)) → W p l e r_Mod_list s m args below meth c H locs 0 0 Q (F0 m 70 ls [])) (a := ys) (b := ye) (fun y hiy hjy ihy => ?_) _ _ _ n1 gp1 gb1 (lv_sub hl [3, 4, 5, 6, 7, 2, 1, 0] rfl) hP hD hS (it_self _ _ _).symm (by rw [Int.sub_self, Int.zero_mul, Int.add_zero])
    intro ls H locs n2 gp2 gb2 hl hP hD hS hs2 hn2
    refine lv_iload hx hb d_Mod_list_70 (lv_at hl 7 rfl) ?_
    refine lv_iload hx hb d_Mod_list_72 (lv_at hl 6 rfl) ?_
    refine lv_iload_n hx hb d_Mod_list_74 rfl (lv_at hl 3 rfl) ?_
    refine lv_iconst (v := iv (1)) hx hb d_Mod_list_75 rfl ?_
    refine k_iadd hx hb d_Mod_list_76 ?_
    refine k_imul hx hb d_Mod_list_77 ?_
    refine lv_aload_n hx hb d_Mod_list_78 rfl (lv_at hl 0 rfl) ?_
    refine va_get (D := gD G) (ci := 7) (v := .int (iv (dn))) (C := R_Mod) (T := F_Mod) (N := 34) hx hb hw in_Mod hown hK hP 0 rfl rfl 11 (by decide) (hw _ m3_135) (fun _ h => h) rfl d_Mod_list_79 ?_
    refine k_idiv hx hb d_Mod_list_82 (by omega) (by omega) ?_
    refine k_eqi (b := ye) (by rw [hye]; rfl) ?_
    refine k_icmp_ge (tgt := 177) hx hb d_Mod_list_83 (by decide) (by omega) (by omega) (fun hc83 => ?_) (fun hc83 => ?_)
    · refine lv_iinc (k := 4) (v := iv (b + 1)) hx hb d_Mod_list_177 hl rfl (iv_add _ _) (by decide) rfl (fun ls hl => ?_)
      have hl : lv_has ls 9 [(4, .int (iv (b + 1))), (0, .ref rM), (1, .int (iv (s0))), (2, .int (iv (s0 % ac))), (3, .int (iv (s0 / ac))), (5, .int (iv (w1))), (6, .int (iv (h1))), (7, .int (iv (y)))] := hl
      refine lv_goto (tgt := 22) hx hb d_Mod_list_180 (by decide) ?_
      exact ihb (by omega) _ _ _ n2 gp2 gb2 (lv_sub hl [1, 2, 3, 4, 0] rfl) hP hD hS (by rw [it_s _ _ hib, ← hs]; show _ = prt (bLf cP db ew b) (bTp cQ db ew b) (bWd cP db ew b) (bHt cQ db ew b) b ac dn s0 (n1, gp1, gb1); unfold prt; rw [← hw1, ← hh1, ← hxe, ← hxs, ← hye, ← hys, hs2]; exact it_x _ _ hc83 hjy)
    · have b1 : (y - ys) * (xe - xs) + (xe - xs) ≤ (ye - ys) * (xe - xs) := by have := Int.mul_le_mul_of_nonneg_right (show y - ys + 1 ≤ ye - ys by omega) (show 0 ≤ xe - xs by omega); rw [Int.add_mul, Int.one_mul] at this; exact this
      have b2 : 0 ≤ (y - ys) * (xe - xs) := Int.mul_nonneg (by omega) (by omega)
      refine lv_iload hx hb d_Mod_list_86 (lv_at hl 5 rfl) ?_
      refine lv_iload_n hx hb d_Mod_list_88 rfl (lv_at hl 2 rfl) ?_
      refine k_imul hx hb d_Mod_list_89 ?_
      refine lv_aload_n hx hb d_Mod_list_90 rfl (lv_at hl 0 rfl) ?_
      refine va_get (D := gD G) (ci := 7) (v := .int (iv (ac))) (C := R_Mod) (T := F_Mod) (N := 34) hx hb hw in_Mod hown hK hP 0 rfl rfl 10 (by decide) (hw _ m3_134) (fun _ h => h) rfl d_Mod_list_91 ?_
      refine k_idiv hx hb d_Mod_list_94 (by omega) (by omega) ?_
      refine k_eqi (b := xs) (by rw [hxs]; rfl) ?_
      refine lv_istore hx hb d_Mod_list_95 hl (by decide) rfl (fun ls hl => ?_)
      have hl : lv_has ls 9 [(8, .int (iv (xs))), (0, .ref rM), (1, .int (iv (s0))), (2, .int (iv (s0 % ac))), (3, .int (iv (s0 / ac))), (4, .int (iv (b))), (5, .int (iv (w1))), (6, .int (iv (h1))), (7, .int (iv (y)))] := hl
      refine lo_up (P := fun x => ∀ (ls : Array Slot) (H : Heap) (locs : List Loc) (n3 : Int) (gp3 : Int → Int) (gb3 : Int → Int), lv_has ls 9 [(0, .ref rM), (1, .int (iv (s0))), (2, .int (iv (s0 % ac))), (3, .int (iv (s0 / ac))), (4, .int (iv (b))), (5, .int (iv (w1))), (6, .int (iv (h1))), (7, .int (iv (y))), (8, .int (iv (x)))] → va_P (gD G) classes [o_Mod rM wd ht rP rk rG rW rK kd db ew ac dn pr nu de rE rst wr rd rev rod n3 rp rb ba sz1 lb rm cu sp nz rbl sl uz, (rp, ai (gI G) 256 (gp3)), (rb, ai (gI G) 256 (gb3))] H → va_D A [o_Mod rM wd ht rP rk rG rW rK kd db ew ac dn pr nu de rE rst wr rd rev rod n3 rp rb ba sz1 lb rm cu sp nz rbl sl uz, (rp, ai (gI G) 256 (gp3)), (rb, ai (gI G) 256 (gb3))] → va_S A s.heap H locs → ((n3, gp3, gb3) = it (prx (bLf cP db ew b) (bTp cQ db ew b) b y) xs x (n2, gp2, gb2)) → (n3 = n2 + (x - xs)) → W p l e r_Mod_list s m args below meth c H locs 0 0 Q (F0 m 97 ls [])) (a := xs) (b := xe) (fun x hix hjx ihx => ?_) _ _ _ n2 gp2 gb2 (lv_sub hl [1, 2, 3, 4, 5, 6, 7, 8, 0] rfl) hP hD hS (it_self _ _ _).symm (by omega)
      intro ls H locs n3 gp3 gb3 hl hP hD hS hs3 hn3
      refine lv_iload hx hb d_Mod_list_97 (lv_at hl 8 rfl) ?_
      refine lv_iload hx hb d_Mod_list_99 (lv_at hl 5 rfl) ?_
      refine lv_iload_n hx hb d_Mod_list_101 rfl (lv_at hl 2 rfl) ?_
      refine lv_iconst (v := iv (1)) hx hb d_Mod_list_102 rfl ?_
      refine k_iadd hx hb d_Mod_list_103 ?_
      refine k_imul hx hb d_Mod_list_104 ?_
      refine lv_aload_n hx hb d_Mod_list_105 rfl (lv_at hl 0 rfl) ?_
      refine va_get (D := gD G) (ci := 7) (v := .int (iv (ac))) (C := R_Mod) (T := F_Mod) (N := 34) hx hb hw in_Mod hown hK hP 0 rfl rfl 10 (by decide) (hw _ m3_134) (fun _ h => h) rfl d_Mod_list_106 ?_
      refine k_idiv hx hb d_Mod_list_109 (by omega) (by omega) ?_
      refine k_eqi (b := xe) (by rw [hxe]; rfl) ?_
      refine k_icmp_ge (tgt := 171) hx hb d_Mod_list_110 (by decide) (by omega) (by omega) (fun hc110 => ?_) (fun hc110 => ?_)
      · refine lv_iinc (k := 7) (v := iv (y + 1)) hx hb d_Mod_list_171 hl rfl (iv_add _ _) (by decide) rfl (fun ls hl => ?_)
        have hl : lv_has ls 9 [(7, .int (iv (y + 1))), (0, .ref rM), (1, .int (iv (s0))), (2, .int (iv (s0 % ac))), (3, .int (iv (s0 / ac))), (4, .int (iv (b))), (5, .int (iv (w1))), (6, .int (iv (h1))), (8, .int (iv (x)))] := hl
        refine lv_goto (tgt := 70) hx hb d_Mod_list_174 (by decide) ?_
        exact ihy (by omega) _ _ _ n3 gp3 gb3 (lv_sub hl [1, 2, 3, 4, 5, 6, 7, 0] rfl) hP hD hS (by rw [it_s _ _ hiy, ← hs2]; show _ = it (prx (bLf cP db ew b) (bTp cQ db ew b) b y) xs xe (n2, gp2, gb2); rw [hs3]; exact it_x _ _ hc110 hjx) (by rw [hn3, hn2, show y + 1 - ys = (y - ys) + 1 by omega, Int.add_mul, Int.one_mul]; omega)
      · refine lv_aload_n hx hb d_Mod_list_113 rfl (lv_at hl 0 rfl) ?_
        refine va_get (D := gD G) (ci := 7) (v := .ref rp) (C := R_Mod) (T := F_Mod) (N := 34) hx hb hw in_Mod hown hK hP 0 rfl rfl 22 (by decide) (hw _ m3_146) (fun _ h => h) rfl d_Mod_list_114 ?_
        refine lv_aload_n hx hb d_Mod_list_117 rfl (lv_at hl 0 rfl) ?_
        refine va_get (D := gD G) (ci := 7) (v := .int (iv (n3))) (C := R_Mod) (T := F_Mod) (N := 34) hx hb hw in_Mod hown hK hP 0 rfl rfl 21 (by decide) (hw _ m3_145) (fun _ h => h) rfl d_Mod_list_118 ?_
        refine lv_bipush (v := iv (16)) hx hb d_Mod_list_121 rfl ?_
        refine lv_aload_n hx hb d_Mod_list_123 rfl (lv_at hl 0 rfl) ?_
        refine lv_iload hx hb d_Mod_list_124 (lv_at hl 4 rfl) ?_
        refine k_ciR (k_rv S (c_Mod_top l G _ rM rP rk rG rW rK rE rst rev rod rp rb rbl b wd ht kd db ew ac dn pr nu de wr rd n3 ba sz1 lb rm cu sp nz sl uz (by omega) (by omega) (by omega) hb0) 1 m4_121 m4_118 m4_120 mp_37 m1_9 (by decide +kernel) (by decide) rfl rfl (k_preV (q0 := 0) hK hP hD hS hA hT rfl rfl [0] (by decide) rfl) rfl hl.1 rfl (Nat.le_of_ble_eq_true rfl) d_Mod_list_126 ⟨Nat.le_of_ble_eq_true rfl, Nat.le_of_ble_eq_true rfl⟩) (fun r126 h126 => ?_)
        subst h126
        refine k_eqi (b := bTp cQ db ew b) (by rw [hcQ]) ?_
        refine lv_iload hx hb d_Mod_list_129 (lv_at hl 7 rfl) ?_
        refine k_iadd hx hb d_Mod_list_131 ?_
        refine k_imul hx hb d_Mod_list_132 ?_
        refine lv_aload_n hx hb d_Mod_list_133 rfl (lv_at hl 0 rfl) ?_
        refine lv_iload hx hb d_Mod_list_134 (lv_at hl 4 rfl) ?_
        refine k_ciR (k_rv S (c_Mod_left l G _ rM rP rk rG rW rK rE rst rev rod rp rb rbl b wd ht kd db ew ac dn pr nu de wr rd n3 ba sz1 lb rm cu sp nz sl uz (by omega) (by omega) (by omega) hb0) 1 m4_125 m4_122 m4_124 mp_38 m1_9 (by decide +kernel) (by decide) rfl rfl (k_preV (q0 := 0) hK hP hD hS hA hT rfl rfl [0] (by decide) rfl) rfl hl.1 rfl (Nat.le_of_ble_eq_true rfl) d_Mod_list_136 ⟨Nat.le_of_ble_eq_true rfl, Nat.le_of_ble_eq_true rfl⟩) (fun r136 h136 => ?_)
        subst h136
        refine k_eqi (b := bLf cP db ew b) (by rw [hcP]) ?_
        refine k_iadd hx hb d_Mod_list_139 ?_
        refine lv_iload hx hb d_Mod_list_140 (lv_at hl 8 rfl) ?_
        refine k_iadd hx hb d_Mod_list_142 ?_
        refine k_eqi (b := (bTp cQ db ew b + y) * 16 + bLf cP db ew b + x) (by omega) ?_
        refine k_ias hx hb hK hP hD hS 1 0 rfl rfl (by decide) (by omega) d_Mod_list_143 (fun H locs hP hD hS => ?_)
        have hP : va_P (gD G) classes [o_Mod rM wd ht rP rk rG rW rK kd db ew ac dn pr nu de rE rst wr rd rev rod n3 rp rb ba sz1 lb rm cu sp nz rbl sl uz, (rp, ai (gI G) 256 (up gp3 n3 ((bTp cQ db ew b + y) * 16 + bLf cP db ew b + x))), (rb, ai (gI G) 256 (gb3))] H := hP
        have hD : va_D A [o_Mod rM wd ht rP rk rG rW rK kd db ew ac dn pr nu de rE rst wr rd rev rod n3 rp rb ba sz1 lb rm cu sp nz rbl sl uz, (rp, ai (gI G) 256 (up gp3 n3 ((bTp cQ db ew b + y) * 16 + bLf cP db ew b + x))), (rb, ai (gI G) 256 (gb3))] := hD
        refine lv_aload_n hx hb d_Mod_list_144 rfl (lv_at hl 0 rfl) ?_
        refine va_get (D := gD G) (ci := 7) (v := .ref rb) (C := R_Mod) (T := F_Mod) (N := 34) hx hb hw in_Mod hown hK hP 0 rfl rfl 23 (by decide) (hw _ m3_147) (fun _ h => h) rfl d_Mod_list_145 ?_
        refine lv_aload_n hx hb d_Mod_list_148 rfl (lv_at hl 0 rfl) ?_
        refine va_get (D := gD G) (ci := 7) (v := .int (iv (n3))) (C := R_Mod) (T := F_Mod) (N := 34) hx hb hw in_Mod hown hK hP 0 rfl rfl 21 (by decide) (hw _ m3_145) (fun _ h => h) rfl d_Mod_list_149 ?_
        refine lv_iload hx hb d_Mod_list_152 (lv_at hl 4 rfl) ?_
        refine k_ias hx hb hK hP hD hS 2 0 rfl rfl (by decide) (by omega) d_Mod_list_154 (fun H locs hP hD hS => ?_)
        have hP : va_P (gD G) classes [o_Mod rM wd ht rP rk rG rW rK kd db ew ac dn pr nu de rE rst wr rd rev rod n3 rp rb ba sz1 lb rm cu sp nz rbl sl uz, (rp, ai (gI G) 256 (up gp3 n3 ((bTp cQ db ew b + y) * 16 + bLf cP db ew b + x))), (rb, ai (gI G) 256 (up gb3 n3 b))] H := hP
        have hD : va_D A [o_Mod rM wd ht rP rk rG rW rK kd db ew ac dn pr nu de rE rst wr rd rev rod n3 rp rb ba sz1 lb rm cu sp nz rbl sl uz, (rp, ai (gI G) 256 (up gp3 n3 ((bTp cQ db ew b + y) * 16 + bLf cP db ew b + x))), (rb, ai (gI G) 256 (up gb3 n3 b))] := hD
        refine lv_aload_n hx hb d_Mod_list_155 rfl (lv_at hl 0 rfl) ?_
        refine lv_dup hx hb d_Mod_list_156 rfl ?_
        refine va_get (D := gD G) (ci := 7) (v := .int (iv (n3))) (C := R_Mod) (T := F_Mod) (N := 34) hx hb hw in_Mod hown hK hP 0 rfl rfl 21 (by decide) (hw _ m3_145) (fun _ h => h) rfl d_Mod_list_157 ?_
        refine lv_iconst (v := iv (1)) hx hb d_Mod_list_160 rfl ?_
        refine k_iadd hx hb d_Mod_list_161 ?_
        refine va_put (D := gD G) (ci := 7) (v := .int (iv (n3 + 1))) (ty := .int) (C := R_Mod) (T := F_Mod) (N := 34) hx hb hw in_Mod t_Mod t_Mod_ok n_Mod hown hK hP hD hS 0 rfl rfl 21 (by decide) (hw _ m3_145) (fun _ h => h) rfl (by decide +kernel) rfl rfl (Nat.le_of_ble_eq_true rfl) d_Mod_list_162 (fun H locs hP hD hS => ?_)
        have hP : va_P (gD G) classes [o_Mod rM wd ht rP rk rG rW rK kd db ew ac dn pr nu de rE rst wr rd rev rod (n3 + 1) rp rb ba sz1 lb rm cu sp nz rbl sl uz, (rp, ai (gI G) 256 (up gp3 n3 ((bTp cQ db ew b + y) * 16 + bLf cP db ew b + x))), (rb, ai (gI G) 256 (up gb3 n3 b))] H := hP
        have hD : va_D A [o_Mod rM wd ht rP rk rG rW rK kd db ew ac dn pr nu de rE rst wr rd rev rod (n3 + 1) rp rb ba sz1 lb rm cu sp nz rbl sl uz, (rp, ai (gI G) 256 (up gp3 n3 ((bTp cQ db ew b + y) * 16 + bLf cP db ew b + x))), (rb, ai (gI G) 256 (up gb3 n3 b))] := hD
        refine lv_iinc (k := 8) (v := iv (x + 1)) hx hb d_Mod_list_165 hl rfl (iv_add _ _) (by decide) rfl (fun ls hl => ?_)
        have hl : lv_has ls 9 [(8, .int (iv (x + 1))), (0, .ref rM), (1, .int (iv (s0))), (2, .int (iv (s0 % ac))), (3, .int (iv (s0 / ac))), (4, .int (iv (b))), (5, .int (iv (w1))), (6, .int (iv (h1))), (7, .int (iv (y)))] := hl
        refine lv_goto (tgt := 97) hx hb d_Mod_list_168 (by decide) ?_
        exact ihx (by omega) _ _ _ (n3 + 1) (up gp3 n3 ((bTp cQ db ew b + y) * 16 + bLf cP db ew b + x)) (up gb3 n3 b) (lv_sub hl [1, 2, 3, 4, 5, 6, 7, 8, 0] rfl) hP hD hS (by rw [it_s _ _ hix, ← hs3]; rfl) (by omega)
abbrev w_Mod_isSlice : List Cond := Cond.code y_Mod_isSlice prog_9_method_30_code 2 (some .boolean) :: wl
abbrev r_Mod_isSlice : Room := { frames := 0, cells := 0, slots := 0, locals := 0 }
set_option maxHeartbeats 4000000 in
set_option maxRecDepth 100000 in
theorem c_Mod_isSlice (l : Launch) (G : k_G) (sz : Nat) (rM rP rk rG rW rK rE rst rev rod rp rb rbl : Nat) (k0 wd ht kd db ew ac dn pr nu de wr rd cn ba sz1 lb rm cu sp nz sl uz : Int) (hac : 1 ≤ ac ∧ ac ≤ 4) (hdn : 1 ≤ dn ∧ dn ≤ 4) (hwr : wr = 0 ∨ wr = 1) (h_k0 : -2147483648 ≤ k0 ∧ k0 < 2147483648) : Met l y_Mod_isSlice w_Mod_isSlice r_Mod_isSlice (k_P G [.ref rM, .int (iv (k0))] [o_Mod rM wd ht rP rk rG rW rK kd db ew ac dn pr nu de rE rst wr rd rev rod cn rp rb ba sz1 lb rm cu sp nz rbl sl uz] sz) (vp_Si (fun r : Int32 => r = iv (bI (wr = 1 ∧ 0 ≤ k0 ∧ k0 ≤ ac * dn - 1)))) 0 0 (fun _ => False) := by
  refine k_met (fun _ => vp_Si (fun r : Int32 => r = iv (bI (wr = 1 ∧ 0 ≤ k0 ∧ k0 ≤ ac * dn - 1)))) (fun _ _ => False) (by decide) rfl (Nat.le_of_ble_eq_true rfl) (fun p e s m args below meth c ls A Q S hr hlk hnm hl hsz hP hK hD hS hA hT hQ => ?_)
  obtain ⟨hx, hb, hml, hown, hts⟩ := id S
  have hw : ∀ w ∈ wl, w.before args s = true := fun w h => hts w (List.mem_cons_of_mem _ h)
  have hl : lv_has ls 2 [(0, .ref rM), (1, .int (iv (k0)))] := hl
  have n1 := mul_r (a := ac) (b := dn) (A := 4) (B := 4) (by omega) (by omega)
  have n2 : 1 ≤ ac * dn := Int.mul_pos (by omega) (by omega)
  refine lv_aload_n hx hb d_Mod_isSlice_0 rfl (lv_at hl 0 rfl) ?_
  refine va_get (D := gD G) (ci := 7) (v := .int (iv (wr))) (C := R_Mod) (T := F_Mod) (N := 34) hx hb hw in_Mod hown hK hP 0 rfl rfl 17 (by decide) (hw _ m3_141) (fun _ h => h) rfl d_Mod_isSlice_1 ?_
  refine k_if_eq (tgt := 28) hx hb d_Mod_isSlice_4 (by decide) (by omega) (fun hc4 => ?_) (fun hc4 => ?_)
  · refine lv_iconst (v := iv (0)) hx hb d_Mod_isSlice_28 rfl ?_
    exact k_zretR hx hb hr hlk (by omega) hQ (by first | rw [bI_t (by omega)] | rw [bI_f (by omega)]) d_Mod_isSlice_29
  · refine lv_iload_n hx hb d_Mod_isSlice_7 rfl (lv_at hl 1 rfl) ?_
    refine k_if_lt (tgt := 28) hx hb d_Mod_isSlice_8 (by decide) (by omega) (fun hc8 => ?_) (fun hc8 => ?_)
    · refine lv_iconst (v := iv (0)) hx hb d_Mod_isSlice_28 rfl ?_
      exact k_zretR hx hb hr hlk (by omega) hQ (by first | rw [bI_t (by omega)] | rw [bI_f (by omega)]) d_Mod_isSlice_29
    · refine lv_iload_n hx hb d_Mod_isSlice_11 rfl (lv_at hl 1 rfl) ?_
      refine lv_aload_n hx hb d_Mod_isSlice_12 rfl (lv_at hl 0 rfl) ?_
      refine va_get (D := gD G) (ci := 7) (v := .int (iv (ac))) (C := R_Mod) (T := F_Mod) (N := 34) hx hb hw in_Mod hown hK hP 0 rfl rfl 10 (by decide) (hw _ m3_134) (fun _ h => h) rfl d_Mod_isSlice_13 ?_
      refine lv_aload_n hx hb d_Mod_isSlice_16 rfl (lv_at hl 0 rfl) ?_
      refine va_get (D := gD G) (ci := 7) (v := .int (iv (dn))) (C := R_Mod) (T := F_Mod) (N := 34) hx hb hw in_Mod hown hK hP 0 rfl rfl 11 (by decide) (hw _ m3_135) (fun _ h => h) rfl d_Mod_isSlice_17 ?_
      refine k_imul hx hb d_Mod_isSlice_20 ?_
      refine k_icmp_ge (tgt := 28) hx hb d_Mod_isSlice_21 (by decide) (by omega) (by omega) (fun hc21 => ?_) (fun hc21 => ?_)
      · refine lv_iconst (v := iv (0)) hx hb d_Mod_isSlice_28 rfl ?_
        exact k_zretR hx hb hr hlk (by omega) hQ (by first | rw [bI_t (by omega)] | rw [bI_f (by omega)]) d_Mod_isSlice_29
      · refine lv_iconst (v := iv (1)) hx hb d_Mod_isSlice_24 rfl ?_
        refine lv_goto (tgt := 29) hx hb d_Mod_isSlice_25 (by decide) ?_
        exact k_zretR hx hb hr hlk (by omega) hQ (by first | rw [bI_t (by omega)] | rw [bI_f (by omega)]) d_Mod_isSlice_29
abbrev w_Mod_look : List Cond := Cond.code y_Mod_look prog_9_method_31_code 3 none :: wl
abbrev r_Mod_look : Room := { frames := 0, cells := 0, slots := 0, locals := 0 }
set_option maxHeartbeats 4000000 in
set_option maxRecDepth 100000 in
theorem c_Mod_look (l : Launch) (G : k_G) (sz : Nat) (rM rP rk rG rW rK rE rst rev rod rp rb rbl : Nat) (s0 wd ht kd db ew ac dn pr nu de wr rd cn ba sz1 lb rm cu sp nz sl uz : Int) (hok : okR nu de) (hs0 : 0 ≤ s0 ∧ s0 < 16) : Met l y_Mod_look w_Mod_look r_Mod_look (k_P G [.ref rM, .int (iv (s0))] [o_Mod rM wd ht rP rk rG rW rK kd db ew ac dn pr nu de rE rst wr rd rev rod cn rp rb ba sz1 lb rm cu sp nz rbl sl uz] sz) (qv G (fun u : Int × Int × Int × Int => u = (sBy nu de s0, sBy nu de (s0 + 1) - sBy nu de s0, ldI nu de s0, rmI nu de s0)) (fun u : Int × Int × Int × Int => [o_Mod rM wd ht rP rk rG rW rK kd db ew ac dn pr nu de rE rst wr rd rev rod cn rp rb u.1 u.2.1 u.2.2.1 u.2.2.2 cu sp nz rbl sl uz]) (va_A [o_Mod rM wd ht rP rk rG rW rK kd db ew ac dn pr nu de rE rst wr rd rev rod cn rp rb ba sz1 lb rm cu sp nz rbl sl uz] sz)) 0 0 (va_A [o_Mod rM wd ht rP rk rG rW rK kd db ew ac dn pr nu de rE rst wr rd rev rod cn rp rb ba sz1 lb rm cu sp nz rbl sl uz] sz) := by
  refine k_met (fun A => qv G (fun u : Int × Int × Int × Int => u = (sBy nu de s0, sBy nu de (s0 + 1) - sBy nu de s0, ldI nu de s0, rmI nu de s0)) (fun u : Int × Int × Int × Int => [o_Mod rM wd ht rP rk rG rW rK kd db ew ac dn pr nu de rE rst wr rd rev rod cn rp rb u.1 u.2.1 u.2.2.1 u.2.2.2 cu sp nz rbl sl uz]) A) (fun A => A) (by decide) rfl (Nat.le_of_ble_eq_true rfl) (fun p e s m args below meth c ls A Q S hr hlk hnm hl hsz hP hK hD hS hA hT hQ => ?_)
  obtain ⟨hx, hb, hml, hown, hts⟩ := id S
  have hw : ∀ w ∈ wl, w.before args s = true := fun w h => hts w (List.mem_cons_of_mem _ h)
  have hl : lv_has ls 3 [(0, .ref rM), (1, .int (iv (s0)))] := hl
  have q1 := sBy_r hok (s := s0) (by omega)
  have q2 := sBy_r hok (s := s0 + 1) (by omega)
  have q3 := sBy_s hok (s := s0)
  have q4 := ldI_r hok (s := s0)
  have q5 := rmI_r hok (s := s0)
  have q6 : rmI nu de s0 = 8 * sBy nu de (s0 + 1) - 8 * sBy nu de s0 - 5 - ldI nu de s0 := rfl
  have q8 := hok.1
  have q9 := hok.2.1
  have qa := aft_r hok (s := s0)
  have qb : 8 * (sBy nu de (s0 + 1) - sBy nu de s0) - 5 = aft nu de s0 := by unfold aft; omega
  have qc : dgI (aft nu de s0) = ldI nu de s0 := by unfold dgI ldI; rw [if_neg (by omega)]
  refine lv_aload_n hx hb d_Mod_look_0 rfl (lv_at hl 0 rfl) ?_
  refine lv_iload_n hx hb d_Mod_look_1 rfl (lv_at hl 1 rfl) ?_
  refine lv_aload_n hx hb d_Mod_look_2 rfl (lv_at hl 0 rfl) ?_
  refine va_get (D := gD G) (ci := 7) (v := .int (iv (nu))) (C := R_Mod) (T := F_Mod) (N := 34) hx hb hw in_Mod hown hK hP 0 rfl rfl 13 (by decide) (hw _ m3_137) (fun _ h => h) rfl d_Mod_look_3 ?_
  refine k_imul hx hb d_Mod_look_6 ?_
  refine lv_aload_n hx hb d_Mod_look_7 rfl (lv_at hl 0 rfl) ?_
  refine va_get (D := gD G) (ci := 7) (v := .int (iv (de))) (C := R_Mod) (T := F_Mod) (N := 34) hx hb hw in_Mod hown hK hP 0 rfl rfl 14 (by decide) (hw _ m3_138) (fun _ h => h) rfl d_Mod_look_8 ?_
  refine k_idiv hx hb d_Mod_look_11 (by omega) (by omega) ?_
  refine k_eqi (b := sBy nu de s0) rfl ?_
  refine va_put (D := gD G) (ci := 7) (v := .int (iv (sBy nu de s0))) (ty := .int) (C := R_Mod) (T := F_Mod) (N := 34) hx hb hw in_Mod t_Mod t_Mod_ok n_Mod hown hK hP hD hS 0 rfl rfl 24 (by decide) (hw _ m3_148) (fun _ h => h) rfl (by decide +kernel) rfl rfl (Nat.le_of_ble_eq_true rfl) d_Mod_look_12 (fun H locs hP hD hS => ?_)
  have hP : va_P (gD G) classes [o_Mod rM wd ht rP rk rG rW rK kd db ew ac dn pr nu de rE rst wr rd rev rod cn rp rb (sBy nu de s0) sz1 lb rm cu sp nz rbl sl uz] H := hP
  have hD : va_D A [o_Mod rM wd ht rP rk rG rW rK kd db ew ac dn pr nu de rE rst wr rd rev rod cn rp rb (sBy nu de s0) sz1 lb rm cu sp nz rbl sl uz] := hD
  refine lv_aload_n hx hb d_Mod_look_15 rfl (lv_at hl 0 rfl) ?_
  refine lv_iload_n hx hb d_Mod_look_16 rfl (lv_at hl 1 rfl) ?_
  refine lv_iconst (v := iv (1)) hx hb d_Mod_look_17 rfl ?_
  refine k_iadd hx hb d_Mod_look_18 ?_
  refine lv_aload_n hx hb d_Mod_look_19 rfl (lv_at hl 0 rfl) ?_
  refine va_get (D := gD G) (ci := 7) (v := .int (iv (nu))) (C := R_Mod) (T := F_Mod) (N := 34) hx hb hw in_Mod hown hK hP 0 rfl rfl 13 (by decide) (hw _ m3_137) (fun _ h => h) rfl d_Mod_look_20 ?_
  refine k_imul hx hb d_Mod_look_23 ?_
  refine lv_aload_n hx hb d_Mod_look_24 rfl (lv_at hl 0 rfl) ?_
  refine va_get (D := gD G) (ci := 7) (v := .int (iv (de))) (C := R_Mod) (T := F_Mod) (N := 34) hx hb hw in_Mod hown hK hP 0 rfl rfl 14 (by decide) (hw _ m3_138) (fun _ h => h) rfl d_Mod_look_25 ?_
  refine k_idiv hx hb d_Mod_look_28 (by omega) (by omega) ?_
  refine k_eqi (b := sBy nu de (s0 + 1)) rfl ?_
  refine lv_aload_n hx hb d_Mod_look_29 rfl (lv_at hl 0 rfl) ?_
  refine va_get (D := gD G) (ci := 7) (v := .int (iv (sBy nu de s0))) (C := R_Mod) (T := F_Mod) (N := 34) hx hb hw in_Mod hown hK hP 0 rfl rfl 24 (by decide) (hw _ m3_148) (fun _ h => h) rfl d_Mod_look_30 ?_
  refine k_isub hx hb d_Mod_look_33 ?_
  refine va_put (D := gD G) (ci := 7) (v := .int (iv ((sBy nu de (s0 + 1)) - (sBy nu de s0)))) (ty := .int) (C := R_Mod) (T := F_Mod) (N := 34) hx hb hw in_Mod t_Mod t_Mod_ok n_Mod hown hK hP hD hS 0 rfl rfl 25 (by decide) (hw _ m3_149) (fun _ h => h) rfl (by decide +kernel) rfl rfl (Nat.le_of_ble_eq_true rfl) d_Mod_look_34 (fun H locs hP hD hS => ?_)
  have hP : va_P (gD G) classes [o_Mod rM wd ht rP rk rG rW rK kd db ew ac dn pr nu de rE rst wr rd rev rod cn rp rb (sBy nu de s0) ((sBy nu de (s0 + 1)) - (sBy nu de s0)) lb rm cu sp nz rbl sl uz] H := hP
  have hD : va_D A [o_Mod rM wd ht rP rk rG rW rK kd db ew ac dn pr nu de rE rst wr rd rev rod cn rp rb (sBy nu de s0) ((sBy nu de (s0 + 1)) - (sBy nu de s0)) lb rm cu sp nz rbl sl uz] := hD
  refine lv_aload_n hx hb d_Mod_look_37 rfl (lv_at hl 0 rfl) ?_
  refine lv_iconst (v := iv (0)) hx hb d_Mod_look_38 rfl ?_
  refine va_put (D := gD G) (ci := 7) (v := .int (iv (0))) (ty := .int) (C := R_Mod) (T := F_Mod) (N := 34) hx hb hw in_Mod t_Mod t_Mod_ok n_Mod hown hK hP hD hS 0 rfl rfl 26 (by decide) (hw _ m3_150) (fun _ h => h) rfl (by decide +kernel) rfl rfl (Nat.le_of_ble_eq_true rfl) d_Mod_look_39 (fun H locs hP hD hS => ?_)
  have hP : va_P (gD G) classes [o_Mod rM wd ht rP rk rG rW rK kd db ew ac dn pr nu de rE rst wr rd rev rod cn rp rb (sBy nu de s0) ((sBy nu de (s0 + 1)) - (sBy nu de s0)) 0 rm cu sp nz rbl sl uz] H := hP
  have hD : va_D A [o_Mod rM wd ht rP rk rG rW rK kd db ew ac dn pr nu de rE rst wr rd rev rod cn rp rb (sBy nu de s0) ((sBy nu de (s0 + 1)) - (sBy nu de s0)) 0 rm cu sp nz rbl sl uz] := hD
  refine lv_bipush (v := iv (8)) hx hb d_Mod_look_42 rfl ?_
  refine lv_aload_n hx hb d_Mod_look_44 rfl (lv_at hl 0 rfl) ?_
  refine va_get (D := gD G) (ci := 7) (v := .int (iv ((sBy nu de (s0 + 1)) - (sBy nu de s0)))) (C := R_Mod) (T := F_Mod) (N := 34) hx hb hw in_Mod hown hK hP 0 rfl rfl 25 (by decide) (hw _ m3_149) (fun _ h => h) rfl d_Mod_look_45 ?_
  refine k_imul hx hb d_Mod_look_48 ?_
  refine lv_iconst (v := iv (5)) hx hb d_Mod_look_49 rfl ?_
  refine k_isub hx hb d_Mod_look_50 ?_
  refine k_eqi (b := aft nu de s0) qb ?_
  refine lv_istore_n hx hb d_Mod_look_51 rfl hl (by decide) rfl (fun ls hl => ?_)
  have hl : lv_has ls 3 [(2, .int (iv (aft nu de s0))), (0, .ref rM), (1, .int (iv (s0)))] := hl
  refine lo_ha (P := fun v => ∀ (ls : Array Slot) (H : Heap) (locs : List Loc) (lb1 : Int), lv_has ls 3 [(0, .ref rM), (1, .int (iv (s0))), (2, .int (iv (v)))] → va_P (gD G) classes [o_Mod rM wd ht rP rk rG rW rK kd db ew ac dn pr nu de rE rst wr rd rev rod cn rp rb (sBy nu de s0) ((sBy nu de (s0 + 1)) - (sBy nu de s0)) lb1 rm cu sp nz rbl sl uz] H → va_D A [o_Mod rM wd ht rP rk rG rW rK kd db ew ac dn pr nu de rE rst wr rd rev rod cn rp rb (sBy nu de s0) ((sBy nu de (s0 + 1)) - (sBy nu de s0)) lb1 rm cu sp nz rbl sl uz] → va_S A s.heap H locs → (lb1 + dgI v = ldI nu de s0) → (0 ≤ v) → W p l e r_Mod_look s m args below meth c H locs 0 0 Q (F0 m 52 ls [])) (a := aft nu de s0) (fun v hiv ihv => ?_) _ _ _ 0 (lv_sub hl [1, 2, 0] rfl) hP hD hS (by rw [qc]; omega) (by omega)
  intro ls H locs lb1 hl hP hD hS hs h0v
  refine lv_iload_n hx hb d_Mod_look_52 rfl (lv_at hl 2 rfl) ?_
  refine k_if_le (tgt := 73) hx hb d_Mod_look_53 (by decide) (by omega) (fun hc53 => ?_) (fun hc53 => ?_)
  · have hz : lb1 = ldI nu de s0 := by unfold dgI at hs; rw [if_pos hc53] at hs; omega
    refine lv_aload_n hx hb d_Mod_look_73 rfl (lv_at hl 0 rfl) ?_
    refine lv_bipush (v := iv (8)) hx hb d_Mod_look_74 rfl ?_
    refine lv_aload_n hx hb d_Mod_look_76 rfl (lv_at hl 0 rfl) ?_
    refine va_get (D := gD G) (ci := 7) (v := .int (iv ((sBy nu de (s0 + 1)) - (sBy nu de s0)))) (C := R_Mod) (T := F_Mod) (N := 34) hx hb hw in_Mod hown hK hP 0 rfl rfl 25 (by decide) (hw _ m3_149) (fun _ h => h) rfl d_Mod_look_77 ?_
    refine k_imul hx hb d_Mod_look_80 ?_
    refine lv_iconst (v := iv (5)) hx hb d_Mod_look_81 rfl ?_
    refine k_isub hx hb d_Mod_look_82 ?_
    refine k_eqi (b := aft nu de s0) qb ?_
    refine lv_aload_n hx hb d_Mod_look_83 rfl (lv_at hl 0 rfl) ?_
    refine va_get (D := gD G) (ci := 7) (v := .int (iv (lb1))) (C := R_Mod) (T := F_Mod) (N := 34) hx hb hw in_Mod hown hK hP 0 rfl rfl 26 (by decide) (hw _ m3_150) (fun _ h => h) rfl d_Mod_look_84 ?_
    refine k_isub hx hb d_Mod_look_87 ?_
    refine k_eqi (b := rmI nu de s0) (by unfold rmI; omega) ?_
    refine va_put (D := gD G) (ci := 7) (v := .int (iv (rmI nu de s0))) (ty := .int) (C := R_Mod) (T := F_Mod) (N := 34) hx hb hw in_Mod t_Mod t_Mod_ok n_Mod hown hK hP hD hS 0 rfl rfl 27 (by decide) (hw _ m3_151) (fun _ h => h) rfl (by decide +kernel) rfl rfl (Nat.le_of_ble_eq_true rfl) d_Mod_look_88 (fun H locs hP hD hS => ?_)
    have hP : va_P (gD G) classes [o_Mod rM wd ht rP rk rG rW rK kd db ew ac dn pr nu de rE rst wr rd rev rod cn rp rb (sBy nu de s0) ((sBy nu de (s0 + 1)) - (sBy nu de s0)) lb1 (rmI nu de s0) cu sp nz rbl sl uz] H := hP
    have hD : va_D A [o_Mod rM wd ht rP rk rG rW rK kd db ew ac dn pr nu de rE rst wr rd rev rod cn rp rb (sBy nu de s0) ((sBy nu de (s0 + 1)) - (sBy nu de s0)) lb1 (rmI nu de s0) cu sp nz rbl sl uz] := hD
    exact k_vret hx hb hr hlk hQ ((sBy nu de s0, (sBy nu de (s0 + 1)) - (sBy nu de s0), lb1, rmI nu de s0)) (by rw [hz]) hP hD hS d_Mod_look_91
  · refine lv_aload_n hx hb d_Mod_look_56 rfl (lv_at hl 0 rfl) ?_
    refine lv_dup hx hb d_Mod_look_57 rfl ?_
    refine va_get (D := gD G) (ci := 7) (v := .int (iv (lb1))) (C := R_Mod) (T := F_Mod) (N := 34) hx hb hw in_Mod hown hK hP 0 rfl rfl 26 (by decide) (hw _ m3_150) (fun _ h => h) rfl d_Mod_look_58 ?_
    refine lv_iconst (v := iv (1)) hx hb d_Mod_look_61 rfl ?_
    refine k_iadd hx hb d_Mod_look_62 ?_
    refine va_put (D := gD G) (ci := 7) (v := .int (iv (lb1 + 1))) (ty := .int) (C := R_Mod) (T := F_Mod) (N := 34) hx hb hw in_Mod t_Mod t_Mod_ok n_Mod hown hK hP hD hS 0 rfl rfl 26 (by decide) (hw _ m3_150) (fun _ h => h) rfl (by decide +kernel) rfl rfl (Nat.le_of_ble_eq_true rfl) d_Mod_look_63 (fun H locs hP hD hS => ?_)
    have hP : va_P (gD G) classes [o_Mod rM wd ht rP rk rG rW rK kd db ew ac dn pr nu de rE rst wr rd rev rod cn rp rb (sBy nu de s0) ((sBy nu de (s0 + 1)) - (sBy nu de s0)) (lb1 + 1) rm cu sp nz rbl sl uz] H := hP
    have hD : va_D A [o_Mod rM wd ht rP rk rG rW rK kd db ew ac dn pr nu de rE rst wr rd rev rod cn rp rb (sBy nu de s0) ((sBy nu de (s0 + 1)) - (sBy nu de s0)) (lb1 + 1) rm cu sp nz rbl sl uz] := hD
    refine lv_iload_n hx hb d_Mod_look_66 rfl (lv_at hl 2 rfl) ?_
    refine lv_iconst (v := iv (2)) hx hb d_Mod_look_67 rfl ?_
    refine k_idiv hx hb d_Mod_look_68 (by omega) (by omega) ?_
    refine lv_istore_n hx hb d_Mod_look_69 rfl hl (by decide) rfl (fun ls hl => ?_)
    have hl : lv_has ls 3 [(2, .int (iv (v / 2))), (0, .ref rM), (1, .int (iv (s0)))] := hl
    refine lv_goto (tgt := 52) hx hb d_Mod_look_70 (by decide) ?_
    exact ihv (v / 2) (by omega) (by omega) _ _ _ (lb1 + 1) (lv_sub hl [1, 2, 0] rfl) hP hD hS (by rw [dgI_s hc53] at hs; omega) (by omega)
abbrev w_Mod_fineness : List Cond := Cond.code y_Mod_fineness prog_9_method_32_code 3 (some .int) :: wl
abbrev r_Mod_fineness : Room := { frames := 0, cells := 0, slots := 0, locals := 0 }
set_option maxHeartbeats 4000000 in
set_option maxRecDepth 100000 in
theorem c_Mod_fineness (l : Launch) (G : k_G) (sz : Nat) (rM rP rk rG rW rK rE rst rev rod rp rb rbl : Nat) (q0 b0 wd ht kd db ew ac dn pr nu de wr rd cn ba sz1 lb rm cu sp nz sl uz : Int) (es : Int → Int) (hq0 : 0 ≤ q0 ∧ q0 ≤ 31) (hb0 : 0 ≤ b0 ∧ b0 < 8) (hes : 0 ≤ es b0 ∧ es b0 ≤ 15) : Met l y_Mod_fineness w_Mod_fineness r_Mod_fineness (k_P G [.ref rM, .int (iv (q0)), .int (iv (b0))] [o_Mod rM wd ht rP rk rG rW rK kd db ew ac dn pr nu de rE rst wr rd rev rod cn rp rb ba sz1 lb rm cu sp nz rbl sl uz, (rE, ai (gI G) 8 (es))] sz) (vp_Si (fun r : Int32 => r = iv (max 0 (q0 - es b0)))) 0 0 (fun _ => False) := by
  refine k_met (fun _ => vp_Si (fun r : Int32 => r = iv (max 0 (q0 - es b0)))) (fun _ _ => False) (by decide) rfl (Nat.le_of_ble_eq_true rfl) (fun p e s m args below meth c ls A Q S hr hlk hnm hl hsz hP hK hD hS hA hT hQ => ?_)
  obtain ⟨hx, hb, hml, hown, hts⟩ := id S
  have hw : ∀ w ∈ wl, w.before args s = true := fun w h => hts w (List.mem_cons_of_mem _ h)
  have hl : lv_has ls 3 [(0, .ref rM), (1, .int (iv (q0))), (2, .int (iv (b0)))] := hl
  refine lv_iload_n hx hb d_Mod_fineness_0 rfl (lv_at hl 1 rfl) ?_
  refine lv_aload_n hx hb d_Mod_fineness_1 rfl (lv_at hl 0 rfl) ?_
  refine va_get (D := gD G) (ci := 7) (v := .ref rE) (C := R_Mod) (T := F_Mod) (N := 34) hx hb hw in_Mod hown hK hP 0 rfl rfl 15 (by decide) (hw _ m3_139) (fun _ h => h) rfl d_Mod_fineness_2 ?_
  refine lv_iload_n hx hb d_Mod_fineness_5 rfl (lv_at hl 2 rfl) ?_
  refine k_ial hx hb hK hP 1 0 rfl rfl (by decide) (by omega) d_Mod_fineness_6 ?_
  refine k_icmp_ge (tgt := 14) hx hb d_Mod_fineness_7 (by decide) (by omega) (by omega) (fun hc7 => ?_) (fun hc7 => ?_)
  · refine lv_iload_n hx hb d_Mod_fineness_14 rfl (lv_at hl 1 rfl) ?_
    refine lv_aload_n hx hb d_Mod_fineness_15 rfl (lv_at hl 0 rfl) ?_
    refine va_get (D := gD G) (ci := 7) (v := .ref rE) (C := R_Mod) (T := F_Mod) (N := 34) hx hb hw in_Mod hown hK hP 0 rfl rfl 15 (by decide) (hw _ m3_139) (fun _ h => h) rfl d_Mod_fineness_16 ?_
    refine lv_iload_n hx hb d_Mod_fineness_19 rfl (lv_at hl 2 rfl) ?_
    refine k_ial hx hb hK hP 1 0 rfl rfl (by decide) (by omega) d_Mod_fineness_20 ?_
    refine k_isub hx hb d_Mod_fineness_21 ?_
    exact k_iretR hx hb hr hlk hQ (by congr 1; omega) d_Mod_fineness_22
  · refine lv_iconst (v := iv (0)) hx hb d_Mod_fineness_10 rfl ?_
    refine lv_goto (tgt := 22) hx hb d_Mod_fineness_11 (by decide) ?_
    exact k_iretR hx hb hr hlk hQ (by congr 1; omega) d_Mod_fineness_22
abbrev w_Mod_factor : List Cond := Cond.code y_Mod_factor prog_9_method_33_code 4 (some .long) :: wl
abbrev r_Mod_factor : Room := { frames := 0, cells := 0, slots := 0, locals := 0 }
set_option maxHeartbeats 4000000 in
set_option maxRecDepth 100000 in
theorem c_Mod_factor (l : Launch) (G : k_G) (sz : Nat) (r0 : Int) (hr0 : 0 ≤ r0 ∧ r0 < 32) : Met l y_Mod_factor w_Mod_factor r_Mod_factor (k_P G [.int (iv (r0))] [] sz) (vp_Sl (fun r : Int64 => r = lw (facI r0))) 0 0 (fun _ => False) := by
  refine k_met (fun _ => vp_Sl (fun r : Int64 => r = lw (facI r0))) (fun _ _ => False) (by decide) rfl (Nat.le_of_ble_eq_true rfl) (fun p e s m args below meth c ls A Q S hr hlk hnm hl hsz hP hK hD hS hA hT hQ => ?_)
  obtain ⟨hx, hb, hml, hown, hts⟩ := id S
  have hw : ∀ w ∈ wl, w.before args s = true := fun w h => hts w (List.mem_cons_of_mem _ h)
  have hl : lv_has ls 4 [(0, .int (iv (r0)))] := hl
  have k := fac_L hr0
  refine lv_lconst (v := 1) hx hb d_Mod_factor_0 rfl ?_
  refine lv_iload_n hx hb d_Mod_factor_1 rfl (lv_at hl 0 rfl) ?_
  refine lv_iconst (v := iv (2)) hx hb d_Mod_factor_2 rfl ?_
  refine k_ishrc 2 4 rfl (by decide) rfl hx hb d_Mod_factor_3 (by omega) ?_
  refine k_lshl hx hb d_Mod_factor_4 ?_
  refine lv_lstore_n hx hb d_Mod_factor_5 rfl hl (by decide) rfl (fun ls hl => ?_)
  have hl : lv_has ls 4 [(1, .long (shL ((1 : Int64)) (r0 / 4))), (0, .int (iv (r0)))] := hl
  refine lv_iload_n hx hb d_Mod_factor_6 rfl (lv_at hl 1 rfl) ?_
  refine lv_iconst (v := iv (3)) hx hb d_Mod_factor_7 rfl ?_
  refine k_iandc 2 4 rfl (by decide) rfl hx hb d_Mod_factor_8 ?_
  refine lv_istore_n hx hb d_Mod_factor_9 rfl hl (by decide) rfl (fun ls hl => ?_)
  have hl : lv_has ls 4 [(3, .int (iv (r0 % 4))), (1, .long (shL ((1 : Int64)) (r0 / 4))), (0, .int (iv (r0)))] := hl
  refine lv_iload_n hx hb d_Mod_factor_10 rfl (lv_at hl 0 rfl) ?_
  refine k_if_ne (tgt := 22) hx hb d_Mod_factor_11 (by decide) (by omega) (fun hc11 => ?_) (fun hc11 => ?_)
  · refine lv_iload_n hx hb d_Mod_factor_22 rfl (lv_at hl 0 rfl) ?_
    refine lv_iconst (v := iv (1)) hx hb d_Mod_factor_23 rfl ?_
    refine k_icmp_ne (tgt := 43) hx hb d_Mod_factor_24 (by decide) (by omega) (by omega) (fun hc24 => ?_) (fun hc24 => ?_)
    · refine lv_iload_n hx hb d_Mod_factor_43 rfl (lv_at hl 0 rfl) ?_
      refine lv_iconst (v := iv (2)) hx hb d_Mod_factor_44 rfl ?_
      refine k_icmp_ne (tgt := 64) hx hb d_Mod_factor_45 (by decide) (by omega) (by omega) (fun hc45 => ?_) (fun hc45 => ?_)
      · refine lv_ldc2 (v := 440253) hx hb hown (hw _ m4_152) d_Mod_factor_64 ?_
        refine lv_lload_n hx hb d_Mod_factor_67 rfl (lv_at hl 1 rfl) ?_
        refine lv_lmul hx hb d_Mod_factor_68 ?_
        refine lv_ldc2 (v := 32722) hx hb hown (hw _ m4_153) d_Mod_factor_69 ?_
        refine lv_ladd hx hb d_Mod_factor_72 ?_
        refine lv_ldc2 (v := 65444) hx hb hown (hw _ m4_154) d_Mod_factor_73 ?_
        refine lv_ldiv hx hb d_Mod_factor_76 (by decide) ?_
        exact k_lretR hx hb hr hlk hQ (by first | (have q : r0 % 4 = 0 := (by omega); rw [← k.1 q]) | (have q : r0 % 4 = 1 := (by omega); rw [← k.2.1 q]) | (have q : r0 % 4 = 2 := (by omega); rw [← k.2.2.1 q]) | (have q : r0 % 4 = 3 := (by omega); rw [← k.2.2.2 q])) d_Mod_factor_77
      · refine lv_ldc2 (v := 665857) hx hb hown (hw _ m4_149) d_Mod_factor_48 ?_
        refine lv_lload_n hx hb d_Mod_factor_51 rfl (lv_at hl 1 rfl) ?_
        refine lv_lmul hx hb d_Mod_factor_52 ?_
        refine lv_ldc2 (v := 58854) hx hb hown (hw _ m4_150) d_Mod_factor_53 ?_
        refine lv_ladd hx hb d_Mod_factor_56 ?_
        refine lv_ldc2 (v := 117708) hx hb hown (hw _ m4_151) d_Mod_factor_57 ?_
        refine lv_ldiv hx hb d_Mod_factor_60 (by decide) ?_
        refine lv_goto (tgt := 77) hx hb d_Mod_factor_61 (by decide) ?_
        exact k_lretR hx hb hr hlk hQ (by first | (have q : r0 % 4 = 0 := (by omega); rw [← k.1 q]) | (have q : r0 % 4 = 1 := (by omega); rw [← k.2.1 q]) | (have q : r0 % 4 = 2 := (by omega); rw [← k.2.2.1 q]) | (have q : r0 % 4 = 3 := (by omega); rw [← k.2.2.2 q])) d_Mod_factor_77
    · refine lv_ldc2 (v := 503829) hx hb hown (hw _ m4_146) d_Mod_factor_27 ?_
      refine lv_lload_n hx hb d_Mod_factor_30 rfl (lv_at hl 1 rfl) ?_
      refine lv_lmul hx hb d_Mod_factor_31 ?_
      refine lv_ldc2 (v := 52958) hx hb hown (hw _ m4_147) d_Mod_factor_32 ?_
      refine lv_ladd hx hb d_Mod_factor_35 ?_
      refine lv_ldc2 (v := 105917) hx hb hown (hw _ m4_148) d_Mod_factor_36 ?_
      refine lv_ldiv hx hb d_Mod_factor_39 (by decide) ?_
      refine lv_goto (tgt := 77) hx hb d_Mod_factor_40 (by decide) ?_
      exact k_lretR hx hb hr hlk hQ (by first | (have q : r0 % 4 = 0 := (by omega); rw [← k.1 q]) | (have q : r0 % 4 = 1 := (by omega); rw [← k.2.1 q]) | (have q : r0 % 4 = 2 := (by omega); rw [← k.2.2.1 q]) | (have q : r0 % 4 = 3 := (by omega); rw [← k.2.2.2 q])) d_Mod_factor_77
  · refine lv_ldc2 (v := 4) hx hb hown (hw _ m4_142) d_Mod_factor_14 ?_
    refine lv_lload_n hx hb d_Mod_factor_17 rfl (lv_at hl 1 rfl) ?_
    refine lv_lmul hx hb d_Mod_factor_18 ?_
    refine lv_goto (tgt := 77) hx hb d_Mod_factor_19 (by decide) ?_
    exact k_lretR hx hb hr hlk hQ (by first | (have q : r0 % 4 = 0 := (by omega); rw [← k.1 q]) | (have q : r0 % 4 = 1 := (by omega); rw [← k.2.1 q]) | (have q : r0 % 4 = 2 := (by omega); rw [← k.2.2.1 q]) | (have q : r0 % 4 = 3 := (by omega); rw [← k.2.2.2 q])) d_Mod_factor_77
abbrev w_Mod_number : List Cond := Cond.code y_Mod_number prog_9_method_34_code 5 (some .long) :: wl
abbrev r_Mod_number : Room := { frames := 1, cells := 0, slots := 0, locals := 23 }
set_option maxHeartbeats 4000000 in
set_option maxRecDepth 100000 in
theorem c_Mod_number (l : Launch) (G : k_G) (sz : Nat) (r0 : Int) (c0 : Int64) (hr0 : 0 ≤ r0 ∧ r0 < 32) : Met l y_Mod_number w_Mod_number r_Mod_number (k_P G [.long (c0), .int (iv (r0))] [] sz) (vp_Sl (fun r : Int64 => r = nmM c0 r0)) 0 0 (fun _ => False) := by
  refine k_met (fun _ => vp_Sl (fun r : Int64 => r = nmM c0 r0)) (fun _ _ => False) (by decide) rfl (Nat.le_of_ble_eq_true rfl) (fun p e s m args below meth c ls A Q S hr hlk hnm hl hsz hP hK hD hS hA hT hQ => ?_)
  obtain ⟨hx, hb, hml, hown, hts⟩ := id S
  have hw : ∀ w ∈ wl, w.before args s = true := fun w h => hts w (List.mem_cons_of_mem _ h)
  have hl : lv_has ls 5 [(0, .long (c0)), (2, .int (iv (r0)))] := hl
  refine lv_ldc2 (v := 4) hx hb hown (hw _ m4_142) d_Mod_number_0 ?_
  refine lv_lload_n hx hb d_Mod_number_3 rfl (lv_at hl 0 rfl) ?_
  refine lv_lconst (v := 0) hx hb d_Mod_number_4 rfl ?_
  refine k_lge (tgt := 14) hx hb d_Mod_number_5 d_Mod_number_6 (by decide) (fun hc5 => ?_) (fun hc5 => ?_)
  · refine lv_lload_n hx hb d_Mod_number_14 rfl (lv_at hl 0 rfl) ?_
    refine lv_lmul hx hb d_Mod_number_15 ?_
    refine lv_iload_n hx hb d_Mod_number_16 rfl (lv_at hl 1 rfl) ?_
    refine k_clR (k_rs S (c_Mod_factor l G _ r0 (by omega)) 1 m4_145 m4_143 m4_144 m1_9 (by decide +kernel) (by decide) rfl rfl (k_preS hK hP hD hS hA hT [] (by decide) rfl) rfl hl.1 rfl (Nat.le_of_ble_eq_true rfl) d_Mod_number_17 ⟨Nat.le_of_ble_eq_true rfl, Nat.le_of_ble_eq_true rfl⟩) (fun r17 h17 => ?_)
    subst h17
    refine lv_ldiv hx hb d_Mod_number_20 (lw_ne (fac_r hr0)) ?_
    refine lv_lstore_n hx hb d_Mod_number_21 rfl hl (by decide) rfl (fun ls hl => ?_)
    have hl : lv_has ls 5 [(3, .long ((((4 : Int64)) * c0) / (lw (facI r0)))), (0, .long (c0)), (2, .int (iv (r0)))] := hl
    refine lv_lload_n hx hb d_Mod_number_22 rfl (lv_at hl 0 rfl) ?_
    refine lv_ldc2 (v := 134217726) hx hb hown (hw _ m4_155) d_Mod_number_23 ?_
    refine k_lle (tgt := 36) hx hb d_Mod_number_26 d_Mod_number_27 (by decide) (fun hc26 => ?_) (fun hc26 => ?_)
    · refine lv_lload_n hx hb d_Mod_number_36 rfl (lv_at hl 0 rfl) ?_
      refine lv_lstore_n hx hb d_Mod_number_37 rfl hl (by decide) rfl (fun ls hl => ?_)
      have hl : lv_has ls 5 [(3, .long ((((4 : Int64)) * c0) / (lw (facI r0)))), (0, .long (c0)), (2, .int (iv (r0)))] := hl
      refine lv_lload_n hx hb d_Mod_number_38 rfl (lv_at hl 1 rfl) ?_
      refine lv_lconst (v := 0) hx hb d_Mod_number_39 rfl ?_
      refine k_lge (tgt := 49) hx hb d_Mod_number_40 d_Mod_number_41 (by decide) (fun hc40 => ?_) (fun hc40 => ?_)
      · refine lv_lload_n hx hb d_Mod_number_49 rfl (lv_at hl 0 rfl) ?_
        exact k_lretR hx hb hr hlk hQ (by first | exact absurd hc5 hc40 | exact absurd hc40 hc5 | (unfold nmM; first | rw [if_pos hc5, if_pos hc26] | rw [if_pos hc5, if_neg hc26] | rw [if_neg hc5, if_pos hc26] | rw [if_neg hc5, if_neg hc26])) d_Mod_number_50
      · refine lv_lload_n hx hb d_Mod_number_44 rfl (lv_at hl 0 rfl) ?_
        refine lv_lneg hx hb d_Mod_number_45 ?_
        refine lv_goto (tgt := 50) hx hb d_Mod_number_46 (by decide) ?_
        exact k_lretR hx hb hr hlk hQ (by first | exact absurd hc5 hc40 | exact absurd hc40 hc5 | (unfold nmM; first | rw [if_pos hc5, if_pos hc26] | rw [if_pos hc5, if_neg hc26] | rw [if_neg hc5, if_pos hc26] | rw [if_neg hc5, if_neg hc26])) d_Mod_number_50
    · refine lv_ldc2 (v := 134217726) hx hb hown (hw _ m4_155) d_Mod_number_30 ?_
      refine lv_goto (tgt := 37) hx hb d_Mod_number_33 (by decide) ?_
      refine lv_lstore_n hx hb d_Mod_number_37 rfl hl (by decide) rfl (fun ls hl => ?_)
      have hl : lv_has ls 5 [(3, .long ((134217726 : Int64))), (0, .long (c0)), (2, .int (iv (r0)))] := hl
      refine lv_lload_n hx hb d_Mod_number_38 rfl (lv_at hl 1 rfl) ?_
      refine lv_lconst (v := 0) hx hb d_Mod_number_39 rfl ?_
      refine k_lge (tgt := 49) hx hb d_Mod_number_40 d_Mod_number_41 (by decide) (fun hc40 => ?_) (fun hc40 => ?_)
      · refine lv_lload_n hx hb d_Mod_number_49 rfl (lv_at hl 0 rfl) ?_
        exact k_lretR hx hb hr hlk hQ (by first | exact absurd hc5 hc40 | exact absurd hc40 hc5 | (unfold nmM; first | rw [if_pos hc5, if_pos hc26] | rw [if_pos hc5, if_neg hc26] | rw [if_neg hc5, if_pos hc26] | rw [if_neg hc5, if_neg hc26])) d_Mod_number_50
      · refine lv_lload_n hx hb d_Mod_number_44 rfl (lv_at hl 0 rfl) ?_
        refine lv_lneg hx hb d_Mod_number_45 ?_
        refine lv_goto (tgt := 50) hx hb d_Mod_number_46 (by decide) ?_
        exact k_lretR hx hb hr hlk hQ (by first | exact absurd hc5 hc40 | exact absurd hc40 hc5 | (unfold nmM; first | rw [if_pos hc5, if_pos hc26] | rw [if_pos hc5, if_neg hc26] | rw [if_neg hc5, if_pos hc26] | rw [if_neg hc5, if_neg hc26])) d_Mod_number_50
  · refine lv_lload_n hx hb d_Mod_number_9 rfl (lv_at hl 0 rfl) ?_
    refine lv_lneg hx hb d_Mod_number_10 ?_
    refine lv_goto (tgt := 15) hx hb d_Mod_number_11 (by decide) ?_
    refine lv_lmul hx hb d_Mod_number_15 ?_
    refine lv_iload_n hx hb d_Mod_number_16 rfl (lv_at hl 1 rfl) ?_
    refine k_clR (k_rs S (c_Mod_factor l G _ r0 (by omega)) 1 m4_145 m4_143 m4_144 m1_9 (by decide +kernel) (by decide) rfl rfl (k_preS hK hP hD hS hA hT [] (by decide) rfl) rfl hl.1 rfl (Nat.le_of_ble_eq_true rfl) d_Mod_number_17 ⟨Nat.le_of_ble_eq_true rfl, Nat.le_of_ble_eq_true rfl⟩) (fun r17 h17 => ?_)
    subst h17
    refine lv_ldiv hx hb d_Mod_number_20 (lw_ne (fac_r hr0)) ?_
    refine lv_lstore_n hx hb d_Mod_number_21 rfl hl (by decide) rfl (fun ls hl => ?_)
    have hl : lv_has ls 5 [(3, .long ((((4 : Int64)) * (-c0)) / (lw (facI r0)))), (0, .long (c0)), (2, .int (iv (r0)))] := hl
    refine lv_lload_n hx hb d_Mod_number_22 rfl (lv_at hl 0 rfl) ?_
    refine lv_ldc2 (v := 134217726) hx hb hown (hw _ m4_155) d_Mod_number_23 ?_
    refine k_lle (tgt := 36) hx hb d_Mod_number_26 d_Mod_number_27 (by decide) (fun hc26 => ?_) (fun hc26 => ?_)
    · refine lv_lload_n hx hb d_Mod_number_36 rfl (lv_at hl 0 rfl) ?_
      refine lv_lstore_n hx hb d_Mod_number_37 rfl hl (by decide) rfl (fun ls hl => ?_)
      have hl : lv_has ls 5 [(3, .long ((((4 : Int64)) * (-c0)) / (lw (facI r0)))), (0, .long (c0)), (2, .int (iv (r0)))] := hl
      refine lv_lload_n hx hb d_Mod_number_38 rfl (lv_at hl 1 rfl) ?_
      refine lv_lconst (v := 0) hx hb d_Mod_number_39 rfl ?_
      refine k_lge (tgt := 49) hx hb d_Mod_number_40 d_Mod_number_41 (by decide) (fun hc40 => ?_) (fun hc40 => ?_)
      · refine lv_lload_n hx hb d_Mod_number_49 rfl (lv_at hl 0 rfl) ?_
        exact k_lretR hx hb hr hlk hQ (by first | exact absurd hc5 hc40 | exact absurd hc40 hc5 | (unfold nmM; first | rw [if_pos hc5, if_pos hc26] | rw [if_pos hc5, if_neg hc26] | rw [if_neg hc5, if_pos hc26] | rw [if_neg hc5, if_neg hc26])) d_Mod_number_50
      · refine lv_lload_n hx hb d_Mod_number_44 rfl (lv_at hl 0 rfl) ?_
        refine lv_lneg hx hb d_Mod_number_45 ?_
        refine lv_goto (tgt := 50) hx hb d_Mod_number_46 (by decide) ?_
        exact k_lretR hx hb hr hlk hQ (by first | exact absurd hc5 hc40 | exact absurd hc40 hc5 | (unfold nmM; first | rw [if_pos hc5, if_pos hc26] | rw [if_pos hc5, if_neg hc26] | rw [if_neg hc5, if_pos hc26] | rw [if_neg hc5, if_neg hc26])) d_Mod_number_50
    · refine lv_ldc2 (v := 134217726) hx hb hown (hw _ m4_155) d_Mod_number_30 ?_
      refine lv_goto (tgt := 37) hx hb d_Mod_number_33 (by decide) ?_
      refine lv_lstore_n hx hb d_Mod_number_37 rfl hl (by decide) rfl (fun ls hl => ?_)
      have hl : lv_has ls 5 [(3, .long ((134217726 : Int64))), (0, .long (c0)), (2, .int (iv (r0)))] := hl
      refine lv_lload_n hx hb d_Mod_number_38 rfl (lv_at hl 1 rfl) ?_
      refine lv_lconst (v := 0) hx hb d_Mod_number_39 rfl ?_
      refine k_lge (tgt := 49) hx hb d_Mod_number_40 d_Mod_number_41 (by decide) (fun hc40 => ?_) (fun hc40 => ?_)
      · refine lv_lload_n hx hb d_Mod_number_49 rfl (lv_at hl 0 rfl) ?_
        exact k_lretR hx hb hr hlk hQ (by first | exact absurd hc5 hc40 | exact absurd hc40 hc5 | (unfold nmM; first | rw [if_pos hc5, if_pos hc26] | rw [if_pos hc5, if_neg hc26] | rw [if_neg hc5, if_pos hc26] | rw [if_neg hc5, if_neg hc26])) d_Mod_number_50
      · refine lv_lload_n hx hb d_Mod_number_44 rfl (lv_at hl 0 rfl) ?_
        refine lv_lneg hx hb d_Mod_number_45 ?_
        refine lv_goto (tgt := 50) hx hb d_Mod_number_46 (by decide) ?_
        exact k_lretR hx hb hr hlk hQ (by first | exact absurd hc5 hc40 | exact absurd hc40 hc5 | (unfold nmM; first | rw [if_pos hc5, if_pos hc26] | rw [if_pos hc5, if_neg hc26] | rw [if_neg hc5, if_pos hc26] | rw [if_neg hc5, if_neg hc26])) d_Mod_number_50
abbrev w_Mod_value : List Cond := Cond.code y_Mod_value prog_9_method_35_code 11 (some .long) :: wl
abbrev r_Mod_value : Room := { frames := 1, cells := 0, slots := 0, locals := 23 }
set_option maxHeartbeats 4000000 in
set_option maxRecDepth 100000 in
theorem c_Mod_value (l : Launch) (G : k_G) (sz : Nat) (r0 : Int) (v0 : Int64) (hr0 : 0 ≤ r0 ∧ r0 < 32) : Met l y_Mod_value w_Mod_value r_Mod_value (k_P G [.long (v0), .int (iv (r0))] [] sz) (vp_Sl (fun r : Int64 => r = vlM v0 r0)) 0 0 (fun _ => False) := by
  refine k_met (fun _ => vp_Sl (fun r : Int64 => r = vlM v0 r0)) (fun _ _ => False) (by decide) rfl (Nat.le_of_ble_eq_true rfl) (fun p e s m args below meth c ls A Q S hr hlk hnm hl hsz hP hK hD hS hA hT hQ => ?_)
  obtain ⟨hx, hb, hml, hown, hts⟩ := id S
  have hw : ∀ w ∈ wl, w.before args s = true := fun w h => hts w (List.mem_cons_of_mem _ h)
  have hl : lv_has ls 11 [(0, .long (v0)), (2, .int (iv (r0)))] := hl
  refine lv_iload_n hx hb d_Mod_value_0 rfl (lv_at hl 1 rfl) ?_
  refine k_clR (k_rs S (c_Mod_factor l G _ r0 (by omega)) 1 m4_145 m4_143 m4_144 m1_9 (by decide +kernel) (by decide) rfl rfl (k_preS hK hP hD hS hA hT [] (by decide) rfl) rfl hl.1 rfl (Nat.le_of_ble_eq_true rfl) d_Mod_value_1 ⟨Nat.le_of_ble_eq_true rfl, Nat.le_of_ble_eq_true rfl⟩) (fun r1 h1 => ?_)
  subst h1
  refine lv_lstore_n hx hb d_Mod_value_4 rfl hl (by decide) rfl (fun ls hl => ?_)
  have hl : lv_has ls 11 [(3, .long (lw (facI r0))), (0, .long (v0)), (2, .int (iv (r0)))] := hl
  refine lv_iload_n hx hb d_Mod_value_5 rfl (lv_at hl 2 rfl) ?_
  refine k_if_ne (tgt := 13) hx hb d_Mod_value_6 (by decide) (by omega) (fun hc6 => ?_) (fun hc6 => ?_)
  · refine lv_iload_n hx hb d_Mod_value_13 rfl (lv_at hl 2 rfl) ?_
    refine lv_iconst (v := iv (1)) hx hb d_Mod_value_14 rfl ?_
    refine k_icmp_ne (tgt := 24) hx hb d_Mod_value_15 (by decide) (by omega) (by omega) (fun hc15 => ?_) (fun hc15 => ?_)
    · refine lv_lload_n hx hb d_Mod_value_24 rfl (lv_at hl 0 rfl) ?_
      refine lv_lconst (v := 1) hx hb d_Mod_value_25 rfl ?_
      refine lv_ladd hx hb d_Mod_value_26 ?_
      refine lv_iconst (v := iv (1)) hx hb d_Mod_value_27 rfl ?_
      refine k_lshr hx hb d_Mod_value_28 ?_
      refine lv_lstore hx hb d_Mod_value_29 hl (by decide) rfl (fun ls hl => ?_)
      have hl : lv_has ls 11 [(5, .long (shR ((lw (facI r0)) + ((1 : Int64))) 1)), (3, .long (lw (facI r0))), (0, .long (v0)), (2, .int (iv (r0)))] := hl
      refine lv_lload_n hx hb d_Mod_value_31 rfl (lv_at hl 2 rfl) ?_
      refine lv_lconst (v := 0) hx hb d_Mod_value_32 rfl ?_
      refine k_lge (tgt := 42) hx hb d_Mod_value_33 d_Mod_value_34 (by decide) (fun hc33 => ?_) (fun hc33 => ?_)
      · refine lv_lload_n hx hb d_Mod_value_42 rfl (lv_at hl 2 rfl) ?_
        refine lv_lstore hx hb d_Mod_value_43 hl (by decide) rfl (fun ls hl => ?_)
        have hl : lv_has ls 11 [(7, .long (v0)), (5, .long (shR ((lw (facI r0)) + ((1 : Int64))) 1)), (3, .long (lw (facI r0))), (0, .long (v0)), (2, .int (iv (r0)))] := hl
        refine lv_lload hx hb d_Mod_value_45 (lv_at hl 0 rfl) ?_
        refine lv_lconst (v := 0) hx hb d_Mod_value_47 rfl ?_
        refine k_lne (tgt := 56) hx hb d_Mod_value_48 d_Mod_value_49 (by decide) (fun hc48 => ?_) (fun hc48 => ?_)
        · refine lv_lload hx hb d_Mod_value_56 (lv_at hl 0 rfl) ?_
          refine lv_lload_n hx hb d_Mod_value_58 rfl (lv_at hl 2 rfl) ?_
          refine lv_lmul hx hb d_Mod_value_59 ?_
          refine lv_lload hx hb d_Mod_value_60 (lv_at hl 1 rfl) ?_
          refine lv_ladd hx hb d_Mod_value_62 ?_
          refine lv_ldc2 (v := 2) hx hb hown (hw _ m4_58) d_Mod_value_63 ?_
          refine lv_ladd hx hb d_Mod_value_66 ?_
          refine lv_iconst (v := iv (2)) hx hb d_Mod_value_67 rfl ?_
          refine k_lshr hx hb d_Mod_value_68 ?_
          refine lv_lstore hx hb d_Mod_value_69 hl (by decide) rfl (fun ls hl => ?_)
          have hl : lv_has ls 11 [(9, .long (shR (((v0 * (lw (facI r0))) + (shR ((lw (facI r0)) + ((1 : Int64))) 1)) + ((2 : Int64))) 2)), (7, .long (v0)), (5, .long (shR ((lw (facI r0)) + ((1 : Int64))) 1)), (3, .long (lw (facI r0))), (0, .long (v0)), (2, .int (iv (r0)))] := hl
          refine lv_lload_n hx hb d_Mod_value_71 rfl (lv_at hl 4 rfl) ?_
          refine lv_lconst (v := 0) hx hb d_Mod_value_72 rfl ?_
          refine k_lge (tgt := 83) hx hb d_Mod_value_73 d_Mod_value_74 (by decide) (fun hc73 => ?_) (fun hc73 => ?_)
          · refine lv_lload hx hb d_Mod_value_83 (lv_at hl 0 rfl) ?_
            exact k_lretR hx hb hr hlk hQ (by first | exact absurd hc33 hc73 | exact absurd hc73 hc33 | (unfold vlM hfM; (first | rw [if_pos hc33] | rw [if_neg hc33]); (first | rw [if_pos hc48] | (rw [if_neg hc48]; first | rw [if_pos (by omega)] | rw [if_neg (by omega), if_pos (by omega)] | rw [if_neg (by omega), if_neg (by omega)])))) d_Mod_value_85
          · refine lv_lload hx hb d_Mod_value_77 (lv_at hl 0 rfl) ?_
            refine lv_lneg hx hb d_Mod_value_79 ?_
            refine lv_goto (tgt := 85) hx hb d_Mod_value_80 (by decide) ?_
            exact k_lretR hx hb hr hlk hQ (by first | exact absurd hc33 hc73 | exact absurd hc73 hc33 | (unfold vlM hfM; (first | rw [if_pos hc33] | rw [if_neg hc33]); (first | rw [if_pos hc48] | (rw [if_neg hc48]; first | rw [if_pos (by omega)] | rw [if_neg (by omega), if_pos (by omega)] | rw [if_neg (by omega), if_neg (by omega)])))) d_Mod_value_85
        · refine lv_lconst (v := 0) hx hb d_Mod_value_52 rfl ?_
          refine lv_goto (tgt := 69) hx hb d_Mod_value_53 (by decide) ?_
          refine lv_lstore hx hb d_Mod_value_69 hl (by decide) rfl (fun ls hl => ?_)
          have hl : lv_has ls 11 [(9, .long ((0 : Int64))), (7, .long (v0)), (5, .long (shR ((lw (facI r0)) + ((1 : Int64))) 1)), (3, .long (lw (facI r0))), (0, .long (v0)), (2, .int (iv (r0)))] := hl
          refine lv_lload_n hx hb d_Mod_value_71 rfl (lv_at hl 4 rfl) ?_
          refine lv_lconst (v := 0) hx hb d_Mod_value_72 rfl ?_
          refine k_lge (tgt := 83) hx hb d_Mod_value_73 d_Mod_value_74 (by decide) (fun hc73 => ?_) (fun hc73 => ?_)
          · refine lv_lload hx hb d_Mod_value_83 (lv_at hl 0 rfl) ?_
            exact k_lretR hx hb hr hlk hQ (by first | exact absurd hc33 hc73 | exact absurd hc73 hc33 | (unfold vlM hfM; (first | rw [if_pos hc33] | rw [if_neg hc33]); (first | rw [if_pos hc48] | (rw [if_neg hc48]; first | rw [if_pos (by omega)] | rw [if_neg (by omega), if_pos (by omega)] | rw [if_neg (by omega), if_neg (by omega)])))) d_Mod_value_85
          · refine lv_lload hx hb d_Mod_value_77 (lv_at hl 0 rfl) ?_
            refine lv_lneg hx hb d_Mod_value_79 ?_
            refine lv_goto (tgt := 85) hx hb d_Mod_value_80 (by decide) ?_
            exact k_lretR hx hb hr hlk hQ (by first | exact absurd hc33 hc73 | exact absurd hc73 hc33 | (unfold vlM hfM; (first | rw [if_pos hc33] | rw [if_neg hc33]); (first | rw [if_pos hc48] | (rw [if_neg hc48]; first | rw [if_pos (by omega)] | rw [if_neg (by omega), if_pos (by omega)] | rw [if_neg (by omega), if_neg (by omega)])))) d_Mod_value_85
      · refine lv_lload_n hx hb d_Mod_value_37 rfl (lv_at hl 2 rfl) ?_
        refine lv_lneg hx hb d_Mod_value_38 ?_
        refine lv_goto (tgt := 43) hx hb d_Mod_value_39 (by decide) ?_
        refine lv_lstore hx hb d_Mod_value_43 hl (by decide) rfl (fun ls hl => ?_)
        have hl : lv_has ls 11 [(7, .long (-v0)), (5, .long (shR ((lw (facI r0)) + ((1 : Int64))) 1)), (3, .long (lw (facI r0))), (0, .long (v0)), (2, .int (iv (r0)))] := hl
        refine lv_lload hx hb d_Mod_value_45 (lv_at hl 0 rfl) ?_
        refine lv_lconst (v := 0) hx hb d_Mod_value_47 rfl ?_
        refine k_lne (tgt := 56) hx hb d_Mod_value_48 d_Mod_value_49 (by decide) (fun hc48 => ?_) (fun hc48 => ?_)
        · refine lv_lload hx hb d_Mod_value_56 (lv_at hl 0 rfl) ?_
          refine lv_lload_n hx hb d_Mod_value_58 rfl (lv_at hl 2 rfl) ?_
          refine lv_lmul hx hb d_Mod_value_59 ?_
          refine lv_lload hx hb d_Mod_value_60 (lv_at hl 1 rfl) ?_
          refine lv_ladd hx hb d_Mod_value_62 ?_
          refine lv_ldc2 (v := 2) hx hb hown (hw _ m4_58) d_Mod_value_63 ?_
          refine lv_ladd hx hb d_Mod_value_66 ?_
          refine lv_iconst (v := iv (2)) hx hb d_Mod_value_67 rfl ?_
          refine k_lshr hx hb d_Mod_value_68 ?_
          refine lv_lstore hx hb d_Mod_value_69 hl (by decide) rfl (fun ls hl => ?_)
          have hl : lv_has ls 11 [(9, .long (shR ((((-v0) * (lw (facI r0))) + (shR ((lw (facI r0)) + ((1 : Int64))) 1)) + ((2 : Int64))) 2)), (7, .long (-v0)), (5, .long (shR ((lw (facI r0)) + ((1 : Int64))) 1)), (3, .long (lw (facI r0))), (0, .long (v0)), (2, .int (iv (r0)))] := hl
          refine lv_lload_n hx hb d_Mod_value_71 rfl (lv_at hl 4 rfl) ?_
          refine lv_lconst (v := 0) hx hb d_Mod_value_72 rfl ?_
          refine k_lge (tgt := 83) hx hb d_Mod_value_73 d_Mod_value_74 (by decide) (fun hc73 => ?_) (fun hc73 => ?_)
          · refine lv_lload hx hb d_Mod_value_83 (lv_at hl 0 rfl) ?_
            exact k_lretR hx hb hr hlk hQ (by first | exact absurd hc33 hc73 | exact absurd hc73 hc33 | (unfold vlM hfM; (first | rw [if_pos hc33] | rw [if_neg hc33]); (first | rw [if_pos hc48] | (rw [if_neg hc48]; first | rw [if_pos (by omega)] | rw [if_neg (by omega), if_pos (by omega)] | rw [if_neg (by omega), if_neg (by omega)])))) d_Mod_value_85
          · refine lv_lload hx hb d_Mod_value_77 (lv_at hl 0 rfl) ?_
            refine lv_lneg hx hb d_Mod_value_79 ?_
            refine lv_goto (tgt := 85) hx hb d_Mod_value_80 (by decide) ?_
            exact k_lretR hx hb hr hlk hQ (by first | exact absurd hc33 hc73 | exact absurd hc73 hc33 | (unfold vlM hfM; (first | rw [if_pos hc33] | rw [if_neg hc33]); (first | rw [if_pos hc48] | (rw [if_neg hc48]; first | rw [if_pos (by omega)] | rw [if_neg (by omega), if_pos (by omega)] | rw [if_neg (by omega), if_neg (by omega)])))) d_Mod_value_85
        · refine lv_lconst (v := 0) hx hb d_Mod_value_52 rfl ?_
          refine lv_goto (tgt := 69) hx hb d_Mod_value_53 (by decide) ?_
          refine lv_lstore hx hb d_Mod_value_69 hl (by decide) rfl (fun ls hl => ?_)
          have hl : lv_has ls 11 [(9, .long ((0 : Int64))), (7, .long (-v0)), (5, .long (shR ((lw (facI r0)) + ((1 : Int64))) 1)), (3, .long (lw (facI r0))), (0, .long (v0)), (2, .int (iv (r0)))] := hl
          refine lv_lload_n hx hb d_Mod_value_71 rfl (lv_at hl 4 rfl) ?_
          refine lv_lconst (v := 0) hx hb d_Mod_value_72 rfl ?_
          refine k_lge (tgt := 83) hx hb d_Mod_value_73 d_Mod_value_74 (by decide) (fun hc73 => ?_) (fun hc73 => ?_)
          · refine lv_lload hx hb d_Mod_value_83 (lv_at hl 0 rfl) ?_
            exact k_lretR hx hb hr hlk hQ (by first | exact absurd hc33 hc73 | exact absurd hc73 hc33 | (unfold vlM hfM; (first | rw [if_pos hc33] | rw [if_neg hc33]); (first | rw [if_pos hc48] | (rw [if_neg hc48]; first | rw [if_pos (by omega)] | rw [if_neg (by omega), if_pos (by omega)] | rw [if_neg (by omega), if_neg (by omega)])))) d_Mod_value_85
          · refine lv_lload hx hb d_Mod_value_77 (lv_at hl 0 rfl) ?_
            refine lv_lneg hx hb d_Mod_value_79 ?_
            refine lv_goto (tgt := 85) hx hb d_Mod_value_80 (by decide) ?_
            exact k_lretR hx hb hr hlk hQ (by first | exact absurd hc33 hc73 | exact absurd hc73 hc33 | (unfold vlM hfM; (first | rw [if_pos hc33] | rw [if_neg hc33]); (first | rw [if_pos hc48] | (rw [if_neg hc48]; first | rw [if_pos (by omega)] | rw [if_neg (by omega), if_pos (by omega)] | rw [if_neg (by omega), if_neg (by omega)])))) d_Mod_value_85
    · refine lv_ldc2 (v := 2) hx hb hown (hw _ m4_58) d_Mod_value_18 ?_
      refine lv_goto (tgt := 29) hx hb d_Mod_value_21 (by decide) ?_
      refine lv_lstore hx hb d_Mod_value_29 hl (by decide) rfl (fun ls hl => ?_)
      have hl : lv_has ls 11 [(5, .long ((2 : Int64))), (3, .long (lw (facI r0))), (0, .long (v0)), (2, .int (iv (r0)))] := hl
      refine lv_lload_n hx hb d_Mod_value_31 rfl (lv_at hl 2 rfl) ?_
      refine lv_lconst (v := 0) hx hb d_Mod_value_32 rfl ?_
      refine k_lge (tgt := 42) hx hb d_Mod_value_33 d_Mod_value_34 (by decide) (fun hc33 => ?_) (fun hc33 => ?_)
      · refine lv_lload_n hx hb d_Mod_value_42 rfl (lv_at hl 2 rfl) ?_
        refine lv_lstore hx hb d_Mod_value_43 hl (by decide) rfl (fun ls hl => ?_)
        have hl : lv_has ls 11 [(7, .long (v0)), (5, .long ((2 : Int64))), (3, .long (lw (facI r0))), (0, .long (v0)), (2, .int (iv (r0)))] := hl
        refine lv_lload hx hb d_Mod_value_45 (lv_at hl 0 rfl) ?_
        refine lv_lconst (v := 0) hx hb d_Mod_value_47 rfl ?_
        refine k_lne (tgt := 56) hx hb d_Mod_value_48 d_Mod_value_49 (by decide) (fun hc48 => ?_) (fun hc48 => ?_)
        · refine lv_lload hx hb d_Mod_value_56 (lv_at hl 0 rfl) ?_
          refine lv_lload_n hx hb d_Mod_value_58 rfl (lv_at hl 2 rfl) ?_
          refine lv_lmul hx hb d_Mod_value_59 ?_
          refine lv_lload hx hb d_Mod_value_60 (lv_at hl 1 rfl) ?_
          refine lv_ladd hx hb d_Mod_value_62 ?_
          refine lv_ldc2 (v := 2) hx hb hown (hw _ m4_58) d_Mod_value_63 ?_
          refine lv_ladd hx hb d_Mod_value_66 ?_
          refine lv_iconst (v := iv (2)) hx hb d_Mod_value_67 rfl ?_
          refine k_lshr hx hb d_Mod_value_68 ?_
          refine lv_lstore hx hb d_Mod_value_69 hl (by decide) rfl (fun ls hl => ?_)
          have hl : lv_has ls 11 [(9, .long (shR (((v0 * (lw (facI r0))) + ((2 : Int64))) + ((2 : Int64))) 2)), (7, .long (v0)), (5, .long ((2 : Int64))), (3, .long (lw (facI r0))), (0, .long (v0)), (2, .int (iv (r0)))] := hl
          refine lv_lload_n hx hb d_Mod_value_71 rfl (lv_at hl 4 rfl) ?_
          refine lv_lconst (v := 0) hx hb d_Mod_value_72 rfl ?_
          refine k_lge (tgt := 83) hx hb d_Mod_value_73 d_Mod_value_74 (by decide) (fun hc73 => ?_) (fun hc73 => ?_)
          · refine lv_lload hx hb d_Mod_value_83 (lv_at hl 0 rfl) ?_
            exact k_lretR hx hb hr hlk hQ (by first | exact absurd hc33 hc73 | exact absurd hc73 hc33 | (unfold vlM hfM; (first | rw [if_pos hc33] | rw [if_neg hc33]); (first | rw [if_pos hc48] | (rw [if_neg hc48]; first | rw [if_pos (by omega)] | rw [if_neg (by omega), if_pos (by omega)] | rw [if_neg (by omega), if_neg (by omega)])))) d_Mod_value_85
          · refine lv_lload hx hb d_Mod_value_77 (lv_at hl 0 rfl) ?_
            refine lv_lneg hx hb d_Mod_value_79 ?_
            refine lv_goto (tgt := 85) hx hb d_Mod_value_80 (by decide) ?_
            exact k_lretR hx hb hr hlk hQ (by first | exact absurd hc33 hc73 | exact absurd hc73 hc33 | (unfold vlM hfM; (first | rw [if_pos hc33] | rw [if_neg hc33]); (first | rw [if_pos hc48] | (rw [if_neg hc48]; first | rw [if_pos (by omega)] | rw [if_neg (by omega), if_pos (by omega)] | rw [if_neg (by omega), if_neg (by omega)])))) d_Mod_value_85
        · refine lv_lconst (v := 0) hx hb d_Mod_value_52 rfl ?_
          refine lv_goto (tgt := 69) hx hb d_Mod_value_53 (by decide) ?_
          refine lv_lstore hx hb d_Mod_value_69 hl (by decide) rfl (fun ls hl => ?_)
          have hl : lv_has ls 11 [(9, .long ((0 : Int64))), (7, .long (v0)), (5, .long ((2 : Int64))), (3, .long (lw (facI r0))), (0, .long (v0)), (2, .int (iv (r0)))] := hl
          refine lv_lload_n hx hb d_Mod_value_71 rfl (lv_at hl 4 rfl) ?_
          refine lv_lconst (v := 0) hx hb d_Mod_value_72 rfl ?_
          refine k_lge (tgt := 83) hx hb d_Mod_value_73 d_Mod_value_74 (by decide) (fun hc73 => ?_) (fun hc73 => ?_)
          · refine lv_lload hx hb d_Mod_value_83 (lv_at hl 0 rfl) ?_
            exact k_lretR hx hb hr hlk hQ (by first | exact absurd hc33 hc73 | exact absurd hc73 hc33 | (unfold vlM hfM; (first | rw [if_pos hc33] | rw [if_neg hc33]); (first | rw [if_pos hc48] | (rw [if_neg hc48]; first | rw [if_pos (by omega)] | rw [if_neg (by omega), if_pos (by omega)] | rw [if_neg (by omega), if_neg (by omega)])))) d_Mod_value_85
          · refine lv_lload hx hb d_Mod_value_77 (lv_at hl 0 rfl) ?_
            refine lv_lneg hx hb d_Mod_value_79 ?_
            refine lv_goto (tgt := 85) hx hb d_Mod_value_80 (by decide) ?_
            exact k_lretR hx hb hr hlk hQ (by first | exact absurd hc33 hc73 | exact absurd hc73 hc33 | (unfold vlM hfM; (first | rw [if_pos hc33] | rw [if_neg hc33]); (first | rw [if_pos hc48] | (rw [if_neg hc48]; first | rw [if_pos (by omega)] | rw [if_neg (by omega), if_pos (by omega)] | rw [if_neg (by omega), if_neg (by omega)])))) d_Mod_value_85
      · refine lv_lload_n hx hb d_Mod_value_37 rfl (lv_at hl 2 rfl) ?_
        refine lv_lneg hx hb d_Mod_value_38 ?_
        refine lv_goto (tgt := 43) hx hb d_Mod_value_39 (by decide) ?_
        refine lv_lstore hx hb d_Mod_value_43 hl (by decide) rfl (fun ls hl => ?_)
        have hl : lv_has ls 11 [(7, .long (-v0)), (5, .long ((2 : Int64))), (3, .long (lw (facI r0))), (0, .long (v0)), (2, .int (iv (r0)))] := hl
        refine lv_lload hx hb d_Mod_value_45 (lv_at hl 0 rfl) ?_
        refine lv_lconst (v := 0) hx hb d_Mod_value_47 rfl ?_
        refine k_lne (tgt := 56) hx hb d_Mod_value_48 d_Mod_value_49 (by decide) (fun hc48 => ?_) (fun hc48 => ?_)
        · refine lv_lload hx hb d_Mod_value_56 (lv_at hl 0 rfl) ?_
          refine lv_lload_n hx hb d_Mod_value_58 rfl (lv_at hl 2 rfl) ?_
          refine lv_lmul hx hb d_Mod_value_59 ?_
          refine lv_lload hx hb d_Mod_value_60 (lv_at hl 1 rfl) ?_
          refine lv_ladd hx hb d_Mod_value_62 ?_
          refine lv_ldc2 (v := 2) hx hb hown (hw _ m4_58) d_Mod_value_63 ?_
          refine lv_ladd hx hb d_Mod_value_66 ?_
          refine lv_iconst (v := iv (2)) hx hb d_Mod_value_67 rfl ?_
          refine k_lshr hx hb d_Mod_value_68 ?_
          refine lv_lstore hx hb d_Mod_value_69 hl (by decide) rfl (fun ls hl => ?_)
          have hl : lv_has ls 11 [(9, .long (shR ((((-v0) * (lw (facI r0))) + ((2 : Int64))) + ((2 : Int64))) 2)), (7, .long (-v0)), (5, .long ((2 : Int64))), (3, .long (lw (facI r0))), (0, .long (v0)), (2, .int (iv (r0)))] := hl
          refine lv_lload_n hx hb d_Mod_value_71 rfl (lv_at hl 4 rfl) ?_
          refine lv_lconst (v := 0) hx hb d_Mod_value_72 rfl ?_
          refine k_lge (tgt := 83) hx hb d_Mod_value_73 d_Mod_value_74 (by decide) (fun hc73 => ?_) (fun hc73 => ?_)
          · refine lv_lload hx hb d_Mod_value_83 (lv_at hl 0 rfl) ?_
            exact k_lretR hx hb hr hlk hQ (by first | exact absurd hc33 hc73 | exact absurd hc73 hc33 | (unfold vlM hfM; (first | rw [if_pos hc33] | rw [if_neg hc33]); (first | rw [if_pos hc48] | (rw [if_neg hc48]; first | rw [if_pos (by omega)] | rw [if_neg (by omega), if_pos (by omega)] | rw [if_neg (by omega), if_neg (by omega)])))) d_Mod_value_85
          · refine lv_lload hx hb d_Mod_value_77 (lv_at hl 0 rfl) ?_
            refine lv_lneg hx hb d_Mod_value_79 ?_
            refine lv_goto (tgt := 85) hx hb d_Mod_value_80 (by decide) ?_
            exact k_lretR hx hb hr hlk hQ (by first | exact absurd hc33 hc73 | exact absurd hc73 hc33 | (unfold vlM hfM; (first | rw [if_pos hc33] | rw [if_neg hc33]); (first | rw [if_pos hc48] | (rw [if_neg hc48]; first | rw [if_pos (by omega)] | rw [if_neg (by omega), if_pos (by omega)] | rw [if_neg (by omega), if_neg (by omega)])))) d_Mod_value_85
        · refine lv_lconst (v := 0) hx hb d_Mod_value_52 rfl ?_
          refine lv_goto (tgt := 69) hx hb d_Mod_value_53 (by decide) ?_
          refine lv_lstore hx hb d_Mod_value_69 hl (by decide) rfl (fun ls hl => ?_)
          have hl : lv_has ls 11 [(9, .long ((0 : Int64))), (7, .long (-v0)), (5, .long ((2 : Int64))), (3, .long (lw (facI r0))), (0, .long (v0)), (2, .int (iv (r0)))] := hl
          refine lv_lload_n hx hb d_Mod_value_71 rfl (lv_at hl 4 rfl) ?_
          refine lv_lconst (v := 0) hx hb d_Mod_value_72 rfl ?_
          refine k_lge (tgt := 83) hx hb d_Mod_value_73 d_Mod_value_74 (by decide) (fun hc73 => ?_) (fun hc73 => ?_)
          · refine lv_lload hx hb d_Mod_value_83 (lv_at hl 0 rfl) ?_
            exact k_lretR hx hb hr hlk hQ (by first | exact absurd hc33 hc73 | exact absurd hc73 hc33 | (unfold vlM hfM; (first | rw [if_pos hc33] | rw [if_neg hc33]); (first | rw [if_pos hc48] | (rw [if_neg hc48]; first | rw [if_pos (by omega)] | rw [if_neg (by omega), if_pos (by omega)] | rw [if_neg (by omega), if_neg (by omega)])))) d_Mod_value_85
          · refine lv_lload hx hb d_Mod_value_77 (lv_at hl 0 rfl) ?_
            refine lv_lneg hx hb d_Mod_value_79 ?_
            refine lv_goto (tgt := 85) hx hb d_Mod_value_80 (by decide) ?_
            exact k_lretR hx hb hr hlk hQ (by first | exact absurd hc33 hc73 | exact absurd hc73 hc33 | (unfold vlM hfM; (first | rw [if_pos hc33] | rw [if_neg hc33]); (first | rw [if_pos hc48] | (rw [if_neg hc48]; first | rw [if_pos (by omega)] | rw [if_neg (by omega), if_pos (by omega)] | rw [if_neg (by omega), if_neg (by omega)])))) d_Mod_value_85
  · refine lv_lconst (v := 1) hx hb d_Mod_value_9 rfl ?_
    refine lv_goto (tgt := 29) hx hb d_Mod_value_10 (by decide) ?_
    refine lv_lstore hx hb d_Mod_value_29 hl (by decide) rfl (fun ls hl => ?_)
    have hl : lv_has ls 11 [(5, .long ((1 : Int64))), (3, .long (lw (facI r0))), (0, .long (v0)), (2, .int (iv (r0)))] := hl
    refine lv_lload_n hx hb d_Mod_value_31 rfl (lv_at hl 2 rfl) ?_
    refine lv_lconst (v := 0) hx hb d_Mod_value_32 rfl ?_
    refine k_lge (tgt := 42) hx hb d_Mod_value_33 d_Mod_value_34 (by decide) (fun hc33 => ?_) (fun hc33 => ?_)
    · refine lv_lload_n hx hb d_Mod_value_42 rfl (lv_at hl 2 rfl) ?_
      refine lv_lstore hx hb d_Mod_value_43 hl (by decide) rfl (fun ls hl => ?_)
      have hl : lv_has ls 11 [(7, .long (v0)), (5, .long ((1 : Int64))), (3, .long (lw (facI r0))), (0, .long (v0)), (2, .int (iv (r0)))] := hl
      refine lv_lload hx hb d_Mod_value_45 (lv_at hl 0 rfl) ?_
      refine lv_lconst (v := 0) hx hb d_Mod_value_47 rfl ?_
      refine k_lne (tgt := 56) hx hb d_Mod_value_48 d_Mod_value_49 (by decide) (fun hc48 => ?_) (fun hc48 => ?_)
      · refine lv_lload hx hb d_Mod_value_56 (lv_at hl 0 rfl) ?_
        refine lv_lload_n hx hb d_Mod_value_58 rfl (lv_at hl 2 rfl) ?_
        refine lv_lmul hx hb d_Mod_value_59 ?_
        refine lv_lload hx hb d_Mod_value_60 (lv_at hl 1 rfl) ?_
        refine lv_ladd hx hb d_Mod_value_62 ?_
        refine lv_ldc2 (v := 2) hx hb hown (hw _ m4_58) d_Mod_value_63 ?_
        refine lv_ladd hx hb d_Mod_value_66 ?_
        refine lv_iconst (v := iv (2)) hx hb d_Mod_value_67 rfl ?_
        refine k_lshr hx hb d_Mod_value_68 ?_
        refine lv_lstore hx hb d_Mod_value_69 hl (by decide) rfl (fun ls hl => ?_)
        have hl : lv_has ls 11 [(9, .long (shR (((v0 * (lw (facI r0))) + ((1 : Int64))) + ((2 : Int64))) 2)), (7, .long (v0)), (5, .long ((1 : Int64))), (3, .long (lw (facI r0))), (0, .long (v0)), (2, .int (iv (r0)))] := hl
        refine lv_lload_n hx hb d_Mod_value_71 rfl (lv_at hl 4 rfl) ?_
        refine lv_lconst (v := 0) hx hb d_Mod_value_72 rfl ?_
        refine k_lge (tgt := 83) hx hb d_Mod_value_73 d_Mod_value_74 (by decide) (fun hc73 => ?_) (fun hc73 => ?_)
        · refine lv_lload hx hb d_Mod_value_83 (lv_at hl 0 rfl) ?_
          exact k_lretR hx hb hr hlk hQ (by first | exact absurd hc33 hc73 | exact absurd hc73 hc33 | (unfold vlM hfM; (first | rw [if_pos hc33] | rw [if_neg hc33]); (first | rw [if_pos hc48] | (rw [if_neg hc48]; first | rw [if_pos (by omega)] | rw [if_neg (by omega), if_pos (by omega)] | rw [if_neg (by omega), if_neg (by omega)])))) d_Mod_value_85
        · refine lv_lload hx hb d_Mod_value_77 (lv_at hl 0 rfl) ?_
          refine lv_lneg hx hb d_Mod_value_79 ?_
          refine lv_goto (tgt := 85) hx hb d_Mod_value_80 (by decide) ?_
          exact k_lretR hx hb hr hlk hQ (by first | exact absurd hc33 hc73 | exact absurd hc73 hc33 | (unfold vlM hfM; (first | rw [if_pos hc33] | rw [if_neg hc33]); (first | rw [if_pos hc48] | (rw [if_neg hc48]; first | rw [if_pos (by omega)] | rw [if_neg (by omega), if_pos (by omega)] | rw [if_neg (by omega), if_neg (by omega)])))) d_Mod_value_85
      · refine lv_lconst (v := 0) hx hb d_Mod_value_52 rfl ?_
        refine lv_goto (tgt := 69) hx hb d_Mod_value_53 (by decide) ?_
        refine lv_lstore hx hb d_Mod_value_69 hl (by decide) rfl (fun ls hl => ?_)
        have hl : lv_has ls 11 [(9, .long ((0 : Int64))), (7, .long (v0)), (5, .long ((1 : Int64))), (3, .long (lw (facI r0))), (0, .long (v0)), (2, .int (iv (r0)))] := hl
        refine lv_lload_n hx hb d_Mod_value_71 rfl (lv_at hl 4 rfl) ?_
        refine lv_lconst (v := 0) hx hb d_Mod_value_72 rfl ?_
        refine k_lge (tgt := 83) hx hb d_Mod_value_73 d_Mod_value_74 (by decide) (fun hc73 => ?_) (fun hc73 => ?_)
        · refine lv_lload hx hb d_Mod_value_83 (lv_at hl 0 rfl) ?_
          exact k_lretR hx hb hr hlk hQ (by first | exact absurd hc33 hc73 | exact absurd hc73 hc33 | (unfold vlM hfM; (first | rw [if_pos hc33] | rw [if_neg hc33]); (first | rw [if_pos hc48] | (rw [if_neg hc48]; first | rw [if_pos (by omega)] | rw [if_neg (by omega), if_pos (by omega)] | rw [if_neg (by omega), if_neg (by omega)])))) d_Mod_value_85
        · refine lv_lload hx hb d_Mod_value_77 (lv_at hl 0 rfl) ?_
          refine lv_lneg hx hb d_Mod_value_79 ?_
          refine lv_goto (tgt := 85) hx hb d_Mod_value_80 (by decide) ?_
          exact k_lretR hx hb hr hlk hQ (by first | exact absurd hc33 hc73 | exact absurd hc73 hc33 | (unfold vlM hfM; (first | rw [if_pos hc33] | rw [if_neg hc33]); (first | rw [if_pos hc48] | (rw [if_neg hc48]; first | rw [if_pos (by omega)] | rw [if_neg (by omega), if_pos (by omega)] | rw [if_neg (by omega), if_neg (by omega)])))) d_Mod_value_85
    · refine lv_lload_n hx hb d_Mod_value_37 rfl (lv_at hl 2 rfl) ?_
      refine lv_lneg hx hb d_Mod_value_38 ?_
      refine lv_goto (tgt := 43) hx hb d_Mod_value_39 (by decide) ?_
      refine lv_lstore hx hb d_Mod_value_43 hl (by decide) rfl (fun ls hl => ?_)
      have hl : lv_has ls 11 [(7, .long (-v0)), (5, .long ((1 : Int64))), (3, .long (lw (facI r0))), (0, .long (v0)), (2, .int (iv (r0)))] := hl
      refine lv_lload hx hb d_Mod_value_45 (lv_at hl 0 rfl) ?_
      refine lv_lconst (v := 0) hx hb d_Mod_value_47 rfl ?_
      refine k_lne (tgt := 56) hx hb d_Mod_value_48 d_Mod_value_49 (by decide) (fun hc48 => ?_) (fun hc48 => ?_)
      · refine lv_lload hx hb d_Mod_value_56 (lv_at hl 0 rfl) ?_
        refine lv_lload_n hx hb d_Mod_value_58 rfl (lv_at hl 2 rfl) ?_
        refine lv_lmul hx hb d_Mod_value_59 ?_
        refine lv_lload hx hb d_Mod_value_60 (lv_at hl 1 rfl) ?_
        refine lv_ladd hx hb d_Mod_value_62 ?_
        refine lv_ldc2 (v := 2) hx hb hown (hw _ m4_58) d_Mod_value_63 ?_
        refine lv_ladd hx hb d_Mod_value_66 ?_
        refine lv_iconst (v := iv (2)) hx hb d_Mod_value_67 rfl ?_
        refine k_lshr hx hb d_Mod_value_68 ?_
        refine lv_lstore hx hb d_Mod_value_69 hl (by decide) rfl (fun ls hl => ?_)
        have hl : lv_has ls 11 [(9, .long (shR ((((-v0) * (lw (facI r0))) + ((1 : Int64))) + ((2 : Int64))) 2)), (7, .long (-v0)), (5, .long ((1 : Int64))), (3, .long (lw (facI r0))), (0, .long (v0)), (2, .int (iv (r0)))] := hl
        refine lv_lload_n hx hb d_Mod_value_71 rfl (lv_at hl 4 rfl) ?_
        refine lv_lconst (v := 0) hx hb d_Mod_value_72 rfl ?_
        refine k_lge (tgt := 83) hx hb d_Mod_value_73 d_Mod_value_74 (by decide) (fun hc73 => ?_) (fun hc73 => ?_)
        · refine lv_lload hx hb d_Mod_value_83 (lv_at hl 0 rfl) ?_
          exact k_lretR hx hb hr hlk hQ (by first | exact absurd hc33 hc73 | exact absurd hc73 hc33 | (unfold vlM hfM; (first | rw [if_pos hc33] | rw [if_neg hc33]); (first | rw [if_pos hc48] | (rw [if_neg hc48]; first | rw [if_pos (by omega)] | rw [if_neg (by omega), if_pos (by omega)] | rw [if_neg (by omega), if_neg (by omega)])))) d_Mod_value_85
        · refine lv_lload hx hb d_Mod_value_77 (lv_at hl 0 rfl) ?_
          refine lv_lneg hx hb d_Mod_value_79 ?_
          refine lv_goto (tgt := 85) hx hb d_Mod_value_80 (by decide) ?_
          exact k_lretR hx hb hr hlk hQ (by first | exact absurd hc33 hc73 | exact absurd hc73 hc33 | (unfold vlM hfM; (first | rw [if_pos hc33] | rw [if_neg hc33]); (first | rw [if_pos hc48] | (rw [if_neg hc48]; first | rw [if_pos (by omega)] | rw [if_neg (by omega), if_pos (by omega)] | rw [if_neg (by omega), if_neg (by omega)])))) d_Mod_value_85
      · refine lv_lconst (v := 0) hx hb d_Mod_value_52 rfl ?_
        refine lv_goto (tgt := 69) hx hb d_Mod_value_53 (by decide) ?_
        refine lv_lstore hx hb d_Mod_value_69 hl (by decide) rfl (fun ls hl => ?_)
        have hl : lv_has ls 11 [(9, .long ((0 : Int64))), (7, .long (-v0)), (5, .long ((1 : Int64))), (3, .long (lw (facI r0))), (0, .long (v0)), (2, .int (iv (r0)))] := hl
        refine lv_lload_n hx hb d_Mod_value_71 rfl (lv_at hl 4 rfl) ?_
        refine lv_lconst (v := 0) hx hb d_Mod_value_72 rfl ?_
        refine k_lge (tgt := 83) hx hb d_Mod_value_73 d_Mod_value_74 (by decide) (fun hc73 => ?_) (fun hc73 => ?_)
        · refine lv_lload hx hb d_Mod_value_83 (lv_at hl 0 rfl) ?_
          exact k_lretR hx hb hr hlk hQ (by first | exact absurd hc33 hc73 | exact absurd hc73 hc33 | (unfold vlM hfM; (first | rw [if_pos hc33] | rw [if_neg hc33]); (first | rw [if_pos hc48] | (rw [if_neg hc48]; first | rw [if_pos (by omega)] | rw [if_neg (by omega), if_pos (by omega)] | rw [if_neg (by omega), if_neg (by omega)])))) d_Mod_value_85
        · refine lv_lload hx hb d_Mod_value_77 (lv_at hl 0 rfl) ?_
          refine lv_lneg hx hb d_Mod_value_79 ?_
          refine lv_goto (tgt := 85) hx hb d_Mod_value_80 (by decide) ?_
          exact k_lretR hx hb hr hlk hQ (by first | exact absurd hc33 hc73 | exact absurd hc73 hc33 | (unfold vlM hfM; (first | rw [if_pos hc33] | rw [if_neg hc33]); (first | rw [if_pos hc48] | (rw [if_neg hc48]; first | rw [if_pos (by omega)] | rw [if_neg (by omega), if_pos (by omega)] | rw [if_neg (by omega), if_neg (by omega)])))) d_Mod_value_85
abbrev w_Mod_bound : List Cond := Cond.code y_Mod_bound prog_9_method_36_code 2 (some .long) :: wl
abbrev r_Mod_bound : Room := { frames := 0, cells := 0, slots := 0, locals := 0 }
set_option maxHeartbeats 4000000 in
set_option maxRecDepth 100000 in
theorem c_Mod_bound (l : Launch) (G : k_G) (sz : Nat) (v0 : Int64) : Met l y_Mod_bound w_Mod_bound r_Mod_bound (k_P G [.long (v0)] [] sz) (vp_Sl (fun r : Int64 => r = bdL v0)) 0 0 (fun _ => False) := by
  refine k_met (fun _ => vp_Sl (fun r : Int64 => r = bdL v0)) (fun _ _ => False) (by decide) rfl (Nat.le_of_ble_eq_true rfl) (fun p e s m args below meth c ls A Q S hr hlk hnm hl hsz hP hK hD hS hA hT hQ => ?_)
  obtain ⟨hx, hb, hml, hown, hts⟩ := id S
  have hw : ∀ w ∈ wl, w.before args s = true := fun w h => hts w (List.mem_cons_of_mem _ h)
  have hl : lv_has ls 2 [(0, .long (v0))] := hl
  refine lv_lload_n hx hb d_Mod_bound_0 rfl (lv_at hl 0 rfl) ?_
  refine lv_ldc2 (v := -134217728) hx hb hown (hw _ m4_170) d_Mod_bound_1 ?_
  refine k_lge (tgt := 14) hx hb d_Mod_bound_4 d_Mod_bound_5 (by decide) (fun hc4 => ?_) (fun hc4 => ?_)
  · refine lv_lload_n hx hb d_Mod_bound_14 rfl (lv_at hl 0 rfl) ?_
    refine lv_ldc2 (v := 134217728) hx hb hown (hw _ m4_171) d_Mod_bound_15 ?_
    refine k_lle (tgt := 28) hx hb d_Mod_bound_18 d_Mod_bound_19 (by decide) (fun hc18 => ?_) (fun hc18 => ?_)
    · refine lv_lload_n hx hb d_Mod_bound_28 rfl (lv_at hl 0 rfl) ?_
      exact k_lretR hx hb hr hlk hQ (by first | rw [bdL_1 hc4] | rw [bdL_2 hc18] | rw [bdL_3 hc4 hc18]) d_Mod_bound_29
    · refine lv_ldc2 (v := 134217728) hx hb hown (hw _ m4_171) d_Mod_bound_22 ?_
      refine lv_goto (tgt := 29) hx hb d_Mod_bound_25 (by decide) ?_
      exact k_lretR hx hb hr hlk hQ (by first | rw [bdL_1 hc4] | rw [bdL_2 hc18] | rw [bdL_3 hc4 hc18]) d_Mod_bound_29
  · refine lv_ldc2 (v := -134217728) hx hb hown (hw _ m4_170) d_Mod_bound_8 ?_
    refine lv_goto (tgt := 29) hx hb d_Mod_bound_11 (by decide) ?_
    exact k_lretR hx hb hr hlk hQ (by first | rw [bdL_1 hc4] | rw [bdL_2 hc18] | rw [bdL_3 hc4 hc18]) d_Mod_bound_29
abbrev w_Mod_forecast : List Cond := Cond.code y_Mod_forecast prog_9_method_37_code 4 (some .long) :: wl
abbrev r_Mod_forecast : Room := { frames := 0, cells := 0, slots := 0, locals := 0 }
set_option maxHeartbeats 4000000 in
set_option maxRecDepth 100000 in
theorem c_Mod_forecast (l : Launch) (G : k_G) (sz : Nat) (rM rP rk rG rW rK rE rst rev rod rp rb rbl : Nat) (p0 wd ht kd db ew ac dn pr nu de wr rd cn ba sz1 lb rm cu sp nz sl uz : Int) (gv : Int → Int64) (hp0 : 0 ≤ p0 ∧ p0 < 256) : Met l y_Mod_forecast w_Mod_forecast r_Mod_forecast (k_P G [.ref rM, .int (iv (p0))] [o_Mod rM wd ht rP rk rG rW rK kd db ew ac dn pr nu de rE rst wr rd rev rod cn rp rb ba sz1 lb rm cu sp nz rbl sl uz, (rW, al (gL G) 256 (gv))] sz) (vp_Sl (fun r : Int64 => r = fcM gv p0)) 0 0 (fun _ => False) := by
  refine k_met (fun _ => vp_Sl (fun r : Int64 => r = fcM gv p0)) (fun _ _ => False) (by decide) rfl (Nat.le_of_ble_eq_true rfl) (fun p e s m args below meth c ls A Q S hr hlk hnm hl hsz hP hK hD hS hA hT hQ => ?_)
  obtain ⟨hx, hb, hml, hown, hts⟩ := id S
  have hw : ∀ w ∈ wl, w.before args s = true := fun w h => hts w (List.mem_cons_of_mem _ h)
  have hl : lv_has ls 4 [(0, .ref rM), (1, .int (iv (p0)))] := hl
  refine lv_iload_n hx hb d_Mod_forecast_0 rfl (lv_at hl 1 rfl) ?_
  refine lv_bipush (v := iv (16)) hx hb d_Mod_forecast_1 rfl ?_
  refine k_icmp_ge (tgt := 23) hx hb d_Mod_forecast_3 (by decide) (by omega) (by omega) (fun hc3 => ?_) (fun hc3 => ?_)
  · refine lv_iload_n hx hb d_Mod_forecast_23 rfl (lv_at hl 1 rfl) ?_
    refine lv_bipush (v := iv (16)) hx hb d_Mod_forecast_24 rfl ?_
    refine k_irem hx hb d_Mod_forecast_26 (by omega) (by omega) ?_
    refine k_if_ne (tgt := 40) hx hb d_Mod_forecast_27 (by decide) (by omega) (fun hc27 => ?_) (fun hc27 => ?_)
    · refine lv_aload_n hx hb d_Mod_forecast_40 rfl (lv_at hl 0 rfl) ?_
      refine va_get (D := gD G) (ci := 7) (v := .ref rW) (C := R_Mod) (T := F_Mod) (N := 34) hx hb hw in_Mod hown hK hP 0 rfl rfl 5 (by decide) (hw _ m3_129) (fun _ h => h) rfl d_Mod_forecast_41 ?_
      refine lv_iload_n hx hb d_Mod_forecast_44 rfl (lv_at hl 1 rfl) ?_
      refine lv_iconst (v := iv (1)) hx hb d_Mod_forecast_45 rfl ?_
      refine k_isub hx hb d_Mod_forecast_46 ?_
      refine k_lal hx hb hK hP 1 1 rfl rfl (by decide) (by omega) d_Mod_forecast_47 ?_
      refine lv_aload_n hx hb d_Mod_forecast_48 rfl (lv_at hl 0 rfl) ?_
      refine va_get (D := gD G) (ci := 7) (v := .ref rW) (C := R_Mod) (T := F_Mod) (N := 34) hx hb hw in_Mod hown hK hP 0 rfl rfl 5 (by decide) (hw _ m3_129) (fun _ h => h) rfl d_Mod_forecast_49 ?_
      refine lv_iload_n hx hb d_Mod_forecast_52 rfl (lv_at hl 1 rfl) ?_
      refine lv_bipush (v := iv (16)) hx hb d_Mod_forecast_53 rfl ?_
      refine k_isub hx hb d_Mod_forecast_55 ?_
      refine k_lal hx hb hK hP 1 1 rfl rfl (by decide) (by omega) d_Mod_forecast_56 ?_
      refine lv_ladd hx hb d_Mod_forecast_57 ?_
      refine lv_aload_n hx hb d_Mod_forecast_58 rfl (lv_at hl 0 rfl) ?_
      refine va_get (D := gD G) (ci := 7) (v := .ref rW) (C := R_Mod) (T := F_Mod) (N := 34) hx hb hw in_Mod hown hK hP 0 rfl rfl 5 (by decide) (hw _ m3_129) (fun _ h => h) rfl d_Mod_forecast_59 ?_
      refine lv_iload_n hx hb d_Mod_forecast_62 rfl (lv_at hl 1 rfl) ?_
      refine lv_bipush (v := iv (17)) hx hb d_Mod_forecast_63 rfl ?_
      refine k_isub hx hb d_Mod_forecast_65 ?_
      refine k_lal hx hb hK hP 1 1 rfl rfl (by decide) (by omega) d_Mod_forecast_66 ?_
      refine lv_ladd hx hb d_Mod_forecast_67 ?_
      refine lv_lconst (v := 1) hx hb d_Mod_forecast_68 rfl ?_
      refine lv_ladd hx hb d_Mod_forecast_69 ?_
      refine lv_lstore_n hx hb d_Mod_forecast_70 rfl hl (by decide) rfl (fun ls hl => ?_)
      have hl : lv_has ls 4 [(2, .long ((((gv (p0 - 1)) + (gv (p0 - 16))) + (gv (p0 - 17))) + ((1 : Int64)))), (0, .ref rM), (1, .int (iv (p0)))] := hl
      refine lv_lload_n hx hb d_Mod_forecast_71 rfl (lv_at hl 0 rfl) ?_
      refine lv_ldc2 (v := 3) hx hb hown (hw _ m4_138) d_Mod_forecast_72 ?_
      refine lv_lrem hx hb d_Mod_forecast_75 (by decide) ?_
      refine lv_lconst (v := 0) hx hb d_Mod_forecast_76 rfl ?_
      refine k_lge (tgt := 91) hx hb d_Mod_forecast_77 d_Mod_forecast_78 (by decide) (fun hc77 => ?_) (fun hc77 => ?_)
      · refine lv_lload_n hx hb d_Mod_forecast_91 rfl (lv_at hl 0 rfl) ?_
        refine lv_ldc2 (v := 3) hx hb hown (hw _ m4_138) d_Mod_forecast_92 ?_
        refine lv_ldiv hx hb d_Mod_forecast_95 (by decide) ?_
        exact k_lretR hx hb hr hlk hQ (by unfold fcM fdM; first | rw [if_pos (by omega), if_pos (by omega)] | rw [if_pos (by omega), if_neg (by omega)] | rw [if_neg (by omega), if_pos (by omega)] | rw [if_neg (by omega), if_neg (by omega), if_pos hc77] | rw [if_neg (by omega), if_neg (by omega), if_neg hc77]) d_Mod_forecast_96
      · refine lv_lload_n hx hb d_Mod_forecast_81 rfl (lv_at hl 0 rfl) ?_
        refine lv_ldc2 (v := 3) hx hb hown (hw _ m4_138) d_Mod_forecast_82 ?_
        refine lv_ldiv hx hb d_Mod_forecast_85 (by decide) ?_
        refine lv_lconst (v := 1) hx hb d_Mod_forecast_86 rfl ?_
        refine lv_lsub hx hb d_Mod_forecast_87 ?_
        refine lv_goto (tgt := 96) hx hb d_Mod_forecast_88 (by decide) ?_
        exact k_lretR hx hb hr hlk hQ (by unfold fcM fdM; first | rw [if_pos (by omega), if_pos (by omega)] | rw [if_pos (by omega), if_neg (by omega)] | rw [if_neg (by omega), if_pos (by omega)] | rw [if_neg (by omega), if_neg (by omega), if_pos hc77] | rw [if_neg (by omega), if_neg (by omega), if_neg hc77]) d_Mod_forecast_96
    · refine lv_aload_n hx hb d_Mod_forecast_30 rfl (lv_at hl 0 rfl) ?_
      refine va_get (D := gD G) (ci := 7) (v := .ref rW) (C := R_Mod) (T := F_Mod) (N := 34) hx hb hw in_Mod hown hK hP 0 rfl rfl 5 (by decide) (hw _ m3_129) (fun _ h => h) rfl d_Mod_forecast_31 ?_
      refine lv_iload_n hx hb d_Mod_forecast_34 rfl (lv_at hl 1 rfl) ?_
      refine lv_bipush (v := iv (16)) hx hb d_Mod_forecast_35 rfl ?_
      refine k_isub hx hb d_Mod_forecast_37 ?_
      refine k_lal hx hb hK hP 1 1 rfl rfl (by decide) (by omega) d_Mod_forecast_38 ?_
      exact k_lretR hx hb hr hlk hQ (by unfold fcM fdM; first | rw [if_pos (by omega), if_pos (by omega)] | rw [if_pos (by omega), if_neg (by omega)] | rw [if_neg (by omega), if_pos (by omega)] | rw [if_neg (by omega), if_neg (by omega), if_pos hc77] | rw [if_neg (by omega), if_neg (by omega), if_neg hc77]) d_Mod_forecast_39
  · refine lv_iload_n hx hb d_Mod_forecast_6 rfl (lv_at hl 1 rfl) ?_
    refine k_if_ne (tgt := 14) hx hb d_Mod_forecast_7 (by decide) (by omega) (fun hc7 => ?_) (fun hc7 => ?_)
    · refine lv_aload_n hx hb d_Mod_forecast_14 rfl (lv_at hl 0 rfl) ?_
      refine va_get (D := gD G) (ci := 7) (v := .ref rW) (C := R_Mod) (T := F_Mod) (N := 34) hx hb hw in_Mod hown hK hP 0 rfl rfl 5 (by decide) (hw _ m3_129) (fun _ h => h) rfl d_Mod_forecast_15 ?_
      refine lv_iload_n hx hb d_Mod_forecast_18 rfl (lv_at hl 1 rfl) ?_
      refine lv_iconst (v := iv (1)) hx hb d_Mod_forecast_19 rfl ?_
      refine k_isub hx hb d_Mod_forecast_20 ?_
      refine k_lal hx hb hK hP 1 1 rfl rfl (by decide) (by omega) d_Mod_forecast_21 ?_
      exact k_lretR hx hb hr hlk hQ (by unfold fcM fdM; first | rw [if_pos (by omega), if_pos (by omega)] | rw [if_pos (by omega), if_neg (by omega)] | rw [if_neg (by omega), if_pos (by omega)] | rw [if_neg (by omega), if_neg (by omega), if_pos hc77] | rw [if_neg (by omega), if_neg (by omega), if_neg hc77]) d_Mod_forecast_22
    · refine lv_lconst (v := 0) hx hb d_Mod_forecast_10 rfl ?_
      refine lv_goto (tgt := 22) hx hb d_Mod_forecast_11 (by decide) ?_
      exact k_lretR hx hb hr hlk hQ (by unfold fcM fdM; first | rw [if_pos (by omega), if_pos (by omega)] | rw [if_pos (by omega), if_neg (by omega)] | rw [if_neg (by omega), if_pos (by omega)] | rw [if_neg (by omega), if_neg (by omega), if_pos hc77] | rw [if_neg (by omega), if_neg (by omega), if_neg hc77]) d_Mod_forecast_22
abbrev w_Mod_bitAt : List Cond := Cond.code y_Mod_bitAt prog_9_method_38_code 2 (some .int) :: wl
abbrev r_Mod_bitAt : Room := { frames := 0, cells := 0, slots := 0, locals := 0 }
set_option maxHeartbeats 4000000 in
set_option maxRecDepth 100000 in
theorem c_Mod_bitAt (l : Launch) (G : k_G) (sz : Nat) (rM rP rk rG rW rK rE rst rev rod rp rb rbl : Nat) (i0 wd ht kd db ew ac dn pr nu de wr rd cn ba sz1 lb rm cu sp nz sl uz : Int) (g : Int → Int) (hg : ∀ j, -128 ≤ g j ∧ g j ≤ 127) (hi0 : 0 ≤ i0 ∧ i0 < 16384) (hba : 0 ≤ ba ∧ ba + i0 / 8 < 2048) : Met l y_Mod_bitAt w_Mod_bitAt r_Mod_bitAt (k_P G [.ref rM, .int (iv (i0))] [o_Mod rM wd ht rP rk rG rW rK kd db ew ac dn pr nu de rE rst wr rd rev rod cn rp rb ba sz1 lb rm cu sp nz rbl sl uz, (rst, ai (gB G) 2048 (g))] sz) (vp_Si (fun r : Int32 => r = iv (btM g ba i0))) 0 0 (fun _ => False) := by
  refine k_met (fun _ => vp_Si (fun r : Int32 => r = iv (btM g ba i0))) (fun _ _ => False) (by decide) rfl (Nat.le_of_ble_eq_true rfl) (fun p e s m args below meth c ls A Q S hr hlk hnm hl hsz hP hK hD hS hA hT hQ => ?_)
  obtain ⟨hx, hb, hml, hown, hts⟩ := id S
  have hw : ∀ w ∈ wl, w.before args s = true := fun w h => hts w (List.mem_cons_of_mem _ h)
  have hl : lv_has ls 2 [(0, .ref rM), (1, .int (iv (i0)))] := hl
  refine lv_aload_n hx hb d_Mod_bitAt_0 rfl (lv_at hl 0 rfl) ?_
  refine va_get (D := gD G) (ci := 7) (v := .ref rst) (C := R_Mod) (T := F_Mod) (N := 34) hx hb hw in_Mod hown hK hP 0 rfl rfl 16 (by decide) (hw _ m3_140) (fun _ h => h) rfl d_Mod_bitAt_1 ?_
  refine lv_aload_n hx hb d_Mod_bitAt_4 rfl (lv_at hl 0 rfl) ?_
  refine va_get (D := gD G) (ci := 7) (v := .int (iv (ba))) (C := R_Mod) (T := F_Mod) (N := 34) hx hb hw in_Mod hown hK hP 0 rfl rfl 24 (by decide) (hw _ m3_148) (fun _ h => h) rfl d_Mod_bitAt_5 ?_
  refine lv_iload_n hx hb d_Mod_bitAt_8 rfl (lv_at hl 1 rfl) ?_
  refine lv_bipush (v := iv (8)) hx hb d_Mod_bitAt_9 rfl ?_
  refine k_idiv hx hb d_Mod_bitAt_11 (by omega) (by omega) ?_
  refine k_iadd hx hb d_Mod_bitAt_12 ?_
  refine k_bal hx hb hK hP 1 2 rfl rfl (by decide) (by omega) d_Mod_bitAt_13 ?_
  have hq := hg (ba + i0 / 8)
  refine lv_bipush (v := iv (7)) hx hb d_Mod_bitAt_14 rfl ?_
  refine lv_iload_n hx hb d_Mod_bitAt_16 rfl (lv_at hl 1 rfl) ?_
  refine lv_bipush (v := iv (8)) hx hb d_Mod_bitAt_17 rfl ?_
  refine k_irem hx hb d_Mod_bitAt_19 (by omega) (by omega) ?_
  refine k_isub hx hb d_Mod_bitAt_20 ?_
  refine k_ishr hx hb d_Mod_bitAt_21 (by omega) (by omega) ?_
  refine lv_iconst (v := iv (1)) hx hb d_Mod_bitAt_22 rfl ?_
  refine k_iandc 1 2 rfl (by decide) rfl hx hb d_Mod_bitAt_23 ?_
  exact k_iretR hx hb hr hlk hQ (rfl) d_Mod_bitAt_24
abbrev w_Mod_bitsAt : List Cond := Cond.code y_Mod_bitsAt prog_9_method_39_code 5 (some .int) :: wl
abbrev r_Mod_bitsAt : Room := { frames := 1, cells := 0, slots := 0, locals := 21 }
set_option maxHeartbeats 4000000 in
set_option maxRecDepth 100000 in
theorem c_Mod_bitsAt (l : Launch) (G : k_G) (sz : Nat) (rM rP rk rG rW rK rE rst rev rod rp rb rbl : Nat) (fm n0 wd ht kd db ew ac dn pr nu de wr rd cn ba sz1 lb rm cu sp nz sl uz : Int) (g : Int → Int) (hg : ∀ j, -128 ≤ g j ∧ g j ≤ 127) (hfm : 0 ≤ fm ∧ 0 ≤ n0 ∧ fm + n0 ≤ 1024) (hba : 0 ≤ ba ∧ 8 * ba + fm + n0 ≤ 16384) : Met l y_Mod_bitsAt w_Mod_bitsAt r_Mod_bitsAt (k_P G [.ref rM, .int (iv (fm)), .int (iv (n0))] [o_Mod rM wd ht rP rk rG rW rK kd db ew ac dn pr nu de rE rst wr rd rev rod cn rp rb ba sz1 lb rm cu sp nz rbl sl uz, (rst, ai (gB G) 2048 (g))] sz) (vp_Si (fun r : Int32 => r = iv (bsM g ba fm n0))) 0 0 (fun _ => False) := by
  refine k_met (fun _ => vp_Si (fun r : Int32 => r = iv (bsM g ba fm n0))) (fun _ _ => False) (by decide) rfl (Nat.le_of_ble_eq_true rfl) (fun p e s m args below meth c ls A Q S hr hlk hnm hl hsz hP hK hD hS hA hT hQ => ?_)
  obtain ⟨hx, hb, hml, hown, hts⟩ := id S
  have hw : ∀ w ∈ wl, w.before args s = true := fun w h => hts w (List.mem_cons_of_mem _ h)
  have hl : lv_has ls 5 [(0, .ref rM), (1, .int (iv (fm))), (2, .int (iv (n0)))] := hl
  refine lv_iconst (v := iv (0)) hx hb d_Mod_bitsAt_0 rfl ?_
  refine lv_istore_n hx hb d_Mod_bitsAt_1 rfl hl (by decide) rfl (fun ls hl => ?_)
  have hl : lv_has ls 5 [(3, .int (iv (0))), (0, .ref rM), (1, .int (iv (fm))), (2, .int (iv (n0)))] := hl
  refine lv_iload_n hx hb d_Mod_bitsAt_2 rfl (lv_at hl 2 rfl) ?_
  refine lv_istore hx hb d_Mod_bitsAt_3 hl (by decide) rfl (fun ls hl => ?_)
  have hl : lv_has ls 5 [(4, .int (iv (fm))), (3, .int (iv (0))), (0, .ref rM), (1, .int (iv (fm))), (2, .int (iv (n0)))] := hl
  refine lo_up (P := fun i => ∀ (ls : Array Slot) (v1 : Int), lv_has ls 5 [(0, .ref rM), (1, .int (iv (fm))), (2, .int (iv (n0))), (3, .int (iv (v1))), (4, .int (iv (i)))] → (v1 = it (fun i v => 2 * v + btM g ba i) fm i 0) → W p l e r_Mod_bitsAt s m args below meth c s.heap [] 0 0 Q (F0 m 5 ls [])) (a := fm) (b := fm + n0) (fun i hii hji ihi => ?_) _ 0 (lv_sub hl [2, 3, 4, 1, 0] rfl) (it_self _ _ _).symm
  intro ls v1 hl hs
  refine lv_iload hx hb d_Mod_bitsAt_5 (lv_at hl 4 rfl) ?_
  refine lv_iload_n hx hb d_Mod_bitsAt_7 rfl (lv_at hl 1 rfl) ?_
  refine lv_iload_n hx hb d_Mod_bitsAt_8 rfl (lv_at hl 2 rfl) ?_
  refine k_iadd hx hb d_Mod_bitsAt_9 ?_
  refine k_icmp_ge (tgt := 30) hx hb d_Mod_bitsAt_10 (by decide) (by omega) (by omega) (fun hc10 => ?_) (fun hc10 => ?_)
  · refine lv_iload_n hx hb d_Mod_bitsAt_30 rfl (lv_at hl 3 rfl) ?_
    exact k_iretR hx hb hr hlk hQ (by unfold bsM; rw [hs]; congr 1; exact it_x _ _ hc10 hji) d_Mod_bitsAt_31
  · refine lv_iconst (v := iv (2)) hx hb d_Mod_bitsAt_13 rfl ?_
    refine lv_iload_n hx hb d_Mod_bitsAt_14 rfl (lv_at hl 3 rfl) ?_
    refine k_imul hx hb d_Mod_bitsAt_15 ?_
    refine lv_aload_n hx hb d_Mod_bitsAt_16 rfl (lv_at hl 0 rfl) ?_
    refine lv_iload hx hb d_Mod_bitsAt_17 (lv_at hl 4 rfl) ?_
    refine k_ciR (k_rv S (c_Mod_bitAt l G _ rM rP rk rG rW rK rE rst rev rod rp rb rbl i wd ht kd db ew ac dn pr nu de wr rd cn ba sz1 lb rm cu sp nz sl uz g hg (by omega) (by omega)) 1 m4_191 m4_188 m4_190 mp_48 m1_9 (by decide +kernel) (by decide) rfl rfl (k_preV (q0 := 0) hK hP hD hS hA hT rfl rfl [0, 1] (by decide) rfl) rfl hl.1 rfl (Nat.le_of_ble_eq_true rfl) d_Mod_bitsAt_19 ⟨Nat.le_of_ble_eq_true rfl, Nat.le_of_ble_eq_true rfl⟩) (fun r19 h19 => ?_)
    subst h19
    refine k_iadd hx hb d_Mod_bitsAt_22 ?_
    refine lv_istore_n hx hb d_Mod_bitsAt_23 rfl hl (by decide) rfl (fun ls hl => ?_)
    have hl : lv_has ls 5 [(3, .int (iv ((2 * v1) + (btM g ba i)))), (0, .ref rM), (1, .int (iv (fm))), (2, .int (iv (n0))), (4, .int (iv (i)))] := hl
    refine lv_iinc (k := 4) (v := iv (i + 1)) hx hb d_Mod_bitsAt_24 hl rfl (iv_add _ _) (by decide) rfl (fun ls hl => ?_)
    have hl : lv_has ls 5 [(4, .int (iv (i + 1))), (3, .int (iv ((2 * v1) + (btM g ba i)))), (0, .ref rM), (1, .int (iv (fm))), (2, .int (iv (n0)))] := hl
    refine lv_goto (tgt := 5) hx hb d_Mod_bitsAt_27 (by decide) ?_
    exact ihi (by omega) _ ((2 * v1) + (btM g ba i)) (lv_sub hl [2, 3, 4, 1, 0] rfl) (by rw [it_s _ _ hii, ← hs])
abbrev w_Mod_next : List Cond := Cond.code y_Mod_next prog_9_method_41_code 2 (some .int) :: wl
abbrev r_Mod_next : Room := { frames := 1, cells := 0, slots := 0, locals := 21 }
set_option maxHeartbeats 4000000 in
set_option maxRecDepth 100000 in
theorem c_Mod_next (l : Launch) (G : k_G) (sz : Nat) (rM rP rk rG rW rK rE rst rev rod rp rb rbl : Nat) (wd ht kd db ew ac dn pr nu de wr rd cn ba sz1 lb rm cu sp nz sl uz : Int) (g : Int → Int) (hg : ∀ j, -128 ≤ g j ∧ g j ≤ 127) (hcu : 0 ≤ cu ∧ cu < 100000) (hsp : 0 ≤ sp ∧ sp ≤ 1024) (hba : 0 ≤ ba ∧ 8 * ba + sp ≤ 16384) : Met l y_Mod_next w_Mod_next r_Mod_next (k_P G [.ref rM] [o_Mod rM wd ht rP rk rG rW rK kd db ew ac dn pr nu de rE rst wr rd rev rod cn rp rb ba sz1 lb rm cu sp nz rbl sl uz, (rst, ai (gB G) 2048 (g))] sz) (qi G (fun (r : Int32) (u : Int × Int) => r = iv (u.1) ∧ (u = (nxM g ba sp cu, cu + 1))) (fun u : Int × Int => [o_Mod rM wd ht rP rk rG rW rK kd db ew ac dn pr nu de rE rst wr rd rev rod cn rp rb ba sz1 lb rm u.2 sp nz rbl sl uz, (rst, ai (gB G) 2048 (g))]) (va_A [o_Mod rM wd ht rP rk rG rW rK kd db ew ac dn pr nu de rE rst wr rd rev rod cn rp rb ba sz1 lb rm cu sp nz rbl sl uz, (rst, ai (gB G) 2048 (g))] sz)) 0 0 (va_A [o_Mod rM wd ht rP rk rG rW rK kd db ew ac dn pr nu de rE rst wr rd rev rod cn rp rb ba sz1 lb rm cu sp nz rbl sl uz, (rst, ai (gB G) 2048 (g))] sz) := by
  refine k_met (fun A => qi G (fun (r : Int32) (u : Int × Int) => r = iv (u.1) ∧ (u = (nxM g ba sp cu, cu + 1))) (fun u : Int × Int => [o_Mod rM wd ht rP rk rG rW rK kd db ew ac dn pr nu de rE rst wr rd rev rod cn rp rb ba sz1 lb rm u.2 sp nz rbl sl uz, (rst, ai (gB G) 2048 (g))]) A) (fun A => A) (by decide) rfl (Nat.le_of_ble_eq_true rfl) (fun p e s m args below meth c ls A Q S hr hlk hnm hl hsz hP hK hD hS hA hT hQ => ?_)
  obtain ⟨hx, hb, hml, hown, hts⟩ := id S
  have hw : ∀ w ∈ wl, w.before args s = true := fun w h => hts w (List.mem_cons_of_mem _ h)
  have hl : lv_has ls 2 [(0, .ref rM)] := hl
  refine lv_aload_n hx hb d_Mod_next_0 rfl (lv_at hl 0 rfl) ?_
  refine va_get (D := gD G) (ci := 7) (v := .int (iv (cu))) (C := R_Mod) (T := F_Mod) (N := 34) hx hb hw in_Mod hown hK hP 0 rfl rfl 28 (by decide) (hw _ m3_152) (fun _ h => h) rfl d_Mod_next_1 ?_
  refine lv_aload_n hx hb d_Mod_next_4 rfl (lv_at hl 0 rfl) ?_
  refine va_get (D := gD G) (ci := 7) (v := .int (iv (sp))) (C := R_Mod) (T := F_Mod) (N := 34) hx hb hw in_Mod hown hK hP 0 rfl rfl 29 (by decide) (hw _ m3_153) (fun _ h => h) rfl d_Mod_next_5 ?_
  refine k_icmp_ge (tgt := 22) hx hb d_Mod_next_8 (by decide) (by omega) (by omega) (fun hc8 => ?_) (fun hc8 => ?_)
  · refine lv_iconst (v := iv (1)) hx hb d_Mod_next_22 rfl ?_
    refine lv_istore_n hx hb d_Mod_next_23 rfl hl (by decide) rfl (fun ls hl => ?_)
    have hl : lv_has ls 2 [(1, .int (iv (1))), (0, .ref rM)] := hl
    refine lv_aload_n hx hb d_Mod_next_24 rfl (lv_at hl 1 rfl) ?_
    refine lv_dup hx hb d_Mod_next_25 rfl ?_
    refine va_get (D := gD G) (ci := 7) (v := .int (iv (cu))) (C := R_Mod) (T := F_Mod) (N := 34) hx hb hw in_Mod hown hK hP 0 rfl rfl 28 (by decide) (hw _ m3_152) (fun _ h => h) rfl d_Mod_next_26 ?_
    refine lv_iconst (v := iv (1)) hx hb d_Mod_next_29 rfl ?_
    refine k_iadd hx hb d_Mod_next_30 ?_
    refine va_put (D := gD G) (ci := 7) (v := .int (iv (cu + 1))) (ty := .int) (C := R_Mod) (T := F_Mod) (N := 34) hx hb hw in_Mod t_Mod t_Mod_ok n_Mod hown hK hP hD hS 0 rfl rfl 28 (by decide) (hw _ m3_152) (fun _ h => h) rfl (by decide +kernel) rfl rfl (Nat.le_of_ble_eq_true rfl) d_Mod_next_31 (fun H locs hP hD hS => ?_)
    have hP : va_P (gD G) classes [o_Mod rM wd ht rP rk rG rW rK kd db ew ac dn pr nu de rE rst wr rd rev rod cn rp rb ba sz1 lb rm (cu + 1) sp nz rbl sl uz, (rst, ai (gB G) 2048 (g))] H := hP
    have hD : va_D A [o_Mod rM wd ht rP rk rG rW rK kd db ew ac dn pr nu de rE rst wr rd rev rod cn rp rb ba sz1 lb rm (cu + 1) sp nz rbl sl uz, (rst, ai (gB G) 2048 (g))] := hD
    refine lv_iload_n hx hb d_Mod_next_34 rfl (lv_at hl 0 rfl) ?_
    exact k_iret hx hb hr hlk hQ ((1, cu + 1)) (⟨rfl, by unfold nxM; first | rw [if_pos (by omega)] | rw [if_neg (by omega)]⟩) hP hD hS d_Mod_next_35
  · refine lv_aload_n hx hb d_Mod_next_11 rfl (lv_at hl 0 rfl) ?_
    refine lv_aload_n hx hb d_Mod_next_12 rfl (lv_at hl 0 rfl) ?_
    refine va_get (D := gD G) (ci := 7) (v := .int (iv (cu))) (C := R_Mod) (T := F_Mod) (N := 34) hx hb hw in_Mod hown hK hP 0 rfl rfl 28 (by decide) (hw _ m3_152) (fun _ h => h) rfl d_Mod_next_13 ?_
    refine k_ciR (k_rv S (c_Mod_bitAt l G _ rM rP rk rG rW rK rE rst rev rod rp rb rbl cu wd ht kd db ew ac dn pr nu de wr rd cn ba sz1 lb rm cu sp nz sl uz g hg (by omega) (by omega)) 1 m4_191 m4_188 m4_190 mp_48 m1_9 (by decide +kernel) (by decide) rfl rfl (k_preV (q0 := 0) hK hP hD hS hA hT rfl rfl [0, 1] (by decide) rfl) rfl hl.1 rfl (Nat.le_of_ble_eq_true rfl) d_Mod_next_16 ⟨Nat.le_of_ble_eq_true rfl, Nat.le_of_ble_eq_true rfl⟩) (fun r16 h16 => ?_)
    subst h16
    refine lv_goto (tgt := 23) hx hb d_Mod_next_19 (by decide) ?_
    refine lv_istore_n hx hb d_Mod_next_23 rfl hl (by decide) rfl (fun ls hl => ?_)
    have hl : lv_has ls 2 [(1, .int (iv (btM g ba cu))), (0, .ref rM)] := hl
    refine lv_aload_n hx hb d_Mod_next_24 rfl (lv_at hl 1 rfl) ?_
    refine lv_dup hx hb d_Mod_next_25 rfl ?_
    refine va_get (D := gD G) (ci := 7) (v := .int (iv (cu))) (C := R_Mod) (T := F_Mod) (N := 34) hx hb hw in_Mod hown hK hP 0 rfl rfl 28 (by decide) (hw _ m3_152) (fun _ h => h) rfl d_Mod_next_26 ?_
    refine lv_iconst (v := iv (1)) hx hb d_Mod_next_29 rfl ?_
    refine k_iadd hx hb d_Mod_next_30 ?_
    refine va_put (D := gD G) (ci := 7) (v := .int (iv (cu + 1))) (ty := .int) (C := R_Mod) (T := F_Mod) (N := 34) hx hb hw in_Mod t_Mod t_Mod_ok n_Mod hown hK hP hD hS 0 rfl rfl 28 (by decide) (hw _ m3_152) (fun _ h => h) rfl (by decide +kernel) rfl rfl (Nat.le_of_ble_eq_true rfl) d_Mod_next_31 (fun H locs hP hD hS => ?_)
    have hP : va_P (gD G) classes [o_Mod rM wd ht rP rk rG rW rK kd db ew ac dn pr nu de rE rst wr rd rev rod cn rp rb ba sz1 lb rm (cu + 1) sp nz rbl sl uz, (rst, ai (gB G) 2048 (g))] H := hP
    have hD : va_D A [o_Mod rM wd ht rP rk rG rW rK kd db ew ac dn pr nu de rE rst wr rd rev rod cn rp rb ba sz1 lb rm (cu + 1) sp nz rbl sl uz, (rst, ai (gB G) 2048 (g))] := hD
    refine lv_iload_n hx hb d_Mod_next_34 rfl (lv_at hl 0 rfl) ?_
    exact k_iret hx hb hr hlk hQ ((btM g ba cu, cu + 1)) (⟨rfl, by unfold nxM; first | rw [if_pos (by omega)] | rw [if_neg (by omega)]⟩) hP hD hS d_Mod_next_35
