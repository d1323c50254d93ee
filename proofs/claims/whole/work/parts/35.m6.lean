/-! the reference: a slice written, all slices -/
theorem m2_01 (z : Int) : z % 2 = 0 ∨ z % 2 = 1 := by omega
abbrev bits (f : Int → Int) : Prop := ∀ j, f j = 0 ∨ f j = 1
theorem emM_b {b : Int} {x : spl3} (hb : b = 0 ∨ b = 1) (hx : bits x.2.2) : bits (emM b x).2.2 := by
  intro j
  show (if x.1 < 1024 then up x.2.2 x.1 b else x.2.2) j = 0 ∨ (if x.1 < 1024 then up x.2.2 x.1 b else x.2.2) j = 1
  split
  · unfold up
    split
    · exact hb
    · exact hx j
  · exact hx j
/-- what holds of spelt bits -/
def spI (x : spl3) : Prop := bits x.2.2 ∧ 0 ≤ x.2.1 ∧ x.2.1 ≤ x.1
theorem emM_i {b : Int} {x : spl3} (hb : b = 0 ∨ b = 1) (h : spI x) : spI (emM b x) := by
  refine ⟨emM_b hb h.1, ?_⟩
  have h1 := h.2
  show 0 ≤ (if b = 0 then x.1 + 1 else x.2.1) ∧ (if b = 0 then x.1 + 1 else x.2.1) ≤ x.1 + 1
  split <;> omega
theorem emN_i {v : Int} {x : spl3} (h : spI x) : spI (emN v x) := by
  have h1 : spI (it (emg (absI v + 1) (lg (absI v + 1))) 0 (lg (absI v + 1)) x) := it_iv h (fun i y _ _ hy => emM_i (m2_01 _) (emM_i (Or.inl rfl) hy))
  unfold emN
  dsimp only
  by_cases c1 : lg (absI v + 1) < 26
  · rw [if_pos c1]
    have h2 := emM_i (b := 1) (Or.inr rfl) h1
    split
    · exact h2
    · exact emM_i (by split <;> omega) h2
  · rw [if_neg c1]
    split
    · exact h1
    · exact emM_i (by split <;> omega) h1
theorem spv_r {pr : Int} {es gb gp : Int → Int} {cf v : Int → Int64} {q i : Int} (hc : bd 576460752303423488 (cf (gp i))) (hv : ∀ j, bd 134217728 (v j)) (hr : 0 ≤ rrI es gb q i ∧ rrI es gb q i < 32) : -134217726 ≤ spv pr es gb gp cf q i v ∧ spv pr es gb gp cf q i v ≤ 134217726 :=
  nmC_r (bd_le (bd_sub hc (prd_b hv) (by omega)).1 (by omega)) (fac_r hr)
theorem spS_r {pr : Int} {es gb gp : Int → Int} {cf v : Int → Int64} {cn q : Int} {bk : Int → Int} (hcn : 0 ≤ cn ∧ cn ≤ 256) (hgp : ∀ i, 0 ≤ i → i < cn → (0 ≤ gp i ∧ gp i < 256) ∧ 0 ≤ gb i ∧ gb i < 8) (hes : ∀ b, 0 ≤ b → b < 8 → 0 ≤ es b ∧ es b ≤ 15) (hq : 0 ≤ q ∧ q ≤ 31) (hcf : ∀ i, 0 ≤ i → i < cn → bd 576460752303423488 (cf (gp i))) (hv : ∀ j, bd 134217728 (v j)) (hb : bits bk) :
    spI (spS pr es gb gp cf cn q bk v).1 ∧ (spS pr es gb gp cf cn q bk v).1.1 ≤ 16384 ∧ ∀ j, bd 134217728 ((spS pr es gb gp cf cn q bk v).2 j) := by
  have k := it_inv (f := spf pr es gb gp cf q) (a := 0) (b := cn) (x := (((0 : Int), (0 : Int), bk), v)) (I := fun i (x : spl4) => spI x.1 ∧ x.1.1 ≤ 54 * i ∧ ∀ j, bd 134217728 (x.2 j)) ⟨⟨hb, by show (0 : Int) ≤ 0; omega, by show (0 : Int) ≤ 0; omega⟩, by show (0 : Int) ≤ 54 * 0; omega, hv⟩ (fun i x h1 h2 hx => by
    have hp := hgp i h1 h2
    have he := hes _ hp.2.1 hp.2.2
    have hr : 0 ≤ rrI es gb q i ∧ rrI es gb q i < 32 := by unfold rrI; omega
    have hn := emN_n (v := spv pr es gb gp cf q i x.2) x.1 (spv_r (hcf i h1 h2) hx.2.2 hr)
    have hx2 := hx.2.1
    refine ⟨emN_i hx.1, ?_, bd_up hx.2.2 (bdL_b _)⟩
    show (emN (spv pr es gb gp cf q i x.2) x.1).1 ≤ 54 * (i + 1)
    omega) hcn.1
  obtain ⟨k1, k2, k3⟩ := k
  unfold spS
  exact ⟨k1, by omega, k3⟩
def spL4 (pr : Int) (es : Int → Int) (L : lst3) (cf : Int → Int64) (q : Int) (bk : Int → Int) (v : Int → Int64) : spl4 := spS pr es L.2.2 L.2.1 cf L.1 q bk v
def wmq (m : Int → (Int → Int) → (Int → Int64) → spl4) (ro : Int) : Nat → Int → spl4 → Int × spl4
  | 0, q, x => (q, x)
  | k + 1, q, x => if x.1.2.1 ≤ ro then (q, x) else wmq m ro k (q + 1) (m (q + 1) x.1.2.2 x.2)
theorem wmq_0 {m : Int → (Int → Int) → (Int → Int64) → spl4} {ro : Int} {k : Nat} {q : Int} {x : spl4} (h : k = 0) : wmq m ro k q x = (q, x) := by subst h; rfl
theorem wmq_s {m : Int → (Int → Int) → (Int → Int64) → spl4} {ro : Int} {k : Nat} {q : Int} {x : spl4} (h : x.1.2.1 ≤ ro) : wmq m ro k q x = (q, x) := by
  cases k with
  | zero => rfl
  | succ k => exact if_pos h
theorem wmq_g {m : Int → (Int → Int) → (Int → Int64) → spl4} {ro : Int} {k j : Nat} {q : Int} {x : spl4} (hk : k = j + 1) (h : ¬ x.1.2.1 ≤ ro) : wmq m ro k q x = wmq m ro j (q + 1) (m (q + 1) x.1.2.2 x.2) := by
  subst hk; exact if_neg h
def wmS (nu de pr : Int) (es : Int → Int) (L : lst3) (cf : Int → Int64) (s : Int) (bk : Int → Int) (v : Int → Int64) : Int × spl4 := wmq (spL4 pr es L cf) (rmI nu de s) 31 0 (spL4 pr es L cf 0 bk v)
def wmG (ba sz ld q len : Int) (bk g : Int → Int) : Int → Int := it (fun i f => pbM ba f (5 + ld + i) (bk i)) 0 len (it (fun i f => pbM ba f (5 + i) (len / 2 ^ (ld - 1 - i).toNat % 2)) 0 ld (it (fun i f => pbM ba f i (q / 2 ^ (4 - i).toNat % 2)) 0 5 (it (fun i f => up f (ba + i) (b8 0)) 0 sz g)))
theorem pbM_r {ba : Int} {g : Int → Int} {i bt : Int} (h : ∀ j, -128 ≤ g j ∧ g j ≤ 127) : ∀ j, -128 ≤ pbM ba g i bt j ∧ pbM ba g i bt j ≤ 127 := fun j => up_r h (b8_r _) j
abbrev en5 : Type := (Int → Int) × (Int → Int64) × (Int → Int) × (Int → Int) × (Int → Int)
/-- one slice written: (stream, row, block, places, bands) -/
def wmf (cP cQ db ew ac dn nu de pr : Int) (es : Int → Int) (cf : Int → Int64) : Int → en5 → en5 := fun s x =>
  let L := it (lsB cP cQ db ew ac dn s) 0 (nBd db ew) (0, x.2.2.2.1, x.2.2.2.2)
  let F := wmS nu de pr es L cf s x.2.2.1 x.2.1
  let G := wmG (sBy nu de s) (sBy nu de (s + 1) - sBy nu de s) (ldI nu de s) F.1 (min F.2.1.2.1 (rmI nu de s)) F.2.1.2.2 x.1
  let L2 := it (lsB cP cQ db ew ac dn s) 0 (nBd db ew) (0, L.2.1, L.2.2)
  (G, (rmA G nu de pr es s L2 F.2.2).2.2, F.2.1.2.2, L2.2.1, L2.2.2)
theorem rmA_b {g : Int → Int} {nu de pr : Int} {es : Int → Int} {s : Int} {L : lst3} {v : Int → Int64} (hv : ∀ j, bd 134217728 (v j)) : ∀ j, bd 134217728 ((rmA g nu de pr es s L v).2.2 j) :=
  it_iv (I := fun (x : rst3) => ∀ j, bd 134217728 (x.2.2 j)) hv (fun i x _ _ hx => bd_up hx (bdL_b _))
/-- the list over any rows is the list -/
theorem ls_e {cP cQ db ew ac dn s : Int} (gp gb : Int → Int) : (it (lsB cP cQ db ew ac dn s) 0 (nBd db ew) (0, gp, gb)).1 = (lsS cP cQ db ew ac dn s).1 ∧ ∀ k, 0 ≤ k → k < (lsS cP cQ db ew ac dn s).1 → (it (lsB cP cQ db ew ac dn s) 0 (nBd db ew) (0, gp, gb)).2.1 k = (lsS cP cQ db ew ac dn s).2.1 k ∧ (it (lsB cP cQ db ew ac dn s) 0 (nBd db ew) (0, gp, gb)).2.2 k = (lsS cP cQ db ew ac dn s).2.2 k := by
  have h : shR3 0 (it (lsB cP cQ db ew ac dn s) 0 (nBd db ew) (0, gp, gb)) (lsS cP cQ db ew ac dn s) := it_rel ⟨by show (0 : Int) ≤ 0; omega, by show (0 : Int) = 0 + 0; omega, fun k k0 k1 => by have k1 : k < 0 := k1; omega⟩ (fun b x y b0 b1 hx => sh_prt hx)
  obtain ⟨h1, h2, h3⟩ := h
  refine ⟨by omega, fun k k0 k1 => ?_⟩
  have := h3 k k0 k1
  rw [Int.zero_add] at this
  exact this
/-- all slices read: (row, places, bands) -/
abbrev rd3 : Type := (Int → Int64) × (Int → Int) × (Int → Int)
def rdf (g : Int → Int) (cP cQ db ew ac dn nu de pr : Int) (es : Int → Int) : Int → rd3 → rd3 := fun s x =>
  let L := it (lsB cP cQ db ew ac dn s) 0 (nBd db ew) (0, x.2.1, x.2.2)
  ((rmA g nu de pr es s L x.1).2.2, L.2.1, L.2.2)
/-- is j a coefficient's, a sample's place -/
abbrev inC (cP cQ j : Int) : Prop := (0 ≤ j % 16 ∧ j % 16 ≤ cP - 1) ∧ 0 ≤ j / 16 ∧ j / 16 ≤ cQ - 1
def kpf (cP cQ : Int) (v : Int → Int64) : Int → (Int → Int64) → (Int → Int64) := fun i f => up f i (if inC cP cQ i then v i else 0)
def bkf (wd ht : Int) (a : Int → Int64) : Int → (Int → Int) → (Int → Int) := fun i f => up f i (if inC wd ht i then clp (a i).toInt else 0)
def cmf (wd ht : Int) (a : Int → Int64) (pic : Int → Int) : Int → Int → Int := fun i c => c + (if inC wd ht i ∧ ¬ clp (a i).toInt = pic i then 1 else 0)
def erM (wd ht : Int) (kb pic : Int → Int) : Int → Int → Int := fun i c => if inC wd ht i then c + (kb i - pic i) * (kb i - pic i) else c
theorem m4_175 : Cond.code y_Mod_putBit prog_9_method_47_code 4 none ∈ wl := wl_4 175 (by decide +kernel) (by decide +kernel)
theorem m4_179 : Cond.code y_Mod_read prog_9_method_43_code 11 none ∈ wl := wl_4 179 (by decide +kernel) (by decide +kernel)
theorem m4_129 : Cond.code y_Mod_spell prog_9_method_46_code 11 none ∈ wl := wl_4 129 (by decide +kernel) (by decide +kernel)
theorem m4_105 : Cond.code y_Mod_write prog_9_method_48_code 5 none ∈ wl := wl_4 105 (by decide +kernel) (by decide +kernel)
theorem m4_174 : Cond.instanceMethod y_Mod_putBit ∈ wl := wl_4 174 (by decide +kernel) (by decide +kernel)
theorem m4_178 : Cond.instanceMethod y_Mod_read ∈ wl := wl_4 178 (by decide +kernel) (by decide +kernel)
theorem m4_128 : Cond.instanceMethod y_Mod_spell ∈ wl := wl_4 128 (by decide +kernel) (by decide +kernel)
theorem m4_104 : Cond.instanceMethod y_Mod_write ∈ wl := wl_4 104 (by decide +kernel) (by decide +kernel)
theorem m4_172 : Cond.methodLink "WaveletSlicesModel" 300 y_Mod_putBit ∈ wl := wl_4 172 (by decide +kernel) (by decide +kernel)
theorem m4_176 : Cond.methodLink "WaveletSlicesModel" 304 y_Mod_read ∈ wl := wl_4 176 (by decide +kernel) (by decide +kernel)
theorem m4_126 : Cond.methodLink "WaveletSlicesModel" 297 y_Mod_spell ∈ wl := wl_4 126 (by decide +kernel) (by decide +kernel)
theorem m4_102 : Cond.methodLink "WaveletSlicesModel" 307 y_Mod_write ∈ wl := wl_4 102 (by decide +kernel) (by decide +kernel)
theorem mp_44 : Cond.selects "WaveletSlicesModel" y_Mod_putBit y_Mod_putBit ∈ wl := wl_p 44 (by decide +kernel) (by decide +kernel)
theorem mp_45 : Cond.selects "WaveletSlicesModel" y_Mod_read y_Mod_read ∈ wl := wl_p 45 (by decide +kernel) (by decide +kernel)
theorem mp_39 : Cond.selects "WaveletSlicesModel" y_Mod_spell y_Mod_spell ∈ wl := wl_p 39 (by decide +kernel) (by decide +kernel)
theorem mp_33 : Cond.selects "WaveletSlicesModel" y_Mod_write y_Mod_write ∈ wl := wl_p 33 (by decide +kernel) (by decide +kernel)
theorem d_Mod_write_0 : decode prog_9_method_48_code 0 = .ok (.aload_n 0, 1) := by decide +kernel
theorem d_Mod_write_1 : decode prog_9_method_48_code 1 = .ok (.iload_n 1, 1) := by decide +kernel
theorem d_Mod_write_2 : decode prog_9_method_48_code 2 = .ok (.invokevirtual 237, 3) := by decide +kernel
theorem d_Mod_write_5 : decode prog_9_method_48_code 5 = .ok (.aload_n 0, 1) := by decide +kernel
theorem d_Mod_write_6 : decode prog_9_method_48_code 6 = .ok (.iload_n 1, 1) := by decide +kernel
theorem d_Mod_write_7 : decode prog_9_method_48_code 7 = .ok (.invokevirtual 260, 3) := by decide +kernel
theorem d_Mod_write_10 : decode prog_9_method_48_code 10 = .ok (.iconst (-1), 1) := by decide +kernel
theorem d_Mod_write_11 : decode prog_9_method_48_code 11 = .ok (.istore_n 2, 1) := by decide +kernel
theorem d_Mod_write_12 : decode prog_9_method_48_code 12 = .ok (.iinc 2 1, 3) := by decide +kernel
theorem d_Mod_write_15 : decode prog_9_method_48_code 15 = .ok (.aload_n 0, 1) := by decide +kernel
theorem d_Mod_write_16 : decode prog_9_method_48_code 16 = .ok (.iload_n 2, 1) := by decide +kernel
theorem d_Mod_write_17 : decode prog_9_method_48_code 17 = .ok (.invokevirtual 297, 3) := by decide +kernel
theorem d_Mod_write_20 : decode prog_9_method_48_code 20 = .ok (.iload_n 2, 1) := by decide +kernel
theorem d_Mod_write_21 : decode prog_9_method_48_code 21 = .ok (.bipush 31, 2) := by decide +kernel
theorem d_Mod_write_23 : decode prog_9_method_48_code 23 = .ok (.if_icmp .ge 14, 3) := by decide +kernel
theorem d_Mod_write_26 : decode prog_9_method_48_code 26 = .ok (.aload_n 0, 1) := by decide +kernel
theorem d_Mod_write_27 : decode prog_9_method_48_code 27 = .ok (.getfield 284, 3) := by decide +kernel
theorem d_Mod_write_30 : decode prog_9_method_48_code 30 = .ok (.aload_n 0, 1) := by decide +kernel
theorem d_Mod_write_31 : decode prog_9_method_48_code 31 = .ok (.getfield 199, 3) := by decide +kernel
theorem d_Mod_write_34 : decode prog_9_method_48_code 34 = .ok (.if_icmp .gt (-22), 3) := by decide +kernel
theorem d_Mod_write_37 : decode prog_9_method_48_code 37 = .ok (.aload_n 0, 1) := by decide +kernel
theorem d_Mod_write_38 : decode prog_9_method_48_code 38 = .ok (.getfield 284, 3) := by decide +kernel
theorem d_Mod_write_41 : decode prog_9_method_48_code 41 = .ok (.aload_n 0, 1) := by decide +kernel
theorem d_Mod_write_42 : decode prog_9_method_48_code 42 = .ok (.getfield 199, 3) := by decide +kernel
theorem d_Mod_write_45 : decode prog_9_method_48_code 45 = .ok (.if_icmp .le 10, 3) := by decide +kernel
theorem d_Mod_write_48 : decode prog_9_method_48_code 48 = .ok (.aload_n 0, 1) := by decide +kernel
theorem d_Mod_write_49 : decode prog_9_method_48_code 49 = .ok (.getfield 199, 3) := by decide +kernel
theorem d_Mod_write_52 : decode prog_9_method_48_code 52 = .ok (.goto 7, 3) := by decide +kernel
theorem d_Mod_write_55 : decode prog_9_method_48_code 55 = .ok (.aload_n 0, 1) := by decide +kernel
theorem d_Mod_write_56 : decode prog_9_method_48_code 56 = .ok (.getfield 284, 3) := by decide +kernel
theorem d_Mod_write_59 : decode prog_9_method_48_code 59 = .ok (.istore_n 3, 1) := by decide +kernel
theorem d_Mod_write_60 : decode prog_9_method_48_code 60 = .ok (.iconst 0, 1) := by decide +kernel
theorem d_Mod_write_61 : decode prog_9_method_48_code 61 = .ok (.istore 4, 2) := by decide +kernel
theorem d_Mod_write_63 : decode prog_9_method_48_code 63 = .ok (.iload 4, 2) := by decide +kernel
theorem d_Mod_write_65 : decode prog_9_method_48_code 65 = .ok (.aload_n 0, 1) := by decide +kernel
theorem d_Mod_write_66 : decode prog_9_method_48_code 66 = .ok (.getfield 193, 3) := by decide +kernel
theorem d_Mod_write_69 : decode prog_9_method_48_code 69 = .ok (.if_icmp .ge 22, 3) := by decide +kernel
theorem d_Mod_write_72 : decode prog_9_method_48_code 72 = .ok (.aload_n 0, 1) := by decide +kernel
theorem d_Mod_write_73 : decode prog_9_method_48_code 73 = .ok (.getfield 45, 3) := by decide +kernel
theorem d_Mod_write_76 : decode prog_9_method_48_code 76 = .ok (.aload_n 0, 1) := by decide +kernel
theorem d_Mod_write_77 : decode prog_9_method_48_code 77 = .ok (.getfield 190, 3) := by decide +kernel
theorem d_Mod_write_80 : decode prog_9_method_48_code 80 = .ok (.iload 4, 2) := by decide +kernel
theorem d_Mod_write_82 : decode prog_9_method_48_code 82 = .ok (.iadd, 1) := by decide +kernel
theorem d_Mod_write_83 : decode prog_9_method_48_code 83 = .ok (.iconst 0, 1) := by decide +kernel
theorem d_Mod_write_84 : decode prog_9_method_48_code 84 = .ok (.bastore, 1) := by decide +kernel
theorem d_Mod_write_85 : decode prog_9_method_48_code 85 = .ok (.iinc 4 1, 3) := by decide +kernel
theorem d_Mod_write_88 : decode prog_9_method_48_code 88 = .ok (.goto (-25), 3) := by decide +kernel
theorem d_Mod_write_91 : decode prog_9_method_48_code 91 = .ok (.iconst 0, 1) := by decide +kernel
theorem d_Mod_write_92 : decode prog_9_method_48_code 92 = .ok (.istore 4, 2) := by decide +kernel
theorem d_Mod_write_94 : decode prog_9_method_48_code 94 = .ok (.iload 4, 2) := by decide +kernel
theorem d_Mod_write_96 : decode prog_9_method_48_code 96 = .ok (.iconst 5, 1) := by decide +kernel
theorem d_Mod_write_97 : decode prog_9_method_48_code 97 = .ok (.if_icmp .ge 23, 3) := by decide +kernel
theorem d_Mod_write_100 : decode prog_9_method_48_code 100 = .ok (.aload_n 0, 1) := by decide +kernel
theorem d_Mod_write_101 : decode prog_9_method_48_code 101 = .ok (.iload 4, 2) := by decide +kernel
theorem d_Mod_write_103 : decode prog_9_method_48_code 103 = .ok (.iload_n 2, 1) := by decide +kernel
theorem d_Mod_write_104 : decode prog_9_method_48_code 104 = .ok (.iconst 4, 1) := by decide +kernel
theorem d_Mod_write_105 : decode prog_9_method_48_code 105 = .ok (.iload 4, 2) := by decide +kernel
theorem d_Mod_write_107 : decode prog_9_method_48_code 107 = .ok (.isub, 1) := by decide +kernel
theorem d_Mod_write_108 : decode prog_9_method_48_code 108 = .ok (.ishr, 1) := by decide +kernel
theorem d_Mod_write_109 : decode prog_9_method_48_code 109 = .ok (.iconst 1, 1) := by decide +kernel
theorem d_Mod_write_110 : decode prog_9_method_48_code 110 = .ok (.iand, 1) := by decide +kernel
theorem d_Mod_write_111 : decode prog_9_method_48_code 111 = .ok (.invokevirtual 300, 3) := by decide +kernel
theorem d_Mod_write_114 : decode prog_9_method_48_code 114 = .ok (.iinc 4 1, 3) := by decide +kernel
theorem d_Mod_write_117 : decode prog_9_method_48_code 117 = .ok (.goto (-23), 3) := by decide +kernel
theorem d_Mod_write_120 : decode prog_9_method_48_code 120 = .ok (.iconst 0, 1) := by decide +kernel
theorem d_Mod_write_121 : decode prog_9_method_48_code 121 = .ok (.istore 4, 2) := by decide +kernel
theorem d_Mod_write_123 : decode prog_9_method_48_code 123 = .ok (.iload 4, 2) := by decide +kernel
theorem d_Mod_write_125 : decode prog_9_method_48_code 125 = .ok (.aload_n 0, 1) := by decide +kernel
theorem d_Mod_write_126 : decode prog_9_method_48_code 126 = .ok (.getfield 196, 3) := by decide +kernel
theorem d_Mod_write_129 : decode prog_9_method_48_code 129 = .ok (.if_icmp .ge 30, 3) := by decide +kernel
theorem d_Mod_write_132 : decode prog_9_method_48_code 132 = .ok (.aload_n 0, 1) := by decide +kernel
theorem d_Mod_write_133 : decode prog_9_method_48_code 133 = .ok (.iconst 5, 1) := by decide +kernel
theorem d_Mod_write_134 : decode prog_9_method_48_code 134 = .ok (.iload 4, 2) := by decide +kernel
theorem d_Mod_write_136 : decode prog_9_method_48_code 136 = .ok (.iadd, 1) := by decide +kernel
theorem d_Mod_write_137 : decode prog_9_method_48_code 137 = .ok (.iload_n 3, 1) := by decide +kernel
theorem d_Mod_write_138 : decode prog_9_method_48_code 138 = .ok (.aload_n 0, 1) := by decide +kernel
theorem d_Mod_write_139 : decode prog_9_method_48_code 139 = .ok (.getfield 196, 3) := by decide +kernel
theorem d_Mod_write_142 : decode prog_9_method_48_code 142 = .ok (.iconst 1, 1) := by decide +kernel
theorem d_Mod_write_143 : decode prog_9_method_48_code 143 = .ok (.isub, 1) := by decide +kernel
theorem d_Mod_write_144 : decode prog_9_method_48_code 144 = .ok (.iload 4, 2) := by decide +kernel
theorem d_Mod_write_146 : decode prog_9_method_48_code 146 = .ok (.isub, 1) := by decide +kernel
theorem d_Mod_write_147 : decode prog_9_method_48_code 147 = .ok (.ishr, 1) := by decide +kernel
theorem d_Mod_write_148 : decode prog_9_method_48_code 148 = .ok (.iconst 1, 1) := by decide +kernel
theorem d_Mod_write_149 : decode prog_9_method_48_code 149 = .ok (.iand, 1) := by decide +kernel
theorem d_Mod_write_150 : decode prog_9_method_48_code 150 = .ok (.invokevirtual 300, 3) := by decide +kernel
theorem d_Mod_write_153 : decode prog_9_method_48_code 153 = .ok (.iinc 4 1, 3) := by decide +kernel
theorem d_Mod_write_156 : decode prog_9_method_48_code 156 = .ok (.goto (-33), 3) := by decide +kernel
theorem d_Mod_write_159 : decode prog_9_method_48_code 159 = .ok (.iconst 0, 1) := by decide +kernel
theorem d_Mod_write_160 : decode prog_9_method_48_code 160 = .ok (.istore 4, 2) := by decide +kernel
theorem d_Mod_write_162 : decode prog_9_method_48_code 162 = .ok (.iload 4, 2) := by decide +kernel
theorem d_Mod_write_164 : decode prog_9_method_48_code 164 = .ok (.iload_n 3, 1) := by decide +kernel
theorem d_Mod_write_165 : decode prog_9_method_48_code 165 = .ok (.if_icmp .ge 29, 3) := by decide +kernel
theorem d_Mod_write_168 : decode prog_9_method_48_code 168 = .ok (.aload_n 0, 1) := by decide +kernel
theorem d_Mod_write_169 : decode prog_9_method_48_code 169 = .ok (.iconst 5, 1) := by decide +kernel
theorem d_Mod_write_170 : decode prog_9_method_48_code 170 = .ok (.aload_n 0, 1) := by decide +kernel
theorem d_Mod_write_171 : decode prog_9_method_48_code 171 = .ok (.getfield 196, 3) := by decide +kernel
theorem d_Mod_write_174 : decode prog_9_method_48_code 174 = .ok (.iadd, 1) := by decide +kernel
theorem d_Mod_write_175 : decode prog_9_method_48_code 175 = .ok (.iload 4, 2) := by decide +kernel
theorem d_Mod_write_177 : decode prog_9_method_48_code 177 = .ok (.iadd, 1) := by decide +kernel
theorem d_Mod_write_178 : decode prog_9_method_48_code 178 = .ok (.aload_n 0, 1) := by decide +kernel
theorem d_Mod_write_179 : decode prog_9_method_48_code 179 = .ok (.getfield 61, 3) := by decide +kernel
theorem d_Mod_write_182 : decode prog_9_method_48_code 182 = .ok (.iload 4, 2) := by decide +kernel
theorem d_Mod_write_184 : decode prog_9_method_48_code 184 = .ok (.baload, 1) := by decide +kernel
theorem d_Mod_write_185 : decode prog_9_method_48_code 185 = .ok (.invokevirtual 300, 3) := by decide +kernel
theorem d_Mod_write_188 : decode prog_9_method_48_code 188 = .ok (.iinc 4 1, 3) := by decide +kernel
theorem d_Mod_write_191 : decode prog_9_method_48_code 191 = .ok (.goto (-29), 3) := by decide +kernel
theorem d_Mod_write_194 : decode prog_9_method_48_code 194 = .ok (.aload_n 0, 1) := by decide +kernel
theorem d_Mod_write_195 : decode prog_9_method_48_code 195 = .ok (.iload_n 1, 1) := by decide +kernel
theorem d_Mod_write_196 : decode prog_9_method_48_code 196 = .ok (.invokevirtual 304, 3) := by decide +kernel
theorem d_Mod_write_199 : decode prog_9_method_48_code 199 = .ok (.return_, 1) := by decide +kernel
theorem d_Mod_encode_0 : decode prog_9_method_49_code 0 = .ok (.aload_n 0, 1) := by decide +kernel
theorem d_Mod_encode_1 : decode prog_9_method_49_code 1 = .ok (.invokevirtual 173, 3) := by decide +kernel
theorem d_Mod_encode_4 : decode prog_9_method_49_code 4 = .ok (.iconst 0, 1) := by decide +kernel
theorem d_Mod_encode_5 : decode prog_9_method_49_code 5 = .ok (.istore_n 1, 1) := by decide +kernel
theorem d_Mod_encode_6 : decode prog_9_method_49_code 6 = .ok (.iload_n 1, 1) := by decide +kernel
theorem d_Mod_encode_7 : decode prog_9_method_49_code 7 = .ok (.aload_n 0, 1) := by decide +kernel
theorem d_Mod_encode_8 : decode prog_9_method_49_code 8 = .ok (.getfield 30, 3) := by decide +kernel
theorem d_Mod_encode_11 : decode prog_9_method_49_code 11 = .ok (.aload_n 0, 1) := by decide +kernel
theorem d_Mod_encode_12 : decode prog_9_method_49_code 12 = .ok (.getfield 33, 3) := by decide +kernel
theorem d_Mod_encode_15 : decode prog_9_method_49_code 15 = .ok (.imul, 1) := by decide +kernel
theorem d_Mod_encode_16 : decode prog_9_method_49_code 16 = .ok (.if_icmp .ge 14, 3) := by decide +kernel
theorem d_Mod_encode_19 : decode prog_9_method_49_code 19 = .ok (.aload_n 0, 1) := by decide +kernel
theorem d_Mod_encode_20 : decode prog_9_method_49_code 20 = .ok (.iload_n 1, 1) := by decide +kernel
theorem d_Mod_encode_21 : decode prog_9_method_49_code 21 = .ok (.invokevirtual 307, 3) := by decide +kernel
theorem d_Mod_encode_24 : decode prog_9_method_49_code 24 = .ok (.iinc 1 1, 3) := by decide +kernel
theorem d_Mod_encode_27 : decode prog_9_method_49_code 27 = .ok (.goto (-21), 3) := by decide +kernel
theorem d_Mod_encode_30 : decode prog_9_method_49_code 30 = .ok (.aload_n 0, 1) := by decide +kernel
theorem d_Mod_encode_31 : decode prog_9_method_49_code 31 = .ok (.iconst 1, 1) := by decide +kernel
theorem d_Mod_encode_32 : decode prog_9_method_49_code 32 = .ok (.putfield 82, 3) := by decide +kernel
theorem d_Mod_encode_35 : decode prog_9_method_49_code 35 = .ok (.aload_n 0, 1) := by decide +kernel
theorem d_Mod_encode_36 : decode prog_9_method_49_code 36 = .ok (.getfield 30, 3) := by decide +kernel
theorem d_Mod_encode_39 : decode prog_9_method_49_code 39 = .ok (.aload_n 0, 1) := by decide +kernel
theorem d_Mod_encode_40 : decode prog_9_method_49_code 40 = .ok (.getfield 33, 3) := by decide +kernel
theorem d_Mod_encode_43 : decode prog_9_method_49_code 43 = .ok (.imul, 1) := by decide +kernel
theorem d_Mod_encode_44 : decode prog_9_method_49_code 44 = .ok (.aload_n 0, 1) := by decide +kernel
theorem d_Mod_encode_45 : decode prog_9_method_49_code 45 = .ok (.getfield 36, 3) := by decide +kernel
theorem d_Mod_encode_48 : decode prog_9_method_49_code 48 = .ok (.imul, 1) := by decide +kernel
theorem d_Mod_encode_49 : decode prog_9_method_49_code 49 = .ok (.aload_n 0, 1) := by decide +kernel
theorem d_Mod_encode_50 : decode prog_9_method_49_code 50 = .ok (.getfield 39, 3) := by decide +kernel
theorem d_Mod_encode_53 : decode prog_9_method_49_code 53 = .ok (.idiv, 1) := by decide +kernel
theorem d_Mod_encode_54 : decode prog_9_method_49_code 54 = .ok (.ireturn, 1) := by decide +kernel
abbrev w_Mod_write : List Cond := Cond.code y_Mod_write prog_9_method_48_code 5 none :: wl
abbrev r_Mod_write : Room := { frames := 4, cells := 0, slots := 0, locals := 103 }
set_option maxHeartbeats 4000000 in
set_option maxRecDepth 100000 in
theorem c_Mod_write (l : Launch) (G : k_G) (sz : Nat) (rM rP rk rG rW rK rE rst rev rod rp rb rbl : Nat) (s0 wd ht kd db ew ac dn pr nu de wr rd cn ba sz1 lb rm cu sp nz sl uz : Int) (gp gb g es bk : Int → Int) (gg gv : Int → Int64) (hde : 0 ≤ db ∧ db ≤ 2 ∧ 0 ≤ ew ∧ ew ≤ 2 ∧ db + ew ≤ 3) (hwd : 1 ≤ wd ∧ wd ≤ 16) (hht : 1 ≤ ht ∧ ht ≤ 16) (hac : 1 ≤ ac ∧ ac ≤ 4) (hdn : 1 ≤ dn ∧ dn ≤ 4) (hs0 : 0 ≤ s0 ∧ s0 < ac * dn) (hok : okR nu de) (hg : ∀ j, -128 ≤ g j ∧ g j ≤ 127) (hes : ∀ b, 0 ≤ b → b < 8 → 0 ≤ es b ∧ es b ≤ 15) (hpr : pr = 0 ∨ pr = 1) (hgv : ∀ j, bd 134217728 (gv j)) (hbk : bits bk) (hcf : ∀ i, 0 ≤ i → i < (lsS (lmI wd (2 ^ (db + ew).toNat)) (lmI ht (2 ^ db.toNat)) db ew ac dn s0).1 → bd 576460752303423488 (gg ((lsS (lmI wd (2 ^ (db + ew).toNat)) (lmI ht (2 ^ db.toNat)) db ew ac dn s0).2.1 i))) : Met l y_Mod_write w_Mod_write r_Mod_write (k_P G [.ref rM, .int (iv (s0))] [o_Mod rM wd ht rP rk rG rW rK kd db ew ac dn pr nu de rE rst wr rd rev rod cn rp rb ba sz1 lb rm cu sp nz rbl sl uz, (rp, ai (gI G) 256 (gp)), (rb, ai (gI G) 256 (gb)), (rst, ai (gB G) 2048 (g)), (rE, ai (gI G) 8 (es)), (rG, al (gL G) 256 (gg)), (rW, al (gL G) 256 (gv)), (rbl, ai (gB G) 1024 (bk))] sz) (qv G (fun u : Int × (Int → Int) × (Int → Int) × Int × Int × Int × Int × Int × Int × Int × (Int → Int64) × Int × Int × (Int → Int) × (Int → Int) => (u.2.2.2.2.2.2.2.2.2.2.2.2.2.2, u.2.2.2.2.2.2.2.2.2.2.1, u.2.2.2.2.2.2.2.2.2.2.2.2.2.1, u.2.1, u.2.2.1) = wmf (lmI wd (2 ^ (db + ew).toNat)) (lmI ht (2 ^ db.toNat)) db ew ac dn nu de pr es gg s0 (g, gv, bk, gp, gb) ∧ (∀ j, -128 ≤ u.2.2.2.2.2.2.2.2.2.2.2.2.2.2 j ∧ u.2.2.2.2.2.2.2.2.2.2.2.2.2.2 j ≤ 127) ∧ (∀ j, bd 134217728 (u.2.2.2.2.2.2.2.2.2.2.1 j)) ∧ bits u.2.2.2.2.2.2.2.2.2.2.2.2.2.1) (fun u : Int × (Int → Int) × (Int → Int) × Int × Int × Int × Int × Int × Int × Int × (Int → Int64) × Int × Int × (Int → Int) × (Int → Int) => [o_Mod rM wd ht rP rk rG rW rK kd db ew ac dn pr nu de rE rst wr rd rev rod u.1 rp rb u.2.2.2.1 u.2.2.2.2.1 u.2.2.2.2.2.1 u.2.2.2.2.2.2.1 u.2.2.2.2.2.2.2.1 u.2.2.2.2.2.2.2.2.1 u.2.2.2.2.2.2.2.2.2.1 rbl u.2.2.2.2.2.2.2.2.2.2.2.1 u.2.2.2.2.2.2.2.2.2.2.2.2.1, (rp, ai (gI G) 256 (u.2.1)), (rb, ai (gI G) 256 (u.2.2.1)), (rst, ai (gB G) 2048 (u.2.2.2.2.2.2.2.2.2.2.2.2.2.2)), (rE, ai (gI G) 8 (es)), (rG, al (gL G) 256 (gg)), (rW, al (gL G) 256 (u.2.2.2.2.2.2.2.2.2.2.1)), (rbl, ai (gB G) 1024 (u.2.2.2.2.2.2.2.2.2.2.2.2.2.1))]) (va_A [o_Mod rM wd ht rP rk rG rW rK kd db ew ac dn pr nu de rE rst wr rd rev rod cn rp rb ba sz1 lb rm cu sp nz rbl sl uz, (rp, ai (gI G) 256 (gp)), (rb, ai (gI G) 256 (gb)), (rst, ai (gB G) 2048 (g)), (rE, ai (gI G) 8 (es)), (rG, al (gL G) 256 (gg)), (rW, al (gL G) 256 (gv)), (rbl, ai (gB G) 1024 (bk))] sz)) 0 0 (va_A [o_Mod rM wd ht rP rk rG rW rK kd db ew ac dn pr nu de rE rst wr rd rev rod cn rp rb ba sz1 lb rm cu sp nz rbl sl uz, (rp, ai (gI G) 256 (gp)), (rb, ai (gI G) 256 (gb)), (rst, ai (gB G) 2048 (g)), (rE, ai (gI G) 8 (es)), (rG, al (gL G) 256 (gg)), (rW, al (gL G) 256 (gv)), (rbl, ai (gB G) 1024 (bk))] sz) := by
  refine k_met (fun A => qv G (fun u : Int × (Int → Int) × (Int → Int) × Int × Int × Int × Int × Int × Int × Int × (Int → Int64) × Int × Int × (Int → Int) × (Int → Int) => (u.2.2.2.2.2.2.2.2.2.2.2.2.2.2, u.2.2.2.2.2.2.2.2.2.2.1, u.2.2.2.2.2.2.2.2.2.2.2.2.2.1, u.2.1, u.2.2.1) = wmf (lmI wd (2 ^ (db + ew).toNat)) (lmI ht (2 ^ db.toNat)) db ew ac dn nu de pr es gg s0 (g, gv, bk, gp, gb) ∧ (∀ j, -128 ≤ u.2.2.2.2.2.2.2.2.2.2.2.2.2.2 j ∧ u.2.2.2.2.2.2.2.2.2.2.2.2.2.2 j ≤ 127) ∧ (∀ j, bd 134217728 (u.2.2.2.2.2.2.2.2.2.2.1 j)) ∧ bits u.2.2.2.2.2.2.2.2.2.2.2.2.2.1) (fun u : Int × (Int → Int) × (Int → Int) × Int × Int × Int × Int × Int × Int × Int × (Int → Int64) × Int × Int × (Int → Int) × (Int → Int) => [o_Mod rM wd ht rP rk rG rW rK kd db ew ac dn pr nu de rE rst wr rd rev rod u.1 rp rb u.2.2.2.1 u.2.2.2.2.1 u.2.2.2.2.2.1 u.2.2.2.2.2.2.1 u.2.2.2.2.2.2.2.1 u.2.2.2.2.2.2.2.2.1 u.2.2.2.2.2.2.2.2.2.1 rbl u.2.2.2.2.2.2.2.2.2.2.2.1 u.2.2.2.2.2.2.2.2.2.2.2.2.1, (rp, ai (gI G) 256 (u.2.1)), (rb, ai (gI G) 256 (u.2.2.1)), (rst, ai (gB G) 2048 (u.2.2.2.2.2.2.2.2.2.2.2.2.2.2)), (rE, ai (gI G) 8 (es)), (rG, al (gL G) 256 (gg)), (rW, al (gL G) 256 (u.2.2.2.2.2.2.2.2.2.2.1)), (rbl, ai (gB G) 1024 (u.2.2.2.2.2.2.2.2.2.2.2.2.2.1))]) A) (fun A => A) (by decide) rfl (Nat.le_of_ble_eq_true rfl) (fun p e s m args below meth c ls A Q S hr hlk hnm hl hsz hP hK hD hS hA hT hQ => ?_)
  obtain ⟨hx, hb, hml, hown, hts⟩ := id S
  have hw : ∀ w ∈ wl, w.before args s = true := fun w h => hts w (List.mem_cons_of_mem _ h)
  have hl : lv_has ls 5 [(0, .ref rM), (1, .int (iv (s0)))] := hl
  have n0 := mul_r (a := ac) (b := dn) (A := 4) (B := 4) (by omega) (by omega)
  have q1 := sBy_r hok (s := s0) (by omega)
  have q2 := sBy_r hok (s := s0 + 1) (by omega)
  have q3 := sBy_s hok (s := s0)
  have q4 := ldI_r hok (s := s0)
  have q5 := rmI_r hok (s := s0)
  have q6 : rmI nu de s0 = 8 * sBy nu de (s0 + 1) - 8 * sBy nu de s0 - 5 - ldI nu de s0 := rfl
  have e1 := lmI_r hwd (p2_c (k := db + ew) (by omega))
  have e2 := lmI_r hht (p2_c (k := db) (by omega))
  have kL := ls_r (gp := gp) (gb := gb) (cP := lmI wd (2 ^ (db + ew).toNat)) (cQ := lmI ht (2 ^ db.toNat)) (by omega) (by omega) hde hac hdn hs0
  have hnB : nBd db ew ≤ 8 := by unfold nBd; omega
  have kE := ls_e (cP := lmI wd (2 ^ (db + ew).toNat)) (cQ := lmI ht (2 ^ db.toNat)) (db := db) (ew := ew) (ac := ac) (dn := dn) (s := s0) gp gb
  refine lv_aload_n hx hb d_Mod_write_0 rfl (lv_at hl 0 rfl) ?_
  refine lv_iload_n hx hb d_Mod_write_1 rfl (lv_at hl 1 rfl) ?_
  refine k_cv (wz := fun u : Int × Int × Int × Int => [o_Mod rM wd ht rP rk rG rW rK kd db ew ac dn pr nu de rE rst wr rd rev rod cn rp rb u.1 u.2.1 u.2.2.1 u.2.2.2 cu sp nz rbl sl uz, (rp, ai (gI G) 256 (gp)), (rb, ai (gI G) 256 (gb)), (rst, ai (gB G) 2048 (g)), (rE, ai (gI G) 8 (es)), (rG, al (gL G) 256 (gg)), (rW, al (gL G) 256 (gv)), (rbl, ai (gB G) 1024 (bk))]) (wr := [(rp, ai (gI G) 256 (gp)), (rb, ai (gI G) 256 (gb)), (rst, ai (gB G) 2048 (g)), (rE, ai (gI G) 8 (es)), (rG, al (gL G) 256 (gg)), (rW, al (gL G) 256 (gv)), (rbl, ai (gB G) 1024 (bk))]) (k_rv S (c_Mod_look l G _ rM rP rk rG rW rK rE rst rev rod rp rb rbl s0 wd ht kd db ew ac dn pr nu de wr rd cn ba sz1 lb rm cu sp nz sl uz hok (by omega)) 1 m4_109 m4_106 m4_108 mp_34 m1_9 (by decide +kernel) (by decide) rfl rfl (k_preV (q0 := 0) hK hP hD hS hA hT rfl rfl [0] (by decide) rfl) rfl hl.1 rfl (Nat.le_of_ble_eq_true rfl) d_Mod_write_2 ⟨Nat.le_of_ble_eq_true rfl, Nat.le_of_ble_eq_true rfl⟩) hP hD hS hA [0] [1, 2, 3, 4, 5, 6, 7] [7, 0, 1, 2, 3, 4, 5, 6] rfl rfl (by decide) (by decide) (by decide) (fun _ => rfl) (fun u2 H locs h2 hP hD hS => ?_)
  subst h2
  have hP : va_P (gD G) classes [o_Mod rM wd ht rP rk rG rW rK kd db ew ac dn pr nu de rE rst wr rd rev rod cn rp rb (sBy nu de s0) (sBy nu de (s0 + 1) - sBy nu de s0) (ldI nu de s0) (rmI nu de s0) cu sp nz rbl sl uz, (rp, ai (gI G) 256 (gp)), (rb, ai (gI G) 256 (gb)), (rst, ai (gB G) 2048 (g)), (rE, ai (gI G) 8 (es)), (rG, al (gL G) 256 (gg)), (rW, al (gL G) 256 (gv)), (rbl, ai (gB G) 1024 (bk))] H := hP
  have hD : va_D A [o_Mod rM wd ht rP rk rG rW rK kd db ew ac dn pr nu de rE rst wr rd rev rod cn rp rb (sBy nu de s0) (sBy nu de (s0 + 1) - sBy nu de s0) (ldI nu de s0) (rmI nu de s0) cu sp nz rbl sl uz, (rp, ai (gI G) 256 (gp)), (rb, ai (gI G) 256 (gb)), (rst, ai (gB G) 2048 (g)), (rE, ai (gI G) 8 (es)), (rG, al (gL G) 256 (gg)), (rW, al (gL G) 256 (gv)), (rbl, ai (gB G) 1024 (bk))] := hD
  refine lv_aload_n hx hb d_Mod_write_5 rfl (lv_at hl 0 rfl) ?_
  refine lv_iload_n hx hb d_Mod_write_6 rfl (lv_at hl 1 rfl) ?_
  refine k_cv (wz := fun u : Int × (Int → Int) × (Int → Int) => [o_Mod rM wd ht rP rk rG rW rK kd db ew ac dn pr nu de rE rst wr rd rev rod u.1 rp rb (sBy nu de s0) (sBy nu de (s0 + 1) - sBy nu de s0) (ldI nu de s0) (rmI nu de s0) cu sp nz rbl sl uz, (rp, ai (gI G) 256 (u.2.1)), (rb, ai (gI G) 256 (u.2.2)), (rst, ai (gB G) 2048 (g)), (rE, ai (gI G) 8 (es)), (rG, al (gL G) 256 (gg)), (rW, al (gL G) 256 (gv)), (rbl, ai (gB G) 1024 (bk))]) (wr := [(rst, ai (gB G) 2048 (g)), (rE, ai (gI G) 8 (es)), (rG, al (gL G) 256 (gg)), (rW, al (gL G) 256 (gv)), (rbl, ai (gB G) 1024 (bk))]) (k_rv S (c_Mod_list l G _ rM rP rk rG rW rK rE rst rev rod rp rb rbl s0 wd ht kd db ew ac dn pr nu de wr rd cn (sBy nu de s0) (sBy nu de (s0 + 1) - sBy nu de s0) (ldI nu de s0) (rmI nu de s0) cu sp nz sl uz gp gb (by assumption) (by assumption) (by assumption) (by assumption) (by assumption) (by assumption)) 1 m4_113 m4_110 m4_112 mp_35 m1_9 (by decide +kernel) (by decide) rfl rfl (k_preV (q0 := 0) hK hP hD hS hA hT rfl rfl [0, 1, 2] (by decide) rfl) rfl hl.1 rfl (Nat.le_of_ble_eq_true rfl) d_Mod_write_7 ⟨Nat.le_of_ble_eq_true rfl, Nat.le_of_ble_eq_true rfl⟩) hP hD hS hA [0, 1, 2] [3, 4, 5, 6, 7] [5, 6, 7, 0, 1, 2, 3, 4] rfl rfl (by decide) (by decide) (by decide) (fun _ => rfl) (fun u7 H locs h7 hP hD hS => ?_)
  obtain ⟨cn7, gp7, gb7⟩ := u7
  have hP : va_P (gD G) classes [o_Mod rM wd ht rP rk rG rW rK kd db ew ac dn pr nu de rE rst wr rd rev rod cn7 rp rb (sBy nu de s0) (sBy nu de (s0 + 1) - sBy nu de s0) (ldI nu de s0) (rmI nu de s0) cu sp nz rbl sl uz, (rp, ai (gI G) 256 (gp7)), (rb, ai (gI G) 256 (gb7)), (rst, ai (gB G) 2048 (g)), (rE, ai (gI G) 8 (es)), (rG, al (gL G) 256 (gg)), (rW, al (gL G) 256 (gv)), (rbl, ai (gB G) 1024 (bk))] H := hP
  have hD : va_D A [o_Mod rM wd ht rP rk rG rW rK kd db ew ac dn pr nu de rE rst wr rd rev rod cn7 rp rb (sBy nu de s0) (sBy nu de (s0 + 1) - sBy nu de s0) (ldI nu de s0) (rmI nu de s0) cu sp nz rbl sl uz, (rp, ai (gI G) 256 (gp7)), (rb, ai (gI G) 256 (gb7)), (rst, ai (gB G) 2048 (g)), (rE, ai (gI G) 8 (es)), (rG, al (gL G) 256 (gg)), (rW, al (gL G) 256 (gv)), (rbl, ai (gB G) 1024 (bk))] := hD
  try dsimp only at h7
  rw [← h7] at kL kE
  have k0 : 0 ≤ cn7 := kL.1.1
  have k1 : ∀ k, 0 ≤ k → k < cn7 → (0 ≤ gp7 k ∧ gp7 k < 256) ∧ 0 ≤ gb7 k ∧ gb7 k < nBd db ew := kL.1.2
  have k2 : cn7 ≤ 256 := kL.2
  have k3 : ∀ i, 0 ≤ i → i < cn7 → (0 ≤ gp7 i ∧ gp7 i < 256) ∧ 0 ≤ gb7 i ∧ gb7 i < 8 := fun i a b => ⟨(k1 i a b).1, (k1 i a b).2.1, by have := (k1 i a b).2.2; omega⟩
  have kE1 : cn7 = (lsS (lmI wd (2 ^ (db + ew).toNat)) (lmI ht (2 ^ db.toNat)) db ew ac dn s0).1 := kE.1
  have k4 : ∀ i, 0 ≤ i → i < cn7 → bd 576460752303423488 (gg (gp7 i)) := fun i a b => by rw [show gp7 i = (lsS (lmI wd (2 ^ (db + ew).toNat)) (lmI ht (2 ^ db.toNat)) db ew ac dn s0).2.1 i from (kE.2 i a (by omega)).1]; exact hcf i a (by omega)
  refine lv_iconst (v := iv (-1)) hx hb d_Mod_write_10 rfl ?_
  refine lv_istore_n hx hb d_Mod_write_11 rfl hl (by decide) rfl (fun ls hl => ?_)
  have hl : lv_has ls 5 [(2, .int (iv ((-1)))), (0, .ref rM), (1, .int (iv (s0)))] := hl
  have hm37 : ∀ (ls : Array Slot) (H : Heap) (locs : List Loc) (qF : Int) (slF : Int) (uzF : Int) (bkF : Int → Int) (gvF : Int → Int64), lv_has ls 5 [(0, .ref rM), (1, .int (iv (s0))), (2, .int (iv (qF)))] → va_P (gD G) classes [o_Mod rM wd ht rP rk rG rW rK kd db ew ac dn pr nu de rE rst wr rd rev rod cn7 rp rb (sBy nu de s0) (sBy nu de (s0 + 1) - sBy nu de s0) (ldI nu de s0) (rmI nu de s0) cu sp nz rbl slF uzF, (rp, ai (gI G) 256 (gp7)), (rb, ai (gI G) 256 (gb7)), (rst, ai (gB G) 2048 (g)), (rE, ai (gI G) 8 (es)), (rG, al (gL G) 256 (gg)), (rW, al (gL G) 256 (gvF)), (rbl, ai (gB G) 1024 (bkF))] H → va_D A [o_Mod rM wd ht rP rk rG rW rK kd db ew ac dn pr nu de rE rst wr rd rev rod cn7 rp rb (sBy nu de s0) (sBy nu de (s0 + 1) - sBy nu de s0) (ldI nu de s0) (rmI nu de s0) cu sp nz rbl slF uzF, (rp, ai (gI G) 256 (gp7)), (rb, ai (gI G) 256 (gb7)), (rst, ai (gB G) 2048 (g)), (rE, ai (gI G) 8 (es)), (rG, al (gL G) 256 (gg)), (rW, al (gL G) 256 (gvF)), (rbl, ai (gB G) 1024 (bkF))] → va_S A s.heap H locs → (wmq (spL4 pr es (cn7, gp7, gb7) gg) (rmI nu de s0) 31 0 (spL4 pr es (cn7, gp7, gb7) gg 0 bk gv) = (qF, ((slF, uzF, bkF), gvF))) → (bits bkF) → (∀ j, bd 134217728 (gvF j)) → (0 ≤ qF ∧ qF ≤ 31 ∧ 0 ≤ uzF ∧ uzF ≤ 16384) → W p l e r_Mod_write s m args below meth c H locs 0 0 Q (F0 m 37 ls []) := by
    intro ls H locs qF slF uzF bkF gvF hl hP hD hS hF hbF hvF hqF
    refine lv_aload_n hx hb d_Mod_write_37 rfl (lv_at hl 0 rfl) ?_
    have hm60 : ∀ (ls : Array Slot) (H : Heap) (locs : List Loc) (n3 : Int), lv_has ls 5 [(0, .ref rM), (1, .int (iv (s0))), (2, .int (iv (qF))), (3, .int (iv (n3)))] → va_P (gD G) classes [o_Mod rM wd ht rP rk rG rW rK kd db ew ac dn pr nu de rE rst wr rd rev rod cn7 rp rb (sBy nu de s0) (sBy nu de (s0 + 1) - sBy nu de s0) (ldI nu de s0) (rmI nu de s0) cu sp nz rbl slF uzF, (rp, ai (gI G) 256 (gp7)), (rb, ai (gI G) 256 (gb7)), (rst, ai (gB G) 2048 (g)), (rE, ai (gI G) 8 (es)), (rG, al (gL G) 256 (gg)), (rW, al (gL G) 256 (gvF)), (rbl, ai (gB G) 1024 (bkF))] H → va_D A [o_Mod rM wd ht rP rk rG rW rK kd db ew ac dn pr nu de rE rst wr rd rev rod cn7 rp rb (sBy nu de s0) (sBy nu de (s0 + 1) - sBy nu de s0) (ldI nu de s0) (rmI nu de s0) cu sp nz rbl slF uzF, (rp, ai (gI G) 256 (gp7)), (rb, ai (gI G) 256 (gb7)), (rst, ai (gB G) 2048 (g)), (rE, ai (gI G) 8 (es)), (rG, al (gL G) 256 (gg)), (rW, al (gL G) 256 (gvF)), (rbl, ai (gB G) 1024 (bkF))] → va_S A s.heap H locs → (n3 = min uzF (rmI nu de s0)) → W p l e r_Mod_write s m args below meth c H locs 0 0 Q (F0 m 60 ls []) := by
      intro ls H locs n3 hl hP hD hS hn3
      refine lv_iconst (v := iv (0)) hx hb d_Mod_write_60 rfl ?_
      refine lv_istore hx hb d_Mod_write_61 hl (by decide) rfl (fun ls hl => ?_)
      have hl : lv_has ls 5 [(4, .int (iv (0))), (0, .ref rM), (1, .int (iv (s0))), (2, .int (iv (qF))), (3, .int (iv (n3)))] := hl
      refine lo_up (P := fun i1 => ∀ (ls : Array Slot) (H : Heap) (locs : List Loc) (g1 : Int → Int), lv_has ls 5 [(0, .ref rM), (1, .int (iv (s0))), (2, .int (iv (qF))), (3, .int (iv (n3))), (4, .int (iv (i1)))] → va_P (gD G) classes [o_Mod rM wd ht rP rk rG rW rK kd db ew ac dn pr nu de rE rst wr rd rev rod cn7 rp rb (sBy nu de s0) (sBy nu de (s0 + 1) - sBy nu de s0) (ldI nu de s0) (rmI nu de s0) cu sp nz rbl slF uzF, (rp, ai (gI G) 256 (gp7)), (rb, ai (gI G) 256 (gb7)), (rst, ai (gB G) 2048 (g1)), (rE, ai (gI G) 8 (es)), (rG, al (gL G) 256 (gg)), (rW, al (gL G) 256 (gvF)), (rbl, ai (gB G) 1024 (bkF))] H → va_D A [o_Mod rM wd ht rP rk rG rW rK kd db ew ac dn pr nu de rE rst wr rd rev rod cn7 rp rb (sBy nu de s0) (sBy nu de (s0 + 1) - sBy nu de s0) (ldI nu de s0) (rmI nu de s0) cu sp nz rbl slF uzF, (rp, ai (gI G) 256 (gp7)), (rb, ai (gI G) 256 (gb7)), (rst, ai (gB G) 2048 (g1)), (rE, ai (gI G) 8 (es)), (rG, al (gL G) 256 (gg)), (rW, al (gL G) 256 (gvF)), (rbl, ai (gB G) 1024 (bkF))] → va_S A s.heap H locs → (g1 = it (fun i f => up f (sBy nu de s0 + i) (b8 0)) 0 i1 g) → (∀ j, -128 ≤ g1 j ∧ g1 j ≤ 127) → W p l e r_Mod_write s m args below meth c H locs 0 0 Q (F0 m 63 ls [])) (a := 0) (b := (sBy nu de (s0 + 1) - sBy nu de s0)) (fun i1 hii1 hji1 ihi1 => ?_) _ _ _ g (lv_sub hl [1, 2, 3, 4, 0] rfl) hP hD hS (it_self _ _ _).symm hg
      intro ls H locs g1 hl hP hD hS hz1 hr1
      refine lv_iload hx hb d_Mod_write_63 (lv_at hl 4 rfl) ?_
      refine lv_aload_n hx hb d_Mod_write_65 rfl (lv_at hl 0 rfl) ?_
      refine va_get (D := gD G) (ci := 7) (v := .int (iv (sBy nu de (s0 + 1) - sBy nu de s0))) (C := R_Mod) (T := F_Mod) (N := 34) hx hb hw in_Mod hown hK hP 0 rfl rfl 25 (by decide) (hw _ m3_149) (fun _ h => h) rfl d_Mod_write_66 ?_
      refine k_icmp_ge (tgt := 91) hx hb d_Mod_write_69 (by decide) (by omega) (by omega) (fun hc69 => ?_) (fun hc69 => ?_)
      · refine lv_iconst (v := iv (0)) hx hb d_Mod_write_91 rfl ?_
        refine lv_istore hx hb d_Mod_write_92 hl (by decide) rfl (fun ls hl => ?_)
        have hl : lv_has ls 5 [(4, .int (iv (0))), (0, .ref rM), (1, .int (iv (s0))), (2, .int (iv (qF))), (3, .int (iv (n3)))] := hl
        refine lo_up (P := fun i2 => ∀ (ls : Array Slot) (H : Heap) (locs : List Loc) (g2 : Int → Int), lv_has ls 5 [(0, .ref rM), (1, .int (iv (s0))), (2, .int (iv (qF))), (3, .int (iv (n3))), (4, .int (iv (i2)))] → va_P (gD G) classes [o_Mod rM wd ht rP rk rG rW rK kd db ew ac dn pr nu de rE rst wr rd rev rod cn7 rp rb (sBy nu de s0) (sBy nu de (s0 + 1) - sBy nu de s0) (ldI nu de s0) (rmI nu de s0) cu sp nz rbl slF uzF, (rp, ai (gI G) 256 (gp7)), (rb, ai (gI G) 256 (gb7)), (rst, ai (gB G) 2048 (g2)), (rE, ai (gI G) 8 (es)), (rG, al (gL G) 256 (gg)), (rW, al (gL G) 256 (gvF)), (rbl, ai (gB G) 1024 (bkF))] H → va_D A [o_Mod rM wd ht rP rk rG rW rK kd db ew ac dn pr nu de rE rst wr rd rev rod cn7 rp rb (sBy nu de s0) (sBy nu de (s0 + 1) - sBy nu de s0) (ldI nu de s0) (rmI nu de s0) cu sp nz rbl slF uzF, (rp, ai (gI G) 256 (gp7)), (rb, ai (gI G) 256 (gb7)), (rst, ai (gB G) 2048 (g2)), (rE, ai (gI G) 8 (es)), (rG, al (gL G) 256 (gg)), (rW, al (gL G) 256 (gvF)), (rbl, ai (gB G) 1024 (bkF))] → va_S A s.heap H locs → (g2 = it (fun i f => pbM (sBy nu de s0) f i (qF / 2 ^ (4 - i).toNat % 2)) 0 i2 (it (fun i f => up f (sBy nu de s0 + i) (b8 0)) 0 (sBy nu de (s0 + 1) - sBy nu de s0) g)) → (∀ j, -128 ≤ g2 j ∧ g2 j ≤ 127) → W p l e r_Mod_write s m args below meth c H locs 0 0 Q (F0 m 94 ls [])) (a := 0) (b := 5) (fun i2 hii2 hji2 ihi2 => ?_) _ _ _ g1 (lv_sub hl [1, 2, 3, 4, 0] rfl) hP hD hS (by rw [it_self, hz1]; exact it_x _ _ hc69 hji1) hr1
        intro ls H locs g2 hl hP hD hS hz2 hr2
        refine lv_iload hx hb d_Mod_write_94 (lv_at hl 4 rfl) ?_
        refine lv_iconst (v := iv (5)) hx hb d_Mod_write_96 rfl ?_
        refine k_icmp_ge (tgt := 120) hx hb d_Mod_write_97 (by decide) (by omega) (by omega) (fun hc97 => ?_) (fun hc97 => ?_)
        · refine lv_iconst (v := iv (0)) hx hb d_Mod_write_120 rfl ?_
          refine lv_istore hx hb d_Mod_write_121 hl (by decide) rfl (fun ls hl => ?_)
          have hl : lv_has ls 5 [(4, .int (iv (0))), (0, .ref rM), (1, .int (iv (s0))), (2, .int (iv (qF))), (3, .int (iv (n3)))] := hl
          refine lo_up (P := fun i3 => ∀ (ls : Array Slot) (H : Heap) (locs : List Loc) (g3 : Int → Int), lv_has ls 5 [(0, .ref rM), (1, .int (iv (s0))), (2, .int (iv (qF))), (3, .int (iv (n3))), (4, .int (iv (i3)))] → va_P (gD G) classes [o_Mod rM wd ht rP rk rG rW rK kd db ew ac dn pr nu de rE rst wr rd rev rod cn7 rp rb (sBy nu de s0) (sBy nu de (s0 + 1) - sBy nu de s0) (ldI nu de s0) (rmI nu de s0) cu sp nz rbl slF uzF, (rp, ai (gI G) 256 (gp7)), (rb, ai (gI G) 256 (gb7)), (rst, ai (gB G) 2048 (g3)), (rE, ai (gI G) 8 (es)), (rG, al (gL G) 256 (gg)), (rW, al (gL G) 256 (gvF)), (rbl, ai (gB G) 1024 (bkF))] H → va_D A [o_Mod rM wd ht rP rk rG rW rK kd db ew ac dn pr nu de rE rst wr rd rev rod cn7 rp rb (sBy nu de s0) (sBy nu de (s0 + 1) - sBy nu de s0) (ldI nu de s0) (rmI nu de s0) cu sp nz rbl slF uzF, (rp, ai (gI G) 256 (gp7)), (rb, ai (gI G) 256 (gb7)), (rst, ai (gB G) 2048 (g3)), (rE, ai (gI G) 8 (es)), (rG, al (gL G) 256 (gg)), (rW, al (gL G) 256 (gvF)), (rbl, ai (gB G) 1024 (bkF))] → va_S A s.heap H locs → (g3 = it (fun i f => pbM (sBy nu de s0) f (5 + i) (n3 / 2 ^ (ldI nu de s0 - 1 - i).toNat % 2)) 0 i3 (it (fun i f => pbM (sBy nu de s0) f i (qF / 2 ^ (4 - i).toNat % 2)) 0 5 (it (fun i f => up f (sBy nu de s0 + i) (b8 0)) 0 (sBy nu de (s0 + 1) - sBy nu de s0) g))) → (∀ j, -128 ≤ g3 j ∧ g3 j ≤ 127) → W p l e r_Mod_write s m args below meth c H locs 0 0 Q (F0 m 123 ls [])) (a := 0) (b := ldI nu de s0) (fun i3 hii3 hji3 ihi3 => ?_) _ _ _ g2 (lv_sub hl [1, 2, 3, 4, 0] rfl) hP hD hS (by rw [it_self, hz2]; exact it_x _ _ hc97 hji2) hr2
          intro ls H locs g3 hl hP hD hS hz3 hr3
          refine lv_iload hx hb d_Mod_write_123 (lv_at hl 4 rfl) ?_
          refine lv_aload_n hx hb d_Mod_write_125 rfl (lv_at hl 0 rfl) ?_
          refine va_get (D := gD G) (ci := 7) (v := .int (iv (ldI nu de s0))) (C := R_Mod) (T := F_Mod) (N := 34) hx hb hw in_Mod hown hK hP 0 rfl rfl 26 (by decide) (hw _ m3_150) (fun _ h => h) rfl d_Mod_write_126 ?_
          refine k_icmp_ge (tgt := 159) hx hb d_Mod_write_129 (by decide) (by omega) (by omega) (fun hc129 => ?_) (fun hc129 => ?_)
          · refine lv_iconst (v := iv (0)) hx hb d_Mod_write_159 rfl ?_
            refine lv_istore hx hb d_Mod_write_160 hl (by decide) rfl (fun ls hl => ?_)
            have hl : lv_has ls 5 [(4, .int (iv (0))), (0, .ref rM), (1, .int (iv (s0))), (2, .int (iv (qF))), (3, .int (iv (n3)))] := hl
            refine lo_up (P := fun i4 => ∀ (ls : Array Slot) (H : Heap) (locs : List Loc) (g4 : Int → Int), lv_has ls 5 [(0, .ref rM), (1, .int (iv (s0))), (2, .int (iv (qF))), (3, .int (iv (n3))), (4, .int (iv (i4)))] → va_P (gD G) classes [o_Mod rM wd ht rP rk rG rW rK kd db ew ac dn pr nu de rE rst wr rd rev rod cn7 rp rb (sBy nu de s0) (sBy nu de (s0 + 1) - sBy nu de s0) (ldI nu de s0) (rmI nu de s0) cu sp nz rbl slF uzF, (rp, ai (gI G) 256 (gp7)), (rb, ai (gI G) 256 (gb7)), (rst, ai (gB G) 2048 (g4)), (rE, ai (gI G) 8 (es)), (rG, al (gL G) 256 (gg)), (rW, al (gL G) 256 (gvF)), (rbl, ai (gB G) 1024 (bkF))] H → va_D A [o_Mod rM wd ht rP rk rG rW rK kd db ew ac dn pr nu de rE rst wr rd rev rod cn7 rp rb (sBy nu de s0) (sBy nu de (s0 + 1) - sBy nu de s0) (ldI nu de s0) (rmI nu de s0) cu sp nz rbl slF uzF, (rp, ai (gI G) 256 (gp7)), (rb, ai (gI G) 256 (gb7)), (rst, ai (gB G) 2048 (g4)), (rE, ai (gI G) 8 (es)), (rG, al (gL G) 256 (gg)), (rW, al (gL G) 256 (gvF)), (rbl, ai (gB G) 1024 (bkF))] → va_S A s.heap H locs → (g4 = it (fun i f => pbM (sBy nu de s0) f (5 + ldI nu de s0 + i) (bkF i)) 0 i4 (it (fun i f => pbM (sBy nu de s0) f (5 + i) (n3 / 2 ^ (ldI nu de s0 - 1 - i).toNat % 2)) 0 (ldI nu de s0) (it (fun i f => pbM (sBy nu de s0) f i (qF / 2 ^ (4 - i).toNat % 2)) 0 5 (it (fun i f => up f (sBy nu de s0 + i) (b8 0)) 0 (sBy nu de (s0 + 1) - sBy nu de s0) g)))) → (∀ j, -128 ≤ g4 j ∧ g4 j ≤ 127) → W p l e r_Mod_write s m args below meth c H locs 0 0 Q (F0 m 162 ls [])) (a := 0) (b := n3) (fun i4 hii4 hji4 ihi4 => ?_) _ _ _ g3 (lv_sub hl [1, 2, 3, 4, 0] rfl) hP hD hS (by rw [it_self, hz3]; exact it_x _ _ hc129 hji3) hr3
            intro ls H locs g4 hl hP hD hS hz4 hr4
            refine lv_iload hx hb d_Mod_write_162 (lv_at hl 4 rfl) ?_
            refine lv_iload_n hx hb d_Mod_write_164 rfl (lv_at hl 3 rfl) ?_
            refine k_icmp_ge (tgt := 194) hx hb d_Mod_write_165 (by decide) (by omega) (by omega) (fun hc165 => ?_) (fun hc165 => ?_)
            · have hG : g4 = wmG (sBy nu de s0) (sBy nu de (s0 + 1) - sBy nu de s0) (ldI nu de s0) qF n3 bkF g := by rw [hz4]; exact it_x _ _ hc165 hji4
              refine lv_aload_n hx hb d_Mod_write_194 rfl (lv_at hl 0 rfl) ?_
              refine lv_iload_n hx hb d_Mod_write_195 rfl (lv_at hl 1 rfl) ?_
              refine k_cv (wz := fun u : Int × (Int → Int) × (Int → Int) × Int × Int × Int × Int × Int × Int × Int × (Int → Int64) => [o_Mod rM wd ht rP rk rG rW rK kd db ew ac dn pr nu de rE rst wr rd rev rod u.1 rp rb u.2.2.2.1 u.2.2.2.2.1 u.2.2.2.2.2.1 u.2.2.2.2.2.2.1 u.2.2.2.2.2.2.2.1 u.2.2.2.2.2.2.2.2.1 u.2.2.2.2.2.2.2.2.2.1 rbl slF uzF, (rp, ai (gI G) 256 (u.2.1)), (rb, ai (gI G) 256 (u.2.2.1)), (rst, ai (gB G) 2048 (g4)), (rE, ai (gI G) 8 (es)), (rG, al (gL G) 256 (gg)), (rW, al (gL G) 256 (u.2.2.2.2.2.2.2.2.2.2)), (rbl, ai (gB G) 1024 (bkF))]) (wr := [(rG, al (gL G) 256 (gg)), (rbl, ai (gB G) 1024 (bkF))]) (k_rv S (c_Mod_read l G _ rM rP rk rG rW rK rE rst rev rod rp rb rbl s0 wd ht kd db ew ac dn pr nu de wr rd cn7 (sBy nu de s0) (sBy nu de (s0 + 1) - sBy nu de s0) (ldI nu de s0) (rmI nu de s0) cu sp nz slF uzF gp7 gb7 g4 es gvF (by assumption) (by assumption) (by assumption) (by assumption) (by assumption) (by assumption) (by assumption) hr4 (by assumption) (by assumption)) 1 m4_179 m4_176 m4_178 mp_45 m1_9 (by decide +kernel) (by decide) rfl rfl (k_preV (q0 := 0) hK hP hD hS hA hT rfl rfl [0, 1, 2, 3, 4, 6] (by decide) rfl) rfl hl.1 rfl (Nat.le_of_ble_eq_true rfl) d_Mod_write_196 ⟨Nat.le_of_ble_eq_true rfl, Nat.le_of_ble_eq_true rfl⟩) hP hD hS hA [0, 1, 2, 3, 4, 6] [5, 7] [2, 3, 4, 5, 6, 0, 7, 1] rfl rfl (by decide) (by decide) (by decide) (fun _ => rfl) (fun u196 H locs h196 hP hD hS => ?_)
              subst h196
              have hP : va_P (gD G) classes [o_Mod rM wd ht rP rk rG rW rK kd db ew ac dn pr nu de rE rst wr rd rev rod ((it (lsB (lmI wd (2 ^ (db + ew).toNat)) (lmI ht (2 ^ db.toNat)) db ew ac dn s0) 0 (nBd db ew) (0, gp7, gb7)).1) rp rb (sBy nu de s0) (sBy nu de (s0 + 1) - sBy nu de s0) (ldI nu de s0) (rmI nu de s0) ((rmA g4 nu de pr es s0 (it (lsB (lmI wd (2 ^ (db + ew).toNat)) (lmI ht (2 ^ db.toNat)) db ew ac dn s0) 0 (nBd db ew) (0, gp7, gb7)) gvF).2.1) (5 + ldI nu de s0 + lnM g4 nu de s0) ((rmA g4 nu de pr es s0 (it (lsB (lmI wd (2 ^ (db + ew).toNat)) (lmI ht (2 ^ db.toNat)) db ew ac dn s0) 0 (nBd db ew) (0, gp7, gb7)) gvF).1) rbl slF uzF, (rp, ai (gI G) 256 ((it (lsB (lmI wd (2 ^ (db + ew).toNat)) (lmI ht (2 ^ db.toNat)) db ew ac dn s0) 0 (nBd db ew) (0, gp7, gb7)).2.1)), (rb, ai (gI G) 256 ((it (lsB (lmI wd (2 ^ (db + ew).toNat)) (lmI ht (2 ^ db.toNat)) db ew ac dn s0) 0 (nBd db ew) (0, gp7, gb7)).2.2)), (rst, ai (gB G) 2048 (g4)), (rE, ai (gI G) 8 (es)), (rG, al (gL G) 256 (gg)), (rW, al (gL G) 256 ((rmA g4 nu de pr es s0 (it (lsB (lmI wd (2 ^ (db + ew).toNat)) (lmI ht (2 ^ db.toNat)) db ew ac dn s0) 0 (nBd db ew) (0, gp7, gb7)) gvF).2.2)), (rbl, ai (gB G) 1024 (bkF))] H := hP
              have hD : va_D A [o_Mod rM wd ht rP rk rG rW rK kd db ew ac dn pr nu de rE rst wr rd rev rod ((it (lsB (lmI wd (2 ^ (db + ew).toNat)) (lmI ht (2 ^ db.toNat)) db ew ac dn s0) 0 (nBd db ew) (0, gp7, gb7)).1) rp rb (sBy nu de s0) (sBy nu de (s0 + 1) - sBy nu de s0) (ldI nu de s0) (rmI nu de s0) ((rmA g4 nu de pr es s0 (it (lsB (lmI wd (2 ^ (db + ew).toNat)) (lmI ht (2 ^ db.toNat)) db ew ac dn s0) 0 (nBd db ew) (0, gp7, gb7)) gvF).2.1) (5 + ldI nu de s0 + lnM g4 nu de s0) ((rmA g4 nu de pr es s0 (it (lsB (lmI wd (2 ^ (db + ew).toNat)) (lmI ht (2 ^ db.toNat)) db ew ac dn s0) 0 (nBd db ew) (0, gp7, gb7)) gvF).1) rbl slF uzF, (rp, ai (gI G) 256 ((it (lsB (lmI wd (2 ^ (db + ew).toNat)) (lmI ht (2 ^ db.toNat)) db ew ac dn s0) 0 (nBd db ew) (0, gp7, gb7)).2.1)), (rb, ai (gI G) 256 ((it (lsB (lmI wd (2 ^ (db + ew).toNat)) (lmI ht (2 ^ db.toNat)) db ew ac dn s0) 0 (nBd db ew) (0, gp7, gb7)).2.2)), (rst, ai (gB G) 2048 (g4)), (rE, ai (gI G) 8 (es)), (rG, al (gL G) 256 (gg)), (rW, al (gL G) 256 ((rmA g4 nu de pr es s0 (it (lsB (lmI wd (2 ^ (db + ew).toNat)) (lmI ht (2 ^ db.toNat)) db ew ac dn s0) 0 (nBd db ew) (0, gp7, gb7)) gvF).2.2)), (rbl, ai (gB G) 1024 (bkF))] := hD
              exact k_vret hx hb hr hlk hQ (((it (lsB (lmI wd (2 ^ (db + ew).toNat)) (lmI ht (2 ^ db.toNat)) db ew ac dn s0) 0 (nBd db ew) (0, gp7, gb7)).1, (it (lsB (lmI wd (2 ^ (db + ew).toNat)) (lmI ht (2 ^ db.toNat)) db ew ac dn s0) 0 (nBd db ew) (0, gp7, gb7)).2.1, (it (lsB (lmI wd (2 ^ (db + ew).toNat)) (lmI ht (2 ^ db.toNat)) db ew ac dn s0) 0 (nBd db ew) (0, gp7, gb7)).2.2, sBy nu de s0, sBy nu de (s0 + 1) - sBy nu de s0, ldI nu de s0, rmI nu de s0, (rmA g4 nu de pr es s0 (it (lsB (lmI wd (2 ^ (db + ew).toNat)) (lmI ht (2 ^ db.toNat)) db ew ac dn s0) 0 (nBd db ew) (0, gp7, gb7)) gvF).2.1, 5 + ldI nu de s0 + lnM g4 nu de s0, (rmA g4 nu de pr es s0 (it (lsB (lmI wd (2 ^ (db + ew).toNat)) (lmI ht (2 ^ db.toNat)) db ew ac dn s0) 0 (nBd db ew) (0, gp7, gb7)) gvF).1, (rmA g4 nu de pr es s0 (it (lsB (lmI wd (2 ^ (db + ew).toNat)) (lmI ht (2 ^ db.toNat)) db ew ac dn s0) 0 (nBd db ew) (0, gp7, gb7)) gvF).2.2, slF, uzF, bkF, g4)) (⟨by show (g4, (rmA g4 nu de pr es s0 (it (lsB (lmI wd (2 ^ (db + ew).toNat)) (lmI ht (2 ^ db.toNat)) db ew ac dn s0) 0 (nBd db ew) (0, gp7, gb7)) gvF).2.2, bkF, (it (lsB (lmI wd (2 ^ (db + ew).toNat)) (lmI ht (2 ^ db.toNat)) db ew ac dn s0) 0 (nBd db ew) (0, gp7, gb7)).2.1, (it (lsB (lmI wd (2 ^ (db + ew).toNat)) (lmI ht (2 ^ db.toNat)) db ew ac dn s0) 0 (nBd db ew) (0, gp7, gb7)).2.2) = _; unfold wmf; dsimp only; rw [← h7, show wmS nu de pr es (cn7, gp7, gb7) gg s0 bk gv = (qF, ((slF, uzF, bkF), gvF)) from hF]; dsimp only; rw [← hn3, ← hG], hr4, rmA_b hvF, hbF⟩) hP hD hS d_Mod_write_199
            · refine lv_aload_n hx hb d_Mod_write_168 rfl (lv_at hl 0 rfl) ?_
              refine lv_iconst (v := iv (5)) hx hb d_Mod_write_169 rfl ?_
              refine lv_aload_n hx hb d_Mod_write_170 rfl (lv_at hl 0 rfl) ?_
              refine va_get (D := gD G) (ci := 7) (v := .int (iv (ldI nu de s0))) (C := R_Mod) (T := F_Mod) (N := 34) hx hb hw in_Mod hown hK hP 0 rfl rfl 26 (by decide) (hw _ m3_150) (fun _ h => h) rfl d_Mod_write_171 ?_
              refine k_iadd hx hb d_Mod_write_174 ?_
              refine lv_iload hx hb d_Mod_write_175 (lv_at hl 4 rfl) ?_
              refine k_iadd hx hb d_Mod_write_177 ?_
              refine lv_aload_n hx hb d_Mod_write_178 rfl (lv_at hl 0 rfl) ?_
              refine va_get (D := gD G) (ci := 7) (v := .ref rbl) (C := R_Mod) (T := F_Mod) (N := 34) hx hb hw in_Mod hown hK hP 0 rfl rfl 31 (by decide) (hw _ m3_155) (fun _ h => h) rfl d_Mod_write_179 ?_
              refine lv_iload hx hb d_Mod_write_182 (lv_at hl 4 rfl) ?_
              refine k_bal hx hb hK hP 7 2 rfl rfl (by decide) (by omega) d_Mod_write_184 ?_
              refine k_cv (wz := fun u : Int → Int => [o_Mod rM wd ht rP rk rG rW rK kd db ew ac dn pr nu de rE rst wr rd rev rod cn7 rp rb (sBy nu de s0) (sBy nu de (s0 + 1) - sBy nu de s0) (ldI nu de s0) (rmI nu de s0) cu sp nz rbl slF uzF, (rp, ai (gI G) 256 (gp7)), (rb, ai (gI G) 256 (gb7)), (rst, ai (gB G) 2048 (u)), (rE, ai (gI G) 8 (es)), (rG, al (gL G) 256 (gg)), (rW, al (gL G) 256 (gvF)), (rbl, ai (gB G) 1024 (bkF))]) (wr := [(rp, ai (gI G) 256 (gp7)), (rb, ai (gI G) 256 (gb7)), (rE, ai (gI G) 8 (es)), (rG, al (gL G) 256 (gg)), (rW, al (gL G) 256 (gvF)), (rbl, ai (gB G) 1024 (bkF))]) (k_rv S (c_Mod_putBit l G _ rM rP rk rG rW rK rE rst rev rod rp rb rbl ((5 + (ldI nu de s0)) + i4) (bkF i4) wd ht kd db ew ac dn pr nu de wr rd cn7 (sBy nu de s0) (sBy nu de (s0 + 1) - sBy nu de s0) (ldI nu de s0) (rmI nu de s0) cu sp nz slF uzF g4 hr4 (by omega) (hbF i4) (by omega)) 2 m4_175 m4_172 m4_174 mp_44 m1_9 (by decide +kernel) (by decide) rfl rfl (k_preV (q0 := 0) hK hP hD hS hA hT rfl rfl [0, 3] (by decide) rfl) rfl hl.1 rfl (Nat.le_of_ble_eq_true rfl) d_Mod_write_185 ⟨Nat.le_of_ble_eq_true rfl, Nat.le_of_ble_eq_true rfl⟩) hP hD hS hA [0, 3] [1, 2, 4, 5, 6, 7] [6, 0, 1, 7, 2, 3, 4, 5] rfl rfl (by decide) (by decide) (by decide) (fun _ => rfl) (fun u185 H locs h185 hP hD hS => ?_)
              subst h185
              have hP : va_P (gD G) classes [o_Mod rM wd ht rP rk rG rW rK kd db ew ac dn pr nu de rE rst wr rd rev rod cn7 rp rb (sBy nu de s0) (sBy nu de (s0 + 1) - sBy nu de s0) (ldI nu de s0) (rmI nu de s0) cu sp nz rbl slF uzF, (rp, ai (gI G) 256 (gp7)), (rb, ai (gI G) 256 (gb7)), (rst, ai (gB G) 2048 (pbM (sBy nu de s0) g4 ((5 + (ldI nu de s0)) + i4) (bkF i4))), (rE, ai (gI G) 8 (es)), (rG, al (gL G) 256 (gg)), (rW, al (gL G) 256 (gvF)), (rbl, ai (gB G) 1024 (bkF))] H := hP
              have hD : va_D A [o_Mod rM wd ht rP rk rG rW rK kd db ew ac dn pr nu de rE rst wr rd rev rod cn7 rp rb (sBy nu de s0) (sBy nu de (s0 + 1) - sBy nu de s0) (ldI nu de s0) (rmI nu de s0) cu sp nz rbl slF uzF, (rp, ai (gI G) 256 (gp7)), (rb, ai (gI G) 256 (gb7)), (rst, ai (gB G) 2048 (pbM (sBy nu de s0) g4 ((5 + (ldI nu de s0)) + i4) (bkF i4))), (rE, ai (gI G) 8 (es)), (rG, al (gL G) 256 (gg)), (rW, al (gL G) 256 (gvF)), (rbl, ai (gB G) 1024 (bkF))] := hD
              refine lv_iinc (k := 4) (v := iv (i4 + 1)) hx hb d_Mod_write_188 hl rfl (iv_add _ _) (by decide) rfl (fun ls hl => ?_)
              have hl : lv_has ls 5 [(4, .int (iv (i4 + 1))), (0, .ref rM), (1, .int (iv (s0))), (2, .int (iv (qF))), (3, .int (iv (n3)))] := hl
              refine lv_goto (tgt := 162) hx hb d_Mod_write_191 (by decide) ?_
              exact ihi4 (by omega) _ _ _ (pbM (sBy nu de s0) g4 ((5 + (ldI nu de s0)) + i4) (bkF i4)) (lv_sub hl [1, 2, 3, 4, 0] rfl) hP hD hS (by rw [it_s _ _ hii4, ← hz4]) (pbM_r hr4)
          · refine lv_aload_n hx hb d_Mod_write_132 rfl (lv_at hl 0 rfl) ?_
            refine lv_iconst (v := iv (5)) hx hb d_Mod_write_133 rfl ?_
            refine lv_iload hx hb d_Mod_write_134 (lv_at hl 4 rfl) ?_
            refine k_iadd hx hb d_Mod_write_136 ?_
            refine lv_iload_n hx hb d_Mod_write_137 rfl (lv_at hl 3 rfl) ?_
            refine lv_aload_n hx hb d_Mod_write_138 rfl (lv_at hl 0 rfl) ?_
            refine va_get (D := gD G) (ci := 7) (v := .int (iv (ldI nu de s0))) (C := R_Mod) (T := F_Mod) (N := 34) hx hb hw in_Mod hown hK hP 0 rfl rfl 26 (by decide) (hw _ m3_150) (fun _ h => h) rfl d_Mod_write_139 ?_
            refine lv_iconst (v := iv (1)) hx hb d_Mod_write_142 rfl ?_
            refine k_isub hx hb d_Mod_write_143 ?_
            refine lv_iload hx hb d_Mod_write_144 (lv_at hl 4 rfl) ?_
            refine k_isub hx hb d_Mod_write_146 ?_
            refine k_ishr hx hb d_Mod_write_147 (by omega) (by omega) ?_
            refine lv_iconst (v := iv (1)) hx hb d_Mod_write_148 rfl ?_
            refine k_iandc 1 2 rfl (by decide) rfl hx hb d_Mod_write_149 ?_
            refine k_cv (wz := fun u : Int → Int => [o_Mod rM wd ht rP rk rG rW rK kd db ew ac dn pr nu de rE rst wr rd rev rod cn7 rp rb (sBy nu de s0) (sBy nu de (s0 + 1) - sBy nu de s0) (ldI nu de s0) (rmI nu de s0) cu sp nz rbl slF uzF, (rp, ai (gI G) 256 (gp7)), (rb, ai (gI G) 256 (gb7)), (rst, ai (gB G) 2048 (u)), (rE, ai (gI G) 8 (es)), (rG, al (gL G) 256 (gg)), (rW, al (gL G) 256 (gvF)), (rbl, ai (gB G) 1024 (bkF))]) (wr := [(rp, ai (gI G) 256 (gp7)), (rb, ai (gI G) 256 (gb7)), (rE, ai (gI G) 8 (es)), (rG, al (gL G) 256 (gg)), (rW, al (gL G) 256 (gvF)), (rbl, ai (gB G) 1024 (bkF))]) (k_rv S (c_Mod_putBit l G _ rM rP rk rG rW rK rE rst rev rod rp rb rbl (5 + i3) ((n3 / 2 ^ (((ldI nu de s0) - 1) - i3).toNat) % 2) wd ht kd db ew ac dn pr nu de wr rd cn7 (sBy nu de s0) (sBy nu de (s0 + 1) - sBy nu de s0) (ldI nu de s0) (rmI nu de s0) cu sp nz slF uzF g3 hr3 (by omega) (m2_01 _) (by omega)) 2 m4_175 m4_172 m4_174 mp_44 m1_9 (by decide +kernel) (by decide) rfl rfl (k_preV (q0 := 0) hK hP hD hS hA hT rfl rfl [0, 3] (by decide) rfl) rfl hl.1 rfl (Nat.le_of_ble_eq_true rfl) d_Mod_write_150 ⟨Nat.le_of_ble_eq_true rfl, Nat.le_of_ble_eq_true rfl⟩) hP hD hS hA [0, 3] [1, 2, 4, 5, 6, 7] [6, 0, 1, 7, 2, 3, 4, 5] rfl rfl (by decide) (by decide) (by decide) (fun _ => rfl) (fun u150 H locs h150 hP hD hS => ?_)
            subst h150
            have hP : va_P (gD G) classes [o_Mod rM wd ht rP rk rG rW rK kd db ew ac dn pr nu de rE rst wr rd rev rod cn7 rp rb (sBy nu de s0) (sBy nu de (s0 + 1) - sBy nu de s0) (ldI nu de s0) (rmI nu de s0) cu sp nz rbl slF uzF, (rp, ai (gI G) 256 (gp7)), (rb, ai (gI G) 256 (gb7)), (rst, ai (gB G) 2048 (pbM (sBy nu de s0) g3 (5 + i3) ((n3 / 2 ^ (((ldI nu de s0) - 1) - i3).toNat) % 2))), (rE, ai (gI G) 8 (es)), (rG, al (gL G) 256 (gg)), (rW, al (gL G) 256 (gvF)), (rbl, ai (gB G) 1024 (bkF))] H := hP
            have hD : va_D A [o_Mod rM wd ht rP rk rG rW rK kd db ew ac dn pr nu de rE rst wr rd rev rod cn7 rp rb (sBy nu de s0) (sBy nu de (s0 + 1) - sBy nu de s0) (ldI nu de s0) (rmI nu de s0) cu sp nz rbl slF uzF, (rp, ai (gI G) 256 (gp7)), (rb, ai (gI G) 256 (gb7)), (rst, ai (gB G) 2048 (pbM (sBy nu de s0) g3 (5 + i3) ((n3 / 2 ^ (((ldI nu de s0) - 1) - i3).toNat) % 2))), (rE, ai (gI G) 8 (es)), (rG, al (gL G) 256 (gg)), (rW, al (gL G) 256 (gvF)), (rbl, ai (gB G) 1024 (bkF))] := hD
            refine lv_iinc (k := 4) (v := iv (i3 + 1)) hx hb d_Mod_write_153 hl rfl (iv_add _ _) (by decide) rfl (fun ls hl => ?_)
            have hl : lv_has ls 5 [(4, .int (iv (i3 + 1))), (0, .ref rM), (1, .int (iv (s0))), (2, .int (iv (qF))), (3, .int (iv (n3)))] := hl
            refine lv_goto (tgt := 123) hx hb d_Mod_write_156 (by decide) ?_
            exact ihi3 (by omega) _ _ _ (pbM (sBy nu de s0) g3 (5 + i3) ((n3 / 2 ^ (((ldI nu de s0) - 1) - i3).toNat) % 2)) (lv_sub hl [1, 2, 3, 4, 0] rfl) hP hD hS (by rw [it_s _ _ hii3, ← hz3]) (pbM_r hr3)
        · refine lv_aload_n hx hb d_Mod_write_100 rfl (lv_at hl 0 rfl) ?_
          refine lv_iload hx hb d_Mod_write_101 (lv_at hl 4 rfl) ?_
          refine lv_iload_n hx hb d_Mod_write_103 rfl (lv_at hl 2 rfl) ?_
          refine lv_iconst (v := iv (4)) hx hb d_Mod_write_104 rfl ?_
          refine lv_iload hx hb d_Mod_write_105 (lv_at hl 4 rfl) ?_
          refine k_isub hx hb d_Mod_write_107 ?_
          refine k_ishr hx hb d_Mod_write_108 (by omega) (by omega) ?_
          refine lv_iconst (v := iv (1)) hx hb d_Mod_write_109 rfl ?_
          refine k_iandc 1 2 rfl (by decide) rfl hx hb d_Mod_write_110 ?_
          refine k_cv (wz := fun u : Int → Int => [o_Mod rM wd ht rP rk rG rW rK kd db ew ac dn pr nu de rE rst wr rd rev rod cn7 rp rb (sBy nu de s0) (sBy nu de (s0 + 1) - sBy nu de s0) (ldI nu de s0) (rmI nu de s0) cu sp nz rbl slF uzF, (rp, ai (gI G) 256 (gp7)), (rb, ai (gI G) 256 (gb7)), (rst, ai (gB G) 2048 (u)), (rE, ai (gI G) 8 (es)), (rG, al (gL G) 256 (gg)), (rW, al (gL G) 256 (gvF)), (rbl, ai (gB G) 1024 (bkF))]) (wr := [(rp, ai (gI G) 256 (gp7)), (rb, ai (gI G) 256 (gb7)), (rE, ai (gI G) 8 (es)), (rG, al (gL G) 256 (gg)), (rW, al (gL G) 256 (gvF)), (rbl, ai (gB G) 1024 (bkF))]) (k_rv S (c_Mod_putBit l G _ rM rP rk rG rW rK rE rst rev rod rp rb rbl i2 ((qF / 2 ^ (4 - i2).toNat) % 2) wd ht kd db ew ac dn pr nu de wr rd cn7 (sBy nu de s0) (sBy nu de (s0 + 1) - sBy nu de s0) (ldI nu de s0) (rmI nu de s0) cu sp nz slF uzF g2 hr2 (by omega) (m2_01 _) (by omega)) 2 m4_175 m4_172 m4_174 mp_44 m1_9 (by decide +kernel) (by decide) rfl rfl (k_preV (q0 := 0) hK hP hD hS hA hT rfl rfl [0, 3] (by decide) rfl) rfl hl.1 rfl (Nat.le_of_ble_eq_true rfl) d_Mod_write_111 ⟨Nat.le_of_ble_eq_true rfl, Nat.le_of_ble_eq_true rfl⟩) hP hD hS hA [0, 3] [1, 2, 4, 5, 6, 7] [6, 0, 1, 7, 2, 3, 4, 5] rfl rfl (by decide) (by decide) (by decide) (fun _ => rfl) (fun u111 H locs h111 hP hD hS => ?_)
          subst h111
          have hP : va_P (gD G) classes [o_Mod rM wd ht rP rk rG rW rK kd db ew ac dn pr nu de rE rst wr rd rev rod cn7 rp rb (sBy nu de s0) (sBy nu de (s0 + 1) - sBy nu de s0) (ldI nu de s0) (rmI nu de s0) cu sp nz rbl slF uzF, (rp, ai (gI G) 256 (gp7)), (rb, ai (gI G) 256 (gb7)), (rst, ai (gB G) 2048 (pbM (sBy nu de s0) g2 i2 ((qF / 2 ^ (4 - i2).toNat) % 2))), (rE, ai (gI G) 8 (es)), (rG, al (gL G) 256 (gg)), (rW, al (gL G) 256 (gvF)), (rbl, ai (gB G) 1024 (bkF))] H := hP
          have hD : va_D A [o_Mod rM wd ht rP rk rG rW rK kd db ew ac dn pr nu de rE rst wr rd rev rod cn7 rp rb (sBy nu de s0) (sBy nu de (s0 + 1) - sBy nu de s0) (ldI nu de s0) (rmI nu de s0) cu sp nz rbl slF uzF, (rp, ai (gI G) 256 (gp7)), (rb, ai (gI G) 256 (gb7)), (rst, ai (gB G) 2048 (pbM (sBy nu de s0) g2 i2 ((qF / 2 ^ (4 - i2).toNat) % 2))), (rE, ai (gI G) 8 (es)), (rG, al (gL G) 256 (gg)), (rW, al (gL G) 256 (gvF)), (rbl, ai (gB G) 1024 (bkF))] := hD
          refine lv_iinc (k := 4) (v := iv (i2 + 1)) hx hb d_Mod_write_114 hl rfl (iv_add _ _) (by decide) rfl (fun ls hl => ?_)
          have hl : lv_has ls 5 [(4, .int (iv (i2 + 1))), (0, .ref rM), (1, .int (iv (s0))), (2, .int (iv (qF))), (3, .int (iv (n3)))] := hl
          refine lv_goto (tgt := 94) hx hb d_Mod_write_117 (by decide) ?_
          exact ihi2 (by omega) _ _ _ (pbM (sBy nu de s0) g2 i2 ((qF / 2 ^ (4 - i2).toNat) % 2)) (lv_sub hl [1, 2, 3, 4, 0] rfl) hP hD hS (by rw [it_s _ _ hii2, ← hz2]) (pbM_r hr2)
      · refine lv_aload_n hx hb d_Mod_write_72 rfl (lv_at hl 0 rfl) ?_
        refine va_get (D := gD G) (ci := 7) (v := .ref rst) (C := R_Mod) (T := F_Mod) (N := 34) hx hb hw in_Mod hown hK hP 0 rfl rfl 16 (by decide) (hw _ m3_140) (fun _ h => h) rfl d_Mod_write_73 ?_
        refine lv_aload_n hx hb d_Mod_write_76 rfl (lv_at hl 0 rfl) ?_
        refine va_get (D := gD G) (ci := 7) (v := .int (iv (sBy nu de s0))) (C := R_Mod) (T := F_Mod) (N := 34) hx hb hw in_Mod hown hK hP 0 rfl rfl 24 (by decide) (hw _ m3_148) (fun _ h => h) rfl d_Mod_write_77 ?_
        refine lv_iload hx hb d_Mod_write_80 (lv_at hl 4 rfl) ?_
        refine k_iadd hx hb d_Mod_write_82 ?_
        refine lv_iconst (v := iv (0)) hx hb d_Mod_write_83 rfl ?_
        refine k_bas hx hb hK hP hD hS 3 2 rfl rfl (by decide) (by omega) d_Mod_write_84 (fun H locs hP hD hS => ?_)
        have hP : va_P (gD G) classes [o_Mod rM wd ht rP rk rG rW rK kd db ew ac dn pr nu de rE rst wr rd rev rod cn7 rp rb (sBy nu de s0) (sBy nu de (s0 + 1) - sBy nu de s0) (ldI nu de s0) (rmI nu de s0) cu sp nz rbl slF uzF, (rp, ai (gI G) 256 (gp7)), (rb, ai (gI G) 256 (gb7)), (rst, ai (gB G) 2048 (up g1 ((sBy nu de s0) + i1) (b8 0))), (rE, ai (gI G) 8 (es)), (rG, al (gL G) 256 (gg)), (rW, al (gL G) 256 (gvF)), (rbl, ai (gB G) 1024 (bkF))] H := hP
        have hD : va_D A [o_Mod rM wd ht rP rk rG rW rK kd db ew ac dn pr nu de rE rst wr rd rev rod cn7 rp rb (sBy nu de s0) (sBy nu de (s0 + 1) - sBy nu de s0) (ldI nu de s0) (rmI nu de s0) cu sp nz rbl slF uzF, (rp, ai (gI G) 256 (gp7)), (rb, ai (gI G) 256 (gb7)), (rst, ai (gB G) 2048 (up g1 ((sBy nu de s0) + i1) (b8 0))), (rE, ai (gI G) 8 (es)), (rG, al (gL G) 256 (gg)), (rW, al (gL G) 256 (gvF)), (rbl, ai (gB G) 1024 (bkF))] := hD
        refine lv_iinc (k := 4) (v := iv (i1 + 1)) hx hb d_Mod_write_85 hl rfl (iv_add _ _) (by decide) rfl (fun ls hl => ?_)
        have hl : lv_has ls 5 [(4, .int (iv (i1 + 1))), (0, .ref rM), (1, .int (iv (s0))), (2, .int (iv (qF))), (3, .int (iv (n3)))] := hl
        refine lv_goto (tgt := 63) hx hb d_Mod_write_88 (by decide) ?_
        exact ihi1 (by omega) _ _ _ (up g1 ((sBy nu de s0) + i1) (b8 0)) (lv_sub hl [1, 2, 3, 4, 0] rfl) hP hD hS (by rw [it_s _ _ hii1, ← hz1]) (fun j => up_r hr1 (b8_r 0) j)
    refine va_get (D := gD G) (ci := 7) (v := .int (iv (uzF))) (C := R_Mod) (T := F_Mod) (N := 34) hx hb hw in_Mod hown hK hP 0 rfl rfl 33 (by decide) (hw _ m3_157) (fun _ h => h) rfl d_Mod_write_38 ?_
    refine lv_aload_n hx hb d_Mod_write_41 rfl (lv_at hl 0 rfl) ?_
    refine va_get (D := gD G) (ci := 7) (v := .int (iv (rmI nu de s0))) (C := R_Mod) (T := F_Mod) (N := 34) hx hb hw in_Mod hown hK hP 0 rfl rfl 27 (by decide) (hw _ m3_151) (fun _ h => h) rfl d_Mod_write_42 ?_
    refine k_icmp_le (tgt := 55) hx hb d_Mod_write_45 (by decide) (by omega) (by omega) (fun hc45 => ?_) (fun hc45 => ?_)
    · refine lv_aload_n hx hb d_Mod_write_55 rfl (lv_at hl 0 rfl) ?_
      refine va_get (D := gD G) (ci := 7) (v := .int (iv (uzF))) (C := R_Mod) (T := F_Mod) (N := 34) hx hb hw in_Mod hown hK hP 0 rfl rfl 33 (by decide) (hw _ m3_157) (fun _ h => h) rfl d_Mod_write_56 ?_
      refine lv_istore_n hx hb d_Mod_write_59 rfl hl (by decide) rfl (fun ls hl => ?_)
      have hl : lv_has ls 5 [(3, .int (iv (uzF))), (0, .ref rM), (1, .int (iv (s0))), (2, .int (iv (qF)))] := hl
      exact hm60 _ _ _ uzF (lv_sub hl [1, 2, 3, 0] rfl) hP hD hS (by omega)
    · refine lv_aload_n hx hb d_Mod_write_48 rfl (lv_at hl 0 rfl) ?_
      refine va_get (D := gD G) (ci := 7) (v := .int (iv (rmI nu de s0))) (C := R_Mod) (T := F_Mod) (N := 34) hx hb hw in_Mod hown hK hP 0 rfl rfl 27 (by decide) (hw _ m3_151) (fun _ h => h) rfl d_Mod_write_49 ?_
      refine lv_goto (tgt := 59) hx hb d_Mod_write_52 (by decide) ?_
      refine lv_istore_n hx hb d_Mod_write_59 rfl hl (by decide) rfl (fun ls hl => ?_)
      have hl : lv_has ls 5 [(3, .int (iv (rmI nu de s0))), (0, .ref rM), (1, .int (iv (s0))), (2, .int (iv (qF)))] := hl
      exact hm60 _ _ _ (rmI nu de s0) (lv_sub hl [1, 2, 3, 0] rfl) hP hD hS (by omega)
  refine lo_up (P := fun i => ∀ (ls : Array Slot) (H : Heap) (locs : List Loc) (sl1 : Int) (uz1 : Int) (bk1 : Int → Int) (gv1 : Int → Int64), lv_has ls 5 [(0, .ref rM), (1, .int (iv (s0))), (2, .int (iv (i)))] → va_P (gD G) classes [o_Mod rM wd ht rP rk rG rW rK kd db ew ac dn pr nu de rE rst wr rd rev rod cn7 rp rb (sBy nu de s0) (sBy nu de (s0 + 1) - sBy nu de s0) (ldI nu de s0) (rmI nu de s0) cu sp nz rbl sl1 uz1, (rp, ai (gI G) 256 (gp7)), (rb, ai (gI G) 256 (gb7)), (rst, ai (gB G) 2048 (g)), (rE, ai (gI G) 8 (es)), (rG, al (gL G) 256 (gg)), (rW, al (gL G) 256 (gv1)), (rbl, ai (gB G) 1024 (bk1))] H → va_D A [o_Mod rM wd ht rP rk rG rW rK kd db ew ac dn pr nu de rE rst wr rd rev rod cn7 rp rb (sBy nu de s0) (sBy nu de (s0 + 1) - sBy nu de s0) (ldI nu de s0) (rmI nu de s0) cu sp nz rbl sl1 uz1, (rp, ai (gI G) 256 (gp7)), (rb, ai (gI G) 256 (gb7)), (rst, ai (gB G) 2048 (g)), (rE, ai (gI G) 8 (es)), (rG, al (gL G) 256 (gg)), (rW, al (gL G) 256 (gv1)), (rbl, ai (gB G) 1024 (bk1))] → va_S A s.heap H locs → (wmq (spL4 pr es (cn7, gp7, gb7) gg) (rmI nu de s0) (31 - (i + 1)).toNat (i + 1) (spL4 pr es (cn7, gp7, gb7) gg (i + 1) bk1 gv1) = wmq (spL4 pr es (cn7, gp7, gb7) gg) (rmI nu de s0) 31 0 (spL4 pr es (cn7, gp7, gb7) gg 0 bk gv)) → (bits bk1) → (∀ j, bd 134217728 (gv1 j)) → (i ≤ 30) → W p l e r_Mod_write s m args below meth c H locs 0 0 Q (F0 m 12 ls [])) (a := -1) (b := 31) (fun i hii hji ihi => ?_) _ _ _ sl uz bk gv (lv_sub hl [1, 2, 0] rfl) hP hD hS rfl hbk hgv (by omega)
  intro ls H locs sl1 uz1 bk1 gv1 hl hP hD hS hs hb1 hv1 hi31
  refine lv_iinc (k := 2) (v := iv (i + 1)) hx hb d_Mod_write_12 hl rfl (iv_add _ _) (by decide) rfl (fun ls hl => ?_)
  have hl : lv_has ls 5 [(2, .int (iv (i + 1))), (0, .ref rM), (1, .int (iv (s0)))] := hl
  refine lv_aload_n hx hb d_Mod_write_15 rfl (lv_at hl 1 rfl) ?_
  refine lv_iload_n hx hb d_Mod_write_16 rfl (lv_at hl 0 rfl) ?_
  refine k_cv (wz := fun u : Int × Int × (Int → Int) × (Int → Int64) => [o_Mod rM wd ht rP rk rG rW rK kd db ew ac dn pr nu de rE rst wr rd rev rod cn7 rp rb (sBy nu de s0) (sBy nu de (s0 + 1) - sBy nu de s0) (ldI nu de s0) (rmI nu de s0) cu sp nz rbl u.1 u.2.1, (rp, ai (gI G) 256 (gp7)), (rb, ai (gI G) 256 (gb7)), (rst, ai (gB G) 2048 (g)), (rE, ai (gI G) 8 (es)), (rG, al (gL G) 256 (gg)), (rW, al (gL G) 256 (u.2.2.2)), (rbl, ai (gB G) 1024 (u.2.2.1))]) (wr := [(rst, ai (gB G) 2048 (g))]) (k_rv S (c_Mod_spell l G _ rM rP rk rG rW rK rE rst rev rod rp rb rbl (i + 1) wd ht kd db ew ac dn pr nu de wr rd cn7 (sBy nu de s0) (sBy nu de (s0 + 1) - sBy nu de s0) (ldI nu de s0) (rmI nu de s0) cu sp nz sl1 uz1 gp7 gb7 es bk1 gg gv1 (by omega) (by omega) k3 hes hpr k4 hv1) 1 m4_129 m4_126 m4_128 mp_39 m1_9 (by decide +kernel) (by decide) rfl rfl (k_preV (q0 := 0) hK hP hD hS hA hT rfl rfl [0, 1, 2, 4, 5, 6, 7] (by decide) rfl) rfl hl.1 rfl (Nat.le_of_ble_eq_true rfl) d_Mod_write_17 ⟨Nat.le_of_ble_eq_true rfl, Nat.le_of_ble_eq_true rfl⟩) hP hD hS hA [0, 1, 2, 4, 5, 6, 7] [3] [1, 2, 3, 0, 4, 5, 6, 7] rfl rfl (by decide) (by decide) (by decide) (fun _ => rfl) (fun u17 H locs h17 hP hD hS => ?_)
  obtain ⟨sl17, uz17, bk17, gv17⟩ := u17
  have hP : va_P (gD G) classes [o_Mod rM wd ht rP rk rG rW rK kd db ew ac dn pr nu de rE rst wr rd rev rod cn7 rp rb (sBy nu de s0) (sBy nu de (s0 + 1) - sBy nu de s0) (ldI nu de s0) (rmI nu de s0) cu sp nz rbl sl17 uz17, (rp, ai (gI G) 256 (gp7)), (rb, ai (gI G) 256 (gb7)), (rst, ai (gB G) 2048 (g)), (rE, ai (gI G) 8 (es)), (rG, al (gL G) 256 (gg)), (rW, al (gL G) 256 (gv17)), (rbl, ai (gB G) 1024 (bk17))] H := hP
  have hD : va_D A [o_Mod rM wd ht rP rk rG rW rK kd db ew ac dn pr nu de rE rst wr rd rev rod cn7 rp rb (sBy nu de s0) (sBy nu de (s0 + 1) - sBy nu de s0) (ldI nu de s0) (rmI nu de s0) cu sp nz rbl sl17 uz17, (rp, ai (gI G) 256 (gp7)), (rb, ai (gI G) 256 (gb7)), (rst, ai (gB G) 2048 (g)), (rE, ai (gI G) 8 (es)), (rG, al (gL G) 256 (gg)), (rW, al (gL G) 256 (gv17)), (rbl, ai (gB G) 1024 (bk17))] := hD
  try dsimp only at h17
  simp only [Prod.mk.injEq] at h17
  obtain ⟨a1, a2, a3, a4⟩ := h17
  have e17 : spL4 pr es (cn7, gp7, gb7) gg (i + 1) bk1 gv1 = ((sl17, uz17, bk17), gv17) := by subst a1; subst a2; subst a3; subst a4; rfl
  rw [e17] at hs
  have kr := spS_r (pr := pr) (es := es) (gb := gb7) (gp := gp7) (cf := gg) (v := gv1) (cn := cn7) (q := i + 1) (bk := bk1) ⟨k0, k2⟩ k3 hes (by omega) k4 hv1 hb1
  have kr2 : spI (spL4 pr es (cn7, gp7, gb7) gg (i + 1) bk1 gv1).1 ∧ (spL4 pr es (cn7, gp7, gb7) gg (i + 1) bk1 gv1).1.1 ≤ 16384 ∧ ∀ j, bd 134217728 ((spL4 pr es (cn7, gp7, gb7) gg (i + 1) bk1 gv1).2 j) := kr
  rw [e17] at kr2
  have kr3 : 0 ≤ uz17 ∧ uz17 ≤ sl17 := kr2.1.2
  have kr4 : sl17 ≤ 16384 := kr2.2.1
  refine lv_iload_n hx hb d_Mod_write_20 rfl (lv_at hl 0 rfl) ?_
  refine lv_bipush (v := iv (31)) hx hb d_Mod_write_21 rfl ?_
  refine k_icmp_ge (tgt := 37) hx hb d_Mod_write_23 (by decide) (by omega) (by omega) (fun hc23 => ?_) (fun hc23 => ?_)
  · exact hm37 _ _ _ (i + 1) sl17 uz17 bk17 gv17 (lv_sub hl [1, 2, 0] rfl) hP hD hS (by rw [← hs]; first | exact wmq_s (by show uz17 ≤ _; omega) | exact wmq_0 (by omega)) kr2.1.1 kr2.2.2 (by omega)
  · refine lv_aload_n hx hb d_Mod_write_26 rfl (lv_at hl 1 rfl) ?_
    refine va_get (D := gD G) (ci := 7) (v := .int (iv (uz17))) (C := R_Mod) (T := F_Mod) (N := 34) hx hb hw in_Mod hown hK hP 0 rfl rfl 33 (by decide) (hw _ m3_157) (fun _ h => h) rfl d_Mod_write_27 ?_
    refine lv_aload_n hx hb d_Mod_write_30 rfl (lv_at hl 1 rfl) ?_
    refine va_get (D := gD G) (ci := 7) (v := .int (iv (rmI nu de s0))) (C := R_Mod) (T := F_Mod) (N := 34) hx hb hw in_Mod hown hK hP 0 rfl rfl 27 (by decide) (hw _ m3_151) (fun _ h => h) rfl d_Mod_write_31 ?_
    refine k_icmp_gt (tgt := 12) hx hb d_Mod_write_34 (by decide) (by omega) (by omega) (fun hc34 => ?_) (fun hc34 => ?_)
    · exact ihi (by omega) _ _ _ sl17 uz17 bk17 gv17 (lv_sub hl [1, 2, 0] rfl) hP hD hS (by rw [← hs, wmq_g (k := (31 - (i + 1)).toNat) (j := (31 - (i + 1 + 1)).toNat) (by omega) (by show ¬ uz17 ≤ _; omega)]) kr2.1.1 kr2.2.2 (by omega)
    · exact hm37 _ _ _ (i + 1) sl17 uz17 bk17 gv17 (lv_sub hl [1, 2, 0] rfl) hP hD hS (by rw [← hs]; first | exact wmq_s (by show uz17 ≤ _; omega) | exact wmq_0 (by omega)) kr2.1.1 kr2.2.2 (by omega)
abbrev w_Mod_encode : List Cond := Cond.code y_Mod_encode prog_9_method_49_code 2 (some .int) :: wl
abbrev r_Mod_encode : Room := { frames := 6, cells := 0, slots := 0, locals := 167 }
set_option maxHeartbeats 4000000 in
set_option maxRecDepth 100000 in
theorem c_Mod_encode (l : Launch) (G : k_G) (sz : Nat) (rM rP rk rG rW rK rE rst rev rod rp rb rbl : Nat) (wd ht kd db ew ac dn pr nu de wr rd cn ba sz1 lb rm cu sp nz sl uz : Int) (pic gp gb g es bk : Int → Int) (gg ge go gv : Int → Int64) (hde : 0 ≤ db ∧ db ≤ 2 ∧ 0 ≤ ew ∧ ew ≤ 2 ∧ db + ew ≤ 3) (hwd : 1 ≤ wd ∧ wd ≤ 16) (hht : 1 ≤ ht ∧ ht ≤ 16) (hac : 1 ≤ ac ∧ ac ≤ 4) (hdn : 1 ≤ dn ∧ dn ≤ 4) (hok : okR nu de) (hkd : 0 ≤ kd ∧ kd ≤ 6) (hpic : ∀ j, -128 ≤ pic j ∧ pic j ≤ 127) (hg : ∀ j, -128 ≤ g j ∧ g j ≤ 127) (hes : ∀ b, 0 ≤ b → b < 8 → 0 ≤ es b ∧ es b ≤ 15) (hpr : pr = 0 ∨ pr = 1) (hgv : ∀ j, bd 134217728 (gv j)) (hbk : bits bk) (hcf : ∀ s, 0 ≤ s → s < ac * dn → ∀ i, 0 ≤ i → i < (lsS (lmI wd (2 ^ (db + ew).toNat)) (lmI ht (2 ^ db.toNat)) db ew ac dn s).1 → bd 576460752303423488 ((fmW (lmI wd (2 ^ (db + ew).toNat)) (lmI ht (2 ^ db.toNat)) db ew kd (fmA wd ht (lmI wd (2 ^ (db + ew).toNat)) (lmI ht (2 ^ db.toNat)) pic gg, ge, go)).1 ((lsS (lmI wd (2 ^ (db + ew).toNat)) (lmI ht (2 ^ db.toNat)) db ew ac dn s).2.1 i))) : Met l y_Mod_encode w_Mod_encode r_Mod_encode (k_P G [.ref rM] [o_Mod rM wd ht rP rk rG rW rK kd db ew ac dn pr nu de rE rst wr rd rev rod cn rp rb ba sz1 lb rm cu sp nz rbl sl uz, (rG, al (gL G) 256 (gg)), (rev, al (gL G) 8 (ge)), (rod, al (gL G) 8 (go)), (rP, ai (gI G) 256 (pic)), (rp, ai (gI G) 256 (gp)), (rb, ai (gI G) 256 (gb)), (rst, ai (gB G) 2048 (g)), (rE, ai (gI G) 8 (es)), (rW, al (gL G) 256 (gv)), (rbl, ai (gB G) 1024 (bk))] sz) (qi G (fun (r : Int32) (u : Int × (Int → Int64) × (Int → Int64) × (Int → Int64) × Int × (Int → Int) × (Int → Int) × Int × Int × Int × Int × Int × Int × Int × (Int → Int64) × Int × Int × (Int → Int) × (Int → Int) × Int) => r = iv (u.1) ∧ ((u.1 = sBy nu de (ac * dn) ∧ u.2.2.2.2.2.2.2.2.2.2.2.2.2.2.2.2.2.2.2 = 1) ∧ (u.2.2.2.2.2.2.2.2.2.2.2.2.2.2.2.2.2.2.1, u.2.2.2.2.2.2.2.2.2.2.2.2.2.2.1, u.2.2.2.2.2.2.2.2.2.2.2.2.2.2.2.2.2.1, u.2.2.2.2.2.1, u.2.2.2.2.2.2.1) = it (wmf (lmI wd (2 ^ (db + ew).toNat)) (lmI ht (2 ^ db.toNat)) db ew ac dn nu de pr es (fmW (lmI wd (2 ^ (db + ew).toNat)) (lmI ht (2 ^ db.toNat)) db ew kd (fmA wd ht (lmI wd (2 ^ (db + ew).toNat)) (lmI ht (2 ^ db.toNat)) pic gg, ge, go)).1) 0 (ac * dn) (g, gv, bk, gp, gb) ∧ (∀ j, -128 ≤ u.2.2.2.2.2.2.2.2.2.2.2.2.2.2.2.2.2.2.1 j ∧ u.2.2.2.2.2.2.2.2.2.2.2.2.2.2.2.2.2.2.1 j ≤ 127) ∧ (∀ j, bd 134217728 (u.2.2.2.2.2.2.2.2.2.2.2.2.2.2.1 j)) ∧ bits u.2.2.2.2.2.2.2.2.2.2.2.2.2.2.2.2.2.1)) (fun u : Int × (Int → Int64) × (Int → Int64) × (Int → Int64) × Int × (Int → Int) × (Int → Int) × Int × Int × Int × Int × Int × Int × Int × (Int → Int64) × Int × Int × (Int → Int) × (Int → Int) × Int => [o_Mod rM wd ht rP rk rG rW rK kd db ew ac dn pr nu de rE rst u.2.2.2.2.2.2.2.2.2.2.2.2.2.2.2.2.2.2.2 rd rev rod u.2.2.2.2.1 rp rb u.2.2.2.2.2.2.2.1 u.2.2.2.2.2.2.2.2.1 u.2.2.2.2.2.2.2.2.2.1 u.2.2.2.2.2.2.2.2.2.2.1 u.2.2.2.2.2.2.2.2.2.2.2.1 u.2.2.2.2.2.2.2.2.2.2.2.2.1 u.2.2.2.2.2.2.2.2.2.2.2.2.2.1 rbl u.2.2.2.2.2.2.2.2.2.2.2.2.2.2.2.1 u.2.2.2.2.2.2.2.2.2.2.2.2.2.2.2.2.1, (rG, al (gL G) 256 (u.2.1)), (rev, al (gL G) 8 (u.2.2.1)), (rod, al (gL G) 8 (u.2.2.2.1)), (rP, ai (gI G) 256 (pic)), (rp, ai (gI G) 256 (u.2.2.2.2.2.1)), (rb, ai (gI G) 256 (u.2.2.2.2.2.2.1)), (rst, ai (gB G) 2048 (u.2.2.2.2.2.2.2.2.2.2.2.2.2.2.2.2.2.2.1)), (rE, ai (gI G) 8 (es)), (rW, al (gL G) 256 (u.2.2.2.2.2.2.2.2.2.2.2.2.2.2.1)), (rbl, ai (gB G) 1024 (u.2.2.2.2.2.2.2.2.2.2.2.2.2.2.2.2.2.1))]) (va_A [o_Mod rM wd ht rP rk rG rW rK kd db ew ac dn pr nu de rE rst wr rd rev rod cn rp rb ba sz1 lb rm cu sp nz rbl sl uz, (rG, al (gL G) 256 (gg)), (rev, al (gL G) 8 (ge)), (rod, al (gL G) 8 (go)), (rP, ai (gI G) 256 (pic)), (rp, ai (gI G) 256 (gp)), (rb, ai (gI G) 256 (gb)), (rst, ai (gB G) 2048 (g)), (rE, ai (gI G) 8 (es)), (rW, al (gL G) 256 (gv)), (rbl, ai (gB G) 1024 (bk))] sz)) 0 0 (va_A [o_Mod rM wd ht rP rk rG rW rK kd db ew ac dn pr nu de rE rst wr rd rev rod cn rp rb ba sz1 lb rm cu sp nz rbl sl uz, (rG, al (gL G) 256 (gg)), (rev, al (gL G) 8 (ge)), (rod, al (gL G) 8 (go)), (rP, ai (gI G) 256 (pic)), (rp, ai (gI G) 256 (gp)), (rb, ai (gI G) 256 (gb)), (rst, ai (gB G) 2048 (g)), (rE, ai (gI G) 8 (es)), (rW, al (gL G) 256 (gv)), (rbl, ai (gB G) 1024 (bk))] sz) := by
  refine k_met (fun A => qi G (fun (r : Int32) (u : Int × (Int → Int64) × (Int → Int64) × (Int → Int64) × Int × (Int → Int) × (Int → Int) × Int × Int × Int × Int × Int × Int × Int × (Int → Int64) × Int × Int × (Int → Int) × (Int → Int) × Int) => r = iv (u.1) ∧ ((u.1 = sBy nu de (ac * dn) ∧ u.2.2.2.2.2.2.2.2.2.2.2.2.2.2.2.2.2.2.2 = 1) ∧ (u.2.2.2.2.2.2.2.2.2.2.2.2.2.2.2.2.2.2.1, u.2.2.2.2.2.2.2.2.2.2.2.2.2.2.1, u.2.2.2.2.2.2.2.2.2.2.2.2.2.2.2.2.2.1, u.2.2.2.2.2.1, u.2.2.2.2.2.2.1) = it (wmf (lmI wd (2 ^ (db + ew).toNat)) (lmI ht (2 ^ db.toNat)) db ew ac dn nu de pr es (fmW (lmI wd (2 ^ (db + ew).toNat)) (lmI ht (2 ^ db.toNat)) db ew kd (fmA wd ht (lmI wd (2 ^ (db + ew).toNat)) (lmI ht (2 ^ db.toNat)) pic gg, ge, go)).1) 0 (ac * dn) (g, gv, bk, gp, gb) ∧ (∀ j, -128 ≤ u.2.2.2.2.2.2.2.2.2.2.2.2.2.2.2.2.2.2.1 j ∧ u.2.2.2.2.2.2.2.2.2.2.2.2.2.2.2.2.2.2.1 j ≤ 127) ∧ (∀ j, bd 134217728 (u.2.2.2.2.2.2.2.2.2.2.2.2.2.2.1 j)) ∧ bits u.2.2.2.2.2.2.2.2.2.2.2.2.2.2.2.2.2.1)) (fun u : Int × (Int → Int64) × (Int → Int64) × (Int → Int64) × Int × (Int → Int) × (Int → Int) × Int × Int × Int × Int × Int × Int × Int × (Int → Int64) × Int × Int × (Int → Int) × (Int → Int) × Int => [o_Mod rM wd ht rP rk rG rW rK kd db ew ac dn pr nu de rE rst u.2.2.2.2.2.2.2.2.2.2.2.2.2.2.2.2.2.2.2 rd rev rod u.2.2.2.2.1 rp rb u.2.2.2.2.2.2.2.1 u.2.2.2.2.2.2.2.2.1 u.2.2.2.2.2.2.2.2.2.1 u.2.2.2.2.2.2.2.2.2.2.1 u.2.2.2.2.2.2.2.2.2.2.2.1 u.2.2.2.2.2.2.2.2.2.2.2.2.1 u.2.2.2.2.2.2.2.2.2.2.2.2.2.1 rbl u.2.2.2.2.2.2.2.2.2.2.2.2.2.2.2.1 u.2.2.2.2.2.2.2.2.2.2.2.2.2.2.2.2.1, (rG, al (gL G) 256 (u.2.1)), (rev, al (gL G) 8 (u.2.2.1)), (rod, al (gL G) 8 (u.2.2.2.1)), (rP, ai (gI G) 256 (pic)), (rp, ai (gI G) 256 (u.2.2.2.2.2.1)), (rb, ai (gI G) 256 (u.2.2.2.2.2.2.1)), (rst, ai (gB G) 2048 (u.2.2.2.2.2.2.2.2.2.2.2.2.2.2.2.2.2.2.1)), (rE, ai (gI G) 8 (es)), (rW, al (gL G) 256 (u.2.2.2.2.2.2.2.2.2.2.2.2.2.2.1)), (rbl, ai (gB G) 1024 (u.2.2.2.2.2.2.2.2.2.2.2.2.2.2.2.2.2.1))]) A) (fun A => A) (by decide) rfl (Nat.le_of_ble_eq_true rfl) (fun p e s m args below meth c ls A Q S hr hlk hnm hl hsz hP hK hD hS hA hT hQ => ?_)
  obtain ⟨hx, hb, hml, hown, hts⟩ := id S
  have hw : ∀ w ∈ wl, w.before args s = true := fun w h => hts w (List.mem_cons_of_mem _ h)
  have hl : lv_has ls 2 [(0, .ref rM)] := hl
  have n1 := mul_r (a := ac) (b := dn) (A := 4) (B := 4) (by omega) (by omega)
  have n2 : 1 ≤ ac * dn := Int.mul_pos (by omega) (by omega)
  have n3 := sBy_r hok (s := ac * dn) (by omega)
  have n4 := hok.1
  have n5 := hok.2.1
  have n6 : ac * dn * nu / de = sBy nu de (ac * dn) := rfl
  refine lv_aload_n hx hb d_Mod_encode_0 rfl (lv_at hl 0 rfl) ?_
  refine k_cv (wz := fun u : (Int → Int64) × (Int → Int64) × (Int → Int64) => [o_Mod rM wd ht rP rk rG rW rK kd db ew ac dn pr nu de rE rst wr rd rev rod cn rp rb ba sz1 lb rm cu sp nz rbl sl uz, (rG, al (gL G) 256 (u.1)), (rev, al (gL G) 8 (u.2.1)), (rod, al (gL G) 8 (u.2.2)), (rP, ai (gI G) 256 (pic)), (rp, ai (gI G) 256 (gp)), (rb, ai (gI G) 256 (gb)), (rst, ai (gB G) 2048 (g)), (rE, ai (gI G) 8 (es)), (rW, al (gL G) 256 (gv)), (rbl, ai (gB G) 1024 (bk))]) (wr := [(rp, ai (gI G) 256 (gp)), (rb, ai (gI G) 256 (gb)), (rst, ai (gB G) 2048 (g)), (rE, ai (gI G) 8 (es)), (rW, al (gL G) 256 (gv)), (rbl, ai (gB G) 1024 (bk))]) (k_rv S (c_Mod_forward l G _ rM rP rk rG rW rK rE rst rev rod rp rb rbl wd ht kd db ew ac dn pr nu de wr rd cn ba sz1 lb rm cu sp nz sl uz pic gg ge go (by assumption) (by assumption) (by assumption) (by assumption) (by assumption)) 0 m4_53 m4_50 m4_52 mp_25 m1_9 (by decide +kernel) (by decide) rfl rfl (k_preV (q0 := 0) hK hP hD hS hA hT rfl rfl [0, 1, 2, 3, 4] (by decide) rfl) rfl hl.1 rfl (Nat.le_of_ble_eq_true rfl) d_Mod_encode_1 ⟨Nat.le_of_ble_eq_true rfl, Nat.le_of_ble_eq_true rfl⟩) hP hD hS hA [0, 1, 2, 3, 4] [5, 6, 7, 8, 9, 10] [6, 7, 8, 9, 10, 0, 1, 2, 3, 4, 5] rfl rfl (by decide) (by decide) (by decide) (fun _ => rfl) (fun u1 H locs h1 hP hD hS => ?_)
  obtain ⟨a1, ge1, go1⟩ := u1
  have hP : va_P (gD G) classes [o_Mod rM wd ht rP rk rG rW rK kd db ew ac dn pr nu de rE rst wr rd rev rod cn rp rb ba sz1 lb rm cu sp nz rbl sl uz, (rG, al (gL G) 256 (a1)), (rev, al (gL G) 8 (ge1)), (rod, al (gL G) 8 (go1)), (rP, ai (gI G) 256 (pic)), (rp, ai (gI G) 256 (gp)), (rb, ai (gI G) 256 (gb)), (rst, ai (gB G) 2048 (g)), (rE, ai (gI G) 8 (es)), (rW, al (gL G) 256 (gv)), (rbl, ai (gB G) 1024 (bk))] H := hP
  have hD : va_D A [o_Mod rM wd ht rP rk rG rW rK kd db ew ac dn pr nu de rE rst wr rd rev rod cn rp rb ba sz1 lb rm cu sp nz rbl sl uz, (rG, al (gL G) 256 (a1)), (rev, al (gL G) 8 (ge1)), (rod, al (gL G) 8 (go1)), (rP, ai (gI G) 256 (pic)), (rp, ai (gI G) 256 (gp)), (rb, ai (gI G) 256 (gb)), (rst, ai (gB G) 2048 (g)), (rE, ai (gI G) 8 (es)), (rW, al (gL G) 256 (gv)), (rbl, ai (gB G) 1024 (bk))] := hD
  try dsimp only at h1
  have hC : (fmW (lmI wd (2 ^ (db + ew).toNat)) (lmI ht (2 ^ db.toNat)) db ew kd (fmA wd ht (lmI wd (2 ^ (db + ew).toNat)) (lmI ht (2 ^ db.toNat)) pic gg, ge, go)).1 = a1 := by rw [← h1]
  rw [hC] at hcf
  refine lv_iconst (v := iv (0)) hx hb d_Mod_encode_4 rfl ?_
  refine lv_istore_n hx hb d_Mod_encode_5 rfl hl (by decide) rfl (fun ls hl => ?_)
  have hl : lv_has ls 2 [(1, .int (iv (0))), (0, .ref rM)] := hl
  refine lo_up (P := fun i => ∀ (ls : Array Slot) (H : Heap) (locs : List Loc) (cn1x : Int) (gp1x : Int → Int) (gb1x : Int → Int) (ba1x : Int) (sz2x : Int) (lb1x : Int) (rm1x : Int) (cu1x : Int) (sp1x : Int) (nz1x : Int) (gv1x : Int → Int64) (sl1x : Int) (uz1x : Int) (bk1x : Int → Int) (g1x : Int → Int), lv_has ls 2 [(0, .ref rM), (1, .int (iv (i)))] → va_P (gD G) classes [o_Mod rM wd ht rP rk rG rW rK kd db ew ac dn pr nu de rE rst wr rd rev rod cn1x rp rb ba1x sz2x lb1x rm1x cu1x sp1x nz1x rbl sl1x uz1x, (rG, al (gL G) 256 (a1)), (rev, al (gL G) 8 (ge1)), (rod, al (gL G) 8 (go1)), (rP, ai (gI G) 256 (pic)), (rp, ai (gI G) 256 (gp1x)), (rb, ai (gI G) 256 (gb1x)), (rst, ai (gB G) 2048 (g1x)), (rE, ai (gI G) 8 (es)), (rW, al (gL G) 256 (gv1x)), (rbl, ai (gB G) 1024 (bk1x))] H → va_D A [o_Mod rM wd ht rP rk rG rW rK kd db ew ac dn pr nu de rE rst wr rd rev rod cn1x rp rb ba1x sz2x lb1x rm1x cu1x sp1x nz1x rbl sl1x uz1x, (rG, al (gL G) 256 (a1)), (rev, al (gL G) 8 (ge1)), (rod, al (gL G) 8 (go1)), (rP, ai (gI G) 256 (pic)), (rp, ai (gI G) 256 (gp1x)), (rb, ai (gI G) 256 (gb1x)), (rst, ai (gB G) 2048 (g1x)), (rE, ai (gI G) 8 (es)), (rW, al (gL G) 256 (gv1x)), (rbl, ai (gB G) 1024 (bk1x))] → va_S A s.heap H locs → ((g1x, gv1x, bk1x, gp1x, gb1x) = it (wmf (lmI wd (2 ^ (db + ew).toNat)) (lmI ht (2 ^ db.toNat)) db ew ac dn nu de pr es a1) 0 i (g, gv, bk, gp, gb)) → (∀ j, -128 ≤ g1x j ∧ g1x j ≤ 127) → (∀ j, bd 134217728 (gv1x j)) → (bits bk1x) → W p l e r_Mod_encode s m args below meth c H locs 0 0 Q (F0 m 6 ls [])) (a := 0) (b := ac * dn) (fun i hii hji ihi => ?_) _ _ _ cn gp gb ba sz1 lb rm cu sp nz gv sl uz bk g (lv_sub hl [1, 0] rfl) hP hD hS (it_self _ _ _).symm hg hgv hbk
  intro ls H locs cn1x gp1x gb1x ba1x sz2x lb1x rm1x cu1x sp1x nz1x gv1x sl1x uz1x bk1x g1x hl hP hD hS hs hr1 hv1 hb1
  refine lv_iload_n hx hb d_Mod_encode_6 rfl (lv_at hl 1 rfl) ?_
  refine lv_aload_n hx hb d_Mod_encode_7 rfl (lv_at hl 0 rfl) ?_
  refine va_get (D := gD G) (ci := 7) (v := .int (iv (ac))) (C := R_Mod) (T := F_Mod) (N := 34) hx hb hw in_Mod hown hK hP 0 rfl rfl 10 (by decide) (hw _ m3_134) (fun _ h => h) rfl d_Mod_encode_8 ?_
  refine lv_aload_n hx hb d_Mod_encode_11 rfl (lv_at hl 0 rfl) ?_
  refine va_get (D := gD G) (ci := 7) (v := .int (iv (dn))) (C := R_Mod) (T := F_Mod) (N := 34) hx hb hw in_Mod hown hK hP 0 rfl rfl 11 (by decide) (hw _ m3_135) (fun _ h => h) rfl d_Mod_encode_12 ?_
  refine k_imul hx hb d_Mod_encode_15 ?_
  refine k_icmp_ge (tgt := 30) hx hb d_Mod_encode_16 (by decide) (by omega) (by omega) (fun hc16 => ?_) (fun hc16 => ?_)
  · refine lv_aload_n hx hb d_Mod_encode_30 rfl (lv_at hl 0 rfl) ?_
    refine lv_iconst (v := iv (1)) hx hb d_Mod_encode_31 rfl ?_
    refine va_put (D := gD G) (ci := 7) (v := .int (iv (1))) (ty := .boolean) (C := R_Mod) (T := F_Mod) (N := 34) hx hb hw in_Mod t_Mod t_Mod_ok n_Mod hown hK hP hD hS 0 rfl rfl 17 (by decide) (hw _ m3_141) (fun _ h => h) rfl (by decide +kernel) (nar_z (by omega)) (fit_z (by omega)) (Nat.le_of_ble_eq_true rfl) d_Mod_encode_32 (fun H locs hP hD hS => ?_)
    have hP : va_P (gD G) classes [o_Mod rM wd ht rP rk rG rW rK kd db ew ac dn pr nu de rE rst 1 rd rev rod cn1x rp rb ba1x sz2x lb1x rm1x cu1x sp1x nz1x rbl sl1x uz1x, (rG, al (gL G) 256 (a1)), (rev, al (gL G) 8 (ge1)), (rod, al (gL G) 8 (go1)), (rP, ai (gI G) 256 (pic)), (rp, ai (gI G) 256 (gp1x)), (rb, ai (gI G) 256 (gb1x)), (rst, ai (gB G) 2048 (g1x)), (rE, ai (gI G) 8 (es)), (rW, al (gL G) 256 (gv1x)), (rbl, ai (gB G) 1024 (bk1x))] H := hP
    have hD : va_D A [o_Mod rM wd ht rP rk rG rW rK kd db ew ac dn pr nu de rE rst 1 rd rev rod cn1x rp rb ba1x sz2x lb1x rm1x cu1x sp1x nz1x rbl sl1x uz1x, (rG, al (gL G) 256 (a1)), (rev, al (gL G) 8 (ge1)), (rod, al (gL G) 8 (go1)), (rP, ai (gI G) 256 (pic)), (rp, ai (gI G) 256 (gp1x)), (rb, ai (gI G) 256 (gb1x)), (rst, ai (gB G) 2048 (g1x)), (rE, ai (gI G) 8 (es)), (rW, al (gL G) 256 (gv1x)), (rbl, ai (gB G) 1024 (bk1x))] := hD
    refine lv_aload_n hx hb d_Mod_encode_35 rfl (lv_at hl 0 rfl) ?_
    refine va_get (D := gD G) (ci := 7) (v := .int (iv (ac))) (C := R_Mod) (T := F_Mod) (N := 34) hx hb hw in_Mod hown hK hP 0 rfl rfl 10 (by decide) (hw _ m3_134) (fun _ h => h) rfl d_Mod_encode_36 ?_
    refine lv_aload_n hx hb d_Mod_encode_39 rfl (lv_at hl 0 rfl) ?_
    refine va_get (D := gD G) (ci := 7) (v := .int (iv (dn))) (C := R_Mod) (T := F_Mod) (N := 34) hx hb hw in_Mod hown hK hP 0 rfl rfl 11 (by decide) (hw _ m3_135) (fun _ h => h) rfl d_Mod_encode_40 ?_
    refine k_imul hx hb d_Mod_encode_43 ?_
    refine lv_aload_n hx hb d_Mod_encode_44 rfl (lv_at hl 0 rfl) ?_
    refine va_get (D := gD G) (ci := 7) (v := .int (iv (nu))) (C := R_Mod) (T := F_Mod) (N := 34) hx hb hw in_Mod hown hK hP 0 rfl rfl 13 (by decide) (hw _ m3_137) (fun _ h => h) rfl d_Mod_encode_45 ?_
    refine k_imul hx hb d_Mod_encode_48 ?_
    refine lv_aload_n hx hb d_Mod_encode_49 rfl (lv_at hl 0 rfl) ?_
    refine va_get (D := gD G) (ci := 7) (v := .int (iv (de))) (C := R_Mod) (T := F_Mod) (N := 34) hx hb hw in_Mod hown hK hP 0 rfl rfl 14 (by decide) (hw _ m3_138) (fun _ h => h) rfl d_Mod_encode_50 ?_
    refine k_idiv hx hb d_Mod_encode_53 (by omega) (by omega) ?_
    exact k_iret hx hb hr hlk hQ ((((ac * dn) * nu) / de, a1, ge1, go1, cn1x, gp1x, gb1x, ba1x, sz2x, lb1x, rm1x, cu1x, sp1x, nz1x, gv1x, sl1x, uz1x, bk1x, g1x, 1)) (⟨rfl, ⟨rfl, rfl⟩, by rw [hC]; show (g1x, gv1x, bk1x, gp1x, gb1x) = _; rw [hs]; exact it_x _ _ hc16 hji, hr1, hv1, hb1⟩) hP hD hS d_Mod_encode_54
  · refine lv_aload_n hx hb d_Mod_encode_19 rfl (lv_at hl 0 rfl) ?_
    refine lv_iload_n hx hb d_Mod_encode_20 rfl (lv_at hl 1 rfl) ?_
    refine k_cv (wz := fun u : Int × (Int → Int) × (Int → Int) × Int × Int × Int × Int × Int × Int × Int × (Int → Int64) × Int × Int × (Int → Int) × (Int → Int) => [o_Mod rM wd ht rP rk rG rW rK kd db ew ac dn pr nu de rE rst wr rd rev rod u.1 rp rb u.2.2.2.1 u.2.2.2.2.1 u.2.2.2.2.2.1 u.2.2.2.2.2.2.1 u.2.2.2.2.2.2.2.1 u.2.2.2.2.2.2.2.2.1 u.2.2.2.2.2.2.2.2.2.1 rbl u.2.2.2.2.2.2.2.2.2.2.2.1 u.2.2.2.2.2.2.2.2.2.2.2.2.1, (rG, al (gL G) 256 (a1)), (rev, al (gL G) 8 (ge1)), (rod, al (gL G) 8 (go1)), (rP, ai (gI G) 256 (pic)), (rp, ai (gI G) 256 (u.2.1)), (rb, ai (gI G) 256 (u.2.2.1)), (rst, ai (gB G) 2048 (u.2.2.2.2.2.2.2.2.2.2.2.2.2.2)), (rE, ai (gI G) 8 (es)), (rW, al (gL G) 256 (u.2.2.2.2.2.2.2.2.2.2.1)), (rbl, ai (gB G) 1024 (u.2.2.2.2.2.2.2.2.2.2.2.2.2.1))]) (wr := [(rev, al (gL G) 8 (ge1)), (rod, al (gL G) 8 (go1)), (rP, ai (gI G) 256 (pic))]) (k_rv S (c_Mod_write l G _ rM rP rk rG rW rK rE rst rev rod rp rb rbl i wd ht kd db ew ac dn pr nu de wr rd cn1x ba1x sz2x lb1x rm1x cu1x sp1x nz1x sl1x uz1x gp1x gb1x g1x es bk1x a1 gv1x (by assumption) (by assumption) (by assumption) (by assumption) (by assumption) (by omega) (by assumption) hr1 (by assumption) (by assumption) hv1 hb1 (hcf i hii hc16)) 1 m4_105 m4_102 m4_104 mp_33 m1_9 (by decide +kernel) (by decide) rfl rfl (k_preV (q0 := 0) hK hP hD hS hA hT rfl rfl [0, 5, 6, 7, 8, 1, 9, 10] (by decide) rfl) rfl hl.1 rfl (Nat.le_of_ble_eq_true rfl) d_Mod_encode_21 ⟨Nat.le_of_ble_eq_true rfl, Nat.le_of_ble_eq_true rfl⟩) hP hD hS hA [0, 5, 6, 7, 8, 1, 9, 10] [2, 3, 4] [3, 8, 0, 1, 2, 4, 5, 6, 7, 9, 10] rfl rfl (by decide) (by decide) (by decide) (fun _ => rfl) (fun u21 H locs h21 hP hD hS => ?_)
    obtain ⟨cn1y, gp1y, gb1y, ba1y, sz2y, lb1y, rm1y, cu1y, sp1y, nz1y, gv1y, sl1y, uz1y, bk1y, g1y⟩ := u21
    have hP : va_P (gD G) classes [o_Mod rM wd ht rP rk rG rW rK kd db ew ac dn pr nu de rE rst wr rd rev rod cn1y rp rb ba1y sz2y lb1y rm1y cu1y sp1y nz1y rbl sl1y uz1y, (rG, al (gL G) 256 (a1)), (rev, al (gL G) 8 (ge1)), (rod, al (gL G) 8 (go1)), (rP, ai (gI G) 256 (pic)), (rp, ai (gI G) 256 (gp1y)), (rb, ai (gI G) 256 (gb1y)), (rst, ai (gB G) 2048 (g1y)), (rE, ai (gI G) 8 (es)), (rW, al (gL G) 256 (gv1y)), (rbl, ai (gB G) 1024 (bk1y))] H := hP
    have hD : va_D A [o_Mod rM wd ht rP rk rG rW rK kd db ew ac dn pr nu de rE rst wr rd rev rod cn1y rp rb ba1y sz2y lb1y rm1y cu1y sp1y nz1y rbl sl1y uz1y, (rG, al (gL G) 256 (a1)), (rev, al (gL G) 8 (ge1)), (rod, al (gL G) 8 (go1)), (rP, ai (gI G) 256 (pic)), (rp, ai (gI G) 256 (gp1y)), (rb, ai (gI G) 256 (gb1y)), (rst, ai (gB G) 2048 (g1y)), (rE, ai (gI G) 8 (es)), (rW, al (gL G) 256 (gv1y)), (rbl, ai (gB G) 1024 (bk1y))] := hD
    try dsimp only at h21
    obtain ⟨w1, w2, w3, w4⟩ := h21
    refine lv_iinc (k := 1) (v := iv (i + 1)) hx hb d_Mod_encode_24 hl rfl (iv_add _ _) (by decide) rfl (fun ls hl => ?_)
    have hl : lv_has ls 2 [(1, .int (iv (i + 1))), (0, .ref rM)] := hl
    refine lv_goto (tgt := 6) hx hb d_Mod_encode_27 (by decide) ?_
    exact ihi (by omega) _ _ _ cn1y gp1y gb1y ba1y sz2y lb1y rm1y cu1y sp1y nz1y gv1y sl1y uz1y bk1y g1y (lv_sub hl [1, 0] rfl) hP hD hS (by rw [it_s _ _ hii, ← hs]; exact w1) w2 w3 w4
