/-! the reference: numbers read and spelt, bits put -/
theorem sh64 : ∀ k : Nat, k < 64 → (((iv k).toInt64 &&& 63).toBitVec.smod 64).toNat = k := by decide +kernel
theorem shR_v {x : Int64} {a : Int} (ha : 0 ≤ a ∧ a < 64) : (shR x a).toInt = x.toInt / 2 ^ a.toNat := by
  obtain ⟨n, rfl⟩ : ∃ n : Nat, a = (n : Int) := ⟨a.toNat, by omega⟩
  unfold shR
  show (x >>> ((iv n).toInt64 &&& 63)).toBitVec.toInt = _
  rw [Int64.toBitVec_shiftRight, BitVec.sshiftRight_eq', sh64 n (by omega), BitVec.toInt_sshiftRight, Int.shiftRight_eq_div_pow, Int.toNat_natCast]
  rfl
theorem land1 (x : Int64) : (x &&& 1).toInt = x.toInt % 2 := by
  show (x &&& 1).toBitVec.toInt = x.toBitVec.toInt % 2
  rw [Int64.toBitVec_and]
  have h1 : (x.toBitVec &&& (1 : Int64).toBitVec).toNat = x.toBitVec.toNat % 2 := by
    rw [BitVec.toNat_and]; exact Nat.and_one_is_mod _
  rw [BitVec.toInt_eq_toNat_bmod, BitVec.toInt_eq_toNat_bmod, h1, Int.bmod_def, Int.bmod_def]
  have := x.toBitVec.isLt
  split <;> split <;> omega
theorem td3 (z : Int) : z.tdiv 3 = if 0 ≤ z then z / 3 else -((-z) / 3) := by
  split
  · rename_i h; exact Int.tdiv_eq_ediv_of_nonneg h
  · rename_i h
    have e : z = -(-z) := by omega
    rw [e, Int.neg_tdiv, Int.tdiv_eq_ediv_of_nonneg (by omega)]
    omega
theorem x64 (x : Int64) : -9223372036854775808 ≤ x.toInt ∧ x.toInt < 9223372036854775808 := ⟨Int64.le_toInt x, Int64.toInt_lt x⟩
theorem fdM_e (x : Int64) : fdM x = fdv x 3 := by
  have hs : (0 ≤ x ^^^ 3) ↔ 0 ≤ x := by
    rw [Int64.le_iff_toInt_le, Int64.le_iff_toInt_le]
    show 0 ≤ (x ^^^ 3).toBitVec.toInt ↔ 0 ≤ x.toBitVec.toInt
    rw [Int64.toBitVec_xor]
    have h1 := BitVec.msb_eq_toInt (x := x.toBitVec ^^^ (3 : Int64).toBitVec)
    have h2 := BitVec.msb_eq_toInt (x := x.toBitVec)
    rw [BitVec.msb_xor, show (3 : Int64).toBitVec.msb = false by decide, Bool.xor_false, h2] at h1
    have := decide_eq_decide.mp h1
    omega
  have z : (0 : Int64).toInt = 0 := by decide
  have hb := x64 x
  have hd : (x / 3).toInt = x.toInt.tdiv 3 := by rw [Int64.toInt_div_of_ne_right _ _ (by decide), l3]
  have ht := td3 x.toInt
  have hm : (x / 3 * 3).toInt = x.toInt.tdiv 3 * 3 := by
    rw [Int64.toInt_mul, hd, l3, bm_e]
    rw [ht]; split <;> omega
  have hr : (x - x / 3 * 3).toInt = x.toInt - x.toInt.tdiv 3 * 3 := by
    rw [Int64.toInt_sub, hm, bm_e]
    rw [ht]; split <;> omega
  unfold fdM fdv
  by_cases h : 0 ≤ x
  · rw [if_pos (hs.mpr h), if_pos]
    rw [Int64.le_iff_toInt_le, z] at h ⊢
    rw [hr, ht, if_pos h]; omega
  · rw [if_neg (fun q => h (hs.mp q))]
    rw [Int64.le_iff_toInt_le, z] at h
    rw [if_neg h] at ht
    by_cases q : x / 3 * 3 = x
    · rw [if_pos q, if_pos]
      rw [Int64.le_iff_toInt_le, z, hr]
      rw [← hm, q]; omega
    · rw [if_neg q, if_neg]
      rw [Int64.le_iff_toInt_le, z, hr, ht]
      intro k
      apply q
      apply Int64.toInt.inj
      rw [hm, ht]
      omega
theorem fcM_e {v : Int → Int64} {p : Int} (hp : 0 ≤ p) : fcM v p = fcL v p := by
  unfold fcM fcL
  by_cases h1 : p < 16
  · rw [if_pos h1]
    by_cases h2 : p = 0
    · subst h2; rfl
    · rw [if_neg h2, if_neg (by omega), if_pos h1]
  · rw [if_neg h1]
    by_cases h2 : p % 16 = 0
    · rw [if_pos h2, if_pos h2, if_neg h1]
    · rw [if_neg h2, if_neg h2, if_neg h1, fdM_e]
theorem btM_01 (g : Int → Int) (ba i : Int) : 0 ≤ btM g ba i ∧ btM g ba i ≤ 1 := by unfold btM; omega
theorem nxM_01 (g : Int → Int) (ba sp i : Int) : 0 ≤ nxM g ba sp i ∧ nxM g ba sp i ≤ 1 := by
  unfold nxM; split
  · exact btM_01 g ba i
  · omega
theorem bsM_r {g : Int → Int} {ba fm n : Int} (hn : 0 ≤ n) : 0 ≤ bsM g ba fm n ∧ bsM g ba fm n < 2 ^ n.toNat := by
  unfold bsM
  have := it_inv (f := fun i v => 2 * v + btM g ba i) (a := fm) (b := fm + n) (x := 0) (I := fun i v => 0 ≤ v ∧ v < 2 ^ (i - fm).toNat) (by rw [Int.sub_self]; decide) (fun i y h1 h2 h3 => by
    have hb := btM_01 g ba i
    rw [show (i + 1 - fm).toNat = (i - fm).toNat + 1 by omega, Int.pow_succ]
    omega) (by omega)
  rw [show fm + n - fm = n by omega] at this
  exact this
theorem bsM_10 {g : Int → Int} {ba fm n : Int} (hn : 0 ≤ n ∧ n ≤ 10) : 0 ≤ bsM g ba fm n ∧ bsM g ba fm n < 1024 := by
  have h := bsM_r (g := g) (ba := ba) (fm := fm) hn.1
  have h2 := p2_le (a := n.toNat) (b := 10) (by omega)
  have e : (2 : Int) ^ 10 = 1024 := by decide
  omega
theorem bsM_5 (g : Int → Int) (ba fm : Int) : 0 ≤ bsM g ba fm 5 ∧ bsM g ba fm 5 ≤ 31 := by
  have h := bsM_r (g := g) (ba := ba) (fm := fm) (n := 5) (by omega)
  have e : (2 : Int) ^ (5 : Int).toNat = 32 := by decide
  omega
/-- the length of a slice -/
def lnM (g : Int → Int) (nu de s : Int) : Int := if bsM g (sBy nu de s) 5 (ldI nu de s) ≤ rmI nu de s then bsM g (sBy nu de s) 5 (ldI nu de s) else rmI nu de s
theorem lnM_r {g : Int → Int} {nu de s : Int} (hok : okR nu de) : 0 ≤ lnM g nu de s ∧ lnM g nu de s ≤ rmI nu de s := by
  have q4 := ldI_r hok (s := s)
  have q5 := rmI_r hok (s := s)
  have h := bsM_10 (g := g) (ba := sBy nu de s) (fm := 5) (n := ldI nu de s) (by omega)
  unfold lnM
  split <;> omega
/-- a number, read: (number, place) -/
def rml (g : Int → Int) (ba sp : Int) : Nat → Int64 → Int → Int64 × Int
  | 0, n, c => (n, c)
  | k + 1, n, c => if nxM g ba sp c = 1 then (n, c + 1) else rml g ba sp k (2 * n + lw (nxM g ba sp (c + 1))) (c + 1 + 1)
def rmX (fl : Int) (g : Int → Int) (ba sp : Int) (k : Nat) (n : Int64) (c : Int) : Int64 × Int := if fl = 0 then (n, c) else rml g ba sp k n c
theorem rmX_b {fl : Int} {g : Int → Int} {ba sp c : Int} {k j : Nat} {n : Int64} {z : Int64 × Int} (hf : ¬ fl = 0) (hk : 0 < k) (h : nxM g ba sp c = 1) (hs : rmX fl g ba sp k n c = z) : rmX 0 g ba sp j n (c + 1) = z := by
  rw [← hs]
  unfold rmX
  rw [if_pos rfl, if_neg hf]
  obtain ⟨i, rfl⟩ : ∃ i, k = i + 1 := ⟨k - 1, by omega⟩
  exact (if_pos h).symm
theorem rmX_g {fl : Int} {g : Int → Int} {ba sp c : Int} {k j : Nat} {n : Int64} {z : Int64 × Int} (hf : ¬ fl = 0) (hk : k = j + 1) (h : ¬ nxM g ba sp c = 1) (hs : rmX fl g ba sp k n c = z) : rmX 1 g ba sp j (2 * n + lw (nxM g ba sp (c + 1))) (c + 1 + 1) = z := by
  subst hk
  rw [← hs]
  unfold rmX
  rw [if_neg (by omega), if_neg hf]
  exact (if_neg h).symm
theorem rmX_0 {fl : Int} {g : Int → Int} {ba sp c : Int} {k : Nat} {n : Int64} (h : fl = 0 ∨ k = 0) : rmX fl g ba sp k n c = (n, c) := by
  unfold rmX
  split
  · rfl
  · rename_i q
    rcases h with h | h
    · exact absurd h q
    · subst h; rfl
def rmN (g : Int → Int) (ba sp c : Int) : Int64 × Int :=
  if (rml g ba sp 26 1 c).1 = 1 then (0, (rml g ba sp 26 1 c).2) else (if nxM g ba sp (rml g ba sp 26 1 c).2 = 1 then 1 - (rml g ba sp 26 1 c).1 else (rml g ba sp 26 1 c).1 - 1, (rml g ba sp 26 1 c).2 + 1)
theorem rmN_0 {g : Int → Int} {ba sp c b : Int} {n : Int64} (h : (n, b) = rml g ba sp 26 1 c) (hn : n = 1) : (0, b) = rmN g ba sp c := by
  unfold rmN; rw [← h]; exact (if_pos hn).symm
theorem rmN_n {g : Int → Int} {ba sp c b : Int} {n : Int64} (h : (n, b) = rml g ba sp 26 1 c) (hn : ¬ n = 1) (hb : nxM g ba sp b = 1) : (1 - n, b + 1) = rmN g ba sp c := by
  unfold rmN; rw [← h]; show _ = (if n = 1 then _ else _); rw [if_neg hn]; show _ = (if nxM g ba sp b = 1 then _ else _, _); rw [if_pos hb]
theorem rmN_p {g : Int → Int} {ba sp c b : Int} {n : Int64} (h : (n, b) = rml g ba sp 26 1 c) (hn : ¬ n = 1) (hb : ¬ nxM g ba sp b = 1) : (n - 1, b + 1) = rmN g ba sp c := by
  unfold rmN; rw [← h]; show _ = (if n = 1 then _ else _); rw [if_neg hn]; show _ = (if nxM g ba sp b = 1 then _ else _, _); rw [if_neg hb]
theorem rml_c (g : Int → Int) (ba sp : Int) : ∀ (k : Nat) (n : Int64) (c : Int), c ≤ (rml g ba sp k n c).2 ∧ (rml g ba sp k n c).2 ≤ c + 2 * k
  | 0, n, c => by show c ≤ c ∧ c ≤ c + 2 * ((0 : Nat) : Int); omega
  | k + 1, n, c => by
    by_cases h : nxM g ba sp c = 1
    · rw [show rml g ba sp (k + 1) n c = (n, c + 1) from if_pos h]
      show c ≤ c + 1 ∧ c + 1 ≤ c + 2 * ((k + 1 : Nat) : Int); omega
    · rw [show rml g ba sp (k + 1) n c = rml g ba sp k (2 * n + lw (nxM g ba sp (c + 1))) (c + 1 + 1) from if_neg h]
      have := rml_c g ba sp k (2 * n + lw (nxM g ba sp (c + 1))) (c + 1 + 1)
      omega
theorem rmN_c (g : Int → Int) (ba sp c : Int) : c ≤ (rmN g ba sp c).2 ∧ (rmN g ba sp c).2 ≤ c + 53 := by
  have h := rml_c g ba sp 26 1 c
  unfold rmN
  split
  · show c ≤ (rml g ba sp 26 1 c).2 ∧ (rml g ba sp 26 1 c).2 ≤ c + 53; omega
  · show c ≤ (rml g ba sp 26 1 c).2 + 1 ∧ (rml g ba sp 26 1 c).2 + 1 ≤ c + 53; omega
/-- a slice, read: (how many are not 0, place, row) -/
abbrev rst3 : Type := Int × Int × (Int → Int64)
def rmv (pr : Int) (es gb gp : Int → Int) (q i : Int) (r : Int64) (v : Int → Int64) : Int64 := bdL (if pr = 0 ∨ ¬ gb i = 0 then vlM r (rrI es gb q i) else vlM r (rrI es gb q i) + fcM v (gp i))
def rmf (pr : Int) (es gb gp g : Int → Int) (ba sp q : Int) : Int → rst3 → rst3 := fun i x => (x.1 + (if (rmN g ba sp x.2.1).1 = 0 then 0 else 1), (rmN g ba sp x.2.1).2, up x.2.2 (gp i) (rmv pr es gb gp q i (rmN g ba sp x.2.1).1 x.2.2))
theorem rmf_e {pr : Int} {es gb gp g : Int → Int} {ba sp q i z c d : Int} {r : Int64} {v : Int → Int64} (h : (r, d) = rmN g ba sp c) : rmf pr es gb gp g ba sp q i (z, c, v) = (z + (if r = 0 then 0 else 1), d, up v (gp i) (rmv pr es gb gp q i r v)) := by
  unfold rmf; rw [← h]
theorem rmv_0 {pr : Int} {es gb gp : Int → Int} {q i : Int} {r : Int64} {v : Int → Int64} (h : pr = 0 ∨ ¬ gb i = 0) : rmv pr es gb gp q i r v = bdL (vlM r (rrI es gb q i)) := by unfold rmv; rw [if_pos h]
theorem rmv_1 {pr : Int} {es gb gp : Int → Int} {q i : Int} {r : Int64} {v : Int → Int64} (h : ¬ (pr = 0 ∨ ¬ gb i = 0)) : rmv pr es gb gp q i r v = bdL (vlM r (rrI es gb q i) + fcM v (gp i)) := by unfold rmv; rw [if_neg h]
def rmA (g : Int → Int) (nu de pr : Int) (es : Int → Int) (s : Int) (L : lst3) (v : Int → Int64) : rst3 := it (rmf pr es L.2.2 L.2.1 g (sBy nu de s) (5 + ldI nu de s + lnM g nu de s) (bsM g (sBy nu de s) 0 5)) 0 L.1 (0, 5 + ldI nu de s, v)
/-- the list of a slice: places and bands, how many -/
theorem ls_r {cP cQ db ew ac dn s : Int} {gp gb : Int → Int} (hP : 0 ≤ cP ∧ cP ≤ 16) (hQ : 0 ≤ cQ ∧ cQ ≤ 16) (h : 0 ≤ db ∧ db ≤ 2 ∧ 0 ≤ ew ∧ ew ≤ 2 ∧ db + ew ≤ 3) (ha : 1 ≤ ac ∧ ac ≤ 4) (hd : 1 ≤ dn ∧ dn ≤ 4) (hs : 0 ≤ s ∧ s < ac * dn) : rgR3 (nBd db ew) (it (lsB cP cQ db ew ac dn s) 0 (nBd db ew) (0, gp, gb)) ∧ (it (lsB cP cQ db ew ac dn s) 0 (nBd db ew) (0, gp, gb)).1 ≤ 256 := by
  have tr := (tot_r hP hQ h).2
  have hn : 1 ≤ nBd db ew := by unfold nBd; omega
  refine ⟨it_iv ⟨by show (0 : Int) ≤ 0; omega, fun k k0 k1 => by have k1 : k < 0 := k1; omega⟩ (fun b x b0 b1 hx => rg_prt hx ⟨b0, b1⟩ (tr b b0 b1).1 (tr b b0 b1).2 ha.1 hd.1 hs), ?_⟩
  have hc := ls_cap (gp := gp) (gb := gb) hP hQ h ha hd hs (b := nBd db ew - 1) ⟨by omega, by omega⟩
  have ht := tr (nBd db ew - 1) (by omega) (by omega)
  have e := it_s (lsB cP cQ db ew ac dn s) (a := 0) (i := nBd db ew - 1) (0, gp, gb) (by omega)
  rw [show nBd db ew - 1 + 1 = nBd db ew by omega] at e
  rw [e]
  show (prt _ _ _ _ _ ac dn s _).1 ≤ 256
  rw [prt_c ht.1.1 ht.2.1 ha.1 hd.1]
  exact hc.2
/-- a bit spelt: (how many, up to the last 0, the row) -/
abbrev spl3 : Type := Int × Int × (Int → Int)
def emM (bt : Int) (x : spl3) : spl3 := (x.1 + 1, if bt = 0 then x.1 + 1 else x.2.1, if x.1 < 1024 then up x.2.2 x.1 bt else x.2.2)
theorem b8_v {z : Int} (h : -128 ≤ z ∧ z ≤ 127) : b8 z = z := Int.bmod_eq_of_le (by omega) (by omega)
theorem b8_r (z : Int) : -128 ≤ b8 z ∧ b8 z ≤ 127 := by
  unfold b8
  have h1 := Int.le_bmod (x := z) (m := 256) (by decide)
  have h2 := Int.bmod_lt (x := z) (m := 256) (by decide)
  omega
theorem b8_8 (z : Int) : b8 (b8 z) = b8 z := b8_v (b8_r z)
def emg (n k : Int) : Int → spl3 → spl3 := fun j y => emM (n / 2 ^ (k - 1 - j).toNat % 2) (emM 0 y)
def emN (v : Int) (x : spl3) : spl3 :=
  let y := it (emg (absI v + 1) (lg (absI v + 1))) 0 (lg (absI v + 1)) x
  let z := if lg (absI v + 1) < 26 then emM 1 y else y
  if v = 0 then z else emM (if v < 0 then 1 else 0) z
theorem emN_a {v : Int} {x y : spl3} (hy : y = it (emg (absI v + 1) (lg (absI v + 1))) 0 (lg (absI v + 1)) x) (h1 : lg (absI v + 1) < 26) (h2 : v = 0) : emN v x = emM 1 y := by
  unfold emN; simp only [← hy, if_pos h1, if_pos h2]
theorem emN_b {v : Int} {x y : spl3} (hy : y = it (emg (absI v + 1) (lg (absI v + 1))) 0 (lg (absI v + 1)) x) (h1 : lg (absI v + 1) < 26) (h2 : v < 0) : emN v x = emM 1 (emM 1 y) := by
  unfold emN; simp only [← hy, if_pos h1, if_pos h2, if_neg (show ¬ v = 0 by omega)]
theorem emN_c {v : Int} {x y : spl3} (hy : y = it (emg (absI v + 1) (lg (absI v + 1))) 0 (lg (absI v + 1)) x) (h1 : lg (absI v + 1) < 26) (h2 : 0 < v) : emN v x = emM 0 (emM 1 y) := by
  unfold emN; simp only [← hy, if_pos h1, if_neg (show ¬ v < 0 by omega), if_neg (show ¬ v = 0 by omega)]
theorem emN_d {v : Int} {x y : spl3} (hy : y = it (emg (absI v + 1) (lg (absI v + 1))) 0 (lg (absI v + 1)) x) (h1 : ¬ lg (absI v + 1) < 26) (h2 : v = 0) : emN v x = y := by
  unfold emN; simp only [← hy, if_neg h1, if_pos h2]
theorem emN_e {v : Int} {x y : spl3} (hy : y = it (emg (absI v + 1) (lg (absI v + 1))) 0 (lg (absI v + 1)) x) (h1 : ¬ lg (absI v + 1) < 26) (h2 : v < 0) : emN v x = emM 1 y := by
  unfold emN; simp only [← hy, if_neg h1, if_pos h2, if_neg (show ¬ v = 0 by omega)]
theorem emN_f {v : Int} {x y : spl3} (hy : y = it (emg (absI v + 1) (lg (absI v + 1))) 0 (lg (absI v + 1)) x) (h1 : ¬ lg (absI v + 1) < 26) (h2 : 0 < v) : emN v x = emM 0 y := by
  unfold emN; simp only [← hy, if_neg h1, if_neg (show ¬ v < 0 by omega), if_neg (show ¬ v = 0 by omega)]
theorem ab1 {v : Int64} (h : bd 134217726 v) : (0 ≤ v ↔ 0 ≤ v.toInt) ∧ (v = 0 ↔ v.toInt = 0) ∧ (0 ≤ v → (v + 1).toInt = absI v.toInt + 1) ∧ (¬ 0 ≤ v → (-v + 1).toInt = absI v.toInt + 1) := by
  have z : (0 : Int64).toInt = 0 := by decide
  have o : (1 : Int64).toInt = 1 := by decide
  have k1 : (0 ≤ v ↔ 0 ≤ v.toInt) := by rw [Int64.le_iff_toInt_le, z]
  have o1 : bd 1 (1 : Int64) := by unfold bd; decide
  refine ⟨k1, by rw [← Int64.toInt_inj, z], fun q => ?_, fun q => ?_⟩
  · rw [(bd_add h o1 (by omega)).2, o]; unfold absI; rw [if_pos (k1.mp q)]
  · have hn := bd_neg h (by omega)
    rw [(bd_add hn.1 o1 (by omega)).2, o, hn.2]; unfold absI; rw [if_neg (fun w => q (k1.mpr w))]
/-- which digits a number has -/
theorem dig_p {n : Int64} {i : Int} (hn : 1 ≤ n.toInt) (hi : 0 ≤ i ∧ i < 64) : (shR n i ≤ 0 ↔ lg n.toInt < i) := by
  have z : (0 : Int64).toInt = 0 := by decide
  rw [Int64.le_iff_toInt_le, z, shR_v hi]
  have h1 := lg_s (i := n.toInt) (by omega)
  have hl : 0 ≤ lg n.toInt := Int.natCast_nonneg _
  have hp := p2_1 i.toNat
  constructor
  · intro q
    refine Classical.byContradiction fun w => ?_
    have h2 := p2_le (a := i.toNat) (b := (lg n.toInt).toNat) (by omega)
    have h3 : 1 ≤ n.toInt / 2 ^ i.toNat := by
      rw [Int.le_ediv_iff_mul_le (by omega)]; omega
    omega
  · intro q
    have h2 := p2_le (a := (lg n.toInt).toNat + 1) (b := i.toNat) (by omega)
    rw [Int.pow_succ] at h2
    have h3 : n.toInt / 2 ^ i.toNat = 0 := Int.ediv_eq_zero_of_lt (by omega) (by omega)
    omega
theorem dig_b {n : Int64} {i : Int} (hi : 0 ≤ i ∧ i < 64) : (shR n i &&& 1).toInt = n.toInt / 2 ^ i.toNat % 2 := by rw [land1, shR_v hi]
theorem emM_c (b : Int) (x : spl3) : (emM b x).1 = x.1 + 1 := rfl
theorem it_emg (n k : Int) {a b : Int} (x : spl3) (h : a ≤ b) : (it (emg n k) a b x).1 = x.1 + 2 * (b - a) :=
  it_inv (I := fun i (y : spl3) => y.1 = x.1 + 2 * (i - a)) (by omega) (fun i y h1 h2 hy => by show y.1 + 1 + 1 = _; omega) h
theorem emN_n {v : Int} (x : spl3) (h : -134217726 ≤ v ∧ v ≤ 134217726) : x.1 ≤ (emN v x).1 ∧ (emN v x).1 ≤ x.1 + 54 ∧ (emN v x).1 = x.1 + szN v := by
  have hz := szN_r h
  have hab : 0 ≤ absI v ∧ absI v ≤ 134217726 := by unfold absI; split <;> omega
  have hlg := lg_r (i := absI v + 1) 27 134217728 (by decide) (by omega) (by omega)
  have e := it_emg (absI v + 1) (lg (absI v + 1)) (a := 0) (b := lg (absI v + 1)) x (by omega)
  have k : (emN v x).1 = x.1 + szN v := by
    unfold emN szN
    dsimp only
    by_cases c1 : lg (absI v + 1) < 26
    · rw [if_pos c1, if_pos c1]
      by_cases c2 : v = 0
      · rw [if_pos c2, if_pos c2, emM_c, e]; omega
      · rw [if_neg c2, if_neg c2, emM_c, emM_c, e]; omega
    · rw [if_neg c1, if_neg c1]
      by_cases c2 : v = 0
      · rw [if_pos c2, if_pos c2, e]; omega
      · rw [if_neg c2, if_neg c2, emM_c, e]; omega
  omega
/-- number and value, the reference's and the class's -/
theorem nmE {c : Int64} {r : Int} (hc : bd 1152921504606846976 c) (hr : 0 ≤ r ∧ r < 32) : (nmM c r).toInt = nmC c (facI r) ∧ nmM c r = lw (nmC c (facI r)) := by
  have hf := fac_r hr
  have z : (0 : Int64).toInt = 0 := by decide
  have e4 : (4 : Int64).toInt = 4 := by decide
  have em : (134217726 : Int64).toInt = 134217726 := by decide
  have hf2 : (lw (facI r)).toInt = facI r := lw_toInt ⟨by omega, by omega⟩
  have key : ∀ x : Int64, 0 ≤ x.toInt ∧ x.toInt ≤ 1152921504606846976 → (if 4 * x / lw (facI r) ≤ 134217726 then 4 * x / lw (facI r) else 134217726 : Int64).toInt = min 134217726 (4 * x.toInt / facI r) := by
    intro x hx
    have h4 : (4 * x).toInt = 4 * x.toInt := by rw [Int64.toInt_mul, e4, bm_e ⟨by omega, by omega⟩]
    have hd : (4 * x / lw (facI r)).toInt = 4 * x.toInt / facI r := by
      rw [Int64.toInt_div_of_ne_right _ _ (by intro q; have := congrArg Int64.toInt q; rw [hf2] at this; have e1 : (-1 : Int64).toInt = -1 := by decide
                                              omega), h4, hf2, Int.tdiv_eq_ediv_of_nonneg (by omega)]
    by_cases q : 4 * x / lw (facI r) ≤ 134217726
    · rw [if_pos q, hd]
      rw [Int64.le_iff_toInt_le, hd, em] at q
      omega
    · rw [if_neg q, em]
      rw [Int64.le_iff_toInt_le, hd, em] at q
      omega
  have k1 : (nmM c r).toInt = nmC c (facI r) := by
    rw [nmC_v hc hf]
    unfold nmM
    by_cases h : (0 : Int64) ≤ c
    · have h0 := h
      rw [Int64.le_iff_toInt_le, z] at h0
      rw [if_pos h, if_pos h0]
      exact key c ⟨h0, hc.2⟩
    · have h0 := h
      rw [Int64.le_iff_toInt_le, z] at h0
      rw [if_neg h, if_neg h0]
      have hn := bd_neg hc (by omega)
      have hk := key (-c) ⟨by rw [hn.2]; omega, hn.1.2⟩
      rw [hn.2] at hk
      have hq : 0 ≤ 4 * -c.toInt / facI r := Int.ediv_nonneg (by omega) (by omega)
      rw [Int64.toInt_neg, hk, bm_e ⟨by omega, by omega⟩]
  refine ⟨k1, ?_⟩
  have hr2 := nmC_r hc hf
  apply Int64.toInt.inj
  rw [k1, lw_toInt ⟨by omega, by omega⟩]
theorem off_k : ∀ r : Fin 32, (hfM r.val).toInt = offI r.val ∧ 0 ≤ offI r.val ∧ offI r.val < 2147483648 := by decide +kernel
theorem off_e {r : Int} (hr : 0 ≤ r ∧ r < 32) : hfM r = lw (offI r) ∧ 0 ≤ offI r ∧ offI r < 2147483648 := by
  have k := off_k ⟨r.toNat, by omega⟩
  simp only [Int.toNat_of_nonneg hr.1] at k
  refine ⟨?_, k.2⟩
  apply Int64.toInt.inj
  rw [k.1, lw_toInt ⟨by omega, by omega⟩]
theorem vl_e {n r : Int} (hr : 0 ≤ r ∧ r < 32) (hn : -134217726 ≤ n ∧ n ≤ 134217726) : vlM (lw n) r = vlC n (facI r) (offI r) := by
  have z : (0 : Int64).toInt = 0 := by decide
  have ho := (off_e hr).1
  have hl : (lw n).toInt = n := lw_toInt ⟨by omega, by omega⟩
  have hng : -lw n = lw (-n) := (Int64.ofInt_neg n).symm
  have h0 : (0 ≤ lw n ↔ 0 ≤ n) := by rw [Int64.le_iff_toInt_le, z, hl]
  have h1 : (lw n = 0 ↔ n = 0) := by rw [← Int64.toInt_inj, z, hl]
  have h2 : (-lw n = 0 ↔ n = 0) := by rw [hng, ← Int64.toInt_inj, z, lw_toInt ⟨by omega, by omega⟩]; omega
  unfold vlM vlC absI
  rw [ho]
  by_cases c0 : n = 0
  · subst c0; rw [if_pos (h0.mpr (by omega)), if_pos (h1.mpr rfl), if_pos rfl]
  · by_cases c1 : 0 ≤ n
    · rw [if_pos (h0.mpr c1), if_neg (fun q => c0 (h1.mp q)), if_neg c0, if_pos c1, if_pos c1]
    · rw [if_neg (fun q => c1 (h0.mp q)), if_neg (fun q => c0 (h2.mp q)), if_neg c0, if_neg c1, if_neg c1, hng]
/-- a slice, spelt: (bits, row) -/
abbrev spl4 : Type := spl3 × (Int → Int64)
def spv (pr : Int) (es gb gp : Int → Int) (cf : Int → Int64) (q i : Int) (v : Int → Int64) : Int := nmC (cf (gp i) - prd pr gb gp v i) (facI (rrI es gb q i))
def spf (pr : Int) (es gb gp : Int → Int) (cf : Int → Int64) (q : Int) : Int → spl4 → spl4 := fun i x => (emN (spv pr es gb gp cf q i x.2) x.1, up x.2 (gp i) (bdL (prd pr gb gp x.2 i + vlC (spv pr es gb gp cf q i x.2) (facI (rrI es gb q i)) (offI (rrI es gb q i)))))
def spS (pr : Int) (es gb gp : Int → Int) (cf : Int → Int64) (cn q : Int) (bk : Int → Int) (v : Int → Int64) : spl4 := it (spf pr es gb gp cf q) 0 cn ((0, 0, bk), v)
/-- a bit put into a byte -/
def pbM (ba : Int) (g : Int → Int) (i bt : Int) : Int → Int := up g (ba + i / 8) (b8 (g (ba + i / 8) + bt * 2 ^ (7 - i % 8).toNat))
theorem m4_187 : Cond.code y_Mod_bitsAt prog_9_method_39_code 5 (some .int) ∈ wl := wl_4 187 (by decide +kernel) (by decide +kernel)
theorem m4_169 : Cond.code y_Mod_bound prog_9_method_36_code 2 (some .long) ∈ wl := wl_4 169 (by decide +kernel) (by decide +kernel)
theorem m4_163 : Cond.code y_Mod_emit prog_9_method_44_code 2 none ∈ wl := wl_4 163 (by decide +kernel) (by decide +kernel)
theorem m4_159 : Cond.code y_Mod_emitNumber prog_9_method_45_code 7 none ∈ wl := wl_4 159 (by decide +kernel) (by decide +kernel)
theorem m4_133 : Cond.code y_Mod_fineness prog_9_method_32_code 3 (some .int) ∈ wl := wl_4 133 (by decide +kernel) (by decide +kernel)
theorem m4_137 : Cond.code y_Mod_forecast prog_9_method_37_code 4 (some .long) ∈ wl := wl_4 137 (by decide +kernel) (by decide +kernel)
theorem m4_183 : Cond.code y_Mod_lengthOf prog_9_method_40_code 3 (some .int) ∈ wl := wl_4 183 (by decide +kernel) (by decide +kernel)
theorem m4_113 : Cond.code y_Mod_list prog_9_method_29_code 9 none ∈ wl := wl_4 113 (by decide +kernel) (by decide +kernel)
theorem m4_109 : Cond.code y_Mod_look prog_9_method_31_code 3 none ∈ wl := wl_4 109 (by decide +kernel) (by decide +kernel)
theorem m4_199 : Cond.code y_Mod_next prog_9_method_41_code 2 (some .int) ∈ wl := wl_4 199 (by decide +kernel) (by decide +kernel)
theorem m4_141 : Cond.code y_Mod_number prog_9_method_34_code 5 (some .long) ∈ wl := wl_4 141 (by decide +kernel) (by decide +kernel)
theorem m4_195 : Cond.code y_Mod_readNumber prog_9_method_42_code 5 (some .long) ∈ wl := wl_4 195 (by decide +kernel) (by decide +kernel)
theorem m4_166 : Cond.code y_Mod_value prog_9_method_35_code 11 (some .long) ∈ wl := wl_4 166 (by decide +kernel) (by decide +kernel)
theorem m3_155 : Cond.fieldLink "WaveletSlicesModel" 61 "WaveletSlicesModel" "block" "[B" ∈ wl := wl_3 155 (by decide +kernel) (by decide +kernel)
theorem m3_154 : Cond.fieldLink "WaveletSlicesModel" 257 "WaveletSlicesModel" "nonzeros" "I" ∈ wl := wl_3 154 (by decide +kernel) (by decide +kernel)
theorem m3_156 : Cond.fieldLink "WaveletSlicesModel" 281 "WaveletSlicesModel" "spelt" "I" ∈ wl := wl_3 156 (by decide +kernel) (by decide +kernel)
theorem m3_157 : Cond.fieldLink "WaveletSlicesModel" 284 "WaveletSlicesModel" "upToZero" "I" ∈ wl := wl_3 157 (by decide +kernel) (by decide +kernel)
theorem m4_186 : Cond.instanceMethod y_Mod_bitsAt ∈ wl := wl_4 186 (by decide +kernel) (by decide +kernel)
theorem m4_162 : Cond.instanceMethod y_Mod_emit ∈ wl := wl_4 162 (by decide +kernel) (by decide +kernel)
theorem m4_158 : Cond.instanceMethod y_Mod_emitNumber ∈ wl := wl_4 158 (by decide +kernel) (by decide +kernel)
theorem m4_132 : Cond.instanceMethod y_Mod_fineness ∈ wl := wl_4 132 (by decide +kernel) (by decide +kernel)
theorem m4_136 : Cond.instanceMethod y_Mod_forecast ∈ wl := wl_4 136 (by decide +kernel) (by decide +kernel)
theorem m4_182 : Cond.instanceMethod y_Mod_lengthOf ∈ wl := wl_4 182 (by decide +kernel) (by decide +kernel)
theorem m4_112 : Cond.instanceMethod y_Mod_list ∈ wl := wl_4 112 (by decide +kernel) (by decide +kernel)
theorem m4_108 : Cond.instanceMethod y_Mod_look ∈ wl := wl_4 108 (by decide +kernel) (by decide +kernel)
theorem m4_198 : Cond.instanceMethod y_Mod_next ∈ wl := wl_4 198 (by decide +kernel) (by decide +kernel)
theorem m4_194 : Cond.instanceMethod y_Mod_readNumber ∈ wl := wl_4 194 (by decide +kernel) (by decide +kernel)
theorem m4_184 : Cond.methodLink "WaveletSlicesModel" 241 y_Mod_bitsAt ∈ wl := wl_4 184 (by decide +kernel) (by decide +kernel)
theorem m4_167 : Cond.methodLink "WaveletSlicesModel" 277 y_Mod_bound ∈ wl := wl_4 167 (by decide +kernel) (by decide +kernel)
theorem m4_160 : Cond.methodLink "WaveletSlicesModel" 287 y_Mod_emit ∈ wl := wl_4 160 (by decide +kernel) (by decide +kernel)
theorem m4_156 : Cond.methodLink "WaveletSlicesModel" 293 y_Mod_emitNumber ∈ wl := wl_4 156 (by decide +kernel) (by decide +kernel)
theorem m4_130 : Cond.methodLink "WaveletSlicesModel" 263 y_Mod_fineness ∈ wl := wl_4 130 (by decide +kernel) (by decide +kernel)
theorem m4_134 : Cond.methodLink "WaveletSlicesModel" 274 y_Mod_forecast ∈ wl := wl_4 134 (by decide +kernel) (by decide +kernel)
theorem m4_180 : Cond.methodLink "WaveletSlicesModel" 254 y_Mod_lengthOf ∈ wl := wl_4 180 (by decide +kernel) (by decide +kernel)
theorem m4_110 : Cond.methodLink "WaveletSlicesModel" 260 y_Mod_list ∈ wl := wl_4 110 (by decide +kernel) (by decide +kernel)
theorem m4_106 : Cond.methodLink "WaveletSlicesModel" 237 y_Mod_look ∈ wl := wl_4 106 (by decide +kernel) (by decide +kernel)
theorem m4_196 : Cond.methodLink "WaveletSlicesModel" 251 y_Mod_next ∈ wl := wl_4 196 (by decide +kernel) (by decide +kernel)
theorem m4_139 : Cond.methodLink "WaveletSlicesModel" 290 y_Mod_number ∈ wl := wl_4 139 (by decide +kernel) (by decide +kernel)
theorem m4_192 : Cond.methodLink "WaveletSlicesModel" 266 y_Mod_readNumber ∈ wl := wl_4 192 (by decide +kernel) (by decide +kernel)
theorem m4_164 : Cond.methodLink "WaveletSlicesModel" 270 y_Mod_value ∈ wl := wl_4 164 (by decide +kernel) (by decide +kernel)
theorem mp_47 : Cond.selects "WaveletSlicesModel" y_Mod_bitsAt y_Mod_bitsAt ∈ wl := wl_p 47 (by decide +kernel) (by decide +kernel)
theorem mp_43 : Cond.selects "WaveletSlicesModel" y_Mod_emit y_Mod_emit ∈ wl := wl_p 43 (by decide +kernel) (by decide +kernel)
theorem mp_42 : Cond.selects "WaveletSlicesModel" y_Mod_emitNumber y_Mod_emitNumber ∈ wl := wl_p 42 (by decide +kernel) (by decide +kernel)
theorem mp_40 : Cond.selects "WaveletSlicesModel" y_Mod_fineness y_Mod_fineness ∈ wl := wl_p 40 (by decide +kernel) (by decide +kernel)
theorem mp_41 : Cond.selects "WaveletSlicesModel" y_Mod_forecast y_Mod_forecast ∈ wl := wl_p 41 (by decide +kernel) (by decide +kernel)
theorem mp_46 : Cond.selects "WaveletSlicesModel" y_Mod_lengthOf y_Mod_lengthOf ∈ wl := wl_p 46 (by decide +kernel) (by decide +kernel)
theorem mp_35 : Cond.selects "WaveletSlicesModel" y_Mod_list y_Mod_list ∈ wl := wl_p 35 (by decide +kernel) (by decide +kernel)
theorem mp_34 : Cond.selects "WaveletSlicesModel" y_Mod_look y_Mod_look ∈ wl := wl_p 34 (by decide +kernel) (by decide +kernel)
theorem mp_50 : Cond.selects "WaveletSlicesModel" y_Mod_next y_Mod_next ∈ wl := wl_p 50 (by decide +kernel) (by decide +kernel)
theorem mp_49 : Cond.selects "WaveletSlicesModel" y_Mod_readNumber y_Mod_readNumber ∈ wl := wl_p 49 (by decide +kernel) (by decide +kernel)
theorem m4_168 : Cond.static y_Mod_bound ∈ wl := wl_4 168 (by decide +kernel) (by decide +kernel)
theorem m4_140 : Cond.static y_Mod_number ∈ wl := wl_4 140 (by decide +kernel) (by decide +kernel)
theorem m4_165 : Cond.static y_Mod_value ∈ wl := wl_4 165 (by decide +kernel) (by decide +kernel)
theorem d_Mod_lengthOf_0 : decode prog_9_method_40_code 0 = .ok (.aload_n 0, 1) := by decide +kernel
theorem d_Mod_lengthOf_1 : decode prog_9_method_40_code 1 = .ok (.iload_n 1, 1) := by decide +kernel
theorem d_Mod_lengthOf_2 : decode prog_9_method_40_code 2 = .ok (.invokevirtual 237, 3) := by decide +kernel
theorem d_Mod_lengthOf_5 : decode prog_9_method_40_code 5 = .ok (.aload_n 0, 1) := by decide +kernel
theorem d_Mod_lengthOf_6 : decode prog_9_method_40_code 6 = .ok (.iconst 5, 1) := by decide +kernel
theorem d_Mod_lengthOf_7 : decode prog_9_method_40_code 7 = .ok (.aload_n 0, 1) := by decide +kernel
theorem d_Mod_lengthOf_8 : decode prog_9_method_40_code 8 = .ok (.getfield 196, 3) := by decide +kernel
theorem d_Mod_lengthOf_11 : decode prog_9_method_40_code 11 = .ok (.invokevirtual 241, 3) := by decide +kernel
theorem d_Mod_lengthOf_14 : decode prog_9_method_40_code 14 = .ok (.istore_n 2, 1) := by decide +kernel
theorem d_Mod_lengthOf_15 : decode prog_9_method_40_code 15 = .ok (.iload_n 2, 1) := by decide +kernel
theorem d_Mod_lengthOf_16 : decode prog_9_method_40_code 16 = .ok (.aload_n 0, 1) := by decide +kernel
theorem d_Mod_lengthOf_17 : decode prog_9_method_40_code 17 = .ok (.getfield 199, 3) := by decide +kernel
theorem d_Mod_lengthOf_20 : decode prog_9_method_40_code 20 = .ok (.if_icmp .le 10, 3) := by decide +kernel
theorem d_Mod_lengthOf_23 : decode prog_9_method_40_code 23 = .ok (.aload_n 0, 1) := by decide +kernel
theorem d_Mod_lengthOf_24 : decode prog_9_method_40_code 24 = .ok (.getfield 199, 3) := by decide +kernel
theorem d_Mod_lengthOf_27 : decode prog_9_method_40_code 27 = .ok (.goto 4, 3) := by decide +kernel
theorem d_Mod_lengthOf_30 : decode prog_9_method_40_code 30 = .ok (.iload_n 2, 1) := by decide +kernel
theorem d_Mod_lengthOf_31 : decode prog_9_method_40_code 31 = .ok (.ireturn, 1) := by decide +kernel
theorem d_Mod_readNumber_0 : decode prog_9_method_42_code 0 = .ok (.lconst 1, 1) := by decide +kernel
theorem d_Mod_readNumber_1 : decode prog_9_method_42_code 1 = .ok (.lstore_n 1, 1) := by decide +kernel
theorem d_Mod_readNumber_2 : decode prog_9_method_42_code 2 = .ok (.iconst 1, 1) := by decide +kernel
theorem d_Mod_readNumber_3 : decode prog_9_method_42_code 3 = .ok (.istore_n 3, 1) := by decide +kernel
theorem d_Mod_readNumber_4 : decode prog_9_method_42_code 4 = .ok (.iconst 0, 1) := by decide +kernel
theorem d_Mod_readNumber_5 : decode prog_9_method_42_code 5 = .ok (.istore 4, 2) := by decide +kernel
theorem d_Mod_readNumber_7 : decode prog_9_method_42_code 7 = .ok (.iload 4, 2) := by decide +kernel
theorem d_Mod_readNumber_9 : decode prog_9_method_42_code 9 = .ok (.bipush 26, 2) := by decide +kernel
theorem d_Mod_readNumber_11 : decode prog_9_method_42_code 11 = .ok (.if_icmp .ge 42, 3) := by decide +kernel
theorem d_Mod_readNumber_14 : decode prog_9_method_42_code 14 = .ok (.iload_n 3, 1) := by decide +kernel
theorem d_Mod_readNumber_15 : decode prog_9_method_42_code 15 = .ok (.ifCond .eq 38, 3) := by decide +kernel
theorem d_Mod_readNumber_18 : decode prog_9_method_42_code 18 = .ok (.aload_n 0, 1) := by decide +kernel
theorem d_Mod_readNumber_19 : decode prog_9_method_42_code 19 = .ok (.invokevirtual 251, 3) := by decide +kernel
theorem d_Mod_readNumber_22 : decode prog_9_method_42_code 22 = .ok (.ifCond .ne 7, 3) := by decide +kernel
theorem d_Mod_readNumber_25 : decode prog_9_method_42_code 25 = .ok (.iconst 1, 1) := by decide +kernel
theorem d_Mod_readNumber_26 : decode prog_9_method_42_code 26 = .ok (.goto 4, 3) := by decide +kernel
theorem d_Mod_readNumber_29 : decode prog_9_method_42_code 29 = .ok (.iconst 0, 1) := by decide +kernel
theorem d_Mod_readNumber_30 : decode prog_9_method_42_code 30 = .ok (.istore_n 3, 1) := by decide +kernel
theorem d_Mod_readNumber_31 : decode prog_9_method_42_code 31 = .ok (.iload_n 3, 1) := by decide +kernel
theorem d_Mod_readNumber_32 : decode prog_9_method_42_code 32 = .ok (.ifCond .eq 15, 3) := by decide +kernel
theorem d_Mod_readNumber_35 : decode prog_9_method_42_code 35 = .ok (.ldc2_w 139, 3) := by decide +kernel
theorem d_Mod_readNumber_38 : decode prog_9_method_42_code 38 = .ok (.lload_n 1, 1) := by decide +kernel
theorem d_Mod_readNumber_39 : decode prog_9_method_42_code 39 = .ok (.lmul, 1) := by decide +kernel
theorem d_Mod_readNumber_40 : decode prog_9_method_42_code 40 = .ok (.aload_n 0, 1) := by decide +kernel
theorem d_Mod_readNumber_41 : decode prog_9_method_42_code 41 = .ok (.invokevirtual 251, 3) := by decide +kernel
theorem d_Mod_readNumber_44 : decode prog_9_method_42_code 44 = .ok (.i2l, 1) := by decide +kernel
theorem d_Mod_readNumber_45 : decode prog_9_method_42_code 45 = .ok (.ladd, 1) := by decide +kernel
theorem d_Mod_readNumber_46 : decode prog_9_method_42_code 46 = .ok (.lstore_n 1, 1) := by decide +kernel
theorem d_Mod_readNumber_47 : decode prog_9_method_42_code 47 = .ok (.iinc 4 1, 3) := by decide +kernel
theorem d_Mod_readNumber_50 : decode prog_9_method_42_code 50 = .ok (.goto (-43), 3) := by decide +kernel
theorem d_Mod_readNumber_53 : decode prog_9_method_42_code 53 = .ok (.lload_n 1, 1) := by decide +kernel
theorem d_Mod_readNumber_54 : decode prog_9_method_42_code 54 = .ok (.lconst 1, 1) := by decide +kernel
theorem d_Mod_readNumber_55 : decode prog_9_method_42_code 55 = .ok (.lcmp, 1) := by decide +kernel
theorem d_Mod_readNumber_56 : decode prog_9_method_42_code 56 = .ok (.ifCond .ne 5, 3) := by decide +kernel
theorem d_Mod_readNumber_59 : decode prog_9_method_42_code 59 = .ok (.lconst 0, 1) := by decide +kernel
theorem d_Mod_readNumber_60 : decode prog_9_method_42_code 60 = .ok (.lreturn, 1) := by decide +kernel
theorem d_Mod_readNumber_61 : decode prog_9_method_42_code 61 = .ok (.aload_n 0, 1) := by decide +kernel
theorem d_Mod_readNumber_62 : decode prog_9_method_42_code 62 = .ok (.invokevirtual 251, 3) := by decide +kernel
theorem d_Mod_readNumber_65 : decode prog_9_method_42_code 65 = .ok (.iconst 1, 1) := by decide +kernel
theorem d_Mod_readNumber_66 : decode prog_9_method_42_code 66 = .ok (.if_icmp .ne 9, 3) := by decide +kernel
theorem d_Mod_readNumber_69 : decode prog_9_method_42_code 69 = .ok (.lconst 1, 1) := by decide +kernel
theorem d_Mod_readNumber_70 : decode prog_9_method_42_code 70 = .ok (.lload_n 1, 1) := by decide +kernel
theorem d_Mod_readNumber_71 : decode prog_9_method_42_code 71 = .ok (.lsub, 1) := by decide +kernel
theorem d_Mod_readNumber_72 : decode prog_9_method_42_code 72 = .ok (.goto 6, 3) := by decide +kernel
theorem d_Mod_readNumber_75 : decode prog_9_method_42_code 75 = .ok (.lload_n 1, 1) := by decide +kernel
theorem d_Mod_readNumber_76 : decode prog_9_method_42_code 76 = .ok (.lconst 1, 1) := by decide +kernel
theorem d_Mod_readNumber_77 : decode prog_9_method_42_code 77 = .ok (.lsub, 1) := by decide +kernel
theorem d_Mod_readNumber_78 : decode prog_9_method_42_code 78 = .ok (.lreturn, 1) := by decide +kernel
theorem d_Mod_read_0 : decode prog_9_method_43_code 0 = .ok (.aload_n 0, 1) := by decide +kernel
theorem d_Mod_read_1 : decode prog_9_method_43_code 1 = .ok (.iload_n 1, 1) := by decide +kernel
theorem d_Mod_read_2 : decode prog_9_method_43_code 2 = .ok (.invokevirtual 254, 3) := by decide +kernel
theorem d_Mod_read_5 : decode prog_9_method_43_code 5 = .ok (.istore_n 2, 1) := by decide +kernel
theorem d_Mod_read_6 : decode prog_9_method_43_code 6 = .ok (.aload_n 0, 1) := by decide +kernel
theorem d_Mod_read_7 : decode prog_9_method_43_code 7 = .ok (.iconst 0, 1) := by decide +kernel
theorem d_Mod_read_8 : decode prog_9_method_43_code 8 = .ok (.iconst 5, 1) := by decide +kernel
theorem d_Mod_read_9 : decode prog_9_method_43_code 9 = .ok (.invokevirtual 241, 3) := by decide +kernel
theorem d_Mod_read_12 : decode prog_9_method_43_code 12 = .ok (.istore_n 3, 1) := by decide +kernel
theorem d_Mod_read_13 : decode prog_9_method_43_code 13 = .ok (.aload_n 0, 1) := by decide +kernel
theorem d_Mod_read_14 : decode prog_9_method_43_code 14 = .ok (.iconst 5, 1) := by decide +kernel
theorem d_Mod_read_15 : decode prog_9_method_43_code 15 = .ok (.aload_n 0, 1) := by decide +kernel
theorem d_Mod_read_16 : decode prog_9_method_43_code 16 = .ok (.getfield 196, 3) := by decide +kernel
theorem d_Mod_read_19 : decode prog_9_method_43_code 19 = .ok (.iadd, 1) := by decide +kernel
theorem d_Mod_read_20 : decode prog_9_method_43_code 20 = .ok (.putfield 245, 3) := by decide +kernel
theorem d_Mod_read_23 : decode prog_9_method_43_code 23 = .ok (.aload_n 0, 1) := by decide +kernel
theorem d_Mod_read_24 : decode prog_9_method_43_code 24 = .ok (.aload_n 0, 1) := by decide +kernel
theorem d_Mod_read_25 : decode prog_9_method_43_code 25 = .ok (.getfield 245, 3) := by decide +kernel
theorem d_Mod_read_28 : decode prog_9_method_43_code 28 = .ok (.iload_n 2, 1) := by decide +kernel
theorem d_Mod_read_29 : decode prog_9_method_43_code 29 = .ok (.iadd, 1) := by decide +kernel
theorem d_Mod_read_30 : decode prog_9_method_43_code 30 = .ok (.putfield 248, 3) := by decide +kernel
theorem d_Mod_read_33 : decode prog_9_method_43_code 33 = .ok (.aload_n 0, 1) := by decide +kernel
theorem d_Mod_read_34 : decode prog_9_method_43_code 34 = .ok (.iconst 0, 1) := by decide +kernel
theorem d_Mod_read_35 : decode prog_9_method_43_code 35 = .ok (.putfield 257, 3) := by decide +kernel
theorem d_Mod_read_38 : decode prog_9_method_43_code 38 = .ok (.aload_n 0, 1) := by decide +kernel
theorem d_Mod_read_39 : decode prog_9_method_43_code 39 = .ok (.iload_n 1, 1) := by decide +kernel
theorem d_Mod_read_40 : decode prog_9_method_43_code 40 = .ok (.invokevirtual 260, 3) := by decide +kernel
theorem d_Mod_read_43 : decode prog_9_method_43_code 43 = .ok (.iconst 0, 1) := by decide +kernel
theorem d_Mod_read_44 : decode prog_9_method_43_code 44 = .ok (.istore 4, 2) := by decide +kernel
theorem d_Mod_read_46 : decode prog_9_method_43_code 46 = .ok (.iload 4, 2) := by decide +kernel
theorem d_Mod_read_48 : decode prog_9_method_43_code 48 = .ok (.aload_n 0, 1) := by decide +kernel
theorem d_Mod_read_49 : decode prog_9_method_43_code 49 = .ok (.getfield 180, 3) := by decide +kernel
theorem d_Mod_read_52 : decode prog_9_method_43_code 52 = .ok (.if_icmp .ge 108, 3) := by decide +kernel
theorem d_Mod_read_55 : decode prog_9_method_43_code 55 = .ok (.aload_n 0, 1) := by decide +kernel
theorem d_Mod_read_56 : decode prog_9_method_43_code 56 = .ok (.getfield 55, 3) := by decide +kernel
theorem d_Mod_read_59 : decode prog_9_method_43_code 59 = .ok (.iload 4, 2) := by decide +kernel
theorem d_Mod_read_61 : decode prog_9_method_43_code 61 = .ok (.iaload, 1) := by decide +kernel
theorem d_Mod_read_62 : decode prog_9_method_43_code 62 = .ok (.istore 5, 2) := by decide +kernel
theorem d_Mod_read_64 : decode prog_9_method_43_code 64 = .ok (.aload_n 0, 1) := by decide +kernel
theorem d_Mod_read_65 : decode prog_9_method_43_code 65 = .ok (.iload_n 3, 1) := by decide +kernel
theorem d_Mod_read_66 : decode prog_9_method_43_code 66 = .ok (.aload_n 0, 1) := by decide +kernel
theorem d_Mod_read_67 : decode prog_9_method_43_code 67 = .ok (.getfield 58, 3) := by decide +kernel
theorem d_Mod_read_70 : decode prog_9_method_43_code 70 = .ok (.iload 4, 2) := by decide +kernel
theorem d_Mod_read_72 : decode prog_9_method_43_code 72 = .ok (.iaload, 1) := by decide +kernel
theorem d_Mod_read_73 : decode prog_9_method_43_code 73 = .ok (.invokevirtual 263, 3) := by decide +kernel
theorem d_Mod_read_76 : decode prog_9_method_43_code 76 = .ok (.istore 6, 2) := by decide +kernel
theorem d_Mod_read_78 : decode prog_9_method_43_code 78 = .ok (.aload_n 0, 1) := by decide +kernel
theorem d_Mod_read_79 : decode prog_9_method_43_code 79 = .ok (.invokevirtual 266, 3) := by decide +kernel
theorem d_Mod_read_82 : decode prog_9_method_43_code 82 = .ok (.lstore 7, 2) := by decide +kernel
theorem d_Mod_read_84 : decode prog_9_method_43_code 84 = .ok (.lload 7, 2) := by decide +kernel
theorem d_Mod_read_86 : decode prog_9_method_43_code 86 = .ok (.iload 6, 2) := by decide +kernel
theorem d_Mod_read_88 : decode prog_9_method_43_code 88 = .ok (.invokestatic 270, 3) := by decide +kernel
theorem d_Mod_read_91 : decode prog_9_method_43_code 91 = .ok (.lstore 9, 2) := by decide +kernel
theorem d_Mod_read_93 : decode prog_9_method_43_code 93 = .ok (.aload_n 0, 1) := by decide +kernel
theorem d_Mod_read_94 : decode prog_9_method_43_code 94 = .ok (.getfield 98, 3) := by decide +kernel
theorem d_Mod_read_97 : decode prog_9_method_43_code 97 = .ok (.ifCond .eq 24, 3) := by decide +kernel
theorem d_Mod_read_100 : decode prog_9_method_43_code 100 = .ok (.aload_n 0, 1) := by decide +kernel
theorem d_Mod_read_101 : decode prog_9_method_43_code 101 = .ok (.getfield 58, 3) := by decide +kernel
theorem d_Mod_read_104 : decode prog_9_method_43_code 104 = .ok (.iload 4, 2) := by decide +kernel
theorem d_Mod_read_106 : decode prog_9_method_43_code 106 = .ok (.iaload, 1) := by decide +kernel
theorem d_Mod_read_107 : decode prog_9_method_43_code 107 = .ok (.ifCond .ne 14, 3) := by decide +kernel
theorem d_Mod_read_110 : decode prog_9_method_43_code 110 = .ok (.lload 9, 2) := by decide +kernel
theorem d_Mod_read_112 : decode prog_9_method_43_code 112 = .ok (.aload_n 0, 1) := by decide +kernel
theorem d_Mod_read_113 : decode prog_9_method_43_code 113 = .ok (.iload 5, 2) := by decide +kernel
theorem d_Mod_read_115 : decode prog_9_method_43_code 115 = .ok (.invokevirtual 274, 3) := by decide +kernel
theorem d_Mod_read_118 : decode prog_9_method_43_code 118 = .ok (.ladd, 1) := by decide +kernel
theorem d_Mod_read_119 : decode prog_9_method_43_code 119 = .ok (.lstore 9, 2) := by decide +kernel
theorem d_Mod_read_121 : decode prog_9_method_43_code 121 = .ok (.aload_n 0, 1) := by decide +kernel
theorem d_Mod_read_122 : decode prog_9_method_43_code 122 = .ok (.getfield 20, 3) := by decide +kernel
theorem d_Mod_read_125 : decode prog_9_method_43_code 125 = .ok (.iload 5, 2) := by decide +kernel
theorem d_Mod_read_127 : decode prog_9_method_43_code 127 = .ok (.lload 9, 2) := by decide +kernel
theorem d_Mod_read_129 : decode prog_9_method_43_code 129 = .ok (.invokestatic 277, 3) := by decide +kernel
theorem d_Mod_read_132 : decode prog_9_method_43_code 132 = .ok (.lastore, 1) := by decide +kernel
theorem d_Mod_read_133 : decode prog_9_method_43_code 133 = .ok (.aload_n 0, 1) := by decide +kernel
theorem d_Mod_read_134 : decode prog_9_method_43_code 134 = .ok (.dup, 1) := by decide +kernel
theorem d_Mod_read_135 : decode prog_9_method_43_code 135 = .ok (.getfield 257, 3) := by decide +kernel
theorem d_Mod_read_138 : decode prog_9_method_43_code 138 = .ok (.lload 7, 2) := by decide +kernel
theorem d_Mod_read_140 : decode prog_9_method_43_code 140 = .ok (.lconst 0, 1) := by decide +kernel
theorem d_Mod_read_141 : decode prog_9_method_43_code 141 = .ok (.lcmp, 1) := by decide +kernel
theorem d_Mod_read_142 : decode prog_9_method_43_code 142 = .ok (.ifCond .ne 7, 3) := by decide +kernel
theorem d_Mod_read_145 : decode prog_9_method_43_code 145 = .ok (.iconst 0, 1) := by decide +kernel
theorem d_Mod_read_146 : decode prog_9_method_43_code 146 = .ok (.goto 4, 3) := by decide +kernel
theorem d_Mod_read_149 : decode prog_9_method_43_code 149 = .ok (.iconst 1, 1) := by decide +kernel
theorem d_Mod_read_150 : decode prog_9_method_43_code 150 = .ok (.iadd, 1) := by decide +kernel
theorem d_Mod_read_151 : decode prog_9_method_43_code 151 = .ok (.putfield 257, 3) := by decide +kernel
theorem d_Mod_read_154 : decode prog_9_method_43_code 154 = .ok (.iinc 4 1, 3) := by decide +kernel
theorem d_Mod_read_157 : decode prog_9_method_43_code 157 = .ok (.goto (-111), 3) := by decide +kernel
theorem d_Mod_read_160 : decode prog_9_method_43_code 160 = .ok (.return_, 1) := by decide +kernel
theorem d_Mod_emit_0 : decode prog_9_method_44_code 0 = .ok (.aload_n 0, 1) := by decide +kernel
theorem d_Mod_emit_1 : decode prog_9_method_44_code 1 = .ok (.getfield 281, 3) := by decide +kernel
theorem d_Mod_emit_4 : decode prog_9_method_44_code 4 = .ok (.sipush 1024, 3) := by decide +kernel
theorem d_Mod_emit_7 : decode prog_9_method_44_code 7 = .ok (.if_icmp .ge 14, 3) := by decide +kernel
theorem d_Mod_emit_10 : decode prog_9_method_44_code 10 = .ok (.aload_n 0, 1) := by decide +kernel
theorem d_Mod_emit_11 : decode prog_9_method_44_code 11 = .ok (.getfield 61, 3) := by decide +kernel
theorem d_Mod_emit_14 : decode prog_9_method_44_code 14 = .ok (.aload_n 0, 1) := by decide +kernel
theorem d_Mod_emit_15 : decode prog_9_method_44_code 15 = .ok (.getfield 281, 3) := by decide +kernel
theorem d_Mod_emit_18 : decode prog_9_method_44_code 18 = .ok (.iload_n 1, 1) := by decide +kernel
theorem d_Mod_emit_19 : decode prog_9_method_44_code 19 = .ok (.i2b, 1) := by decide +kernel
theorem d_Mod_emit_20 : decode prog_9_method_44_code 20 = .ok (.bastore, 1) := by decide +kernel
theorem d_Mod_emit_21 : decode prog_9_method_44_code 21 = .ok (.aload_n 0, 1) := by decide +kernel
theorem d_Mod_emit_22 : decode prog_9_method_44_code 22 = .ok (.dup, 1) := by decide +kernel
theorem d_Mod_emit_23 : decode prog_9_method_44_code 23 = .ok (.getfield 281, 3) := by decide +kernel
theorem d_Mod_emit_26 : decode prog_9_method_44_code 26 = .ok (.iconst 1, 1) := by decide +kernel
theorem d_Mod_emit_27 : decode prog_9_method_44_code 27 = .ok (.iadd, 1) := by decide +kernel
theorem d_Mod_emit_28 : decode prog_9_method_44_code 28 = .ok (.putfield 281, 3) := by decide +kernel
theorem d_Mod_emit_31 : decode prog_9_method_44_code 31 = .ok (.aload_n 0, 1) := by decide +kernel
theorem d_Mod_emit_32 : decode prog_9_method_44_code 32 = .ok (.iload_n 1, 1) := by decide +kernel
theorem d_Mod_emit_33 : decode prog_9_method_44_code 33 = .ok (.ifCond .ne 10, 3) := by decide +kernel
theorem d_Mod_emit_36 : decode prog_9_method_44_code 36 = .ok (.aload_n 0, 1) := by decide +kernel
theorem d_Mod_emit_37 : decode prog_9_method_44_code 37 = .ok (.getfield 281, 3) := by decide +kernel
theorem d_Mod_emit_40 : decode prog_9_method_44_code 40 = .ok (.goto 7, 3) := by decide +kernel
theorem d_Mod_emit_43 : decode prog_9_method_44_code 43 = .ok (.aload_n 0, 1) := by decide +kernel
theorem d_Mod_emit_44 : decode prog_9_method_44_code 44 = .ok (.getfield 284, 3) := by decide +kernel
theorem d_Mod_emit_47 : decode prog_9_method_44_code 47 = .ok (.putfield 284, 3) := by decide +kernel
theorem d_Mod_emit_50 : decode prog_9_method_44_code 50 = .ok (.return_, 1) := by decide +kernel
theorem d_Mod_emitNumber_0 : decode prog_9_method_45_code 0 = .ok (.lload_n 1, 1) := by decide +kernel
theorem d_Mod_emitNumber_1 : decode prog_9_method_45_code 1 = .ok (.lconst 0, 1) := by decide +kernel
theorem d_Mod_emitNumber_2 : decode prog_9_method_45_code 2 = .ok (.lcmp, 1) := by decide +kernel
theorem d_Mod_emitNumber_3 : decode prog_9_method_45_code 3 = .ok (.ifCond .ge 8, 3) := by decide +kernel
theorem d_Mod_emitNumber_6 : decode prog_9_method_45_code 6 = .ok (.lload_n 1, 1) := by decide +kernel
theorem d_Mod_emitNumber_7 : decode prog_9_method_45_code 7 = .ok (.lneg, 1) := by decide +kernel
theorem d_Mod_emitNumber_8 : decode prog_9_method_45_code 8 = .ok (.goto 4, 3) := by decide +kernel
theorem d_Mod_emitNumber_11 : decode prog_9_method_45_code 11 = .ok (.lload_n 1, 1) := by decide +kernel
theorem d_Mod_emitNumber_12 : decode prog_9_method_45_code 12 = .ok (.lconst 1, 1) := by decide +kernel
theorem d_Mod_emitNumber_13 : decode prog_9_method_45_code 13 = .ok (.ladd, 1) := by decide +kernel
theorem d_Mod_emitNumber_14 : decode prog_9_method_45_code 14 = .ok (.lstore_n 3, 1) := by decide +kernel
theorem d_Mod_emitNumber_15 : decode prog_9_method_45_code 15 = .ok (.iconst 0, 1) := by decide +kernel
theorem d_Mod_emitNumber_16 : decode prog_9_method_45_code 16 = .ok (.istore 5, 2) := by decide +kernel
theorem d_Mod_emitNumber_18 : decode prog_9_method_45_code 18 = .ok (.iconst 1, 1) := by decide +kernel
theorem d_Mod_emitNumber_19 : decode prog_9_method_45_code 19 = .ok (.istore 6, 2) := by decide +kernel
theorem d_Mod_emitNumber_21 : decode prog_9_method_45_code 21 = .ok (.iload 6, 2) := by decide +kernel
theorem d_Mod_emitNumber_23 : decode prog_9_method_45_code 23 = .ok (.bipush 26, 2) := by decide +kernel
theorem d_Mod_emitNumber_25 : decode prog_9_method_45_code 25 = .ok (.if_icmp .gt 27, 3) := by decide +kernel
theorem d_Mod_emitNumber_28 : decode prog_9_method_45_code 28 = .ok (.lload_n 3, 1) := by decide +kernel
theorem d_Mod_emitNumber_29 : decode prog_9_method_45_code 29 = .ok (.iload 6, 2) := by decide +kernel
theorem d_Mod_emitNumber_31 : decode prog_9_method_45_code 31 = .ok (.lshr, 1) := by decide +kernel
theorem d_Mod_emitNumber_32 : decode prog_9_method_45_code 32 = .ok (.lconst 0, 1) := by decide +kernel
theorem d_Mod_emitNumber_33 : decode prog_9_method_45_code 33 = .ok (.lcmp, 1) := by decide +kernel
theorem d_Mod_emitNumber_34 : decode prog_9_method_45_code 34 = .ok (.ifCond .le 8, 3) := by decide +kernel
theorem d_Mod_emitNumber_37 : decode prog_9_method_45_code 37 = .ok (.iload 6, 2) := by decide +kernel
theorem d_Mod_emitNumber_39 : decode prog_9_method_45_code 39 = .ok (.goto 5, 3) := by decide +kernel
theorem d_Mod_emitNumber_42 : decode prog_9_method_45_code 42 = .ok (.iload 5, 2) := by decide +kernel
theorem d_Mod_emitNumber_44 : decode prog_9_method_45_code 44 = .ok (.istore 5, 2) := by decide +kernel
theorem d_Mod_emitNumber_46 : decode prog_9_method_45_code 46 = .ok (.iinc 6 1, 3) := by decide +kernel
theorem d_Mod_emitNumber_49 : decode prog_9_method_45_code 49 = .ok (.goto (-28), 3) := by decide +kernel
theorem d_Mod_emitNumber_52 : decode prog_9_method_45_code 52 = .ok (.iload 5, 2) := by decide +kernel
theorem d_Mod_emitNumber_54 : decode prog_9_method_45_code 54 = .ok (.iconst 1, 1) := by decide +kernel
theorem d_Mod_emitNumber_55 : decode prog_9_method_45_code 55 = .ok (.isub, 1) := by decide +kernel
theorem d_Mod_emitNumber_56 : decode prog_9_method_45_code 56 = .ok (.istore 6, 2) := by decide +kernel
theorem d_Mod_emitNumber_58 : decode prog_9_method_45_code 58 = .ok (.iload 6, 2) := by decide +kernel
theorem d_Mod_emitNumber_60 : decode prog_9_method_45_code 60 = .ok (.ifCond .lt 25, 3) := by decide +kernel
theorem d_Mod_emitNumber_63 : decode prog_9_method_45_code 63 = .ok (.aload_n 0, 1) := by decide +kernel
theorem d_Mod_emitNumber_64 : decode prog_9_method_45_code 64 = .ok (.iconst 0, 1) := by decide +kernel
theorem d_Mod_emitNumber_65 : decode prog_9_method_45_code 65 = .ok (.invokevirtual 287, 3) := by decide +kernel
theorem d_Mod_emitNumber_68 : decode prog_9_method_45_code 68 = .ok (.aload_n 0, 1) := by decide +kernel
theorem d_Mod_emitNumber_69 : decode prog_9_method_45_code 69 = .ok (.lload_n 3, 1) := by decide +kernel
theorem d_Mod_emitNumber_70 : decode prog_9_method_45_code 70 = .ok (.iload 6, 2) := by decide +kernel
theorem d_Mod_emitNumber_72 : decode prog_9_method_45_code 72 = .ok (.lshr, 1) := by decide +kernel
theorem d_Mod_emitNumber_73 : decode prog_9_method_45_code 73 = .ok (.lconst 1, 1) := by decide +kernel
theorem d_Mod_emitNumber_74 : decode prog_9_method_45_code 74 = .ok (.land, 1) := by decide +kernel
theorem d_Mod_emitNumber_75 : decode prog_9_method_45_code 75 = .ok (.l2i, 1) := by decide +kernel
theorem d_Mod_emitNumber_76 : decode prog_9_method_45_code 76 = .ok (.invokevirtual 287, 3) := by decide +kernel
theorem d_Mod_emitNumber_79 : decode prog_9_method_45_code 79 = .ok (.iinc 6 (-1), 3) := by decide +kernel
theorem d_Mod_emitNumber_82 : decode prog_9_method_45_code 82 = .ok (.goto (-24), 3) := by decide +kernel
theorem d_Mod_emitNumber_85 : decode prog_9_method_45_code 85 = .ok (.iload 5, 2) := by decide +kernel
theorem d_Mod_emitNumber_87 : decode prog_9_method_45_code 87 = .ok (.bipush 26, 2) := by decide +kernel
theorem d_Mod_emitNumber_89 : decode prog_9_method_45_code 89 = .ok (.if_icmp .ge 8, 3) := by decide +kernel
theorem d_Mod_emitNumber_92 : decode prog_9_method_45_code 92 = .ok (.aload_n 0, 1) := by decide +kernel
theorem d_Mod_emitNumber_93 : decode prog_9_method_45_code 93 = .ok (.iconst 1, 1) := by decide +kernel
theorem d_Mod_emitNumber_94 : decode prog_9_method_45_code 94 = .ok (.invokevirtual 287, 3) := by decide +kernel
theorem d_Mod_emitNumber_97 : decode prog_9_method_45_code 97 = .ok (.lload_n 1, 1) := by decide +kernel
theorem d_Mod_emitNumber_98 : decode prog_9_method_45_code 98 = .ok (.lconst 0, 1) := by decide +kernel
theorem d_Mod_emitNumber_99 : decode prog_9_method_45_code 99 = .ok (.lcmp, 1) := by decide +kernel
theorem d_Mod_emitNumber_100 : decode prog_9_method_45_code 100 = .ok (.ifCond .eq 18, 3) := by decide +kernel
theorem d_Mod_emitNumber_103 : decode prog_9_method_45_code 103 = .ok (.aload_n 0, 1) := by decide +kernel
theorem d_Mod_emitNumber_104 : decode prog_9_method_45_code 104 = .ok (.lload_n 1, 1) := by decide +kernel
theorem d_Mod_emitNumber_105 : decode prog_9_method_45_code 105 = .ok (.lconst 0, 1) := by decide +kernel
theorem d_Mod_emitNumber_106 : decode prog_9_method_45_code 106 = .ok (.lcmp, 1) := by decide +kernel
theorem d_Mod_emitNumber_107 : decode prog_9_method_45_code 107 = .ok (.ifCond .ge 7, 3) := by decide +kernel
theorem d_Mod_emitNumber_110 : decode prog_9_method_45_code 110 = .ok (.iconst 1, 1) := by decide +kernel
theorem d_Mod_emitNumber_111 : decode prog_9_method_45_code 111 = .ok (.goto 4, 3) := by decide +kernel
theorem d_Mod_emitNumber_114 : decode prog_9_method_45_code 114 = .ok (.iconst 0, 1) := by decide +kernel
theorem d_Mod_emitNumber_115 : decode prog_9_method_45_code 115 = .ok (.invokevirtual 287, 3) := by decide +kernel
theorem d_Mod_emitNumber_118 : decode prog_9_method_45_code 118 = .ok (.return_, 1) := by decide +kernel
theorem d_Mod_spell_0 : decode prog_9_method_46_code 0 = .ok (.aload_n 0, 1) := by decide +kernel
theorem d_Mod_spell_1 : decode prog_9_method_46_code 1 = .ok (.iconst 0, 1) := by decide +kernel
theorem d_Mod_spell_2 : decode prog_9_method_46_code 2 = .ok (.putfield 281, 3) := by decide +kernel
theorem d_Mod_spell_5 : decode prog_9_method_46_code 5 = .ok (.aload_n 0, 1) := by decide +kernel
theorem d_Mod_spell_6 : decode prog_9_method_46_code 6 = .ok (.iconst 0, 1) := by decide +kernel
theorem d_Mod_spell_7 : decode prog_9_method_46_code 7 = .ok (.putfield 284, 3) := by decide +kernel
theorem d_Mod_spell_10 : decode prog_9_method_46_code 10 = .ok (.iconst 0, 1) := by decide +kernel
theorem d_Mod_spell_11 : decode prog_9_method_46_code 11 = .ok (.istore_n 2, 1) := by decide +kernel
theorem d_Mod_spell_12 : decode prog_9_method_46_code 12 = .ok (.iload_n 2, 1) := by decide +kernel
theorem d_Mod_spell_13 : decode prog_9_method_46_code 13 = .ok (.aload_n 0, 1) := by decide +kernel
theorem d_Mod_spell_14 : decode prog_9_method_46_code 14 = .ok (.getfield 180, 3) := by decide +kernel
theorem d_Mod_spell_17 : decode prog_9_method_46_code 17 = .ok (.if_icmp .ge 101, 3) := by decide +kernel
theorem d_Mod_spell_20 : decode prog_9_method_46_code 20 = .ok (.aload_n 0, 1) := by decide +kernel
theorem d_Mod_spell_21 : decode prog_9_method_46_code 21 = .ok (.getfield 55, 3) := by decide +kernel
theorem d_Mod_spell_24 : decode prog_9_method_46_code 24 = .ok (.iload_n 2, 1) := by decide +kernel
theorem d_Mod_spell_25 : decode prog_9_method_46_code 25 = .ok (.iaload, 1) := by decide +kernel
theorem d_Mod_spell_26 : decode prog_9_method_46_code 26 = .ok (.istore_n 3, 1) := by decide +kernel
theorem d_Mod_spell_27 : decode prog_9_method_46_code 27 = .ok (.aload_n 0, 1) := by decide +kernel
theorem d_Mod_spell_28 : decode prog_9_method_46_code 28 = .ok (.iload_n 1, 1) := by decide +kernel
theorem d_Mod_spell_29 : decode prog_9_method_46_code 29 = .ok (.aload_n 0, 1) := by decide +kernel
theorem d_Mod_spell_30 : decode prog_9_method_46_code 30 = .ok (.getfield 58, 3) := by decide +kernel
theorem d_Mod_spell_33 : decode prog_9_method_46_code 33 = .ok (.iload_n 2, 1) := by decide +kernel
theorem d_Mod_spell_34 : decode prog_9_method_46_code 34 = .ok (.iaload, 1) := by decide +kernel
theorem d_Mod_spell_35 : decode prog_9_method_46_code 35 = .ok (.invokevirtual 263, 3) := by decide +kernel
theorem d_Mod_spell_38 : decode prog_9_method_46_code 38 = .ok (.istore 4, 2) := by decide +kernel
theorem d_Mod_spell_40 : decode prog_9_method_46_code 40 = .ok (.aload_n 0, 1) := by decide +kernel
theorem d_Mod_spell_41 : decode prog_9_method_46_code 41 = .ok (.getfield 98, 3) := by decide +kernel
theorem d_Mod_spell_44 : decode prog_9_method_46_code 44 = .ok (.ifCond .eq 20, 3) := by decide +kernel
theorem d_Mod_spell_47 : decode prog_9_method_46_code 47 = .ok (.aload_n 0, 1) := by decide +kernel
theorem d_Mod_spell_48 : decode prog_9_method_46_code 48 = .ok (.getfield 58, 3) := by decide +kernel
theorem d_Mod_spell_51 : decode prog_9_method_46_code 51 = .ok (.iload_n 2, 1) := by decide +kernel
theorem d_Mod_spell_52 : decode prog_9_method_46_code 52 = .ok (.iaload, 1) := by decide +kernel
theorem d_Mod_spell_53 : decode prog_9_method_46_code 53 = .ok (.ifCond .ne 11, 3) := by decide +kernel
theorem d_Mod_spell_56 : decode prog_9_method_46_code 56 = .ok (.aload_n 0, 1) := by decide +kernel
theorem d_Mod_spell_57 : decode prog_9_method_46_code 57 = .ok (.iload_n 3, 1) := by decide +kernel
theorem d_Mod_spell_58 : decode prog_9_method_46_code 58 = .ok (.invokevirtual 274, 3) := by decide +kernel
theorem d_Mod_spell_61 : decode prog_9_method_46_code 61 = .ok (.goto 4, 3) := by decide +kernel
theorem d_Mod_spell_64 : decode prog_9_method_46_code 64 = .ok (.lconst 0, 1) := by decide +kernel
theorem d_Mod_spell_65 : decode prog_9_method_46_code 65 = .ok (.lstore 5, 2) := by decide +kernel
theorem d_Mod_spell_67 : decode prog_9_method_46_code 67 = .ok (.aload_n 0, 1) := by decide +kernel
theorem d_Mod_spell_68 : decode prog_9_method_46_code 68 = .ok (.getfield 16, 3) := by decide +kernel
theorem d_Mod_spell_71 : decode prog_9_method_46_code 71 = .ok (.iload_n 3, 1) := by decide +kernel
theorem d_Mod_spell_72 : decode prog_9_method_46_code 72 = .ok (.laload, 1) := by decide +kernel
theorem d_Mod_spell_73 : decode prog_9_method_46_code 73 = .ok (.lload 5, 2) := by decide +kernel
theorem d_Mod_spell_75 : decode prog_9_method_46_code 75 = .ok (.lsub, 1) := by decide +kernel
theorem d_Mod_spell_76 : decode prog_9_method_46_code 76 = .ok (.iload 4, 2) := by decide +kernel
theorem d_Mod_spell_78 : decode prog_9_method_46_code 78 = .ok (.invokestatic 290, 3) := by decide +kernel
theorem d_Mod_spell_81 : decode prog_9_method_46_code 81 = .ok (.lstore 7, 2) := by decide +kernel
theorem d_Mod_spell_83 : decode prog_9_method_46_code 83 = .ok (.aload_n 0, 1) := by decide +kernel
theorem d_Mod_spell_84 : decode prog_9_method_46_code 84 = .ok (.lload 7, 2) := by decide +kernel
theorem d_Mod_spell_86 : decode prog_9_method_46_code 86 = .ok (.invokevirtual 293, 3) := by decide +kernel
theorem d_Mod_spell_89 : decode prog_9_method_46_code 89 = .ok (.lload 5, 2) := by decide +kernel
theorem d_Mod_spell_91 : decode prog_9_method_46_code 91 = .ok (.lload 7, 2) := by decide +kernel
theorem d_Mod_spell_93 : decode prog_9_method_46_code 93 = .ok (.iload 4, 2) := by decide +kernel
theorem d_Mod_spell_95 : decode prog_9_method_46_code 95 = .ok (.invokestatic 270, 3) := by decide +kernel
theorem d_Mod_spell_98 : decode prog_9_method_46_code 98 = .ok (.ladd, 1) := by decide +kernel
theorem d_Mod_spell_99 : decode prog_9_method_46_code 99 = .ok (.lstore 9, 2) := by decide +kernel
theorem d_Mod_spell_101 : decode prog_9_method_46_code 101 = .ok (.aload_n 0, 1) := by decide +kernel
theorem d_Mod_spell_102 : decode prog_9_method_46_code 102 = .ok (.getfield 20, 3) := by decide +kernel
theorem d_Mod_spell_105 : decode prog_9_method_46_code 105 = .ok (.iload_n 3, 1) := by decide +kernel
theorem d_Mod_spell_106 : decode prog_9_method_46_code 106 = .ok (.lload 9, 2) := by decide +kernel
theorem d_Mod_spell_108 : decode prog_9_method_46_code 108 = .ok (.invokestatic 277, 3) := by decide +kernel
theorem d_Mod_spell_111 : decode prog_9_method_46_code 111 = .ok (.lastore, 1) := by decide +kernel
theorem d_Mod_spell_112 : decode prog_9_method_46_code 112 = .ok (.iinc 2 1, 3) := by decide +kernel
theorem d_Mod_spell_115 : decode prog_9_method_46_code 115 = .ok (.goto (-103), 3) := by decide +kernel
theorem d_Mod_spell_118 : decode prog_9_method_46_code 118 = .ok (.return_, 1) := by decide +kernel
theorem d_Mod_putBit_0 : decode prog_9_method_47_code 0 = .ok (.aload_n 0, 1) := by decide +kernel
theorem d_Mod_putBit_1 : decode prog_9_method_47_code 1 = .ok (.getfield 190, 3) := by decide +kernel
theorem d_Mod_putBit_4 : decode prog_9_method_47_code 4 = .ok (.iload_n 1, 1) := by decide +kernel
theorem d_Mod_putBit_5 : decode prog_9_method_47_code 5 = .ok (.bipush 8, 2) := by decide +kernel
theorem d_Mod_putBit_7 : decode prog_9_method_47_code 7 = .ok (.idiv, 1) := by decide +kernel
theorem d_Mod_putBit_8 : decode prog_9_method_47_code 8 = .ok (.iadd, 1) := by decide +kernel
theorem d_Mod_putBit_9 : decode prog_9_method_47_code 9 = .ok (.istore_n 3, 1) := by decide +kernel
theorem d_Mod_putBit_10 : decode prog_9_method_47_code 10 = .ok (.aload_n 0, 1) := by decide +kernel
theorem d_Mod_putBit_11 : decode prog_9_method_47_code 11 = .ok (.getfield 45, 3) := by decide +kernel
theorem d_Mod_putBit_14 : decode prog_9_method_47_code 14 = .ok (.iload_n 3, 1) := by decide +kernel
theorem d_Mod_putBit_15 : decode prog_9_method_47_code 15 = .ok (.dup2, 1) := by decide +kernel
theorem d_Mod_putBit_16 : decode prog_9_method_47_code 16 = .ok (.baload, 1) := by decide +kernel
theorem d_Mod_putBit_17 : decode prog_9_method_47_code 17 = .ok (.iload_n 2, 1) := by decide +kernel
theorem d_Mod_putBit_18 : decode prog_9_method_47_code 18 = .ok (.bipush 7, 2) := by decide +kernel
theorem d_Mod_putBit_20 : decode prog_9_method_47_code 20 = .ok (.iload_n 1, 1) := by decide +kernel
theorem d_Mod_putBit_21 : decode prog_9_method_47_code 21 = .ok (.bipush 8, 2) := by decide +kernel
theorem d_Mod_putBit_23 : decode prog_9_method_47_code 23 = .ok (.irem, 1) := by decide +kernel
theorem d_Mod_putBit_24 : decode prog_9_method_47_code 24 = .ok (.isub, 1) := by decide +kernel
theorem d_Mod_putBit_25 : decode prog_9_method_47_code 25 = .ok (.ishl, 1) := by decide +kernel
theorem d_Mod_putBit_26 : decode prog_9_method_47_code 26 = .ok (.iadd, 1) := by decide +kernel
theorem d_Mod_putBit_27 : decode prog_9_method_47_code 27 = .ok (.i2b, 1) := by decide +kernel
theorem d_Mod_putBit_28 : decode prog_9_method_47_code 28 = .ok (.bastore, 1) := by decide +kernel
theorem d_Mod_putBit_29 : decode prog_9_method_47_code 29 = .ok (.return_, 1) := by decide +kernel
abbrev w_Mod_lengthOf : List Cond := Cond.code y_Mod_lengthOf prog_9_method_40_code 3 (some .int) :: wl
abbrev r_Mod_lengthOf : Room := { frames := 2, cells := 0, slots := 0, locals := 45 }
set_option maxHeartbeats 4000000 in
set_option maxRecDepth 100000 in
theorem c_Mod_lengthOf (l : Launch) (G : k_G) (sz : Nat) (rM rP rk rG rW rK rE rst rev rod rp rb rbl : Nat) (s0 wd ht kd db ew ac dn pr nu de wr rd cn ba sz1 lb rm cu sp nz sl uz : Int) (g : Int → Int) (hok : okR nu de) (hs0 : 0 ≤ s0 ∧ s0 < 16) (hg : ∀ j, -128 ≤ g j ∧ g j ≤ 127) : Met l y_Mod_lengthOf w_Mod_lengthOf r_Mod_lengthOf (k_P G [.ref rM, .int (iv (s0))] [o_Mod rM wd ht rP rk rG rW rK kd db ew ac dn pr nu de rE rst wr rd rev rod cn rp rb ba sz1 lb rm cu sp nz rbl sl uz, (rst, ai (gB G) 2048 (g))] sz) (qi G (fun (r : Int32) (u : Int × Int × Int × Int × Int) => r = iv (u.1) ∧ (u = (lnM g nu de s0, sBy nu de s0, sBy nu de (s0 + 1) - sBy nu de s0, ldI nu de s0, rmI nu de s0))) (fun u : Int × Int × Int × Int × Int => [o_Mod rM wd ht rP rk rG rW rK kd db ew ac dn pr nu de rE rst wr rd rev rod cn rp rb u.2.1 u.2.2.1 u.2.2.2.1 u.2.2.2.2 cu sp nz rbl sl uz, (rst, ai (gB G) 2048 (g))]) (va_A [o_Mod rM wd ht rP rk rG rW rK kd db ew ac dn pr nu de rE rst wr rd rev rod cn rp rb ba sz1 lb rm cu sp nz rbl sl uz, (rst, ai (gB G) 2048 (g))] sz)) 0 0 (va_A [o_Mod rM wd ht rP rk rG rW rK kd db ew ac dn pr nu de rE rst wr rd rev rod cn rp rb ba sz1 lb rm cu sp nz rbl sl uz, (rst, ai (gB G) 2048 (g))] sz) := by
  refine k_met (fun A => qi G (fun (r : Int32) (u : Int × Int × Int × Int × Int) => r = iv (u.1) ∧ (u = (lnM g nu de s0, sBy nu de s0, sBy nu de (s0 + 1) - sBy nu de s0, ldI nu de s0, rmI nu de s0))) (fun u : Int × Int × Int × Int × Int => [o_Mod rM wd ht rP rk rG rW rK kd db ew ac dn pr nu de rE rst wr rd rev rod cn rp rb u.2.1 u.2.2.1 u.2.2.2.1 u.2.2.2.2 cu sp nz rbl sl uz, (rst, ai (gB G) 2048 (g))]) A) (fun A => A) (by decide) rfl (Nat.le_of_ble_eq_true rfl) (fun p e s m args below meth c ls A Q S hr hlk hnm hl hsz hP hK hD hS hA hT hQ => ?_)
  obtain ⟨hx, hb, hml, hown, hts⟩ := id S
  have hw : ∀ w ∈ wl, w.before args s = true := fun w h => hts w (List.mem_cons_of_mem _ h)
  have hl : lv_has ls 3 [(0, .ref rM), (1, .int (iv (s0)))] := hl
  have q1 := sBy_r hok (s := s0) (by omega)
  have q2 := sBy_r hok (s := s0 + 1) (by omega)
  have q3 := sBy_s hok (s := s0)
  have q4 := ldI_r hok (s := s0)
  have q5 := rmI_r hok (s := s0)
  have q6 : rmI nu de s0 = 8 * sBy nu de (s0 + 1) - 8 * sBy nu de s0 - 5 - ldI nu de s0 := rfl
  have q8 := bsM_10 (g := g) (ba := sBy nu de s0) (fm := 5) (n := ldI nu de s0) (by omega)
  refine lv_aload_n hx hb d_Mod_lengthOf_0 rfl (lv_at hl 0 rfl) ?_
  refine lv_iload_n hx hb d_Mod_lengthOf_1 rfl (lv_at hl 1 rfl) ?_
  refine k_cv (wz := fun u : Int × Int × Int × Int => [o_Mod rM wd ht rP rk rG rW rK kd db ew ac dn pr nu de rE rst wr rd rev rod cn rp rb u.1 u.2.1 u.2.2.1 u.2.2.2 cu sp nz rbl sl uz, (rst, ai (gB G) 2048 (g))]) (wr := [(rst, ai (gB G) 2048 (g))]) (k_rv S (c_Mod_look l G _ rM rP rk rG rW rK rE rst rev rod rp rb rbl s0 wd ht kd db ew ac dn pr nu de wr rd cn ba sz1 lb rm cu sp nz sl uz hok (by omega)) 1 m4_109 m4_106 m4_108 mp_34 m1_9 (by decide +kernel) (by decide) rfl rfl (k_preV (q0 := 0) hK hP hD hS hA hT rfl rfl [0] (by decide) rfl) rfl hl.1 rfl (Nat.le_of_ble_eq_true rfl) d_Mod_lengthOf_2 ⟨Nat.le_of_ble_eq_true rfl, Nat.le_of_ble_eq_true rfl⟩) hP hD hS hA [0] [1] [1, 0] rfl rfl (by decide) (by decide) (by decide) (fun _ => rfl) (fun u2 H locs h2 hP hD hS => ?_)
  subst h2
  have hP : va_P (gD G) classes [o_Mod rM wd ht rP rk rG rW rK kd db ew ac dn pr nu de rE rst wr rd rev rod cn rp rb (sBy nu de s0) (sBy nu de (s0 + 1) - sBy nu de s0) (ldI nu de s0) (rmI nu de s0) cu sp nz rbl sl uz, (rst, ai (gB G) 2048 (g))] H := hP
  have hD : va_D A [o_Mod rM wd ht rP rk rG rW rK kd db ew ac dn pr nu de rE rst wr rd rev rod cn rp rb (sBy nu de s0) (sBy nu de (s0 + 1) - sBy nu de s0) (ldI nu de s0) (rmI nu de s0) cu sp nz rbl sl uz, (rst, ai (gB G) 2048 (g))] := hD
  refine lv_aload_n hx hb d_Mod_lengthOf_5 rfl (lv_at hl 0 rfl) ?_
  refine lv_iconst (v := iv (5)) hx hb d_Mod_lengthOf_6 rfl ?_
  refine lv_aload_n hx hb d_Mod_lengthOf_7 rfl (lv_at hl 0 rfl) ?_
  refine va_get (D := gD G) (ci := 7) (v := .int (iv (ldI nu de s0))) (C := R_Mod) (T := F_Mod) (N := 34) hx hb hw in_Mod hown hK hP 0 rfl rfl 26 (by decide) (hw _ m3_150) (fun _ h => h) rfl d_Mod_lengthOf_8 ?_
  refine k_ciR (k_rv S (c_Mod_bitsAt l G _ rM rP rk rG rW rK rE rst rev rod rp rb rbl 5 (ldI nu de s0) wd ht kd db ew ac dn pr nu de wr rd cn (sBy nu de s0) (sBy nu de (s0 + 1) - sBy nu de s0) (ldI nu de s0) (rmI nu de s0) cu sp nz sl uz g hg (by omega) (by omega)) 2 m4_187 m4_184 m4_186 mp_47 m1_9 (by decide +kernel) (by decide) rfl rfl (k_preV (q0 := 0) hK hP hD hS hA hT rfl rfl [0, 1] (by decide) rfl) rfl hl.1 rfl (Nat.le_of_ble_eq_true rfl) d_Mod_lengthOf_11 ⟨Nat.le_of_ble_eq_true rfl, Nat.le_of_ble_eq_true rfl⟩) (fun r11 h11 => ?_)
  subst h11
  refine lv_istore_n hx hb d_Mod_lengthOf_14 rfl hl (by decide) rfl (fun ls hl => ?_)
  have hl : lv_has ls 3 [(2, .int (iv (bsM g (sBy nu de s0) 5 (ldI nu de s0)))), (0, .ref rM), (1, .int (iv (s0)))] := hl
  refine lv_iload_n hx hb d_Mod_lengthOf_15 rfl (lv_at hl 0 rfl) ?_
  refine lv_aload_n hx hb d_Mod_lengthOf_16 rfl (lv_at hl 1 rfl) ?_
  refine va_get (D := gD G) (ci := 7) (v := .int (iv (rmI nu de s0))) (C := R_Mod) (T := F_Mod) (N := 34) hx hb hw in_Mod hown hK hP 0 rfl rfl 27 (by decide) (hw _ m3_151) (fun _ h => h) rfl d_Mod_lengthOf_17 ?_
  refine k_icmp_le (tgt := 30) hx hb d_Mod_lengthOf_20 (by decide) (by omega) (by omega) (fun hc20 => ?_) (fun hc20 => ?_)
  · refine lv_iload_n hx hb d_Mod_lengthOf_30 rfl (lv_at hl 0 rfl) ?_
    exact k_iret hx hb hr hlk hQ ((bsM g (sBy nu de s0) 5 (ldI nu de s0), sBy nu de s0, sBy nu de (s0 + 1) - sBy nu de s0, ldI nu de s0, rmI nu de s0)) (⟨rfl, by unfold lnM; first | rw [if_pos (by omega)] | rw [if_neg (by omega)]⟩) hP hD hS d_Mod_lengthOf_31
  · refine lv_aload_n hx hb d_Mod_lengthOf_23 rfl (lv_at hl 1 rfl) ?_
    refine va_get (D := gD G) (ci := 7) (v := .int (iv (rmI nu de s0))) (C := R_Mod) (T := F_Mod) (N := 34) hx hb hw in_Mod hown hK hP 0 rfl rfl 27 (by decide) (hw _ m3_151) (fun _ h => h) rfl d_Mod_lengthOf_24 ?_
    refine lv_goto (tgt := 31) hx hb d_Mod_lengthOf_27 (by decide) ?_
    exact k_iret hx hb hr hlk hQ ((rmI nu de s0, sBy nu de s0, sBy nu de (s0 + 1) - sBy nu de s0, ldI nu de s0, rmI nu de s0)) (⟨rfl, by unfold lnM; first | rw [if_pos (by omega)] | rw [if_neg (by omega)]⟩) hP hD hS d_Mod_lengthOf_31
abbrev w_Mod_readNumber : List Cond := Cond.code y_Mod_readNumber prog_9_method_42_code 5 (some .long) :: wl
abbrev r_Mod_readNumber : Room := { frames := 2, cells := 0, slots := 0, locals := 42 }
set_option maxHeartbeats 4000000 in
set_option maxRecDepth 100000 in
theorem c_Mod_readNumber (l : Launch) (G : k_G) (sz : Nat) (rM rP rk rG rW rK rE rst rev rod rp rb rbl : Nat) (wd ht kd db ew ac dn pr nu de wr rd cn ba sz1 lb rm cu sp nz sl uz : Int) (g : Int → Int) (hg : ∀ j, -128 ≤ g j ∧ g j ≤ 127) (hcu : 0 ≤ cu ∧ cu ≤ 90000) (hsp : 0 ≤ sp ∧ sp ≤ 1024) (hba : 0 ≤ ba ∧ 8 * ba + sp ≤ 16384) : Met l y_Mod_readNumber w_Mod_readNumber r_Mod_readNumber (k_P G [.ref rM] [o_Mod rM wd ht rP rk rG rW rK kd db ew ac dn pr nu de rE rst wr rd rev rod cn rp rb ba sz1 lb rm cu sp nz rbl sl uz, (rst, ai (gB G) 2048 (g))] sz) (ql G (fun (r : Int64) (u : Int64 × Int) => r = u.1 ∧ (u = rmN g ba sp cu)) (fun u : Int64 × Int => [o_Mod rM wd ht rP rk rG rW rK kd db ew ac dn pr nu de rE rst wr rd rev rod cn rp rb ba sz1 lb rm u.2 sp nz rbl sl uz, (rst, ai (gB G) 2048 (g))]) (va_A [o_Mod rM wd ht rP rk rG rW rK kd db ew ac dn pr nu de rE rst wr rd rev rod cn rp rb ba sz1 lb rm cu sp nz rbl sl uz, (rst, ai (gB G) 2048 (g))] sz)) 0 0 (va_A [o_Mod rM wd ht rP rk rG rW rK kd db ew ac dn pr nu de rE rst wr rd rev rod cn rp rb ba sz1 lb rm cu sp nz rbl sl uz, (rst, ai (gB G) 2048 (g))] sz) := by
  refine k_met (fun A => ql G (fun (r : Int64) (u : Int64 × Int) => r = u.1 ∧ (u = rmN g ba sp cu)) (fun u : Int64 × Int => [o_Mod rM wd ht rP rk rG rW rK kd db ew ac dn pr nu de rE rst wr rd rev rod cn rp rb ba sz1 lb rm u.2 sp nz rbl sl uz, (rst, ai (gB G) 2048 (g))]) A) (fun A => A) (by decide) rfl (Nat.le_of_ble_eq_true rfl) (fun p e s m args below meth c ls A Q S hr hlk hnm hl hsz hP hK hD hS hA hT hQ => ?_)
  obtain ⟨hx, hb, hml, hown, hts⟩ := id S
  have hw : ∀ w ∈ wl, w.before args s = true := fun w h => hts w (List.mem_cons_of_mem _ h)
  have hl : lv_has ls 5 [(0, .ref rM)] := hl
  refine lv_lconst (v := 1) hx hb d_Mod_readNumber_0 rfl ?_
  refine lv_lstore_n hx hb d_Mod_readNumber_1 rfl hl (by decide) rfl (fun ls hl => ?_)
  have hl : lv_has ls 5 [(1, .long ((1 : Int64))), (0, .ref rM)] := hl
  refine lv_iconst (v := iv (1)) hx hb d_Mod_readNumber_2 rfl ?_
  refine lv_istore_n hx hb d_Mod_readNumber_3 rfl hl (by decide) rfl (fun ls hl => ?_)
  have hl : lv_has ls 5 [(3, .int (iv (1))), (1, .long ((1 : Int64))), (0, .ref rM)] := hl
  refine lv_iconst (v := iv (0)) hx hb d_Mod_readNumber_4 rfl ?_
  refine lv_istore hx hb d_Mod_readNumber_5 hl (by decide) rfl (fun ls hl => ?_)
  have hl : lv_has ls 5 [(4, .int (iv (0))), (3, .int (iv (1))), (1, .long ((1 : Int64))), (0, .ref rM)] := hl
  refine lo_up (P := fun i => ∀ (ls : Array Slot) (H : Heap) (locs : List Loc) (n1 : Int64) (fl : Int) (cu1 : Int), lv_has ls 5 [(0, .ref rM), (1, .long (n1)), (3, .int (iv (fl))), (4, .int (iv (i)))] → va_P (gD G) classes [o_Mod rM wd ht rP rk rG rW rK kd db ew ac dn pr nu de rE rst wr rd rev rod cn rp rb ba sz1 lb rm cu1 sp nz rbl sl uz, (rst, ai (gB G) 2048 (g))] H → va_D A [o_Mod rM wd ht rP rk rG rW rK kd db ew ac dn pr nu de rE rst wr rd rev rod cn rp rb ba sz1 lb rm cu1 sp nz rbl sl uz, (rst, ai (gB G) 2048 (g))] → va_S A s.heap H locs → (rmX fl g ba sp (26 - i).toNat n1 cu1 = rml g ba sp 26 1 cu) → (fl = 0 ∨ fl = 1) → (0 ≤ cu1 ∧ cu1 ≤ cu + 2 * i) → W p l e r_Mod_readNumber s m args below meth c H locs 0 0 Q (F0 m 7 ls [])) (a := 0) (b := 26) (fun i hii hji ihi => ?_) _ _ _ ((1 : Int64)) 1 cu (lv_sub hl [3, 2, 1, 0] rfl) hP hD hS rfl (by omega) (by omega)
  intro ls H locs n1 fl cu1 hl hP hD hS hs hfl hcr
  refine lv_iload hx hb d_Mod_readNumber_7 (lv_at hl 3 rfl) ?_
  refine lv_bipush (v := iv (26)) hx hb d_Mod_readNumber_9 rfl ?_
  refine k_icmp_ge (tgt := 53) hx hb d_Mod_readNumber_11 (by decide) (by omega) (by omega) (fun hc11 => ?_) (fun hc11 => ?_)
  · have hr0 : (n1, cu1) = rml g ba sp 26 1 cu := by rw [← hs]; exact (rmX_0 (by first | exact Or.inl hc15 | exact Or.inr (by omega))).symm
    refine lv_lload_n hx hb d_Mod_readNumber_53 rfl (lv_at hl 1 rfl) ?_
    refine lv_lconst (v := 1) hx hb d_Mod_readNumber_54 rfl ?_
    refine k_lne (tgt := 61) hx hb d_Mod_readNumber_55 d_Mod_readNumber_56 (by decide) (fun hc55 => ?_) (fun hc55 => ?_)
    · refine lv_aload_n hx hb d_Mod_readNumber_61 rfl (lv_at hl 0 rfl) ?_
      refine k_ci (wz := fun u : Int × Int => [o_Mod rM wd ht rP rk rG rW rK kd db ew ac dn pr nu de rE rst wr rd rev rod cn rp rb ba sz1 lb rm u.2 sp nz rbl sl uz, (rst, ai (gB G) 2048 (g))]) (wr := []) (k_rv S (c_Mod_next l G _ rM rP rk rG rW rK rE rst rev rod rp rb rbl wd ht kd db ew ac dn pr nu de wr rd cn ba sz1 lb rm cu1 sp nz sl uz g hg (by omega) (by omega) (by omega)) 0 m4_199 m4_196 m4_198 mp_50 m1_9 (by decide +kernel) (by decide) rfl rfl (k_preV (q0 := 0) hK hP hD hS hA hT rfl rfl [0, 1] (by decide) rfl) rfl hl.1 rfl (Nat.le_of_ble_eq_true rfl) d_Mod_readNumber_62 ⟨Nat.le_of_ble_eq_true rfl, Nat.le_of_ble_eq_true rfl⟩) hP hD hS hA [0, 1] [] [0, 1] rfl rfl (by decide) (by decide) (by decide) (fun _ => rfl) (fun r62 u62 H locs h62 hP hD hS => ?_)
      obtain ⟨v62, cu62⟩ := u62
      have hP : va_P (gD G) classes [o_Mod rM wd ht rP rk rG rW rK kd db ew ac dn pr nu de rE rst wr rd rev rod cn rp rb ba sz1 lb rm cu62 sp nz rbl sl uz, (rst, ai (gB G) 2048 (g))] H := hP
      have hD : va_D A [o_Mod rM wd ht rP rk rG rW rK kd db ew ac dn pr nu de rE rst wr rd rev rod cn rp rb ba sz1 lb rm cu62 sp nz rbl sl uz, (rst, ai (gB G) 2048 (g))] := hD
      obtain ⟨hr62, h62⟩ := h62
      subst hr62
      try dsimp only at h62
      obtain ⟨q5, q6⟩ := Prod.mk.inj h62
      have hq5 := nxM_01 g ba sp cu1
      refine lv_iconst (v := iv (1)) hx hb d_Mod_readNumber_65 rfl ?_
      refine k_icmp_ne (tgt := 75) hx hb d_Mod_readNumber_66 (by decide) (by omega) (by omega) (fun hc66 => ?_) (fun hc66 => ?_)
      · refine lv_lload_n hx hb d_Mod_readNumber_75 rfl (lv_at hl 1 rfl) ?_
        refine lv_lconst (v := 1) hx hb d_Mod_readNumber_76 rfl ?_
        refine lv_lsub hx hb d_Mod_readNumber_77 ?_
        exact k_lret hx hb hr hlk hQ ((n1 - ((1 : Int64)), cu62)) (⟨rfl, by rw [q6]; first | (have w : nxM g ba sp cu1 = 1 := (by omega); exact rmN_n hr0 hc55 w) | (have w : ¬ nxM g ba sp cu1 = 1 := (by omega); exact rmN_p hr0 hc55 w)⟩) hP hD hS d_Mod_readNumber_78
      · refine lv_lconst (v := 1) hx hb d_Mod_readNumber_69 rfl ?_
        refine lv_lload_n hx hb d_Mod_readNumber_70 rfl (lv_at hl 1 rfl) ?_
        refine lv_lsub hx hb d_Mod_readNumber_71 ?_
        refine lv_goto (tgt := 78) hx hb d_Mod_readNumber_72 (by decide) ?_
        exact k_lret hx hb hr hlk hQ ((((1 : Int64)) - n1, cu62)) (⟨rfl, by rw [q6]; first | (have w : nxM g ba sp cu1 = 1 := (by omega); exact rmN_n hr0 hc55 w) | (have w : ¬ nxM g ba sp cu1 = 1 := (by omega); exact rmN_p hr0 hc55 w)⟩) hP hD hS d_Mod_readNumber_78
    · refine lv_lconst (v := 0) hx hb d_Mod_readNumber_59 rfl ?_
      exact k_lret hx hb hr hlk hQ (((0 : Int64), cu1)) (⟨rfl, rmN_0 hr0 hc55⟩) hP hD hS d_Mod_readNumber_60
  · refine lv_iload_n hx hb d_Mod_readNumber_14 rfl (lv_at hl 2 rfl) ?_
    refine k_if_eq (tgt := 53) hx hb d_Mod_readNumber_15 (by decide) (by omega) (fun hc15 => ?_) (fun hc15 => ?_)
    · have hr0 : (n1, cu1) = rml g ba sp 26 1 cu := by rw [← hs]; exact (rmX_0 (by first | exact Or.inl hc15 | exact Or.inr (by omega))).symm
      refine lv_lload_n hx hb d_Mod_readNumber_53 rfl (lv_at hl 1 rfl) ?_
      refine lv_lconst (v := 1) hx hb d_Mod_readNumber_54 rfl ?_
      refine k_lne (tgt := 61) hx hb d_Mod_readNumber_55 d_Mod_readNumber_56 (by decide) (fun hc55 => ?_) (fun hc55 => ?_)
      · refine lv_aload_n hx hb d_Mod_readNumber_61 rfl (lv_at hl 0 rfl) ?_
        refine k_ci (wz := fun u : Int × Int => [o_Mod rM wd ht rP rk rG rW rK kd db ew ac dn pr nu de rE rst wr rd rev rod cn rp rb ba sz1 lb rm u.2 sp nz rbl sl uz, (rst, ai (gB G) 2048 (g))]) (wr := []) (k_rv S (c_Mod_next l G _ rM rP rk rG rW rK rE rst rev rod rp rb rbl wd ht kd db ew ac dn pr nu de wr rd cn ba sz1 lb rm cu1 sp nz sl uz g hg (by omega) (by omega) (by omega)) 0 m4_199 m4_196 m4_198 mp_50 m1_9 (by decide +kernel) (by decide) rfl rfl (k_preV (q0 := 0) hK hP hD hS hA hT rfl rfl [0, 1] (by decide) rfl) rfl hl.1 rfl (Nat.le_of_ble_eq_true rfl) d_Mod_readNumber_62 ⟨Nat.le_of_ble_eq_true rfl, Nat.le_of_ble_eq_true rfl⟩) hP hD hS hA [0, 1] [] [0, 1] rfl rfl (by decide) (by decide) (by decide) (fun _ => rfl) (fun r62 u62 H locs h62 hP hD hS => ?_)
        obtain ⟨v62, cu62⟩ := u62
        have hP : va_P (gD G) classes [o_Mod rM wd ht rP rk rG rW rK kd db ew ac dn pr nu de rE rst wr rd rev rod cn rp rb ba sz1 lb rm cu62 sp nz rbl sl uz, (rst, ai (gB G) 2048 (g))] H := hP
        have hD : va_D A [o_Mod rM wd ht rP rk rG rW rK kd db ew ac dn pr nu de rE rst wr rd rev rod cn rp rb ba sz1 lb rm cu62 sp nz rbl sl uz, (rst, ai (gB G) 2048 (g))] := hD
        obtain ⟨hr62, h62⟩ := h62
        subst hr62
        try dsimp only at h62
        obtain ⟨q5, q6⟩ := Prod.mk.inj h62
        have hq5 := nxM_01 g ba sp cu1
        refine lv_iconst (v := iv (1)) hx hb d_Mod_readNumber_65 rfl ?_
        refine k_icmp_ne (tgt := 75) hx hb d_Mod_readNumber_66 (by decide) (by omega) (by omega) (fun hc66 => ?_) (fun hc66 => ?_)
        · refine lv_lload_n hx hb d_Mod_readNumber_75 rfl (lv_at hl 1 rfl) ?_
          refine lv_lconst (v := 1) hx hb d_Mod_readNumber_76 rfl ?_
          refine lv_lsub hx hb d_Mod_readNumber_77 ?_
          exact k_lret hx hb hr hlk hQ ((n1 - ((1 : Int64)), cu62)) (⟨rfl, by rw [q6]; first | (have w : nxM g ba sp cu1 = 1 := (by omega); exact rmN_n hr0 hc55 w) | (have w : ¬ nxM g ba sp cu1 = 1 := (by omega); exact rmN_p hr0 hc55 w)⟩) hP hD hS d_Mod_readNumber_78
        · refine lv_lconst (v := 1) hx hb d_Mod_readNumber_69 rfl ?_
          refine lv_lload_n hx hb d_Mod_readNumber_70 rfl (lv_at hl 1 rfl) ?_
          refine lv_lsub hx hb d_Mod_readNumber_71 ?_
          refine lv_goto (tgt := 78) hx hb d_Mod_readNumber_72 (by decide) ?_
          exact k_lret hx hb hr hlk hQ ((((1 : Int64)) - n1, cu62)) (⟨rfl, by rw [q6]; first | (have w : nxM g ba sp cu1 = 1 := (by omega); exact rmN_n hr0 hc55 w) | (have w : ¬ nxM g ba sp cu1 = 1 := (by omega); exact rmN_p hr0 hc55 w)⟩) hP hD hS d_Mod_readNumber_78
      · refine lv_lconst (v := 0) hx hb d_Mod_readNumber_59 rfl ?_
        exact k_lret hx hb hr hlk hQ (((0 : Int64), cu1)) (⟨rfl, rmN_0 hr0 hc55⟩) hP hD hS d_Mod_readNumber_60
    · refine lv_aload_n hx hb d_Mod_readNumber_18 rfl (lv_at hl 0 rfl) ?_
      refine k_ci (wz := fun u : Int × Int => [o_Mod rM wd ht rP rk rG rW rK kd db ew ac dn pr nu de rE rst wr rd rev rod cn rp rb ba sz1 lb rm u.2 sp nz rbl sl uz, (rst, ai (gB G) 2048 (g))]) (wr := []) (k_rv S (c_Mod_next l G _ rM rP rk rG rW rK rE rst rev rod rp rb rbl wd ht kd db ew ac dn pr nu de wr rd cn ba sz1 lb rm cu1 sp nz sl uz g hg (by omega) (by omega) (by omega)) 0 m4_199 m4_196 m4_198 mp_50 m1_9 (by decide +kernel) (by decide) rfl rfl (k_preV (q0 := 0) hK hP hD hS hA hT rfl rfl [0, 1] (by decide) rfl) rfl hl.1 rfl (Nat.le_of_ble_eq_true rfl) d_Mod_readNumber_19 ⟨Nat.le_of_ble_eq_true rfl, Nat.le_of_ble_eq_true rfl⟩) hP hD hS hA [0, 1] [] [0, 1] rfl rfl (by decide) (by decide) (by decide) (fun _ => rfl) (fun r19 u19 H locs h19 hP hD hS => ?_)
      obtain ⟨v19, cu19⟩ := u19
      have hP : va_P (gD G) classes [o_Mod rM wd ht rP rk rG rW rK kd db ew ac dn pr nu de rE rst wr rd rev rod cn rp rb ba sz1 lb rm cu19 sp nz rbl sl uz, (rst, ai (gB G) 2048 (g))] H := hP
      have hD : va_D A [o_Mod rM wd ht rP rk rG rW rK kd db ew ac dn pr nu de rE rst wr rd rev rod cn rp rb ba sz1 lb rm cu19 sp nz rbl sl uz, (rst, ai (gB G) 2048 (g))] := hD
      obtain ⟨hr19, h19⟩ := h19
      subst hr19
      try dsimp only at h19
      obtain ⟨q1, q2⟩ := Prod.mk.inj h19
      have hq := nxM_01 g ba sp cu1
      refine k_if_ne (tgt := 29) hx hb d_Mod_readNumber_22 (by decide) (by omega) (fun hc22 => ?_) (fun hc22 => ?_)
      · refine lv_iconst (v := iv (0)) hx hb d_Mod_readNumber_29 rfl ?_
        refine lv_istore_n hx hb d_Mod_readNumber_30 rfl hl (by decide) rfl (fun ls hl => ?_)
        have hl : lv_has ls 5 [(3, .int (iv (0))), (0, .ref rM), (1, .long (n1)), (4, .int (iv (i)))] := hl
        refine lv_iload_n hx hb d_Mod_readNumber_31 rfl (lv_at hl 0 rfl) ?_
        refine k_if_eq (tgt := 47) hx hb d_Mod_readNumber_32 (by decide) (by omega) (fun hc32 => ?_) (fun hc32 => absurd hc32 (by omega))
        refine lv_iinc (k := 3) (v := iv (i + 1)) hx hb d_Mod_readNumber_47 hl rfl (iv_add _ _) (by decide) rfl (fun ls hl => ?_)
        have hl : lv_has ls 5 [(4, .int (iv (i + 1))), (3, .int (iv (0))), (0, .ref rM), (1, .long (n1))] := hl
        refine lv_goto (tgt := 7) hx hb d_Mod_readNumber_50 (by decide) ?_
        exact ihi (by omega) _ _ _ n1 0 cu19 (lv_sub hl [2, 3, 1, 0] rfl) hP hD hS (by first | (rw [q3, q4, q2]; exact rmX_g hc15 (by omega) (by omega) hs) | (rw [q2]; exact rmX_b hc15 (by omega) (by omega) hs)) (by omega) (by omega)
      · refine lv_iconst (v := iv (1)) hx hb d_Mod_readNumber_25 rfl ?_
        refine lv_goto (tgt := 30) hx hb d_Mod_readNumber_26 (by decide) ?_
        refine lv_istore_n hx hb d_Mod_readNumber_30 rfl hl (by decide) rfl (fun ls hl => ?_)
        have hl : lv_has ls 5 [(3, .int (iv (1))), (0, .ref rM), (1, .long (n1)), (4, .int (iv (i)))] := hl
        refine lv_iload_n hx hb d_Mod_readNumber_31 rfl (lv_at hl 0 rfl) ?_
        refine k_if_eq (tgt := 47) hx hb d_Mod_readNumber_32 (by decide) (by omega) (fun hc32 => absurd hc32 (by omega)) (fun hc32 => ?_)
        refine lv_ldc2 (v := 2) hx hb hown (hw _ m4_58) d_Mod_readNumber_35 ?_
        refine lv_lload_n hx hb d_Mod_readNumber_38 rfl (lv_at hl 2 rfl) ?_
        refine lv_lmul hx hb d_Mod_readNumber_39 ?_
        refine lv_aload_n hx hb d_Mod_readNumber_40 rfl (lv_at hl 1 rfl) ?_
        refine k_ci (wz := fun u : Int × Int => [o_Mod rM wd ht rP rk rG rW rK kd db ew ac dn pr nu de rE rst wr rd rev rod cn rp rb ba sz1 lb rm u.2 sp nz rbl sl uz, (rst, ai (gB G) 2048 (g))]) (wr := []) (k_rv S (c_Mod_next l G _ rM rP rk rG rW rK rE rst rev rod rp rb rbl wd ht kd db ew ac dn pr nu de wr rd cn ba sz1 lb rm cu19 sp nz sl uz g hg (by omega) (by omega) (by omega)) 0 m4_199 m4_196 m4_198 mp_50 m1_9 (by decide +kernel) (by decide) rfl rfl (k_preV (q0 := 0) hK hP hD hS hA hT rfl rfl [0, 1] (by decide) rfl) rfl hl.1 rfl (Nat.le_of_ble_eq_true rfl) d_Mod_readNumber_41 ⟨Nat.le_of_ble_eq_true rfl, Nat.le_of_ble_eq_true rfl⟩) hP hD hS hA [0, 1] [] [0, 1] rfl rfl (by decide) (by decide) (by decide) (fun _ => rfl) (fun r41 u41 H locs h41 hP hD hS => ?_)
        obtain ⟨v41, cu41⟩ := u41
        have hP : va_P (gD G) classes [o_Mod rM wd ht rP rk rG rW rK kd db ew ac dn pr nu de rE rst wr rd rev rod cn rp rb ba sz1 lb rm cu41 sp nz rbl sl uz, (rst, ai (gB G) 2048 (g))] H := hP
        have hD : va_D A [o_Mod rM wd ht rP rk rG rW rK kd db ew ac dn pr nu de rE rst wr rd rev rod cn rp rb ba sz1 lb rm cu41 sp nz rbl sl uz, (rst, ai (gB G) 2048 (g))] := hD
        obtain ⟨hr41, h41⟩ := h41
        subst hr41
        try dsimp only at h41
        obtain ⟨q3, q4⟩ := Prod.mk.inj h41
        have hq3 := nxM_01 g ba sp cu19
        refine k_i2l hx hb d_Mod_readNumber_44 (by omega) ?_
        refine lv_ladd hx hb d_Mod_readNumber_45 ?_
        refine lv_lstore_n hx hb d_Mod_readNumber_46 rfl hl (by decide) rfl (fun ls hl => ?_)
        have hl : lv_has ls 5 [(1, .long ((((2 : Int64)) * n1) + (lw v41))), (3, .int (iv (1))), (0, .ref rM), (4, .int (iv (i)))] := hl
        refine lv_iinc (k := 3) (v := iv (i + 1)) hx hb d_Mod_readNumber_47 hl rfl (iv_add _ _) (by decide) rfl (fun ls hl => ?_)
        have hl : lv_has ls 5 [(4, .int (iv (i + 1))), (1, .long ((((2 : Int64)) * n1) + (lw v41))), (3, .int (iv (1))), (0, .ref rM)] := hl
        refine lv_goto (tgt := 7) hx hb d_Mod_readNumber_50 (by decide) ?_
        exact ihi (by omega) _ _ _ ((((2 : Int64)) * n1) + (lw v41)) 1 cu41 (lv_sub hl [3, 1, 2, 0] rfl) hP hD hS (by first | (rw [q3, q4, q2]; exact rmX_g hc15 (by omega) (by omega) hs) | (rw [q2]; exact rmX_b hc15 (by omega) (by omega) hs)) (by omega) (by omega)
abbrev w_Mod_read : List Cond := Cond.code y_Mod_read prog_9_method_43_code 11 none :: wl
abbrev r_Mod_read : Room := { frames := 3, cells := 0, slots := 0, locals := 73 }
set_option maxHeartbeats 4000000 in
set_option maxRecDepth 100000 in
theorem c_Mod_read (l : Launch) (G : k_G) (sz : Nat) (rM rP rk rG rW rK rE rst rev rod rp rb rbl : Nat) (s0 wd ht kd db ew ac dn pr nu de wr rd cn ba sz1 lb rm cu sp nz sl uz : Int) (gp gb g es : Int → Int) (gv : Int → Int64) (hde : 0 ≤ db ∧ db ≤ 2 ∧ 0 ≤ ew ∧ ew ≤ 2 ∧ db + ew ≤ 3) (hwd : 1 ≤ wd ∧ wd ≤ 16) (hht : 1 ≤ ht ∧ ht ≤ 16) (hac : 1 ≤ ac ∧ ac ≤ 4) (hdn : 1 ≤ dn ∧ dn ≤ 4) (hs0 : 0 ≤ s0 ∧ s0 < ac * dn) (hok : okR nu de) (hg : ∀ j, -128 ≤ g j ∧ g j ≤ 127) (hes : ∀ b, 0 ≤ b → b < 8 → 0 ≤ es b ∧ es b ≤ 15) (hpr : pr = 0 ∨ pr = 1) : Met l y_Mod_read w_Mod_read r_Mod_read (k_P G [.ref rM, .int (iv (s0))] [o_Mod rM wd ht rP rk rG rW rK kd db ew ac dn pr nu de rE rst wr rd rev rod cn rp rb ba sz1 lb rm cu sp nz rbl sl uz, (rp, ai (gI G) 256 (gp)), (rb, ai (gI G) 256 (gb)), (rst, ai (gB G) 2048 (g)), (rE, ai (gI G) 8 (es)), (rW, al (gL G) 256 (gv))] sz) (qv G (fun u : Int × (Int → Int) × (Int → Int) × Int × Int × Int × Int × Int × Int × Int × (Int → Int64) => u = ((it (lsB (lmI wd (2 ^ (db + ew).toNat)) (lmI ht (2 ^ db.toNat)) db ew ac dn s0) 0 (nBd db ew) (0, gp, gb)).1, (it (lsB (lmI wd (2 ^ (db + ew).toNat)) (lmI ht (2 ^ db.toNat)) db ew ac dn s0) 0 (nBd db ew) (0, gp, gb)).2.1, (it (lsB (lmI wd (2 ^ (db + ew).toNat)) (lmI ht (2 ^ db.toNat)) db ew ac dn s0) 0 (nBd db ew) (0, gp, gb)).2.2, sBy nu de s0, sBy nu de (s0 + 1) - sBy nu de s0, ldI nu de s0, rmI nu de s0, (rmA g nu de pr es s0 (it (lsB (lmI wd (2 ^ (db + ew).toNat)) (lmI ht (2 ^ db.toNat)) db ew ac dn s0) 0 (nBd db ew) (0, gp, gb)) gv).2.1, 5 + ldI nu de s0 + lnM g nu de s0, (rmA g nu de pr es s0 (it (lsB (lmI wd (2 ^ (db + ew).toNat)) (lmI ht (2 ^ db.toNat)) db ew ac dn s0) 0 (nBd db ew) (0, gp, gb)) gv).1, (rmA g nu de pr es s0 (it (lsB (lmI wd (2 ^ (db + ew).toNat)) (lmI ht (2 ^ db.toNat)) db ew ac dn s0) 0 (nBd db ew) (0, gp, gb)) gv).2.2)) (fun u : Int × (Int → Int) × (Int → Int) × Int × Int × Int × Int × Int × Int × Int × (Int → Int64) => [o_Mod rM wd ht rP rk rG rW rK kd db ew ac dn pr nu de rE rst wr rd rev rod u.1 rp rb u.2.2.2.1 u.2.2.2.2.1 u.2.2.2.2.2.1 u.2.2.2.2.2.2.1 u.2.2.2.2.2.2.2.1 u.2.2.2.2.2.2.2.2.1 u.2.2.2.2.2.2.2.2.2.1 rbl sl uz, (rp, ai (gI G) 256 (u.2.1)), (rb, ai (gI G) 256 (u.2.2.1)), (rst, ai (gB G) 2048 (g)), (rE, ai (gI G) 8 (es)), (rW, al (gL G) 256 (u.2.2.2.2.2.2.2.2.2.2))]) (va_A [o_Mod rM wd ht rP rk rG rW rK kd db ew ac dn pr nu de rE rst wr rd rev rod cn rp rb ba sz1 lb rm cu sp nz rbl sl uz, (rp, ai (gI G) 256 (gp)), (rb, ai (gI G) 256 (gb)), (rst, ai (gB G) 2048 (g)), (rE, ai (gI G) 8 (es)), (rW, al (gL G) 256 (gv))] sz)) 0 0 (va_A [o_Mod rM wd ht rP rk rG rW rK kd db ew ac dn pr nu de rE rst wr rd rev rod cn rp rb ba sz1 lb rm cu sp nz rbl sl uz, (rp, ai (gI G) 256 (gp)), (rb, ai (gI G) 256 (gb)), (rst, ai (gB G) 2048 (g)), (rE, ai (gI G) 8 (es)), (rW, al (gL G) 256 (gv))] sz) := by
  refine k_met (fun A => qv G (fun u : Int × (Int → Int) × (Int → Int) × Int × Int × Int × Int × Int × Int × Int × (Int → Int64) => u = ((it (lsB (lmI wd (2 ^ (db + ew).toNat)) (lmI ht (2 ^ db.toNat)) db ew ac dn s0) 0 (nBd db ew) (0, gp, gb)).1, (it (lsB (lmI wd (2 ^ (db + ew).toNat)) (lmI ht (2 ^ db.toNat)) db ew ac dn s0) 0 (nBd db ew) (0, gp, gb)).2.1, (it (lsB (lmI wd (2 ^ (db + ew).toNat)) (lmI ht (2 ^ db.toNat)) db ew ac dn s0) 0 (nBd db ew) (0, gp, gb)).2.2, sBy nu de s0, sBy nu de (s0 + 1) - sBy nu de s0, ldI nu de s0, rmI nu de s0, (rmA g nu de pr es s0 (it (lsB (lmI wd (2 ^ (db + ew).toNat)) (lmI ht (2 ^ db.toNat)) db ew ac dn s0) 0 (nBd db ew) (0, gp, gb)) gv).2.1, 5 + ldI nu de s0 + lnM g nu de s0, (rmA g nu de pr es s0 (it (lsB (lmI wd (2 ^ (db + ew).toNat)) (lmI ht (2 ^ db.toNat)) db ew ac dn s0) 0 (nBd db ew) (0, gp, gb)) gv).1, (rmA g nu de pr es s0 (it (lsB (lmI wd (2 ^ (db + ew).toNat)) (lmI ht (2 ^ db.toNat)) db ew ac dn s0) 0 (nBd db ew) (0, gp, gb)) gv).2.2)) (fun u : Int × (Int → Int) × (Int → Int) × Int × Int × Int × Int × Int × Int × Int × (Int → Int64) => [o_Mod rM wd ht rP rk rG rW rK kd db ew ac dn pr nu de rE rst wr rd rev rod u.1 rp rb u.2.2.2.1 u.2.2.2.2.1 u.2.2.2.2.2.1 u.2.2.2.2.2.2.1 u.2.2.2.2.2.2.2.1 u.2.2.2.2.2.2.2.2.1 u.2.2.2.2.2.2.2.2.2.1 rbl sl uz, (rp, ai (gI G) 256 (u.2.1)), (rb, ai (gI G) 256 (u.2.2.1)), (rst, ai (gB G) 2048 (g)), (rE, ai (gI G) 8 (es)), (rW, al (gL G) 256 (u.2.2.2.2.2.2.2.2.2.2))]) A) (fun A => A) (by decide) rfl (Nat.le_of_ble_eq_true rfl) (fun p e s m args below meth c ls A Q S hr hlk hnm hl hsz hP hK hD hS hA hT hQ => ?_)
  obtain ⟨hx, hb, hml, hown, hts⟩ := id S
  have hw : ∀ w ∈ wl, w.before args s = true := fun w h => hts w (List.mem_cons_of_mem _ h)
  have hl : lv_has ls 11 [(0, .ref rM), (1, .int (iv (s0)))] := hl
  have n0 := mul_r (a := ac) (b := dn) (A := 4) (B := 4) (by omega) (by omega)
  have q1 := sBy_r hok (s := s0) (by omega)
  have q2 := sBy_r hok (s := s0 + 1) (by omega)
  have q3 := sBy_s hok (s := s0)
  have q4 := ldI_r hok (s := s0)
  have q5 := rmI_r hok (s := s0)
  have q6 : rmI nu de s0 = 8 * sBy nu de (s0 + 1) - 8 * sBy nu de s0 - 5 - ldI nu de s0 := rfl
  have e1 := lmI_r hwd (p2_c (k := db + ew) (by omega))
  have e2 := lmI_r hht (p2_c (k := db) (by omega))
  have kL := ls_r (gp := gp) (gb := gb) (cP := lmI wd (2 ^ (db + ew).toNat)) (cQ := lmI ht (2 ^ db.toNat)) (by omega) (by omega) hde hac hdn hs0
  have hnB : nBd db ew ≤ 8 := by unfold nBd; omega
  have q8 := lnM_r (g := g) (s := s0) hok
  have q9 := bsM_5 g (sBy nu de s0) 0
  refine lv_aload_n hx hb d_Mod_read_0 rfl (lv_at hl 0 rfl) ?_
  refine lv_iload_n hx hb d_Mod_read_1 rfl (lv_at hl 1 rfl) ?_
  refine k_ci (wz := fun u : Int × Int × Int × Int × Int => [o_Mod rM wd ht rP rk rG rW rK kd db ew ac dn pr nu de rE rst wr rd rev rod cn rp rb u.2.1 u.2.2.1 u.2.2.2.1 u.2.2.2.2 cu sp nz rbl sl uz, (rp, ai (gI G) 256 (gp)), (rb, ai (gI G) 256 (gb)), (rst, ai (gB G) 2048 (g)), (rE, ai (gI G) 8 (es)), (rW, al (gL G) 256 (gv))]) (wr := [(rp, ai (gI G) 256 (gp)), (rb, ai (gI G) 256 (gb)), (rE, ai (gI G) 8 (es)), (rW, al (gL G) 256 (gv))]) (k_rv S (c_Mod_lengthOf l G _ rM rP rk rG rW rK rE rst rev rod rp rb rbl s0 wd ht kd db ew ac dn pr nu de wr rd cn ba sz1 lb rm cu sp nz sl uz g hok (by omega) hg) 1 m4_183 m4_180 m4_182 mp_46 m1_9 (by decide +kernel) (by decide) rfl rfl (k_preV (q0 := 0) hK hP hD hS hA hT rfl rfl [0, 3] (by decide) rfl) rfl hl.1 rfl (Nat.le_of_ble_eq_true rfl) d_Mod_read_2 ⟨Nat.le_of_ble_eq_true rfl, Nat.le_of_ble_eq_true rfl⟩) hP hD hS hA [0, 3] [1, 2, 4, 5] [4, 0, 1, 5, 2, 3] rfl rfl (by decide) (by decide) (by decide) (fun _ => rfl) (fun r2 u2 H locs h2 hP hD hS => ?_)
  obtain ⟨hr2, h2⟩ := h2
  subst h2
  subst hr2
  have hP : va_P (gD G) classes [o_Mod rM wd ht rP rk rG rW rK kd db ew ac dn pr nu de rE rst wr rd rev rod cn rp rb (sBy nu de s0) (sBy nu de (s0 + 1) - sBy nu de s0) (ldI nu de s0) (rmI nu de s0) cu sp nz rbl sl uz, (rp, ai (gI G) 256 (gp)), (rb, ai (gI G) 256 (gb)), (rst, ai (gB G) 2048 (g)), (rE, ai (gI G) 8 (es)), (rW, al (gL G) 256 (gv))] H := hP
  have hD : va_D A [o_Mod rM wd ht rP rk rG rW rK kd db ew ac dn pr nu de rE rst wr rd rev rod cn rp rb (sBy nu de s0) (sBy nu de (s0 + 1) - sBy nu de s0) (ldI nu de s0) (rmI nu de s0) cu sp nz rbl sl uz, (rp, ai (gI G) 256 (gp)), (rb, ai (gI G) 256 (gb)), (rst, ai (gB G) 2048 (g)), (rE, ai (gI G) 8 (es)), (rW, al (gL G) 256 (gv))] := hD
  refine lv_istore_n hx hb d_Mod_read_5 rfl hl (by decide) rfl (fun ls hl => ?_)
  have hl : lv_has ls 11 [(2, .int (iv (lnM g nu de s0))), (0, .ref rM), (1, .int (iv (s0)))] := hl
  refine lv_aload_n hx hb d_Mod_read_6 rfl (lv_at hl 1 rfl) ?_
  refine lv_iconst (v := iv (0)) hx hb d_Mod_read_7 rfl ?_
  refine lv_iconst (v := iv (5)) hx hb d_Mod_read_8 rfl ?_
  refine k_ciR (k_rv S (c_Mod_bitsAt l G _ rM rP rk rG rW rK rE rst rev rod rp rb rbl 0 5 wd ht kd db ew ac dn pr nu de wr rd cn (sBy nu de s0) (sBy nu de (s0 + 1) - sBy nu de s0) (ldI nu de s0) (rmI nu de s0) cu sp nz sl uz g hg (by omega) (by omega)) 2 m4_187 m4_184 m4_186 mp_47 m1_9 (by decide +kernel) (by decide) rfl rfl (k_preV (q0 := 0) hK hP hD hS hA hT rfl rfl [0, 3] (by decide) rfl) rfl hl.1 rfl (Nat.le_of_ble_eq_true rfl) d_Mod_read_9 ⟨Nat.le_of_ble_eq_true rfl, Nat.le_of_ble_eq_true rfl⟩) (fun r9 h9 => ?_)
  subst h9
  refine lv_istore_n hx hb d_Mod_read_12 rfl hl (by decide) rfl (fun ls hl => ?_)
  have hl : lv_has ls 11 [(3, .int (iv (bsM g (sBy nu de s0) 0 5))), (2, .int (iv (lnM g nu de s0))), (0, .ref rM), (1, .int (iv (s0)))] := hl
  refine lv_aload_n hx hb d_Mod_read_13 rfl (lv_at hl 2 rfl) ?_
  refine lv_iconst (v := iv (5)) hx hb d_Mod_read_14 rfl ?_
  refine lv_aload_n hx hb d_Mod_read_15 rfl (lv_at hl 2 rfl) ?_
  refine va_get (D := gD G) (ci := 7) (v := .int (iv (ldI nu de s0))) (C := R_Mod) (T := F_Mod) (N := 34) hx hb hw in_Mod hown hK hP 0 rfl rfl 26 (by decide) (hw _ m3_150) (fun _ h => h) rfl d_Mod_read_16 ?_
  refine k_iadd hx hb d_Mod_read_19 ?_
  refine va_put (D := gD G) (ci := 7) (v := .int (iv (5 + (ldI nu de s0)))) (ty := .int) (C := R_Mod) (T := F_Mod) (N := 34) hx hb hw in_Mod t_Mod t_Mod_ok n_Mod hown hK hP hD hS 0 rfl rfl 28 (by decide) (hw _ m3_152) (fun _ h => h) rfl (by decide +kernel) rfl rfl (Nat.le_of_ble_eq_true rfl) d_Mod_read_20 (fun H locs hP hD hS => ?_)
  have hP : va_P (gD G) classes [o_Mod rM wd ht rP rk rG rW rK kd db ew ac dn pr nu de rE rst wr rd rev rod cn rp rb (sBy nu de s0) (sBy nu de (s0 + 1) - sBy nu de s0) (ldI nu de s0) (rmI nu de s0) (5 + (ldI nu de s0)) sp nz rbl sl uz, (rp, ai (gI G) 256 (gp)), (rb, ai (gI G) 256 (gb)), (rst, ai (gB G) 2048 (g)), (rE, ai (gI G) 8 (es)), (rW, al (gL G) 256 (gv))] H := hP
  have hD : va_D A [o_Mod rM wd ht rP rk rG rW rK kd db ew ac dn pr nu de rE rst wr rd rev rod cn rp rb (sBy nu de s0) (sBy nu de (s0 + 1) - sBy nu de s0) (ldI nu de s0) (rmI nu de s0) (5 + (ldI nu de s0)) sp nz rbl sl uz, (rp, ai (gI G) 256 (gp)), (rb, ai (gI G) 256 (gb)), (rst, ai (gB G) 2048 (g)), (rE, ai (gI G) 8 (es)), (rW, al (gL G) 256 (gv))] := hD
  refine lv_aload_n hx hb d_Mod_read_23 rfl (lv_at hl 2 rfl) ?_
  refine lv_aload_n hx hb d_Mod_read_24 rfl (lv_at hl 2 rfl) ?_
  refine va_get (D := gD G) (ci := 7) (v := .int (iv (5 + (ldI nu de s0)))) (C := R_Mod) (T := F_Mod) (N := 34) hx hb hw in_Mod hown hK hP 0 rfl rfl 28 (by decide) (hw _ m3_152) (fun _ h => h) rfl d_Mod_read_25 ?_
  refine lv_iload_n hx hb d_Mod_read_28 rfl (lv_at hl 1 rfl) ?_
  refine k_iadd hx hb d_Mod_read_29 ?_
  refine va_put (D := gD G) (ci := 7) (v := .int (iv ((5 + (ldI nu de s0)) + (lnM g nu de s0)))) (ty := .int) (C := R_Mod) (T := F_Mod) (N := 34) hx hb hw in_Mod t_Mod t_Mod_ok n_Mod hown hK hP hD hS 0 rfl rfl 29 (by decide) (hw _ m3_153) (fun _ h => h) rfl (by decide +kernel) rfl rfl (Nat.le_of_ble_eq_true rfl) d_Mod_read_30 (fun H locs hP hD hS => ?_)
  have hP : va_P (gD G) classes [o_Mod rM wd ht rP rk rG rW rK kd db ew ac dn pr nu de rE rst wr rd rev rod cn rp rb (sBy nu de s0) (sBy nu de (s0 + 1) - sBy nu de s0) (ldI nu de s0) (rmI nu de s0) (5 + (ldI nu de s0)) ((5 + (ldI nu de s0)) + (lnM g nu de s0)) nz rbl sl uz, (rp, ai (gI G) 256 (gp)), (rb, ai (gI G) 256 (gb)), (rst, ai (gB G) 2048 (g)), (rE, ai (gI G) 8 (es)), (rW, al (gL G) 256 (gv))] H := hP
  have hD : va_D A [o_Mod rM wd ht rP rk rG rW rK kd db ew ac dn pr nu de rE rst wr rd rev rod cn rp rb (sBy nu de s0) (sBy nu de (s0 + 1) - sBy nu de s0) (ldI nu de s0) (rmI nu de s0) (5 + (ldI nu de s0)) ((5 + (ldI nu de s0)) + (lnM g nu de s0)) nz rbl sl uz, (rp, ai (gI G) 256 (gp)), (rb, ai (gI G) 256 (gb)), (rst, ai (gB G) 2048 (g)), (rE, ai (gI G) 8 (es)), (rW, al (gL G) 256 (gv))] := hD
  refine lv_aload_n hx hb d_Mod_read_33 rfl (lv_at hl 2 rfl) ?_
  refine lv_iconst (v := iv (0)) hx hb d_Mod_read_34 rfl ?_
  refine va_put (D := gD G) (ci := 7) (v := .int (iv (0))) (ty := .int) (C := R_Mod) (T := F_Mod) (N := 34) hx hb hw in_Mod t_Mod t_Mod_ok n_Mod hown hK hP hD hS 0 rfl rfl 30 (by decide) (hw _ m3_154) (fun _ h => h) rfl (by decide +kernel) rfl rfl (Nat.le_of_ble_eq_true rfl) d_Mod_read_35 (fun H locs hP hD hS => ?_)
  have hP : va_P (gD G) classes [o_Mod rM wd ht rP rk rG rW rK kd db ew ac dn pr nu de rE rst wr rd rev rod cn rp rb (sBy nu de s0) (sBy nu de (s0 + 1) - sBy nu de s0) (ldI nu de s0) (rmI nu de s0) (5 + (ldI nu de s0)) ((5 + (ldI nu de s0)) + (lnM g nu de s0)) 0 rbl sl uz, (rp, ai (gI G) 256 (gp)), (rb, ai (gI G) 256 (gb)), (rst, ai (gB G) 2048 (g)), (rE, ai (gI G) 8 (es)), (rW, al (gL G) 256 (gv))] H := hP
  have hD : va_D A [o_Mod rM wd ht rP rk rG rW rK kd db ew ac dn pr nu de rE rst wr rd rev rod cn rp rb (sBy nu de s0) (sBy nu de (s0 + 1) - sBy nu de s0) (ldI nu de s0) (rmI nu de s0) (5 + (ldI nu de s0)) ((5 + (ldI nu de s0)) + (lnM g nu de s0)) 0 rbl sl uz, (rp, ai (gI G) 256 (gp)), (rb, ai (gI G) 256 (gb)), (rst, ai (gB G) 2048 (g)), (rE, ai (gI G) 8 (es)), (rW, al (gL G) 256 (gv))] := hD
  refine lv_aload_n hx hb d_Mod_read_38 rfl (lv_at hl 2 rfl) ?_
  refine lv_iload_n hx hb d_Mod_read_39 rfl (lv_at hl 3 rfl) ?_
  refine k_cv (wz := fun u : Int × (Int → Int) × (Int → Int) => [o_Mod rM wd ht rP rk rG rW rK kd db ew ac dn pr nu de rE rst wr rd rev rod u.1 rp rb (sBy nu de s0) (sBy nu de (s0 + 1) - sBy nu de s0) (ldI nu de s0) (rmI nu de s0) (5 + (ldI nu de s0)) ((5 + (ldI nu de s0)) + (lnM g nu de s0)) 0 rbl sl uz, (rp, ai (gI G) 256 (u.2.1)), (rb, ai (gI G) 256 (u.2.2)), (rst, ai (gB G) 2048 (g)), (rE, ai (gI G) 8 (es)), (rW, al (gL G) 256 (gv))]) (wr := [(rst, ai (gB G) 2048 (g)), (rE, ai (gI G) 8 (es)), (rW, al (gL G) 256 (gv))]) (k_rv S (c_Mod_list l G _ rM rP rk rG rW rK rE rst rev rod rp rb rbl s0 wd ht kd db ew ac dn pr nu de wr rd cn (sBy nu de s0) (sBy nu de (s0 + 1) - sBy nu de s0) (ldI nu de s0) (rmI nu de s0) (5 + (ldI nu de s0)) ((5 + (ldI nu de s0)) + (lnM g nu de s0)) 0 sl uz gp gb (by assumption) (by assumption) (by assumption) (by assumption) (by assumption) (by assumption)) 1 m4_113 m4_110 m4_112 mp_35 m1_9 (by decide +kernel) (by decide) rfl rfl (k_preV (q0 := 0) hK hP hD hS hA hT rfl rfl [0, 1, 2] (by decide) rfl) rfl hl.1 rfl (Nat.le_of_ble_eq_true rfl) d_Mod_read_40 ⟨Nat.le_of_ble_eq_true rfl, Nat.le_of_ble_eq_true rfl⟩) hP hD hS hA [0, 1, 2] [3, 4, 5] [3, 4, 5, 0, 1, 2] rfl rfl (by decide) (by decide) (by decide) (fun _ => rfl) (fun u40 H locs h40 hP hD hS => ?_)
  obtain ⟨cn40, gp40, gb40⟩ := u40
  have hP : va_P (gD G) classes [o_Mod rM wd ht rP rk rG rW rK kd db ew ac dn pr nu de rE rst wr rd rev rod cn40 rp rb (sBy nu de s0) (sBy nu de (s0 + 1) - sBy nu de s0) (ldI nu de s0) (rmI nu de s0) (5 + (ldI nu de s0)) ((5 + (ldI nu de s0)) + (lnM g nu de s0)) 0 rbl sl uz, (rp, ai (gI G) 256 (gp40)), (rb, ai (gI G) 256 (gb40)), (rst, ai (gB G) 2048 (g)), (rE, ai (gI G) 8 (es)), (rW, al (gL G) 256 (gv))] H := hP
  have hD : va_D A [o_Mod rM wd ht rP rk rG rW rK kd db ew ac dn pr nu de rE rst wr rd rev rod cn40 rp rb (sBy nu de s0) (sBy nu de (s0 + 1) - sBy nu de s0) (ldI nu de s0) (rmI nu de s0) (5 + (ldI nu de s0)) ((5 + (ldI nu de s0)) + (lnM g nu de s0)) 0 rbl sl uz, (rp, ai (gI G) 256 (gp40)), (rb, ai (gI G) 256 (gb40)), (rst, ai (gB G) 2048 (g)), (rE, ai (gI G) 8 (es)), (rW, al (gL G) 256 (gv))] := hD
  try dsimp only at h40
  rw [← h40] at kL
  have k0 : 0 ≤ cn40 := kL.1.1
  have k1 : ∀ k, 0 ≤ k → k < cn40 → (0 ≤ gp40 k ∧ gp40 k < 256) ∧ 0 ≤ gb40 k ∧ gb40 k < nBd db ew := kL.1.2
  have k2 : cn40 ≤ 256 := kL.2
  refine lv_iconst (v := iv (0)) hx hb d_Mod_read_43 rfl ?_
  refine lv_istore hx hb d_Mod_read_44 hl (by decide) rfl (fun ls hl => ?_)
  have hl : lv_has ls 11 [(4, .int (iv (0))), (3, .int (iv (bsM g (sBy nu de s0) 0 5))), (2, .int (iv (lnM g nu de s0))), (0, .ref rM), (1, .int (iv (s0)))] := hl
  refine lo_up (P := fun i => ∀ (ls : Array Slot) (H : Heap) (locs : List Loc) (cu1 : Int) (nz1 : Int) (gv1 : Int → Int64), lv_has ls 11 [(0, .ref rM), (1, .int (iv (s0))), (2, .int (iv (lnM g nu de s0))), (3, .int (iv (bsM g (sBy nu de s0) 0 5))), (4, .int (iv (i)))] → va_P (gD G) classes [o_Mod rM wd ht rP rk rG rW rK kd db ew ac dn pr nu de rE rst wr rd rev rod cn40 rp rb (sBy nu de s0) (sBy nu de (s0 + 1) - sBy nu de s0) (ldI nu de s0) (rmI nu de s0) cu1 ((5 + (ldI nu de s0)) + (lnM g nu de s0)) nz1 rbl sl uz, (rp, ai (gI G) 256 (gp40)), (rb, ai (gI G) 256 (gb40)), (rst, ai (gB G) 2048 (g)), (rE, ai (gI G) 8 (es)), (rW, al (gL G) 256 (gv1))] H → va_D A [o_Mod rM wd ht rP rk rG rW rK kd db ew ac dn pr nu de rE rst wr rd rev rod cn40 rp rb (sBy nu de s0) (sBy nu de (s0 + 1) - sBy nu de s0) (ldI nu de s0) (rmI nu de s0) cu1 ((5 + (ldI nu de s0)) + (lnM g nu de s0)) nz1 rbl sl uz, (rp, ai (gI G) 256 (gp40)), (rb, ai (gI G) 256 (gb40)), (rst, ai (gB G) 2048 (g)), (rE, ai (gI G) 8 (es)), (rW, al (gL G) 256 (gv1))] → va_S A s.heap H locs → ((nz1, cu1, gv1) = it (rmf pr es gb40 gp40 g (sBy nu de s0) (5 + ldI nu de s0 + lnM g nu de s0) (bsM g (sBy nu de s0) 0 5)) 0 i (0, 5 + ldI nu de s0, gv)) → (0 ≤ cu1 ∧ cu1 ≤ 15 + 54 * i) → (0 ≤ nz1 ∧ nz1 ≤ i) → W p l e r_Mod_read s m args below meth c H locs 0 0 Q (F0 m 46 ls [])) (a := 0) (b := cn40) (fun i hii hji ihi => ?_) _ _ _ (5 + (ldI nu de s0)) 0 gv (lv_sub hl [3, 4, 2, 1, 0] rfl) hP hD hS (it_self _ _ _).symm (by omega) (by omega)
  intro ls H locs cu1 nz1 gv1 hl hP hD hS hs hcr hnz
  refine lv_iload hx hb d_Mod_read_46 (lv_at hl 4 rfl) ?_
  refine lv_aload_n hx hb d_Mod_read_48 rfl (lv_at hl 0 rfl) ?_
  refine va_get (D := gD G) (ci := 7) (v := .int (iv (cn40))) (C := R_Mod) (T := F_Mod) (N := 34) hx hb hw in_Mod hown hK hP 0 rfl rfl 21 (by decide) (hw _ m3_145) (fun _ h => h) rfl d_Mod_read_49 ?_
  refine k_icmp_ge (tgt := 160) hx hb d_Mod_read_52 (by decide) (by omega) (by omega) (fun hc52 => ?_) (fun hc52 => ?_)
  · exact k_vret hx hb hr hlk hQ ((cn40, gp40, gb40, sBy nu de s0, sBy nu de (s0 + 1) - sBy nu de s0, ldI nu de s0, rmI nu de s0, cu1, (5 + (ldI nu de s0)) + (lnM g nu de s0), nz1, gv1)) (by rw [← h40, show rmA g nu de pr es s0 (cn40, gp40, gb40) gv = (nz1, cu1, gv1) from by unfold rmA; rw [hs]; exact (it_x _ _ hc52 hji).symm]) hP hD hS d_Mod_read_160
  · have hp := k1 i hii hc52
    have hf := hes (gb40 i) (by omega) (by omega)
    refine lv_aload_n hx hb d_Mod_read_55 rfl (lv_at hl 0 rfl) ?_
    refine va_get (D := gD G) (ci := 7) (v := .ref rp) (C := R_Mod) (T := F_Mod) (N := 34) hx hb hw in_Mod hown hK hP 0 rfl rfl 22 (by decide) (hw _ m3_146) (fun _ h => h) rfl d_Mod_read_56 ?_
    refine lv_iload hx hb d_Mod_read_59 (lv_at hl 4 rfl) ?_
    refine k_ial hx hb hK hP 1 0 rfl rfl (by decide) (by omega) d_Mod_read_61 ?_
    refine lv_istore hx hb d_Mod_read_62 hl (by decide) rfl (fun ls hl => ?_)
    have hl : lv_has ls 11 [(5, .int (iv (gp40 i))), (0, .ref rM), (1, .int (iv (s0))), (2, .int (iv (lnM g nu de s0))), (3, .int (iv (bsM g (sBy nu de s0) 0 5))), (4, .int (iv (i)))] := hl
    refine lv_aload_n hx hb d_Mod_read_64 rfl (lv_at hl 1 rfl) ?_
    refine lv_iload_n hx hb d_Mod_read_65 rfl (lv_at hl 4 rfl) ?_
    refine lv_aload_n hx hb d_Mod_read_66 rfl (lv_at hl 1 rfl) ?_
    refine va_get (D := gD G) (ci := 7) (v := .ref rb) (C := R_Mod) (T := F_Mod) (N := 34) hx hb hw in_Mod hown hK hP 0 rfl rfl 23 (by decide) (hw _ m3_147) (fun _ h => h) rfl d_Mod_read_67 ?_
    refine lv_iload hx hb d_Mod_read_70 (lv_at hl 5 rfl) ?_
    refine k_ial hx hb hK hP 2 0 rfl rfl (by decide) (by omega) d_Mod_read_72 ?_
    refine k_ciR (k_rv S (c_Mod_fineness l G _ rM rP rk rG rW rK rE rst rev rod rp rb rbl (bsM g (sBy nu de s0) 0 5) (gb40 i) wd ht kd db ew ac dn pr nu de wr rd cn40 (sBy nu de s0) (sBy nu de (s0 + 1) - sBy nu de s0) (ldI nu de s0) (rmI nu de s0) cu1 ((5 + (ldI nu de s0)) + (lnM g nu de s0)) nz1 sl uz es (by omega) (by omega) hf) 2 m4_133 m4_130 m4_132 mp_40 m1_9 (by decide +kernel) (by decide) rfl rfl (k_preV (q0 := 0) hK hP hD hS hA hT rfl rfl [0, 4] (by decide) rfl) rfl hl.1 rfl (Nat.le_of_ble_eq_true rfl) d_Mod_read_73 ⟨Nat.le_of_ble_eq_true rfl, Nat.le_of_ble_eq_true rfl⟩) (fun r73 h73 => ?_)
    subst h73
    refine lv_istore hx hb d_Mod_read_76 hl (by decide) rfl (fun ls hl => ?_)
    have hl : lv_has ls 11 [(6, .int (iv (max 0 ((bsM g (sBy nu de s0) 0 5) - es (gb40 i))))), (5, .int (iv (gp40 i))), (0, .ref rM), (1, .int (iv (s0))), (2, .int (iv (lnM g nu de s0))), (3, .int (iv (bsM g (sBy nu de s0) 0 5))), (4, .int (iv (i)))] := hl
    refine lv_aload_n hx hb d_Mod_read_78 rfl (lv_at hl 2 rfl) ?_
    refine k_cl (wz := fun u : Int64 × Int => [o_Mod rM wd ht rP rk rG rW rK kd db ew ac dn pr nu de rE rst wr rd rev rod cn40 rp rb (sBy nu de s0) (sBy nu de (s0 + 1) - sBy nu de s0) (ldI nu de s0) (rmI nu de s0) u.2 ((5 + (ldI nu de s0)) + (lnM g nu de s0)) nz1 rbl sl uz, (rp, ai (gI G) 256 (gp40)), (rb, ai (gI G) 256 (gb40)), (rst, ai (gB G) 2048 (g)), (rE, ai (gI G) 8 (es)), (rW, al (gL G) 256 (gv1))]) (wr := [(rp, ai (gI G) 256 (gp40)), (rb, ai (gI G) 256 (gb40)), (rE, ai (gI G) 8 (es)), (rW, al (gL G) 256 (gv1))]) (k_rv S (c_Mod_readNumber l G _ rM rP rk rG rW rK rE rst rev rod rp rb rbl wd ht kd db ew ac dn pr nu de wr rd cn40 (sBy nu de s0) (sBy nu de (s0 + 1) - sBy nu de s0) (ldI nu de s0) (rmI nu de s0) cu1 ((5 + (ldI nu de s0)) + (lnM g nu de s0)) nz1 sl uz g hg (by omega) (by omega) (by omega)) 0 m4_195 m4_192 m4_194 mp_49 m1_9 (by decide +kernel) (by decide) rfl rfl (k_preV (q0 := 0) hK hP hD hS hA hT rfl rfl [0, 3] (by decide) rfl) rfl hl.1 rfl (Nat.le_of_ble_eq_true rfl) d_Mod_read_79 ⟨Nat.le_of_ble_eq_true rfl, Nat.le_of_ble_eq_true rfl⟩) hP hD hS hA [0, 3] [1, 2, 4, 5] [4, 0, 1, 5, 2, 3] rfl rfl (by decide) (by decide) (by decide) (fun _ => rfl) (fun r79 u79 H locs h79 hP hD hS => ?_)
    obtain ⟨r79, cu79⟩ := u79
    have hP : va_P (gD G) classes [o_Mod rM wd ht rP rk rG rW rK kd db ew ac dn pr nu de rE rst wr rd rev rod cn40 rp rb (sBy nu de s0) (sBy nu de (s0 + 1) - sBy nu de s0) (ldI nu de s0) (rmI nu de s0) cu79 ((5 + (ldI nu de s0)) + (lnM g nu de s0)) nz1 rbl sl uz, (rp, ai (gI G) 256 (gp40)), (rb, ai (gI G) 256 (gb40)), (rst, ai (gB G) 2048 (g)), (rE, ai (gI G) 8 (es)), (rW, al (gL G) 256 (gv1))] H := hP
    have hD : va_D A [o_Mod rM wd ht rP rk rG rW rK kd db ew ac dn pr nu de rE rst wr rd rev rod cn40 rp rb (sBy nu de s0) (sBy nu de (s0 + 1) - sBy nu de s0) (ldI nu de s0) (rmI nu de s0) cu79 ((5 + (ldI nu de s0)) + (lnM g nu de s0)) nz1 rbl sl uz, (rp, ai (gI G) 256 (gp40)), (rb, ai (gI G) 256 (gb40)), (rst, ai (gB G) 2048 (g)), (rE, ai (gI G) 8 (es)), (rW, al (gL G) 256 (gv1))] := hD
    obtain ⟨hr79, h79⟩ := h79
    subst hr79
    try dsimp only at h79
    have c79 := rmN_c g (sBy nu de s0) (5 + ldI nu de s0 + lnM g nu de s0) cu1
    rw [← h79] at c79
    dsimp only at c79
    refine lv_lstore hx hb d_Mod_read_82 hl (by decide) rfl (fun ls hl => ?_)
    have hl : lv_has ls 11 [(7, .long (r79)), (6, .int (iv (max 0 ((bsM g (sBy nu de s0) 0 5) - es (gb40 i))))), (5, .int (iv (gp40 i))), (0, .ref rM), (1, .int (iv (s0))), (2, .int (iv (lnM g nu de s0))), (3, .int (iv (bsM g (sBy nu de s0) 0 5))), (4, .int (iv (i)))] := hl
    refine lv_lload hx hb d_Mod_read_84 (lv_at hl 0 rfl) ?_
    refine lv_iload hx hb d_Mod_read_86 (lv_at hl 1 rfl) ?_
    refine k_clR (k_rs S (c_Mod_value l G _ (max 0 ((bsM g (sBy nu de s0) 0 5) - es (gb40 i))) r79 (by omega)) 2 m4_166 m4_164 m4_165 m1_9 (by decide +kernel) (by decide) rfl rfl (k_preS hK hP hD hS hA hT [] (by decide) rfl) rfl hl.1 rfl (Nat.le_of_ble_eq_true rfl) d_Mod_read_88 ⟨Nat.le_of_ble_eq_true rfl, Nat.le_of_ble_eq_true rfl⟩) (fun r88 h88 => ?_)
    subst h88
    refine lv_lstore hx hb d_Mod_read_91 hl (by decide) rfl (fun ls hl => ?_)
    have hl : lv_has ls 11 [(9, .long (vlM r79 (max 0 ((bsM g (sBy nu de s0) 0 5) - es (gb40 i))))), (7, .long (r79)), (6, .int (iv (max 0 ((bsM g (sBy nu de s0) 0 5) - es (gb40 i))))), (5, .int (iv (gp40 i))), (0, .ref rM), (1, .int (iv (s0))), (2, .int (iv (lnM g nu de s0))), (3, .int (iv (bsM g (sBy nu de s0) 0 5))), (4, .int (iv (i)))] := hl
    refine lv_aload_n hx hb d_Mod_read_93 rfl (lv_at hl 4 rfl) ?_
    refine va_get (D := gD G) (ci := 7) (v := .int (iv (pr))) (C := R_Mod) (T := F_Mod) (N := 34) hx hb hw in_Mod hown hK hP 0 rfl rfl 12 (by decide) (hw _ m3_136) (fun _ h => h) rfl d_Mod_read_94 ?_
    refine k_if_eq (tgt := 121) hx hb d_Mod_read_97 (by decide) (by omega) (fun hc97 => ?_) (fun hc97 => ?_)
    · refine lv_aload_n hx hb d_Mod_read_121 rfl (lv_at hl 4 rfl) ?_
      refine va_get (D := gD G) (ci := 7) (v := .ref rW) (C := R_Mod) (T := F_Mod) (N := 34) hx hb hw in_Mod hown hK hP 0 rfl rfl 5 (by decide) (hw _ m3_129) (fun _ h => h) rfl d_Mod_read_122 ?_
      refine lv_iload hx hb d_Mod_read_125 (lv_at hl 3 rfl) ?_
      refine lv_lload hx hb d_Mod_read_127 (lv_at hl 0 rfl) ?_
      refine k_clR (k_rs S (c_Mod_bound l G _ (vlM r79 (max 0 ((bsM g (sBy nu de s0) 0 5) - es (gb40 i)))) ) 1 m4_169 m4_167 m4_168 m1_9 (by decide +kernel) (by decide) rfl rfl (k_preS hK hP hD hS hA hT [] (by decide) rfl) rfl hl.1 rfl (Nat.le_of_ble_eq_true rfl) d_Mod_read_129 ⟨Nat.le_of_ble_eq_true rfl, Nat.le_of_ble_eq_true rfl⟩) (fun r129 h129 => ?_)
      subst h129
      refine k_las hx hb hK hP hD hS 5 1 rfl rfl (by decide) (by omega) d_Mod_read_132 (fun H locs hP hD hS => ?_)
      have hP : va_P (gD G) classes [o_Mod rM wd ht rP rk rG rW rK kd db ew ac dn pr nu de rE rst wr rd rev rod cn40 rp rb (sBy nu de s0) (sBy nu de (s0 + 1) - sBy nu de s0) (ldI nu de s0) (rmI nu de s0) cu79 ((5 + (ldI nu de s0)) + (lnM g nu de s0)) nz1 rbl sl uz, (rp, ai (gI G) 256 (gp40)), (rb, ai (gI G) 256 (gb40)), (rst, ai (gB G) 2048 (g)), (rE, ai (gI G) 8 (es)), (rW, al (gL G) 256 (up gv1 (gp40 i) (bdL (vlM r79 (max 0 ((bsM g (sBy nu de s0) 0 5) - es (gb40 i)))))))] H := hP
      have hD : va_D A [o_Mod rM wd ht rP rk rG rW rK kd db ew ac dn pr nu de rE rst wr rd rev rod cn40 rp rb (sBy nu de s0) (sBy nu de (s0 + 1) - sBy nu de s0) (ldI nu de s0) (rmI nu de s0) cu79 ((5 + (ldI nu de s0)) + (lnM g nu de s0)) nz1 rbl sl uz, (rp, ai (gI G) 256 (gp40)), (rb, ai (gI G) 256 (gb40)), (rst, ai (gB G) 2048 (g)), (rE, ai (gI G) 8 (es)), (rW, al (gL G) 256 (up gv1 (gp40 i) (bdL (vlM r79 (max 0 ((bsM g (sBy nu de s0) 0 5) - es (gb40 i)))))))] := hD
      refine lv_aload_n hx hb d_Mod_read_133 rfl (lv_at hl 4 rfl) ?_
      refine lv_dup hx hb d_Mod_read_134 rfl ?_
      refine va_get (D := gD G) (ci := 7) (v := .int (iv (nz1))) (C := R_Mod) (T := F_Mod) (N := 34) hx hb hw in_Mod hown hK hP 0 rfl rfl 30 (by decide) (hw _ m3_154) (fun _ h => h) rfl d_Mod_read_135 ?_
      refine lv_lload hx hb d_Mod_read_138 (lv_at hl 1 rfl) ?_
      refine lv_lconst (v := 0) hx hb d_Mod_read_140 rfl ?_
      refine k_lne (tgt := 149) hx hb d_Mod_read_141 d_Mod_read_142 (by decide) (fun hc141 => ?_) (fun hc141 => ?_)
      · refine lv_iconst (v := iv (1)) hx hb d_Mod_read_149 rfl ?_
        refine k_iadd hx hb d_Mod_read_150 ?_
        refine va_put (D := gD G) (ci := 7) (v := .int (iv (nz1 + 1))) (ty := .int) (C := R_Mod) (T := F_Mod) (N := 34) hx hb hw in_Mod t_Mod t_Mod_ok n_Mod hown hK hP hD hS 0 rfl rfl 30 (by decide) (hw _ m3_154) (fun _ h => h) rfl (by decide +kernel) rfl rfl (Nat.le_of_ble_eq_true rfl) d_Mod_read_151 (fun H locs hP hD hS => ?_)
        have hP : va_P (gD G) classes [o_Mod rM wd ht rP rk rG rW rK kd db ew ac dn pr nu de rE rst wr rd rev rod cn40 rp rb (sBy nu de s0) (sBy nu de (s0 + 1) - sBy nu de s0) (ldI nu de s0) (rmI nu de s0) cu79 ((5 + (ldI nu de s0)) + (lnM g nu de s0)) (nz1 + 1) rbl sl uz, (rp, ai (gI G) 256 (gp40)), (rb, ai (gI G) 256 (gb40)), (rst, ai (gB G) 2048 (g)), (rE, ai (gI G) 8 (es)), (rW, al (gL G) 256 (up gv1 (gp40 i) (bdL (vlM r79 (max 0 ((bsM g (sBy nu de s0) 0 5) - es (gb40 i)))))))] H := hP
        have hD : va_D A [o_Mod rM wd ht rP rk rG rW rK kd db ew ac dn pr nu de rE rst wr rd rev rod cn40 rp rb (sBy nu de s0) (sBy nu de (s0 + 1) - sBy nu de s0) (ldI nu de s0) (rmI nu de s0) cu79 ((5 + (ldI nu de s0)) + (lnM g nu de s0)) (nz1 + 1) rbl sl uz, (rp, ai (gI G) 256 (gp40)), (rb, ai (gI G) 256 (gb40)), (rst, ai (gB G) 2048 (g)), (rE, ai (gI G) 8 (es)), (rW, al (gL G) 256 (up gv1 (gp40 i) (bdL (vlM r79 (max 0 ((bsM g (sBy nu de s0) 0 5) - es (gb40 i)))))))] := hD
        refine lv_iinc (k := 8) (v := iv (i + 1)) hx hb d_Mod_read_154 hl rfl (iv_add _ _) (by decide) rfl (fun ls hl => ?_)
        have hl : lv_has ls 11 [(4, .int (iv (i + 1))), (9, .long (vlM r79 (max 0 ((bsM g (sBy nu de s0) 0 5) - es (gb40 i))))), (7, .long (r79)), (6, .int (iv (max 0 ((bsM g (sBy nu de s0) 0 5) - es (gb40 i))))), (5, .int (iv (gp40 i))), (0, .ref rM), (1, .int (iv (s0))), (2, .int (iv (lnM g nu de s0))), (3, .int (iv (bsM g (sBy nu de s0) 0 5)))] := hl
        refine lv_goto (tgt := 46) hx hb d_Mod_read_157 (by decide) ?_
        exact ihi (by omega) _ _ _ cu79 (nz1 + 1) (up gv1 (gp40 i) (bdL (vlM r79 (max 0 ((bsM g (sBy nu de s0) 0 5) - es (gb40 i)))))) (lv_sub hl [5, 6, 7, 8, 0] rfl) hP hD hS (by rw [it_s _ _ hii, ← hs, rmf_e h79]; (first | rw [if_pos hc141] | rw [if_neg hc141]); (first | (have w : pr = 0 ∨ ¬ gb40 i = 0 := (by omega); rw [rmv_0 w]) | (have w : ¬ (pr = 0 ∨ ¬ gb40 i = 0) := (by omega); rw [rmv_1 w])); rfl) (by omega) (by omega)
      · refine lv_iconst (v := iv (0)) hx hb d_Mod_read_145 rfl ?_
        refine lv_goto (tgt := 150) hx hb d_Mod_read_146 (by decide) ?_
        refine k_iadd hx hb d_Mod_read_150 ?_
        refine va_put (D := gD G) (ci := 7) (v := .int (iv (nz1 + 0))) (ty := .int) (C := R_Mod) (T := F_Mod) (N := 34) hx hb hw in_Mod t_Mod t_Mod_ok n_Mod hown hK hP hD hS 0 rfl rfl 30 (by decide) (hw _ m3_154) (fun _ h => h) rfl (by decide +kernel) rfl rfl (Nat.le_of_ble_eq_true rfl) d_Mod_read_151 (fun H locs hP hD hS => ?_)
        have hP : va_P (gD G) classes [o_Mod rM wd ht rP rk rG rW rK kd db ew ac dn pr nu de rE rst wr rd rev rod cn40 rp rb (sBy nu de s0) (sBy nu de (s0 + 1) - sBy nu de s0) (ldI nu de s0) (rmI nu de s0) cu79 ((5 + (ldI nu de s0)) + (lnM g nu de s0)) (nz1 + 0) rbl sl uz, (rp, ai (gI G) 256 (gp40)), (rb, ai (gI G) 256 (gb40)), (rst, ai (gB G) 2048 (g)), (rE, ai (gI G) 8 (es)), (rW, al (gL G) 256 (up gv1 (gp40 i) (bdL (vlM r79 (max 0 ((bsM g (sBy nu de s0) 0 5) - es (gb40 i)))))))] H := hP
        have hD : va_D A [o_Mod rM wd ht rP rk rG rW rK kd db ew ac dn pr nu de rE rst wr rd rev rod cn40 rp rb (sBy nu de s0) (sBy nu de (s0 + 1) - sBy nu de s0) (ldI nu de s0) (rmI nu de s0) cu79 ((5 + (ldI nu de s0)) + (lnM g nu de s0)) (nz1 + 0) rbl sl uz, (rp, ai (gI G) 256 (gp40)), (rb, ai (gI G) 256 (gb40)), (rst, ai (gB G) 2048 (g)), (rE, ai (gI G) 8 (es)), (rW, al (gL G) 256 (up gv1 (gp40 i) (bdL (vlM r79 (max 0 ((bsM g (sBy nu de s0) 0 5) - es (gb40 i)))))))] := hD
        refine lv_iinc (k := 8) (v := iv (i + 1)) hx hb d_Mod_read_154 hl rfl (iv_add _ _) (by decide) rfl (fun ls hl => ?_)
        have hl : lv_has ls 11 [(4, .int (iv (i + 1))), (9, .long (vlM r79 (max 0 ((bsM g (sBy nu de s0) 0 5) - es (gb40 i))))), (7, .long (r79)), (6, .int (iv (max 0 ((bsM g (sBy nu de s0) 0 5) - es (gb40 i))))), (5, .int (iv (gp40 i))), (0, .ref rM), (1, .int (iv (s0))), (2, .int (iv (lnM g nu de s0))), (3, .int (iv (bsM g (sBy nu de s0) 0 5)))] := hl
        refine lv_goto (tgt := 46) hx hb d_Mod_read_157 (by decide) ?_
        exact ihi (by omega) _ _ _ cu79 (nz1 + 0) (up gv1 (gp40 i) (bdL (vlM r79 (max 0 ((bsM g (sBy nu de s0) 0 5) - es (gb40 i)))))) (lv_sub hl [5, 6, 7, 8, 0] rfl) hP hD hS (by rw [it_s _ _ hii, ← hs, rmf_e h79]; (first | rw [if_pos hc141] | rw [if_neg hc141]); (first | (have w : pr = 0 ∨ ¬ gb40 i = 0 := (by omega); rw [rmv_0 w]) | (have w : ¬ (pr = 0 ∨ ¬ gb40 i = 0) := (by omega); rw [rmv_1 w])); rfl) (by omega) (by omega)
    · refine lv_aload_n hx hb d_Mod_read_100 rfl (lv_at hl 4 rfl) ?_
      refine va_get (D := gD G) (ci := 7) (v := .ref rb) (C := R_Mod) (T := F_Mod) (N := 34) hx hb hw in_Mod hown hK hP 0 rfl rfl 23 (by decide) (hw _ m3_147) (fun _ h => h) rfl d_Mod_read_101 ?_
      refine lv_iload hx hb d_Mod_read_104 (lv_at hl 8 rfl) ?_
      refine k_ial hx hb hK hP 2 0 rfl rfl (by decide) (by omega) d_Mod_read_106 ?_
      refine k_if_ne (tgt := 121) hx hb d_Mod_read_107 (by decide) (by omega) (fun hc107 => ?_) (fun hc107 => ?_)
      · refine lv_aload_n hx hb d_Mod_read_121 rfl (lv_at hl 4 rfl) ?_
        refine va_get (D := gD G) (ci := 7) (v := .ref rW) (C := R_Mod) (T := F_Mod) (N := 34) hx hb hw in_Mod hown hK hP 0 rfl rfl 5 (by decide) (hw _ m3_129) (fun _ h => h) rfl d_Mod_read_122 ?_
        refine lv_iload hx hb d_Mod_read_125 (lv_at hl 3 rfl) ?_
        refine lv_lload hx hb d_Mod_read_127 (lv_at hl 0 rfl) ?_
        refine k_clR (k_rs S (c_Mod_bound l G _ (vlM r79 (max 0 ((bsM g (sBy nu de s0) 0 5) - es (gb40 i)))) ) 1 m4_169 m4_167 m4_168 m1_9 (by decide +kernel) (by decide) rfl rfl (k_preS hK hP hD hS hA hT [] (by decide) rfl) rfl hl.1 rfl (Nat.le_of_ble_eq_true rfl) d_Mod_read_129 ⟨Nat.le_of_ble_eq_true rfl, Nat.le_of_ble_eq_true rfl⟩) (fun r129 h129 => ?_)
        subst h129
        refine k_las hx hb hK hP hD hS 5 1 rfl rfl (by decide) (by omega) d_Mod_read_132 (fun H locs hP hD hS => ?_)
        have hP : va_P (gD G) classes [o_Mod rM wd ht rP rk rG rW rK kd db ew ac dn pr nu de rE rst wr rd rev rod cn40 rp rb (sBy nu de s0) (sBy nu de (s0 + 1) - sBy nu de s0) (ldI nu de s0) (rmI nu de s0) cu79 ((5 + (ldI nu de s0)) + (lnM g nu de s0)) nz1 rbl sl uz, (rp, ai (gI G) 256 (gp40)), (rb, ai (gI G) 256 (gb40)), (rst, ai (gB G) 2048 (g)), (rE, ai (gI G) 8 (es)), (rW, al (gL G) 256 (up gv1 (gp40 i) (bdL (vlM r79 (max 0 ((bsM g (sBy nu de s0) 0 5) - es (gb40 i)))))))] H := hP
        have hD : va_D A [o_Mod rM wd ht rP rk rG rW rK kd db ew ac dn pr nu de rE rst wr rd rev rod cn40 rp rb (sBy nu de s0) (sBy nu de (s0 + 1) - sBy nu de s0) (ldI nu de s0) (rmI nu de s0) cu79 ((5 + (ldI nu de s0)) + (lnM g nu de s0)) nz1 rbl sl uz, (rp, ai (gI G) 256 (gp40)), (rb, ai (gI G) 256 (gb40)), (rst, ai (gB G) 2048 (g)), (rE, ai (gI G) 8 (es)), (rW, al (gL G) 256 (up gv1 (gp40 i) (bdL (vlM r79 (max 0 ((bsM g (sBy nu de s0) 0 5) - es (gb40 i)))))))] := hD
        refine lv_aload_n hx hb d_Mod_read_133 rfl (lv_at hl 4 rfl) ?_
        refine lv_dup hx hb d_Mod_read_134 rfl ?_
        refine va_get (D := gD G) (ci := 7) (v := .int (iv (nz1))) (C := R_Mod) (T := F_Mod) (N := 34) hx hb hw in_Mod hown hK hP 0 rfl rfl 30 (by decide) (hw _ m3_154) (fun _ h => h) rfl d_Mod_read_135 ?_
        refine lv_lload hx hb d_Mod_read_138 (lv_at hl 1 rfl) ?_
        refine lv_lconst (v := 0) hx hb d_Mod_read_140 rfl ?_
        refine k_lne (tgt := 149) hx hb d_Mod_read_141 d_Mod_read_142 (by decide) (fun hc141 => ?_) (fun hc141 => ?_)
        · refine lv_iconst (v := iv (1)) hx hb d_Mod_read_149 rfl ?_
          refine k_iadd hx hb d_Mod_read_150 ?_
          refine va_put (D := gD G) (ci := 7) (v := .int (iv (nz1 + 1))) (ty := .int) (C := R_Mod) (T := F_Mod) (N := 34) hx hb hw in_Mod t_Mod t_Mod_ok n_Mod hown hK hP hD hS 0 rfl rfl 30 (by decide) (hw _ m3_154) (fun _ h => h) rfl (by decide +kernel) rfl rfl (Nat.le_of_ble_eq_true rfl) d_Mod_read_151 (fun H locs hP hD hS => ?_)
          have hP : va_P (gD G) classes [o_Mod rM wd ht rP rk rG rW rK kd db ew ac dn pr nu de rE rst wr rd rev rod cn40 rp rb (sBy nu de s0) (sBy nu de (s0 + 1) - sBy nu de s0) (ldI nu de s0) (rmI nu de s0) cu79 ((5 + (ldI nu de s0)) + (lnM g nu de s0)) (nz1 + 1) rbl sl uz, (rp, ai (gI G) 256 (gp40)), (rb, ai (gI G) 256 (gb40)), (rst, ai (gB G) 2048 (g)), (rE, ai (gI G) 8 (es)), (rW, al (gL G) 256 (up gv1 (gp40 i) (bdL (vlM r79 (max 0 ((bsM g (sBy nu de s0) 0 5) - es (gb40 i)))))))] H := hP
          have hD : va_D A [o_Mod rM wd ht rP rk rG rW rK kd db ew ac dn pr nu de rE rst wr rd rev rod cn40 rp rb (sBy nu de s0) (sBy nu de (s0 + 1) - sBy nu de s0) (ldI nu de s0) (rmI nu de s0) cu79 ((5 + (ldI nu de s0)) + (lnM g nu de s0)) (nz1 + 1) rbl sl uz, (rp, ai (gI G) 256 (gp40)), (rb, ai (gI G) 256 (gb40)), (rst, ai (gB G) 2048 (g)), (rE, ai (gI G) 8 (es)), (rW, al (gL G) 256 (up gv1 (gp40 i) (bdL (vlM r79 (max 0 ((bsM g (sBy nu de s0) 0 5) - es (gb40 i)))))))] := hD
          refine lv_iinc (k := 8) (v := iv (i + 1)) hx hb d_Mod_read_154 hl rfl (iv_add _ _) (by decide) rfl (fun ls hl => ?_)
          have hl : lv_has ls 11 [(4, .int (iv (i + 1))), (9, .long (vlM r79 (max 0 ((bsM g (sBy nu de s0) 0 5) - es (gb40 i))))), (7, .long (r79)), (6, .int (iv (max 0 ((bsM g (sBy nu de s0) 0 5) - es (gb40 i))))), (5, .int (iv (gp40 i))), (0, .ref rM), (1, .int (iv (s0))), (2, .int (iv (lnM g nu de s0))), (3, .int (iv (bsM g (sBy nu de s0) 0 5)))] := hl
          refine lv_goto (tgt := 46) hx hb d_Mod_read_157 (by decide) ?_
          exact ihi (by omega) _ _ _ cu79 (nz1 + 1) (up gv1 (gp40 i) (bdL (vlM r79 (max 0 ((bsM g (sBy nu de s0) 0 5) - es (gb40 i)))))) (lv_sub hl [5, 6, 7, 8, 0] rfl) hP hD hS (by rw [it_s _ _ hii, ← hs, rmf_e h79]; (first | rw [if_pos hc141] | rw [if_neg hc141]); (first | (have w : pr = 0 ∨ ¬ gb40 i = 0 := (by omega); rw [rmv_0 w]) | (have w : ¬ (pr = 0 ∨ ¬ gb40 i = 0) := (by omega); rw [rmv_1 w])); rfl) (by omega) (by omega)
        · refine lv_iconst (v := iv (0)) hx hb d_Mod_read_145 rfl ?_
          refine lv_goto (tgt := 150) hx hb d_Mod_read_146 (by decide) ?_
          refine k_iadd hx hb d_Mod_read_150 ?_
          refine va_put (D := gD G) (ci := 7) (v := .int (iv (nz1 + 0))) (ty := .int) (C := R_Mod) (T := F_Mod) (N := 34) hx hb hw in_Mod t_Mod t_Mod_ok n_Mod hown hK hP hD hS 0 rfl rfl 30 (by decide) (hw _ m3_154) (fun _ h => h) rfl (by decide +kernel) rfl rfl (Nat.le_of_ble_eq_true rfl) d_Mod_read_151 (fun H locs hP hD hS => ?_)
          have hP : va_P (gD G) classes [o_Mod rM wd ht rP rk rG rW rK kd db ew ac dn pr nu de rE rst wr rd rev rod cn40 rp rb (sBy nu de s0) (sBy nu de (s0 + 1) - sBy nu de s0) (ldI nu de s0) (rmI nu de s0) cu79 ((5 + (ldI nu de s0)) + (lnM g nu de s0)) (nz1 + 0) rbl sl uz, (rp, ai (gI G) 256 (gp40)), (rb, ai (gI G) 256 (gb40)), (rst, ai (gB G) 2048 (g)), (rE, ai (gI G) 8 (es)), (rW, al (gL G) 256 (up gv1 (gp40 i) (bdL (vlM r79 (max 0 ((bsM g (sBy nu de s0) 0 5) - es (gb40 i)))))))] H := hP
          have hD : va_D A [o_Mod rM wd ht rP rk rG rW rK kd db ew ac dn pr nu de rE rst wr rd rev rod cn40 rp rb (sBy nu de s0) (sBy nu de (s0 + 1) - sBy nu de s0) (ldI nu de s0) (rmI nu de s0) cu79 ((5 + (ldI nu de s0)) + (lnM g nu de s0)) (nz1 + 0) rbl sl uz, (rp, ai (gI G) 256 (gp40)), (rb, ai (gI G) 256 (gb40)), (rst, ai (gB G) 2048 (g)), (rE, ai (gI G) 8 (es)), (rW, al (gL G) 256 (up gv1 (gp40 i) (bdL (vlM r79 (max 0 ((bsM g (sBy nu de s0) 0 5) - es (gb40 i)))))))] := hD
          refine lv_iinc (k := 8) (v := iv (i + 1)) hx hb d_Mod_read_154 hl rfl (iv_add _ _) (by decide) rfl (fun ls hl => ?_)
          have hl : lv_has ls 11 [(4, .int (iv (i + 1))), (9, .long (vlM r79 (max 0 ((bsM g (sBy nu de s0) 0 5) - es (gb40 i))))), (7, .long (r79)), (6, .int (iv (max 0 ((bsM g (sBy nu de s0) 0 5) - es (gb40 i))))), (5, .int (iv (gp40 i))), (0, .ref rM), (1, .int (iv (s0))), (2, .int (iv (lnM g nu de s0))), (3, .int (iv (bsM g (sBy nu de s0) 0 5)))] := hl
          refine lv_goto (tgt := 46) hx hb d_Mod_read_157 (by decide) ?_
          exact ihi (by omega) _ _ _ cu79 (nz1 + 0) (up gv1 (gp40 i) (bdL (vlM r79 (max 0 ((bsM g (sBy nu de s0) 0 5) - es (gb40 i)))))) (lv_sub hl [5, 6, 7, 8, 0] rfl) hP hD hS (by rw [it_s _ _ hii, ← hs, rmf_e h79]; (first | rw [if_pos hc141] | rw [if_neg hc141]); (first | (have w : pr = 0 ∨ ¬ gb40 i = 0 := (by omega); rw [rmv_0 w]) | (have w : ¬ (pr = 0 ∨ ¬ gb40 i = 0) := (by omega); rw [rmv_1 w])); rfl) (by omega) (by omega)
      · refine lv_lload hx hb d_Mod_read_110 (lv_at hl 0 rfl) ?_
        refine lv_aload_n hx hb d_Mod_read_112 rfl (lv_at hl 4 rfl) ?_
        refine lv_iload hx hb d_Mod_read_113 (lv_at hl 3 rfl) ?_
        refine k_clR (k_rv S (c_Mod_forecast l G _ rM rP rk rG rW rK rE rst rev rod rp rb rbl (gp40 i) wd ht kd db ew ac dn pr nu de wr rd cn40 (sBy nu de s0) (sBy nu de (s0 + 1) - sBy nu de s0) (ldI nu de s0) (rmI nu de s0) cu79 ((5 + (ldI nu de s0)) + (lnM g nu de s0)) nz1 sl uz gv1 (by omega)) 1 m4_137 m4_134 m4_136 mp_41 m1_9 (by decide +kernel) (by decide) rfl rfl (k_preV (q0 := 0) hK hP hD hS hA hT rfl rfl [0, 5] (by decide) rfl) rfl hl.1 rfl (Nat.le_of_ble_eq_true rfl) d_Mod_read_115 ⟨Nat.le_of_ble_eq_true rfl, Nat.le_of_ble_eq_true rfl⟩) (fun r115 h115 => ?_)
        subst h115
        refine lv_ladd hx hb d_Mod_read_118 ?_
        refine lv_lstore hx hb d_Mod_read_119 hl (by decide) rfl (fun ls hl => ?_)
        have hl : lv_has ls 11 [(9, .long ((vlM r79 (max 0 ((bsM g (sBy nu de s0) 0 5) - es (gb40 i)))) + (fcM gv1 (gp40 i)))), (7, .long (r79)), (6, .int (iv (max 0 ((bsM g (sBy nu de s0) 0 5) - es (gb40 i))))), (5, .int (iv (gp40 i))), (0, .ref rM), (1, .int (iv (s0))), (2, .int (iv (lnM g nu de s0))), (3, .int (iv (bsM g (sBy nu de s0) 0 5))), (4, .int (iv (i)))] := hl
        refine lv_aload_n hx hb d_Mod_read_121 rfl (lv_at hl 4 rfl) ?_
        refine va_get (D := gD G) (ci := 7) (v := .ref rW) (C := R_Mod) (T := F_Mod) (N := 34) hx hb hw in_Mod hown hK hP 0 rfl rfl 5 (by decide) (hw _ m3_129) (fun _ h => h) rfl d_Mod_read_122 ?_
        refine lv_iload hx hb d_Mod_read_125 (lv_at hl 3 rfl) ?_
        refine lv_lload hx hb d_Mod_read_127 (lv_at hl 0 rfl) ?_
        refine k_clR (k_rs S (c_Mod_bound l G _ ((vlM r79 (max 0 ((bsM g (sBy nu de s0) 0 5) - es (gb40 i)))) + (fcM gv1 (gp40 i))) ) 1 m4_169 m4_167 m4_168 m1_9 (by decide +kernel) (by decide) rfl rfl (k_preS hK hP hD hS hA hT [] (by decide) rfl) rfl hl.1 rfl (Nat.le_of_ble_eq_true rfl) d_Mod_read_129 ⟨Nat.le_of_ble_eq_true rfl, Nat.le_of_ble_eq_true rfl⟩) (fun r129 h129 => ?_)
        subst h129
        refine k_las hx hb hK hP hD hS 5 1 rfl rfl (by decide) (by omega) d_Mod_read_132 (fun H locs hP hD hS => ?_)
        have hP : va_P (gD G) classes [o_Mod rM wd ht rP rk rG rW rK kd db ew ac dn pr nu de rE rst wr rd rev rod cn40 rp rb (sBy nu de s0) (sBy nu de (s0 + 1) - sBy nu de s0) (ldI nu de s0) (rmI nu de s0) cu79 ((5 + (ldI nu de s0)) + (lnM g nu de s0)) nz1 rbl sl uz, (rp, ai (gI G) 256 (gp40)), (rb, ai (gI G) 256 (gb40)), (rst, ai (gB G) 2048 (g)), (rE, ai (gI G) 8 (es)), (rW, al (gL G) 256 (up gv1 (gp40 i) (bdL ((vlM r79 (max 0 ((bsM g (sBy nu de s0) 0 5) - es (gb40 i)))) + (fcM gv1 (gp40 i))))))] H := hP
        have hD : va_D A [o_Mod rM wd ht rP rk rG rW rK kd db ew ac dn pr nu de rE rst wr rd rev rod cn40 rp rb (sBy nu de s0) (sBy nu de (s0 + 1) - sBy nu de s0) (ldI nu de s0) (rmI nu de s0) cu79 ((5 + (ldI nu de s0)) + (lnM g nu de s0)) nz1 rbl sl uz, (rp, ai (gI G) 256 (gp40)), (rb, ai (gI G) 256 (gb40)), (rst, ai (gB G) 2048 (g)), (rE, ai (gI G) 8 (es)), (rW, al (gL G) 256 (up gv1 (gp40 i) (bdL ((vlM r79 (max 0 ((bsM g (sBy nu de s0) 0 5) - es (gb40 i)))) + (fcM gv1 (gp40 i))))))] := hD
        refine lv_aload_n hx hb d_Mod_read_133 rfl (lv_at hl 4 rfl) ?_
        refine lv_dup hx hb d_Mod_read_134 rfl ?_
        refine va_get (D := gD G) (ci := 7) (v := .int (iv (nz1))) (C := R_Mod) (T := F_Mod) (N := 34) hx hb hw in_Mod hown hK hP 0 rfl rfl 30 (by decide) (hw _ m3_154) (fun _ h => h) rfl d_Mod_read_135 ?_
        refine lv_lload hx hb d_Mod_read_138 (lv_at hl 1 rfl) ?_
        refine lv_lconst (v := 0) hx hb d_Mod_read_140 rfl ?_
        refine k_lne (tgt := 149) hx hb d_Mod_read_141 d_Mod_read_142 (by decide) (fun hc141 => ?_) (fun hc141 => ?_)
        · refine lv_iconst (v := iv (1)) hx hb d_Mod_read_149 rfl ?_
          refine k_iadd hx hb d_Mod_read_150 ?_
          refine va_put (D := gD G) (ci := 7) (v := .int (iv (nz1 + 1))) (ty := .int) (C := R_Mod) (T := F_Mod) (N := 34) hx hb hw in_Mod t_Mod t_Mod_ok n_Mod hown hK hP hD hS 0 rfl rfl 30 (by decide) (hw _ m3_154) (fun _ h => h) rfl (by decide +kernel) rfl rfl (Nat.le_of_ble_eq_true rfl) d_Mod_read_151 (fun H locs hP hD hS => ?_)
          have hP : va_P (gD G) classes [o_Mod rM wd ht rP rk rG rW rK kd db ew ac dn pr nu de rE rst wr rd rev rod cn40 rp rb (sBy nu de s0) (sBy nu de (s0 + 1) - sBy nu de s0) (ldI nu de s0) (rmI nu de s0) cu79 ((5 + (ldI nu de s0)) + (lnM g nu de s0)) (nz1 + 1) rbl sl uz, (rp, ai (gI G) 256 (gp40)), (rb, ai (gI G) 256 (gb40)), (rst, ai (gB G) 2048 (g)), (rE, ai (gI G) 8 (es)), (rW, al (gL G) 256 (up gv1 (gp40 i) (bdL ((vlM r79 (max 0 ((bsM g (sBy nu de s0) 0 5) - es (gb40 i)))) + (fcM gv1 (gp40 i))))))] H := hP
          have hD : va_D A [o_Mod rM wd ht rP rk rG rW rK kd db ew ac dn pr nu de rE rst wr rd rev rod cn40 rp rb (sBy nu de s0) (sBy nu de (s0 + 1) - sBy nu de s0) (ldI nu de s0) (rmI nu de s0) cu79 ((5 + (ldI nu de s0)) + (lnM g nu de s0)) (nz1 + 1) rbl sl uz, (rp, ai (gI G) 256 (gp40)), (rb, ai (gI G) 256 (gb40)), (rst, ai (gB G) 2048 (g)), (rE, ai (gI G) 8 (es)), (rW, al (gL G) 256 (up gv1 (gp40 i) (bdL ((vlM r79 (max 0 ((bsM g (sBy nu de s0) 0 5) - es (gb40 i)))) + (fcM gv1 (gp40 i))))))] := hD
          refine lv_iinc (k := 8) (v := iv (i + 1)) hx hb d_Mod_read_154 hl rfl (iv_add _ _) (by decide) rfl (fun ls hl => ?_)
          have hl : lv_has ls 11 [(4, .int (iv (i + 1))), (9, .long ((vlM r79 (max 0 ((bsM g (sBy nu de s0) 0 5) - es (gb40 i)))) + (fcM gv1 (gp40 i)))), (7, .long (r79)), (6, .int (iv (max 0 ((bsM g (sBy nu de s0) 0 5) - es (gb40 i))))), (5, .int (iv (gp40 i))), (0, .ref rM), (1, .int (iv (s0))), (2, .int (iv (lnM g nu de s0))), (3, .int (iv (bsM g (sBy nu de s0) 0 5)))] := hl
          refine lv_goto (tgt := 46) hx hb d_Mod_read_157 (by decide) ?_
          exact ihi (by omega) _ _ _ cu79 (nz1 + 1) (up gv1 (gp40 i) (bdL ((vlM r79 (max 0 ((bsM g (sBy nu de s0) 0 5) - es (gb40 i)))) + (fcM gv1 (gp40 i))))) (lv_sub hl [5, 6, 7, 8, 0] rfl) hP hD hS (by rw [it_s _ _ hii, ← hs, rmf_e h79]; (first | rw [if_pos hc141] | rw [if_neg hc141]); (first | (have w : pr = 0 ∨ ¬ gb40 i = 0 := (by omega); rw [rmv_0 w]) | (have w : ¬ (pr = 0 ∨ ¬ gb40 i = 0) := (by omega); rw [rmv_1 w])); rfl) (by omega) (by omega)
        · refine lv_iconst (v := iv (0)) hx hb d_Mod_read_145 rfl ?_
          refine lv_goto (tgt := 150) hx hb d_Mod_read_146 (by decide) ?_
          refine k_iadd hx hb d_Mod_read_150 ?_
          refine va_put (D := gD G) (ci := 7) (v := .int (iv (nz1 + 0))) (ty := .int) (C := R_Mod) (T := F_Mod) (N := 34) hx hb hw in_Mod t_Mod t_Mod_ok n_Mod hown hK hP hD hS 0 rfl rfl 30 (by decide) (hw _ m3_154) (fun _ h => h) rfl (by decide +kernel) rfl rfl (Nat.le_of_ble_eq_true rfl) d_Mod_read_151 (fun H locs hP hD hS => ?_)
          have hP : va_P (gD G) classes [o_Mod rM wd ht rP rk rG rW rK kd db ew ac dn pr nu de rE rst wr rd rev rod cn40 rp rb (sBy nu de s0) (sBy nu de (s0 + 1) - sBy nu de s0) (ldI nu de s0) (rmI nu de s0) cu79 ((5 + (ldI nu de s0)) + (lnM g nu de s0)) (nz1 + 0) rbl sl uz, (rp, ai (gI G) 256 (gp40)), (rb, ai (gI G) 256 (gb40)), (rst, ai (gB G) 2048 (g)), (rE, ai (gI G) 8 (es)), (rW, al (gL G) 256 (up gv1 (gp40 i) (bdL ((vlM r79 (max 0 ((bsM g (sBy nu de s0) 0 5) - es (gb40 i)))) + (fcM gv1 (gp40 i))))))] H := hP
          have hD : va_D A [o_Mod rM wd ht rP rk rG rW rK kd db ew ac dn pr nu de rE rst wr rd rev rod cn40 rp rb (sBy nu de s0) (sBy nu de (s0 + 1) - sBy nu de s0) (ldI nu de s0) (rmI nu de s0) cu79 ((5 + (ldI nu de s0)) + (lnM g nu de s0)) (nz1 + 0) rbl sl uz, (rp, ai (gI G) 256 (gp40)), (rb, ai (gI G) 256 (gb40)), (rst, ai (gB G) 2048 (g)), (rE, ai (gI G) 8 (es)), (rW, al (gL G) 256 (up gv1 (gp40 i) (bdL ((vlM r79 (max 0 ((bsM g (sBy nu de s0) 0 5) - es (gb40 i)))) + (fcM gv1 (gp40 i))))))] := hD
          refine lv_iinc (k := 8) (v := iv (i + 1)) hx hb d_Mod_read_154 hl rfl (iv_add _ _) (by decide) rfl (fun ls hl => ?_)
          have hl : lv_has ls 11 [(4, .int (iv (i + 1))), (9, .long ((vlM r79 (max 0 ((bsM g (sBy nu de s0) 0 5) - es (gb40 i)))) + (fcM gv1 (gp40 i)))), (7, .long (r79)), (6, .int (iv (max 0 ((bsM g (sBy nu de s0) 0 5) - es (gb40 i))))), (5, .int (iv (gp40 i))), (0, .ref rM), (1, .int (iv (s0))), (2, .int (iv (lnM g nu de s0))), (3, .int (iv (bsM g (sBy nu de s0) 0 5)))] := hl
          refine lv_goto (tgt := 46) hx hb d_Mod_read_157 (by decide) ?_
          exact ihi (by omega) _ _ _ cu79 (nz1 + 0) (up gv1 (gp40 i) (bdL ((vlM r79 (max 0 ((bsM g (sBy nu de s0) 0 5) - es (gb40 i)))) + (fcM gv1 (gp40 i))))) (lv_sub hl [5, 6, 7, 8, 0] rfl) hP hD hS (by rw [it_s _ _ hii, ← hs, rmf_e h79]; (first | rw [if_pos hc141] | rw [if_neg hc141]); (first | (have w : pr = 0 ∨ ¬ gb40 i = 0 := (by omega); rw [rmv_0 w]) | (have w : ¬ (pr = 0 ∨ ¬ gb40 i = 0) := (by omega); rw [rmv_1 w])); rfl) (by omega) (by omega)
abbrev w_Mod_emit : List Cond := Cond.code y_Mod_emit prog_9_method_44_code 2 none :: wl
abbrev r_Mod_emit : Room := { frames := 0, cells := 0, slots := 0, locals := 0 }
set_option maxHeartbeats 4000000 in
set_option maxRecDepth 100000 in
theorem c_Mod_emit (l : Launch) (G : k_G) (sz : Nat) (rM rP rk rG rW rK rE rst rev rod rp rb rbl : Nat) (bt wd ht kd db ew ac dn pr nu de wr rd cn ba sz1 lb rm cu sp nz sl uz : Int) (bk : Int → Int) (hbt : bt = 0 ∨ bt = 1) (hsl : 0 ≤ sl ∧ sl < 100000) : Met l y_Mod_emit w_Mod_emit r_Mod_emit (k_P G [.ref rM, .int (iv (bt))] [o_Mod rM wd ht rP rk rG rW rK kd db ew ac dn pr nu de rE rst wr rd rev rod cn rp rb ba sz1 lb rm cu sp nz rbl sl uz, (rbl, ai (gB G) 1024 (bk))] sz) (qv G (fun u : Int × Int × (Int → Int) => u = emM bt (sl, uz, bk)) (fun u : Int × Int × (Int → Int) => [o_Mod rM wd ht rP rk rG rW rK kd db ew ac dn pr nu de rE rst wr rd rev rod cn rp rb ba sz1 lb rm cu sp nz rbl u.1 u.2.1, (rbl, ai (gB G) 1024 (u.2.2))]) (va_A [o_Mod rM wd ht rP rk rG rW rK kd db ew ac dn pr nu de rE rst wr rd rev rod cn rp rb ba sz1 lb rm cu sp nz rbl sl uz, (rbl, ai (gB G) 1024 (bk))] sz)) 0 0 (va_A [o_Mod rM wd ht rP rk rG rW rK kd db ew ac dn pr nu de rE rst wr rd rev rod cn rp rb ba sz1 lb rm cu sp nz rbl sl uz, (rbl, ai (gB G) 1024 (bk))] sz) := by
  refine k_met (fun A => qv G (fun u : Int × Int × (Int → Int) => u = emM bt (sl, uz, bk)) (fun u : Int × Int × (Int → Int) => [o_Mod rM wd ht rP rk rG rW rK kd db ew ac dn pr nu de rE rst wr rd rev rod cn rp rb ba sz1 lb rm cu sp nz rbl u.1 u.2.1, (rbl, ai (gB G) 1024 (u.2.2))]) A) (fun A => A) (by decide) rfl (Nat.le_of_ble_eq_true rfl) (fun p e s m args below meth c ls A Q S hr hlk hnm hl hsz hP hK hD hS hA hT hQ => ?_)
  obtain ⟨hx, hb, hml, hown, hts⟩ := id S
  have hw : ∀ w ∈ wl, w.before args s = true := fun w h => hts w (List.mem_cons_of_mem _ h)
  have hl : lv_has ls 2 [(0, .ref rM), (1, .int (iv (bt)))] := hl
  have e8 : b8 bt = bt := b8_v (by omega)
  refine lv_aload_n hx hb d_Mod_emit_0 rfl (lv_at hl 0 rfl) ?_
  refine va_get (D := gD G) (ci := 7) (v := .int (iv (sl))) (C := R_Mod) (T := F_Mod) (N := 34) hx hb hw in_Mod hown hK hP 0 rfl rfl 32 (by decide) (hw _ m3_156) (fun _ h => h) rfl d_Mod_emit_1 ?_
  refine lv_sipush (v := iv (1024)) hx hb d_Mod_emit_4 rfl ?_
  refine k_icmp_ge (tgt := 21) hx hb d_Mod_emit_7 (by decide) (by omega) (by omega) (fun hc7 => ?_) (fun hc7 => ?_)
  · refine lv_aload_n hx hb d_Mod_emit_21 rfl (lv_at hl 0 rfl) ?_
    refine lv_dup hx hb d_Mod_emit_22 rfl ?_
    refine va_get (D := gD G) (ci := 7) (v := .int (iv (sl))) (C := R_Mod) (T := F_Mod) (N := 34) hx hb hw in_Mod hown hK hP 0 rfl rfl 32 (by decide) (hw _ m3_156) (fun _ h => h) rfl d_Mod_emit_23 ?_
    refine lv_iconst (v := iv (1)) hx hb d_Mod_emit_26 rfl ?_
    refine k_iadd hx hb d_Mod_emit_27 ?_
    refine va_put (D := gD G) (ci := 7) (v := .int (iv (sl + 1))) (ty := .int) (C := R_Mod) (T := F_Mod) (N := 34) hx hb hw in_Mod t_Mod t_Mod_ok n_Mod hown hK hP hD hS 0 rfl rfl 32 (by decide) (hw _ m3_156) (fun _ h => h) rfl (by decide +kernel) rfl rfl (Nat.le_of_ble_eq_true rfl) d_Mod_emit_28 (fun H locs hP hD hS => ?_)
    have hP : va_P (gD G) classes [o_Mod rM wd ht rP rk rG rW rK kd db ew ac dn pr nu de rE rst wr rd rev rod cn rp rb ba sz1 lb rm cu sp nz rbl (sl + 1) uz, (rbl, ai (gB G) 1024 (bk))] H := hP
    have hD : va_D A [o_Mod rM wd ht rP rk rG rW rK kd db ew ac dn pr nu de rE rst wr rd rev rod cn rp rb ba sz1 lb rm cu sp nz rbl (sl + 1) uz, (rbl, ai (gB G) 1024 (bk))] := hD
    refine lv_aload_n hx hb d_Mod_emit_31 rfl (lv_at hl 0 rfl) ?_
    refine lv_iload_n hx hb d_Mod_emit_32 rfl (lv_at hl 1 rfl) ?_
    refine k_if_ne (tgt := 43) hx hb d_Mod_emit_33 (by decide) (by omega) (fun hc33 => ?_) (fun hc33 => ?_)
    · refine lv_aload_n hx hb d_Mod_emit_43 rfl (lv_at hl 0 rfl) ?_
      refine va_get (D := gD G) (ci := 7) (v := .int (iv (uz))) (C := R_Mod) (T := F_Mod) (N := 34) hx hb hw in_Mod hown hK hP 0 rfl rfl 33 (by decide) (hw _ m3_157) (fun _ h => h) rfl d_Mod_emit_44 ?_
      refine va_put (D := gD G) (ci := 7) (v := .int (iv (uz))) (ty := .int) (C := R_Mod) (T := F_Mod) (N := 34) hx hb hw in_Mod t_Mod t_Mod_ok n_Mod hown hK hP hD hS 0 rfl rfl 33 (by decide) (hw _ m3_157) (fun _ h => h) rfl (by decide +kernel) rfl rfl (Nat.le_of_ble_eq_true rfl) d_Mod_emit_47 (fun H locs hP hD hS => ?_)
      have hP : va_P (gD G) classes [o_Mod rM wd ht rP rk rG rW rK kd db ew ac dn pr nu de rE rst wr rd rev rod cn rp rb ba sz1 lb rm cu sp nz rbl (sl + 1) uz, (rbl, ai (gB G) 1024 (bk))] H := hP
      have hD : va_D A [o_Mod rM wd ht rP rk rG rW rK kd db ew ac dn pr nu de rE rst wr rd rev rod cn rp rb ba sz1 lb rm cu sp nz rbl (sl + 1) uz, (rbl, ai (gB G) 1024 (bk))] := hD
      exact k_vret hx hb hr hlk hQ ((sl + 1, uz, bk)) (by show _ = (sl + 1, (if bt = 0 then sl + 1 else uz), (if sl < 1024 then up bk sl bt else bk)); first | rw [if_pos (show bt = 0 by omega), if_pos (show sl < 1024 by omega), e8] | rw [if_neg (show ¬ bt = 0 by omega), if_pos (show sl < 1024 by omega), e8] | rw [if_pos (show bt = 0 by omega), if_neg (show ¬ sl < 1024 by omega)] | rw [if_neg (show ¬ bt = 0 by omega), if_neg (show ¬ sl < 1024 by omega)]) hP hD hS d_Mod_emit_50
    · refine lv_aload_n hx hb d_Mod_emit_36 rfl (lv_at hl 0 rfl) ?_
      refine va_get (D := gD G) (ci := 7) (v := .int (iv (sl + 1))) (C := R_Mod) (T := F_Mod) (N := 34) hx hb hw in_Mod hown hK hP 0 rfl rfl 32 (by decide) (hw _ m3_156) (fun _ h => h) rfl d_Mod_emit_37 ?_
      refine lv_goto (tgt := 47) hx hb d_Mod_emit_40 (by decide) ?_
      refine va_put (D := gD G) (ci := 7) (v := .int (iv (sl + 1))) (ty := .int) (C := R_Mod) (T := F_Mod) (N := 34) hx hb hw in_Mod t_Mod t_Mod_ok n_Mod hown hK hP hD hS 0 rfl rfl 33 (by decide) (hw _ m3_157) (fun _ h => h) rfl (by decide +kernel) rfl rfl (Nat.le_of_ble_eq_true rfl) d_Mod_emit_47 (fun H locs hP hD hS => ?_)
      have hP : va_P (gD G) classes [o_Mod rM wd ht rP rk rG rW rK kd db ew ac dn pr nu de rE rst wr rd rev rod cn rp rb ba sz1 lb rm cu sp nz rbl (sl + 1) (sl + 1), (rbl, ai (gB G) 1024 (bk))] H := hP
      have hD : va_D A [o_Mod rM wd ht rP rk rG rW rK kd db ew ac dn pr nu de rE rst wr rd rev rod cn rp rb ba sz1 lb rm cu sp nz rbl (sl + 1) (sl + 1), (rbl, ai (gB G) 1024 (bk))] := hD
      exact k_vret hx hb hr hlk hQ ((sl + 1, sl + 1, bk)) (by show _ = (sl + 1, (if bt = 0 then sl + 1 else uz), (if sl < 1024 then up bk sl bt else bk)); first | rw [if_pos (show bt = 0 by omega), if_pos (show sl < 1024 by omega), e8] | rw [if_neg (show ¬ bt = 0 by omega), if_pos (show sl < 1024 by omega), e8] | rw [if_pos (show bt = 0 by omega), if_neg (show ¬ sl < 1024 by omega)] | rw [if_neg (show ¬ bt = 0 by omega), if_neg (show ¬ sl < 1024 by omega)]) hP hD hS d_Mod_emit_50
  · refine lv_aload_n hx hb d_Mod_emit_10 rfl (lv_at hl 0 rfl) ?_
    refine va_get (D := gD G) (ci := 7) (v := .ref rbl) (C := R_Mod) (T := F_Mod) (N := 34) hx hb hw in_Mod hown hK hP 0 rfl rfl 31 (by decide) (hw _ m3_155) (fun _ h => h) rfl d_Mod_emit_11 ?_
    refine lv_aload_n hx hb d_Mod_emit_14 rfl (lv_at hl 0 rfl) ?_
    refine va_get (D := gD G) (ci := 7) (v := .int (iv (sl))) (C := R_Mod) (T := F_Mod) (N := 34) hx hb hw in_Mod hown hK hP 0 rfl rfl 32 (by decide) (hw _ m3_156) (fun _ h => h) rfl d_Mod_emit_15 ?_
    refine lv_iload_n hx hb d_Mod_emit_18 rfl (lv_at hl 1 rfl) ?_
    refine k_i2b hx hb d_Mod_emit_19 ?_
    refine k_eqi (b := bt) e8 ?_
    refine k_bas hx hb hK hP hD hS 1 2 rfl rfl (by decide) (by omega) d_Mod_emit_20 (fun H locs hP hD hS => ?_)
    have hP : va_P (gD G) classes [o_Mod rM wd ht rP rk rG rW rK kd db ew ac dn pr nu de rE rst wr rd rev rod cn rp rb ba sz1 lb rm cu sp nz rbl sl uz, (rbl, ai (gB G) 1024 (up bk sl (b8 bt)))] H := hP
    have hD : va_D A [o_Mod rM wd ht rP rk rG rW rK kd db ew ac dn pr nu de rE rst wr rd rev rod cn rp rb ba sz1 lb rm cu sp nz rbl sl uz, (rbl, ai (gB G) 1024 (up bk sl (b8 bt)))] := hD
    refine lv_aload_n hx hb d_Mod_emit_21 rfl (lv_at hl 0 rfl) ?_
    refine lv_dup hx hb d_Mod_emit_22 rfl ?_
    refine va_get (D := gD G) (ci := 7) (v := .int (iv (sl))) (C := R_Mod) (T := F_Mod) (N := 34) hx hb hw in_Mod hown hK hP 0 rfl rfl 32 (by decide) (hw _ m3_156) (fun _ h => h) rfl d_Mod_emit_23 ?_
    refine lv_iconst (v := iv (1)) hx hb d_Mod_emit_26 rfl ?_
    refine k_iadd hx hb d_Mod_emit_27 ?_
    refine va_put (D := gD G) (ci := 7) (v := .int (iv (sl + 1))) (ty := .int) (C := R_Mod) (T := F_Mod) (N := 34) hx hb hw in_Mod t_Mod t_Mod_ok n_Mod hown hK hP hD hS 0 rfl rfl 32 (by decide) (hw _ m3_156) (fun _ h => h) rfl (by decide +kernel) rfl rfl (Nat.le_of_ble_eq_true rfl) d_Mod_emit_28 (fun H locs hP hD hS => ?_)
    have hP : va_P (gD G) classes [o_Mod rM wd ht rP rk rG rW rK kd db ew ac dn pr nu de rE rst wr rd rev rod cn rp rb ba sz1 lb rm cu sp nz rbl (sl + 1) uz, (rbl, ai (gB G) 1024 (up bk sl (b8 bt)))] H := hP
    have hD : va_D A [o_Mod rM wd ht rP rk rG rW rK kd db ew ac dn pr nu de rE rst wr rd rev rod cn rp rb ba sz1 lb rm cu sp nz rbl (sl + 1) uz, (rbl, ai (gB G) 1024 (up bk sl (b8 bt)))] := hD
    refine lv_aload_n hx hb d_Mod_emit_31 rfl (lv_at hl 0 rfl) ?_
    refine lv_iload_n hx hb d_Mod_emit_32 rfl (lv_at hl 1 rfl) ?_
    refine k_if_ne (tgt := 43) hx hb d_Mod_emit_33 (by decide) (by omega) (fun hc33 => ?_) (fun hc33 => ?_)
    · refine lv_aload_n hx hb d_Mod_emit_43 rfl (lv_at hl 0 rfl) ?_
      refine va_get (D := gD G) (ci := 7) (v := .int (iv (uz))) (C := R_Mod) (T := F_Mod) (N := 34) hx hb hw in_Mod hown hK hP 0 rfl rfl 33 (by decide) (hw _ m3_157) (fun _ h => h) rfl d_Mod_emit_44 ?_
      refine va_put (D := gD G) (ci := 7) (v := .int (iv (uz))) (ty := .int) (C := R_Mod) (T := F_Mod) (N := 34) hx hb hw in_Mod t_Mod t_Mod_ok n_Mod hown hK hP hD hS 0 rfl rfl 33 (by decide) (hw _ m3_157) (fun _ h => h) rfl (by decide +kernel) rfl rfl (Nat.le_of_ble_eq_true rfl) d_Mod_emit_47 (fun H locs hP hD hS => ?_)
      have hP : va_P (gD G) classes [o_Mod rM wd ht rP rk rG rW rK kd db ew ac dn pr nu de rE rst wr rd rev rod cn rp rb ba sz1 lb rm cu sp nz rbl (sl + 1) uz, (rbl, ai (gB G) 1024 (up bk sl (b8 bt)))] H := hP
      have hD : va_D A [o_Mod rM wd ht rP rk rG rW rK kd db ew ac dn pr nu de rE rst wr rd rev rod cn rp rb ba sz1 lb rm cu sp nz rbl (sl + 1) uz, (rbl, ai (gB G) 1024 (up bk sl (b8 bt)))] := hD
      exact k_vret hx hb hr hlk hQ ((sl + 1, uz, up bk sl (b8 bt))) (by show _ = (sl + 1, (if bt = 0 then sl + 1 else uz), (if sl < 1024 then up bk sl bt else bk)); first | rw [if_pos (show bt = 0 by omega), if_pos (show sl < 1024 by omega), e8] | rw [if_neg (show ¬ bt = 0 by omega), if_pos (show sl < 1024 by omega), e8] | rw [if_pos (show bt = 0 by omega), if_neg (show ¬ sl < 1024 by omega)] | rw [if_neg (show ¬ bt = 0 by omega), if_neg (show ¬ sl < 1024 by omega)]) hP hD hS d_Mod_emit_50
    · refine lv_aload_n hx hb d_Mod_emit_36 rfl (lv_at hl 0 rfl) ?_
      refine va_get (D := gD G) (ci := 7) (v := .int (iv (sl + 1))) (C := R_Mod) (T := F_Mod) (N := 34) hx hb hw in_Mod hown hK hP 0 rfl rfl 32 (by decide) (hw _ m3_156) (fun _ h => h) rfl d_Mod_emit_37 ?_
      refine lv_goto (tgt := 47) hx hb d_Mod_emit_40 (by decide) ?_
      refine va_put (D := gD G) (ci := 7) (v := .int (iv (sl + 1))) (ty := .int) (C := R_Mod) (T := F_Mod) (N := 34) hx hb hw in_Mod t_Mod t_Mod_ok n_Mod hown hK hP hD hS 0 rfl rfl 33 (by decide) (hw _ m3_157) (fun _ h => h) rfl (by decide +kernel) rfl rfl (Nat.le_of_ble_eq_true rfl) d_Mod_emit_47 (fun H locs hP hD hS => ?_)
      have hP : va_P (gD G) classes [o_Mod rM wd ht rP rk rG rW rK kd db ew ac dn pr nu de rE rst wr rd rev rod cn rp rb ba sz1 lb rm cu sp nz rbl (sl + 1) (sl + 1), (rbl, ai (gB G) 1024 (up bk sl (b8 bt)))] H := hP
      have hD : va_D A [o_Mod rM wd ht rP rk rG rW rK kd db ew ac dn pr nu de rE rst wr rd rev rod cn rp rb ba sz1 lb rm cu sp nz rbl (sl + 1) (sl + 1), (rbl, ai (gB G) 1024 (up bk sl (b8 bt)))] := hD
      exact k_vret hx hb hr hlk hQ ((sl + 1, sl + 1, up bk sl (b8 bt))) (by show _ = (sl + 1, (if bt = 0 then sl + 1 else uz), (if sl < 1024 then up bk sl bt else bk)); first | rw [if_pos (show bt = 0 by omega), if_pos (show sl < 1024 by omega), e8] | rw [if_neg (show ¬ bt = 0 by omega), if_pos (show sl < 1024 by omega), e8] | rw [if_pos (show bt = 0 by omega), if_neg (show ¬ sl < 1024 by omega)] | rw [if_neg (show ¬ bt = 0 by omega), if_neg (show ¬ sl < 1024 by omega)]) hP hD hS d_Mod_emit_50
abbrev w_Mod_emitNumber : List Cond := Cond.code y_Mod_emitNumber prog_9_method_45_code 7 none :: wl
abbrev r_Mod_emitNumber : Room := { frames := 1, cells := 0, slots := 0, locals := 21 }
set_option maxHeartbeats 4000000 in
set_option maxRecDepth 100000 in
theorem c_Mod_emitNumber (l : Launch) (G : k_G) (sz : Nat) (rM rP rk rG rW rK rE rst rev rod rp rb rbl : Nat) (wd ht kd db ew ac dn pr nu de wr rd cn ba sz1 lb rm cu sp nz sl uz : Int) (v0 : Int64) (bk : Int → Int) (hv0 : bd 134217726 v0) (hsl : 0 ≤ sl ∧ sl ≤ 90000) : Met l y_Mod_emitNumber w_Mod_emitNumber r_Mod_emitNumber (k_P G [.ref rM, .long (v0)] [o_Mod rM wd ht rP rk rG rW rK kd db ew ac dn pr nu de rE rst wr rd rev rod cn rp rb ba sz1 lb rm cu sp nz rbl sl uz, (rbl, ai (gB G) 1024 (bk))] sz) (qv G (fun u : Int × Int × (Int → Int) => u = emN v0.toInt (sl, uz, bk)) (fun u : Int × Int × (Int → Int) => [o_Mod rM wd ht rP rk rG rW rK kd db ew ac dn pr nu de rE rst wr rd rev rod cn rp rb ba sz1 lb rm cu sp nz rbl u.1 u.2.1, (rbl, ai (gB G) 1024 (u.2.2))]) (va_A [o_Mod rM wd ht rP rk rG rW rK kd db ew ac dn pr nu de rE rst wr rd rev rod cn rp rb ba sz1 lb rm cu sp nz rbl sl uz, (rbl, ai (gB G) 1024 (bk))] sz)) 0 0 (va_A [o_Mod rM wd ht rP rk rG rW rK kd db ew ac dn pr nu de rE rst wr rd rev rod cn rp rb ba sz1 lb rm cu sp nz rbl sl uz, (rbl, ai (gB G) 1024 (bk))] sz) := by
  refine k_met (fun A => qv G (fun u : Int × Int × (Int → Int) => u = emN v0.toInt (sl, uz, bk)) (fun u : Int × Int × (Int → Int) => [o_Mod rM wd ht rP rk rG rW rK kd db ew ac dn pr nu de rE rst wr rd rev rod cn rp rb ba sz1 lb rm cu sp nz rbl u.1 u.2.1, (rbl, ai (gB G) 1024 (u.2.2))]) A) (fun A => A) (by decide) rfl (Nat.le_of_ble_eq_true rfl) (fun p e s m args below meth c ls A Q S hr hlk hnm hl hsz hP hK hD hS hA hT hQ => ?_)
  obtain ⟨hx, hb, hml, hown, hts⟩ := id S
  have hw : ∀ w ∈ wl, w.before args s = true := fun w h => hts w (List.mem_cons_of_mem _ h)
  have hl : lv_has ls 7 [(0, .ref rM), (1, .long (v0))] := hl
  have k := ab1 hv0
  have hab : 0 ≤ absI v0.toInt ∧ absI v0.toInt ≤ 134217726 := by unfold absI; unfold bd at hv0; split <;> omega
  have hlg := lg_r (i := absI v0.toInt + 1) 27 134217728 (by decide) (by omega) (by omega)
  have hm15 : ∀ (ls : Array Slot) (H : Heap) (locs : List Loc) (n3 : Int64), lv_has ls 7 [(0, .ref rM), (1, .long (v0)), (3, .long (n3))] → va_P (gD G) classes [o_Mod rM wd ht rP rk rG rW rK kd db ew ac dn pr nu de rE rst wr rd rev rod cn rp rb ba sz1 lb rm cu sp nz rbl sl uz, (rbl, ai (gB G) 1024 (bk))] H → va_D A [o_Mod rM wd ht rP rk rG rW rK kd db ew ac dn pr nu de rE rst wr rd rev rod cn rp rb ba sz1 lb rm cu sp nz rbl sl uz, (rbl, ai (gB G) 1024 (bk))] → va_S A s.heap H locs → (n3.toInt = absI v0.toInt + 1) → W p l e r_Mod_emitNumber s m args below meth c H locs 0 0 Q (F0 m 15 ls []) := by
    intro ls H locs n3 hl hP hD hS hn3
    refine lv_iconst (v := iv (0)) hx hb d_Mod_emitNumber_15 rfl ?_
    refine lv_istore hx hb d_Mod_emitNumber_16 hl (by decide) rfl (fun ls hl => ?_)
    have hl : lv_has ls 7 [(5, .int (iv (0))), (0, .ref rM), (1, .long (v0)), (3, .long (n3))] := hl
    refine lv_iconst (v := iv (1)) hx hb d_Mod_emitNumber_18 rfl ?_
    refine lv_istore hx hb d_Mod_emitNumber_19 hl (by decide) rfl (fun ls hl => ?_)
    have hl : lv_has ls 7 [(6, .int (iv (1))), (5, .int (iv (0))), (0, .ref rM), (1, .long (v0)), (3, .long (n3))] := hl
    refine lo_up (P := fun i => ∀ (ls : Array Slot) (H : Heap) (locs : List Loc) (k1 : Int), lv_has ls 7 [(0, .ref rM), (1, .long (v0)), (3, .long (n3)), (5, .int (iv (k1))), (6, .int (iv (i)))] → va_P (gD G) classes [o_Mod rM wd ht rP rk rG rW rK kd db ew ac dn pr nu de rE rst wr rd rev rod cn rp rb ba sz1 lb rm cu sp nz rbl sl uz, (rbl, ai (gB G) 1024 (bk))] H → va_D A [o_Mod rM wd ht rP rk rG rW rK kd db ew ac dn pr nu de rE rst wr rd rev rod cn rp rb ba sz1 lb rm cu sp nz rbl sl uz, (rbl, ai (gB G) 1024 (bk))] → va_S A s.heap H locs → (k1 = min (lg (absI v0.toInt + 1)) (i - 1)) → W p l e r_Mod_emitNumber s m args below meth c H locs 0 0 Q (F0 m 21 ls [])) (a := 1) (b := 27) (fun i hii hji ihi => ?_) _ _ _ 0 (lv_sub hl [2, 3, 4, 1, 0] rfl) hP hD hS (by omega)
    intro ls H locs k1 hl hP hD hS hk
    refine lv_iload hx hb d_Mod_emitNumber_21 (lv_at hl 4 rfl) ?_
    refine lv_bipush (v := iv (26)) hx hb d_Mod_emitNumber_23 rfl ?_
    refine k_icmp_gt (tgt := 52) hx hb d_Mod_emitNumber_25 (by decide) (by omega) (by omega) (fun hc25 => ?_) (fun hc25 => ?_)
    · have hk0 : k1 = lg (absI v0.toInt + 1) := by omega
      refine lv_iload hx hb d_Mod_emitNumber_52 (lv_at hl 3 rfl) ?_
      refine lv_iconst (v := iv (1)) hx hb d_Mod_emitNumber_54 rfl ?_
      refine k_isub hx hb d_Mod_emitNumber_55 ?_
      refine lv_istore hx hb d_Mod_emitNumber_56 hl (by decide) rfl (fun ls hl => ?_)
      have hl : lv_has ls 7 [(6, .int (iv (k1 - 1))), (0, .ref rM), (1, .long (v0)), (3, .long (n3)), (5, .int (iv (k1)))] := hl
      refine lo_dn (P := fun j => ∀ (ls : Array Slot) (H : Heap) (locs : List Loc) (sl1 : Int) (uz1 : Int) (bk1 : Int → Int), lv_has ls 7 [(0, .ref rM), (1, .long (v0)), (3, .long (n3)), (5, .int (iv (k1))), (6, .int (iv (j)))] → va_P (gD G) classes [o_Mod rM wd ht rP rk rG rW rK kd db ew ac dn pr nu de rE rst wr rd rev rod cn rp rb ba sz1 lb rm cu sp nz rbl sl1 uz1, (rbl, ai (gB G) 1024 (bk1))] H → va_D A [o_Mod rM wd ht rP rk rG rW rK kd db ew ac dn pr nu de rE rst wr rd rev rod cn rp rb ba sz1 lb rm cu sp nz rbl sl1 uz1, (rbl, ai (gB G) 1024 (bk1))] → va_S A s.heap H locs → ((sl1, uz1, bk1) = it (emg (absI v0.toInt + 1) k1) 0 (k1 - 1 - j) (sl, uz, bk)) → (0 ≤ sl1 ∧ sl1 ≤ sl + 2 * (k1 - 1 - j)) → W p l e r_Mod_emitNumber s m args below meth c H locs 0 0 Q (F0 m 58 ls [])) (a := k1 - 1) (fun j hij hjj ihj => ?_) _ _ _ sl uz bk (lv_sub hl [1, 2, 3, 4, 0] rfl) hP hD hS (by rw [Int.sub_self, it_self]) (by omega)
      intro ls H locs sl1 uz1 bk1 hl hP hD hS hs hsr
      refine lv_iload hx hb d_Mod_emitNumber_58 (lv_at hl 4 rfl) ?_
      refine k_if_lt (tgt := 85) hx hb d_Mod_emitNumber_60 (by decide) (by omega) (fun hc60 => ?_) (fun hc60 => ?_)
      · refine lv_iload hx hb d_Mod_emitNumber_85 (lv_at hl 3 rfl) ?_
        refine lv_bipush (v := iv (26)) hx hb d_Mod_emitNumber_87 rfl ?_
        refine k_icmp_ge (tgt := 97) hx hb d_Mod_emitNumber_89 (by decide) (by omega) (by omega) (fun hc89 => ?_) (fun hc89 => ?_)
        · refine lv_lload_n hx hb d_Mod_emitNumber_97 rfl (lv_at hl 1 rfl) ?_
          refine lv_lconst (v := 0) hx hb d_Mod_emitNumber_98 rfl ?_
          refine k_leq (tgt := 118) hx hb d_Mod_emitNumber_99 d_Mod_emitNumber_100 (by decide) (fun hc99 => ?_) (fun hc99 => ?_)
          · have hs : (sl1, uz1, bk1) = it (emg (absI v0.toInt + 1) (lg (absI v0.toInt + 1))) 0 (lg (absI v0.toInt + 1)) (sl, uz, bk) := by rw [← hk0, hs]; exact it_x _ _ (by omega) (by omega)
            exact k_vret hx hb hr hlk hQ ((sl1, uz1, bk1)) (by first | rw [emN_a hs (by omega) (k.2.1.mp hc99), ← h94] | rw [emN_b hs (by omega) (by have w := mt k.1.mpr hc106; omega), ← h94, ← h115] | rw [emN_c hs (by omega) (by have w := k.1.mp hc106; have w2 := mt k.2.1.mpr hc99; omega), ← h94, ← h115] | rw [emN_d hs (by omega) (k.2.1.mp hc99)] | rw [emN_e hs (by omega) (by have w := mt k.1.mpr hc106; omega), ← h115] | rw [emN_f hs (by omega) (by have w := k.1.mp hc106; have w2 := mt k.2.1.mpr hc99; omega), ← h115]) hP hD hS d_Mod_emitNumber_118
          · refine lv_aload_n hx hb d_Mod_emitNumber_103 rfl (lv_at hl 0 rfl) ?_
            refine lv_lload_n hx hb d_Mod_emitNumber_104 rfl (lv_at hl 1 rfl) ?_
            refine lv_lconst (v := 0) hx hb d_Mod_emitNumber_105 rfl ?_
            refine k_lge (tgt := 114) hx hb d_Mod_emitNumber_106 d_Mod_emitNumber_107 (by decide) (fun hc106 => ?_) (fun hc106 => ?_)
            · refine lv_iconst (v := iv (0)) hx hb d_Mod_emitNumber_114 rfl ?_
              refine k_cv (wz := fun u : Int × Int × (Int → Int) => [o_Mod rM wd ht rP rk rG rW rK kd db ew ac dn pr nu de rE rst wr rd rev rod cn rp rb ba sz1 lb rm cu sp nz rbl u.1 u.2.1, (rbl, ai (gB G) 1024 (u.2.2))]) (wr := []) (k_rv S (c_Mod_emit l G _ rM rP rk rG rW rK rE rst rev rod rp rb rbl 0 wd ht kd db ew ac dn pr nu de wr rd cn ba sz1 lb rm cu sp nz sl1 uz1 bk1 (by omega) (by omega)) 1 m4_163 m4_160 m4_162 mp_43 m1_9 (by decide +kernel) (by decide) rfl rfl (k_preV (q0 := 0) hK hP hD hS hA hT rfl rfl [0, 1] (by decide) rfl) rfl hl.1 rfl (Nat.le_of_ble_eq_true rfl) d_Mod_emitNumber_115 ⟨Nat.le_of_ble_eq_true rfl, Nat.le_of_ble_eq_true rfl⟩) hP hD hS hA [0, 1] [] [0, 1] rfl rfl (by decide) (by decide) (by decide) (fun _ => rfl) (fun u115 H locs h115 hP hD hS => ?_)
              obtain ⟨sl115, uz115, bk115⟩ := u115
              have hP : va_P (gD G) classes [o_Mod rM wd ht rP rk rG rW rK kd db ew ac dn pr nu de rE rst wr rd rev rod cn rp rb ba sz1 lb rm cu sp nz rbl sl115 uz115, (rbl, ai (gB G) 1024 (bk115))] H := hP
              have hD : va_D A [o_Mod rM wd ht rP rk rG rW rK kd db ew ac dn pr nu de rE rst wr rd rev rod cn rp rb ba sz1 lb rm cu sp nz rbl sl115 uz115, (rbl, ai (gB G) 1024 (bk115))] := hD
              try dsimp only at h115
              have hs : (sl1, uz1, bk1) = it (emg (absI v0.toInt + 1) (lg (absI v0.toInt + 1))) 0 (lg (absI v0.toInt + 1)) (sl, uz, bk) := by rw [← hk0, hs]; exact it_x _ _ (by omega) (by omega)
              exact k_vret hx hb hr hlk hQ ((sl115, uz115, bk115)) (by first | rw [emN_a hs (by omega) (k.2.1.mp hc99), ← h94] | rw [emN_b hs (by omega) (by have w := mt k.1.mpr hc106; omega), ← h94, ← h115] | rw [emN_c hs (by omega) (by have w := k.1.mp hc106; have w2 := mt k.2.1.mpr hc99; omega), ← h94, ← h115] | rw [emN_d hs (by omega) (k.2.1.mp hc99)] | rw [emN_e hs (by omega) (by have w := mt k.1.mpr hc106; omega), ← h115] | rw [emN_f hs (by omega) (by have w := k.1.mp hc106; have w2 := mt k.2.1.mpr hc99; omega), ← h115]) hP hD hS d_Mod_emitNumber_118
            · refine lv_iconst (v := iv (1)) hx hb d_Mod_emitNumber_110 rfl ?_
              refine lv_goto (tgt := 115) hx hb d_Mod_emitNumber_111 (by decide) ?_
              refine k_cv (wz := fun u : Int × Int × (Int → Int) => [o_Mod rM wd ht rP rk rG rW rK kd db ew ac dn pr nu de rE rst wr rd rev rod cn rp rb ba sz1 lb rm cu sp nz rbl u.1 u.2.1, (rbl, ai (gB G) 1024 (u.2.2))]) (wr := []) (k_rv S (c_Mod_emit l G _ rM rP rk rG rW rK rE rst rev rod rp rb rbl 1 wd ht kd db ew ac dn pr nu de wr rd cn ba sz1 lb rm cu sp nz sl1 uz1 bk1 (by omega) (by omega)) 1 m4_163 m4_160 m4_162 mp_43 m1_9 (by decide +kernel) (by decide) rfl rfl (k_preV (q0 := 0) hK hP hD hS hA hT rfl rfl [0, 1] (by decide) rfl) rfl hl.1 rfl (Nat.le_of_ble_eq_true rfl) d_Mod_emitNumber_115 ⟨Nat.le_of_ble_eq_true rfl, Nat.le_of_ble_eq_true rfl⟩) hP hD hS hA [0, 1] [] [0, 1] rfl rfl (by decide) (by decide) (by decide) (fun _ => rfl) (fun u115 H locs h115 hP hD hS => ?_)
              obtain ⟨sl115, uz115, bk115⟩ := u115
              have hP : va_P (gD G) classes [o_Mod rM wd ht rP rk rG rW rK kd db ew ac dn pr nu de rE rst wr rd rev rod cn rp rb ba sz1 lb rm cu sp nz rbl sl115 uz115, (rbl, ai (gB G) 1024 (bk115))] H := hP
              have hD : va_D A [o_Mod rM wd ht rP rk rG rW rK kd db ew ac dn pr nu de rE rst wr rd rev rod cn rp rb ba sz1 lb rm cu sp nz rbl sl115 uz115, (rbl, ai (gB G) 1024 (bk115))] := hD
              try dsimp only at h115
              have hs : (sl1, uz1, bk1) = it (emg (absI v0.toInt + 1) (lg (absI v0.toInt + 1))) 0 (lg (absI v0.toInt + 1)) (sl, uz, bk) := by rw [← hk0, hs]; exact it_x _ _ (by omega) (by omega)
              exact k_vret hx hb hr hlk hQ ((sl115, uz115, bk115)) (by first | rw [emN_a hs (by omega) (k.2.1.mp hc99), ← h94] | rw [emN_b hs (by omega) (by have w := mt k.1.mpr hc106; omega), ← h94, ← h115] | rw [emN_c hs (by omega) (by have w := k.1.mp hc106; have w2 := mt k.2.1.mpr hc99; omega), ← h94, ← h115] | rw [emN_d hs (by omega) (k.2.1.mp hc99)] | rw [emN_e hs (by omega) (by have w := mt k.1.mpr hc106; omega), ← h115] | rw [emN_f hs (by omega) (by have w := k.1.mp hc106; have w2 := mt k.2.1.mpr hc99; omega), ← h115]) hP hD hS d_Mod_emitNumber_118
        · refine lv_aload_n hx hb d_Mod_emitNumber_92 rfl (lv_at hl 0 rfl) ?_
          refine lv_iconst (v := iv (1)) hx hb d_Mod_emitNumber_93 rfl ?_
          refine k_cv (wz := fun u : Int × Int × (Int → Int) => [o_Mod rM wd ht rP rk rG rW rK kd db ew ac dn pr nu de rE rst wr rd rev rod cn rp rb ba sz1 lb rm cu sp nz rbl u.1 u.2.1, (rbl, ai (gB G) 1024 (u.2.2))]) (wr := []) (k_rv S (c_Mod_emit l G _ rM rP rk rG rW rK rE rst rev rod rp rb rbl 1 wd ht kd db ew ac dn pr nu de wr rd cn ba sz1 lb rm cu sp nz sl1 uz1 bk1 (by omega) (by omega)) 1 m4_163 m4_160 m4_162 mp_43 m1_9 (by decide +kernel) (by decide) rfl rfl (k_preV (q0 := 0) hK hP hD hS hA hT rfl rfl [0, 1] (by decide) rfl) rfl hl.1 rfl (Nat.le_of_ble_eq_true rfl) d_Mod_emitNumber_94 ⟨Nat.le_of_ble_eq_true rfl, Nat.le_of_ble_eq_true rfl⟩) hP hD hS hA [0, 1] [] [0, 1] rfl rfl (by decide) (by decide) (by decide) (fun _ => rfl) (fun u94 H locs h94 hP hD hS => ?_)
          obtain ⟨sl94, uz94, bk94⟩ := u94
          have hP : va_P (gD G) classes [o_Mod rM wd ht rP rk rG rW rK kd db ew ac dn pr nu de rE rst wr rd rev rod cn rp rb ba sz1 lb rm cu sp nz rbl sl94 uz94, (rbl, ai (gB G) 1024 (bk94))] H := hP
          have hD : va_D A [o_Mod rM wd ht rP rk rG rW rK kd db ew ac dn pr nu de rE rst wr rd rev rod cn rp rb ba sz1 lb rm cu sp nz rbl sl94 uz94, (rbl, ai (gB G) 1024 (bk94))] := hD
          try dsimp only at h94
          have q94 : sl94 = sl1 + 1 := congrArg Prod.fst h94
          refine lv_lload_n hx hb d_Mod_emitNumber_97 rfl (lv_at hl 1 rfl) ?_
          refine lv_lconst (v := 0) hx hb d_Mod_emitNumber_98 rfl ?_
          refine k_leq (tgt := 118) hx hb d_Mod_emitNumber_99 d_Mod_emitNumber_100 (by decide) (fun hc99 => ?_) (fun hc99 => ?_)
          · have hs : (sl1, uz1, bk1) = it (emg (absI v0.toInt + 1) (lg (absI v0.toInt + 1))) 0 (lg (absI v0.toInt + 1)) (sl, uz, bk) := by rw [← hk0, hs]; exact it_x _ _ (by omega) (by omega)
            exact k_vret hx hb hr hlk hQ ((sl94, uz94, bk94)) (by first | rw [emN_a hs (by omega) (k.2.1.mp hc99), ← h94] | rw [emN_b hs (by omega) (by have w := mt k.1.mpr hc106; omega), ← h94, ← h115] | rw [emN_c hs (by omega) (by have w := k.1.mp hc106; have w2 := mt k.2.1.mpr hc99; omega), ← h94, ← h115] | rw [emN_d hs (by omega) (k.2.1.mp hc99)] | rw [emN_e hs (by omega) (by have w := mt k.1.mpr hc106; omega), ← h115] | rw [emN_f hs (by omega) (by have w := k.1.mp hc106; have w2 := mt k.2.1.mpr hc99; omega), ← h115]) hP hD hS d_Mod_emitNumber_118
          · refine lv_aload_n hx hb d_Mod_emitNumber_103 rfl (lv_at hl 0 rfl) ?_
            refine lv_lload_n hx hb d_Mod_emitNumber_104 rfl (lv_at hl 1 rfl) ?_
            refine lv_lconst (v := 0) hx hb d_Mod_emitNumber_105 rfl ?_
            refine k_lge (tgt := 114) hx hb d_Mod_emitNumber_106 d_Mod_emitNumber_107 (by decide) (fun hc106 => ?_) (fun hc106 => ?_)
            · refine lv_iconst (v := iv (0)) hx hb d_Mod_emitNumber_114 rfl ?_
              refine k_cv (wz := fun u : Int × Int × (Int → Int) => [o_Mod rM wd ht rP rk rG rW rK kd db ew ac dn pr nu de rE rst wr rd rev rod cn rp rb ba sz1 lb rm cu sp nz rbl u.1 u.2.1, (rbl, ai (gB G) 1024 (u.2.2))]) (wr := []) (k_rv S (c_Mod_emit l G _ rM rP rk rG rW rK rE rst rev rod rp rb rbl 0 wd ht kd db ew ac dn pr nu de wr rd cn ba sz1 lb rm cu sp nz sl94 uz94 bk94 (by omega) (by omega)) 1 m4_163 m4_160 m4_162 mp_43 m1_9 (by decide +kernel) (by decide) rfl rfl (k_preV (q0 := 0) hK hP hD hS hA hT rfl rfl [0, 1] (by decide) rfl) rfl hl.1 rfl (Nat.le_of_ble_eq_true rfl) d_Mod_emitNumber_115 ⟨Nat.le_of_ble_eq_true rfl, Nat.le_of_ble_eq_true rfl⟩) hP hD hS hA [0, 1] [] [0, 1] rfl rfl (by decide) (by decide) (by decide) (fun _ => rfl) (fun u115 H locs h115 hP hD hS => ?_)
              obtain ⟨sl115, uz115, bk115⟩ := u115
              have hP : va_P (gD G) classes [o_Mod rM wd ht rP rk rG rW rK kd db ew ac dn pr nu de rE rst wr rd rev rod cn rp rb ba sz1 lb rm cu sp nz rbl sl115 uz115, (rbl, ai (gB G) 1024 (bk115))] H := hP
              have hD : va_D A [o_Mod rM wd ht rP rk rG rW rK kd db ew ac dn pr nu de rE rst wr rd rev rod cn rp rb ba sz1 lb rm cu sp nz rbl sl115 uz115, (rbl, ai (gB G) 1024 (bk115))] := hD
              try dsimp only at h115
              have hs : (sl1, uz1, bk1) = it (emg (absI v0.toInt + 1) (lg (absI v0.toInt + 1))) 0 (lg (absI v0.toInt + 1)) (sl, uz, bk) := by rw [← hk0, hs]; exact it_x _ _ (by omega) (by omega)
              exact k_vret hx hb hr hlk hQ ((sl115, uz115, bk115)) (by first | rw [emN_a hs (by omega) (k.2.1.mp hc99), ← h94] | rw [emN_b hs (by omega) (by have w := mt k.1.mpr hc106; omega), ← h94, ← h115] | rw [emN_c hs (by omega) (by have w := k.1.mp hc106; have w2 := mt k.2.1.mpr hc99; omega), ← h94, ← h115] | rw [emN_d hs (by omega) (k.2.1.mp hc99)] | rw [emN_e hs (by omega) (by have w := mt k.1.mpr hc106; omega), ← h115] | rw [emN_f hs (by omega) (by have w := k.1.mp hc106; have w2 := mt k.2.1.mpr hc99; omega), ← h115]) hP hD hS d_Mod_emitNumber_118
            · refine lv_iconst (v := iv (1)) hx hb d_Mod_emitNumber_110 rfl ?_
              refine lv_goto (tgt := 115) hx hb d_Mod_emitNumber_111 (by decide) ?_
              refine k_cv (wz := fun u : Int × Int × (Int → Int) => [o_Mod rM wd ht rP rk rG rW rK kd db ew ac dn pr nu de rE rst wr rd rev rod cn rp rb ba sz1 lb rm cu sp nz rbl u.1 u.2.1, (rbl, ai (gB G) 1024 (u.2.2))]) (wr := []) (k_rv S (c_Mod_emit l G _ rM rP rk rG rW rK rE rst rev rod rp rb rbl 1 wd ht kd db ew ac dn pr nu de wr rd cn ba sz1 lb rm cu sp nz sl94 uz94 bk94 (by omega) (by omega)) 1 m4_163 m4_160 m4_162 mp_43 m1_9 (by decide +kernel) (by decide) rfl rfl (k_preV (q0 := 0) hK hP hD hS hA hT rfl rfl [0, 1] (by decide) rfl) rfl hl.1 rfl (Nat.le_of_ble_eq_true rfl) d_Mod_emitNumber_115 ⟨Nat.le_of_ble_eq_true rfl, Nat.le_of_ble_eq_true rfl⟩) hP hD hS hA [0, 1] [] [0, 1] rfl rfl (by decide) (by decide) (by decide) (fun _ => rfl) (fun u115 H locs h115 hP hD hS => ?_)
              obtain ⟨sl115, uz115, bk115⟩ := u115
              have hP : va_P (gD G) classes [o_Mod rM wd ht rP rk rG rW rK kd db ew ac dn pr nu de rE rst wr rd rev rod cn rp rb ba sz1 lb rm cu sp nz rbl sl115 uz115, (rbl, ai (gB G) 1024 (bk115))] H := hP
              have hD : va_D A [o_Mod rM wd ht rP rk rG rW rK kd db ew ac dn pr nu de rE rst wr rd rev rod cn rp rb ba sz1 lb rm cu sp nz rbl sl115 uz115, (rbl, ai (gB G) 1024 (bk115))] := hD
              try dsimp only at h115
              have hs : (sl1, uz1, bk1) = it (emg (absI v0.toInt + 1) (lg (absI v0.toInt + 1))) 0 (lg (absI v0.toInt + 1)) (sl, uz, bk) := by rw [← hk0, hs]; exact it_x _ _ (by omega) (by omega)
              exact k_vret hx hb hr hlk hQ ((sl115, uz115, bk115)) (by first | rw [emN_a hs (by omega) (k.2.1.mp hc99), ← h94] | rw [emN_b hs (by omega) (by have w := mt k.1.mpr hc106; omega), ← h94, ← h115] | rw [emN_c hs (by omega) (by have w := k.1.mp hc106; have w2 := mt k.2.1.mpr hc99; omega), ← h94, ← h115] | rw [emN_d hs (by omega) (k.2.1.mp hc99)] | rw [emN_e hs (by omega) (by have w := mt k.1.mpr hc106; omega), ← h115] | rw [emN_f hs (by omega) (by have w := k.1.mp hc106; have w2 := mt k.2.1.mpr hc99; omega), ← h115]) hP hD hS d_Mod_emitNumber_118
      · refine lv_aload_n hx hb d_Mod_emitNumber_63 rfl (lv_at hl 0 rfl) ?_
        refine lv_iconst (v := iv (0)) hx hb d_Mod_emitNumber_64 rfl ?_
        refine k_cv (wz := fun u : Int × Int × (Int → Int) => [o_Mod rM wd ht rP rk rG rW rK kd db ew ac dn pr nu de rE rst wr rd rev rod cn rp rb ba sz1 lb rm cu sp nz rbl u.1 u.2.1, (rbl, ai (gB G) 1024 (u.2.2))]) (wr := []) (k_rv S (c_Mod_emit l G _ rM rP rk rG rW rK rE rst rev rod rp rb rbl 0 wd ht kd db ew ac dn pr nu de wr rd cn ba sz1 lb rm cu sp nz sl1 uz1 bk1 (by omega) (by omega)) 1 m4_163 m4_160 m4_162 mp_43 m1_9 (by decide +kernel) (by decide) rfl rfl (k_preV (q0 := 0) hK hP hD hS hA hT rfl rfl [0, 1] (by decide) rfl) rfl hl.1 rfl (Nat.le_of_ble_eq_true rfl) d_Mod_emitNumber_65 ⟨Nat.le_of_ble_eq_true rfl, Nat.le_of_ble_eq_true rfl⟩) hP hD hS hA [0, 1] [] [0, 1] rfl rfl (by decide) (by decide) (by decide) (fun _ => rfl) (fun u65 H locs h65 hP hD hS => ?_)
        obtain ⟨sl65, uz65, bk65⟩ := u65
        have hP : va_P (gD G) classes [o_Mod rM wd ht rP rk rG rW rK kd db ew ac dn pr nu de rE rst wr rd rev rod cn rp rb ba sz1 lb rm cu sp nz rbl sl65 uz65, (rbl, ai (gB G) 1024 (bk65))] H := hP
        have hD : va_D A [o_Mod rM wd ht rP rk rG rW rK kd db ew ac dn pr nu de rE rst wr rd rev rod cn rp rb ba sz1 lb rm cu sp nz rbl sl65 uz65, (rbl, ai (gB G) 1024 (bk65))] := hD
        try dsimp only at h65
        have q65 : sl65 = sl1 + 1 := congrArg Prod.fst h65
        refine lv_aload_n hx hb d_Mod_emitNumber_68 rfl (lv_at hl 0 rfl) ?_
        refine lv_lload_n hx hb d_Mod_emitNumber_69 rfl (lv_at hl 2 rfl) ?_
        refine lv_iload hx hb d_Mod_emitNumber_70 (lv_at hl 4 rfl) ?_
        refine k_lshr hx hb d_Mod_emitNumber_72 ?_
        refine lv_lconst (v := 1) hx hb d_Mod_emitNumber_73 rfl ?_
        refine lv_land hx hb d_Mod_emitNumber_74 ?_
        refine k_l2i hx hb d_Mod_emitNumber_75 ?_
        refine k_eqi (b := (absI v0.toInt + 1) / 2 ^ j.toNat % 2) (by rw [dig_b (by omega), hn3]) ?_
        refine k_cv (wz := fun u : Int × Int × (Int → Int) => [o_Mod rM wd ht rP rk rG rW rK kd db ew ac dn pr nu de rE rst wr rd rev rod cn rp rb ba sz1 lb rm cu sp nz rbl u.1 u.2.1, (rbl, ai (gB G) 1024 (u.2.2))]) (wr := []) (k_rv S (c_Mod_emit l G _ rM rP rk rG rW rK rE rst rev rod rp rb rbl ((absI v0.toInt + 1) / 2 ^ j.toNat % 2) wd ht kd db ew ac dn pr nu de wr rd cn ba sz1 lb rm cu sp nz sl65 uz65 bk65 (by omega) (by omega)) 1 m4_163 m4_160 m4_162 mp_43 m1_9 (by decide +kernel) (by decide) rfl rfl (k_preV (q0 := 0) hK hP hD hS hA hT rfl rfl [0, 1] (by decide) rfl) rfl hl.1 rfl (Nat.le_of_ble_eq_true rfl) d_Mod_emitNumber_76 ⟨Nat.le_of_ble_eq_true rfl, Nat.le_of_ble_eq_true rfl⟩) hP hD hS hA [0, 1] [] [0, 1] rfl rfl (by decide) (by decide) (by decide) (fun _ => rfl) (fun u76 H locs h76 hP hD hS => ?_)
        obtain ⟨sl76, uz76, bk76⟩ := u76
        have hP : va_P (gD G) classes [o_Mod rM wd ht rP rk rG rW rK kd db ew ac dn pr nu de rE rst wr rd rev rod cn rp rb ba sz1 lb rm cu sp nz rbl sl76 uz76, (rbl, ai (gB G) 1024 (bk76))] H := hP
        have hD : va_D A [o_Mod rM wd ht rP rk rG rW rK kd db ew ac dn pr nu de rE rst wr rd rev rod cn rp rb ba sz1 lb rm cu sp nz rbl sl76 uz76, (rbl, ai (gB G) 1024 (bk76))] := hD
        try dsimp only at h76
        have q76 : sl76 = sl65 + 1 := congrArg Prod.fst h76
        refine lv_iinc (k := 4) (v := iv (j + (-1))) hx hb d_Mod_emitNumber_79 hl rfl (iv_add _ _) (by decide) rfl (fun ls hl => ?_)
        have hl : lv_has ls 7 [(6, .int (iv (j + (-1)))), (0, .ref rM), (1, .long (v0)), (3, .long (n3)), (5, .int (iv (k1)))] := hl
        refine lv_goto (tgt := 58) hx hb d_Mod_emitNumber_82 (by decide) ?_
        exact ihj (by omega) _ _ _ sl76 uz76 bk76 (lv_sub hl [1, 2, 3, 4, 0] rfl) hP hD hS (by rw [show k1 - 1 - (j + (-1)) = (k1 - 1 - j) + 1 by omega, it_s _ _ (by omega), ← hs]; show _ = emM ((absI v0.toInt + 1) / 2 ^ (k1 - 1 - (k1 - 1 - j)).toNat % 2) (emM 0 (sl1, uz1, bk1)); rw [show k1 - 1 - (k1 - 1 - j) = j by omega, ← h65]; exact h76) (by omega)
    · have hd := dig_p (n := n3) (i := i) (by omega) (by omega)
      rw [hn3] at hd
      refine lv_lload_n hx hb d_Mod_emitNumber_28 rfl (lv_at hl 2 rfl) ?_
      refine lv_iload hx hb d_Mod_emitNumber_29 (lv_at hl 4 rfl) ?_
      refine k_lshr hx hb d_Mod_emitNumber_31 ?_
      refine lv_lconst (v := 0) hx hb d_Mod_emitNumber_32 rfl ?_
      refine k_lle (tgt := 42) hx hb d_Mod_emitNumber_33 d_Mod_emitNumber_34 (by decide) (fun hc33 => ?_) (fun hc33 => ?_)
      · refine lv_iload hx hb d_Mod_emitNumber_42 (lv_at hl 3 rfl) ?_
        refine lv_istore hx hb d_Mod_emitNumber_44 hl (by decide) rfl (fun ls hl => ?_)
        have hl : lv_has ls 7 [(5, .int (iv (k1))), (0, .ref rM), (1, .long (v0)), (3, .long (n3)), (6, .int (iv (i)))] := hl
        refine lv_iinc (k := 4) (v := iv (i + 1)) hx hb d_Mod_emitNumber_46 hl rfl (iv_add _ _) (by decide) rfl (fun ls hl => ?_)
        have hl : lv_has ls 7 [(6, .int (iv (i + 1))), (5, .int (iv (k1))), (0, .ref rM), (1, .long (v0)), (3, .long (n3))] := hl
        refine lv_goto (tgt := 21) hx hb d_Mod_emitNumber_49 (by decide) ?_
        exact ihi (by omega) _ _ _ k1 (lv_sub hl [2, 3, 4, 1, 0] rfl) hP hD hS (by first | (have w := hd.mp hc33; omega) | (have w : ¬ lg (absI v0.toInt + 1) < i := fun q => hc33 (hd.mpr q); omega))
      · refine lv_iload hx hb d_Mod_emitNumber_37 (lv_at hl 4 rfl) ?_
        refine lv_goto (tgt := 44) hx hb d_Mod_emitNumber_39 (by decide) ?_
        refine lv_istore hx hb d_Mod_emitNumber_44 hl (by decide) rfl (fun ls hl => ?_)
        have hl : lv_has ls 7 [(5, .int (iv (i))), (0, .ref rM), (1, .long (v0)), (3, .long (n3)), (6, .int (iv (i)))] := hl
        refine lv_iinc (k := 4) (v := iv (i + 1)) hx hb d_Mod_emitNumber_46 hl rfl (iv_add _ _) (by decide) rfl (fun ls hl => ?_)
        have hl : lv_has ls 7 [(6, .int (iv (i + 1))), (5, .int (iv (i))), (0, .ref rM), (1, .long (v0)), (3, .long (n3))] := hl
        refine lv_goto (tgt := 21) hx hb d_Mod_emitNumber_49 (by decide) ?_
        exact ihi (by omega) _ _ _ i (lv_sub hl [2, 3, 4, 1, 0] rfl) hP hD hS (by first | (have w := hd.mp hc33; omega) | (have w : ¬ lg (absI v0.toInt + 1) < i := fun q => hc33 (hd.mpr q); omega))
  refine lv_lload_n hx hb d_Mod_emitNumber_0 rfl (lv_at hl 1 rfl) ?_
  refine lv_lconst (v := 0) hx hb d_Mod_emitNumber_1 rfl ?_
  refine k_lge (tgt := 11) hx hb d_Mod_emitNumber_2 d_Mod_emitNumber_3 (by decide) (fun hc2 => ?_) (fun hc2 => ?_)
  · refine lv_lload_n hx hb d_Mod_emitNumber_11 rfl (lv_at hl 1 rfl) ?_
    refine lv_lconst (v := 1) hx hb d_Mod_emitNumber_12 rfl ?_
    refine lv_ladd hx hb d_Mod_emitNumber_13 ?_
    refine lv_lstore_n hx hb d_Mod_emitNumber_14 rfl hl (by decide) rfl (fun ls hl => ?_)
    have hl : lv_has ls 7 [(3, .long (v0 + ((1 : Int64)))), (0, .ref rM), (1, .long (v0))] := hl
    exact hm15 _ _ _ (v0 + ((1 : Int64))) (lv_sub hl [1, 2, 0] rfl) hP hD hS (by first | rw [k.2.2.1 hc2] | rw [k.2.2.2 hc2])
  · refine lv_lload_n hx hb d_Mod_emitNumber_6 rfl (lv_at hl 1 rfl) ?_
    refine lv_lneg hx hb d_Mod_emitNumber_7 ?_
    refine lv_goto (tgt := 12) hx hb d_Mod_emitNumber_8 (by decide) ?_
    refine lv_lconst (v := 1) hx hb d_Mod_emitNumber_12 rfl ?_
    refine lv_ladd hx hb d_Mod_emitNumber_13 ?_
    refine lv_lstore_n hx hb d_Mod_emitNumber_14 rfl hl (by decide) rfl (fun ls hl => ?_)
    have hl : lv_has ls 7 [(3, .long ((-v0) + ((1 : Int64)))), (0, .ref rM), (1, .long (v0))] := hl
    exact hm15 _ _ _ ((-v0) + ((1 : Int64))) (lv_sub hl [1, 2, 0] rfl) hP hD hS (by first | rw [k.2.2.1 hc2] | rw [k.2.2.2 hc2])
abbrev w_Mod_spell : List Cond := Cond.code y_Mod_spell prog_9_method_46_code 11 none :: wl
abbrev r_Mod_spell : Room := { frames := 2, cells := 0, slots := 0, locals := 53 }
set_option maxHeartbeats 4000000 in
set_option maxRecDepth 100000 in
theorem c_Mod_spell (l : Launch) (G : k_G) (sz : Nat) (rM rP rk rG rW rK rE rst rev rod rp rb rbl : Nat) (q0 wd ht kd db ew ac dn pr nu de wr rd cn ba sz1 lb rm cu sp nz sl uz : Int) (gp gb es bk : Int → Int) (gg gv : Int → Int64) (hq0 : 0 ≤ q0 ∧ q0 ≤ 31) (hcn : 0 ≤ cn ∧ cn ≤ 256) (hgp : ∀ i, 0 ≤ i → i < cn → (0 ≤ gp i ∧ gp i < 256) ∧ 0 ≤ gb i ∧ gb i < 8) (hes : ∀ b, 0 ≤ b → b < 8 → 0 ≤ es b ∧ es b ≤ 15) (hpr : pr = 0 ∨ pr = 1) (hcf : ∀ i, 0 ≤ i → i < cn → bd 576460752303423488 (gg (gp i))) (hgv : ∀ j, bd 134217728 (gv j)) : Met l y_Mod_spell w_Mod_spell r_Mod_spell (k_P G [.ref rM, .int (iv (q0))] [o_Mod rM wd ht rP rk rG rW rK kd db ew ac dn pr nu de rE rst wr rd rev rod cn rp rb ba sz1 lb rm cu sp nz rbl sl uz, (rp, ai (gI G) 256 (gp)), (rb, ai (gI G) 256 (gb)), (rE, ai (gI G) 8 (es)), (rG, al (gL G) 256 (gg)), (rW, al (gL G) 256 (gv)), (rbl, ai (gB G) 1024 (bk))] sz) (qv G (fun u : Int × Int × (Int → Int) × (Int → Int64) => u = ((spS pr es gb gp gg cn q0 bk gv).1.1, (spS pr es gb gp gg cn q0 bk gv).1.2.1, (spS pr es gb gp gg cn q0 bk gv).1.2.2, (spS pr es gb gp gg cn q0 bk gv).2)) (fun u : Int × Int × (Int → Int) × (Int → Int64) => [o_Mod rM wd ht rP rk rG rW rK kd db ew ac dn pr nu de rE rst wr rd rev rod cn rp rb ba sz1 lb rm cu sp nz rbl u.1 u.2.1, (rp, ai (gI G) 256 (gp)), (rb, ai (gI G) 256 (gb)), (rE, ai (gI G) 8 (es)), (rG, al (gL G) 256 (gg)), (rW, al (gL G) 256 (u.2.2.2)), (rbl, ai (gB G) 1024 (u.2.2.1))]) (va_A [o_Mod rM wd ht rP rk rG rW rK kd db ew ac dn pr nu de rE rst wr rd rev rod cn rp rb ba sz1 lb rm cu sp nz rbl sl uz, (rp, ai (gI G) 256 (gp)), (rb, ai (gI G) 256 (gb)), (rE, ai (gI G) 8 (es)), (rG, al (gL G) 256 (gg)), (rW, al (gL G) 256 (gv)), (rbl, ai (gB G) 1024 (bk))] sz)) 0 0 (va_A [o_Mod rM wd ht rP rk rG rW rK kd db ew ac dn pr nu de rE rst wr rd rev rod cn rp rb ba sz1 lb rm cu sp nz rbl sl uz, (rp, ai (gI G) 256 (gp)), (rb, ai (gI G) 256 (gb)), (rE, ai (gI G) 8 (es)), (rG, al (gL G) 256 (gg)), (rW, al (gL G) 256 (gv)), (rbl, ai (gB G) 1024 (bk))] sz) := by
  refine k_met (fun A => qv G (fun u : Int × Int × (Int → Int) × (Int → Int64) => u = ((spS pr es gb gp gg cn q0 bk gv).1.1, (spS pr es gb gp gg cn q0 bk gv).1.2.1, (spS pr es gb gp gg cn q0 bk gv).1.2.2, (spS pr es gb gp gg cn q0 bk gv).2)) (fun u : Int × Int × (Int → Int) × (Int → Int64) => [o_Mod rM wd ht rP rk rG rW rK kd db ew ac dn pr nu de rE rst wr rd rev rod cn rp rb ba sz1 lb rm cu sp nz rbl u.1 u.2.1, (rp, ai (gI G) 256 (gp)), (rb, ai (gI G) 256 (gb)), (rE, ai (gI G) 8 (es)), (rG, al (gL G) 256 (gg)), (rW, al (gL G) 256 (u.2.2.2)), (rbl, ai (gB G) 1024 (u.2.2.1))]) A) (fun A => A) (by decide) rfl (Nat.le_of_ble_eq_true rfl) (fun p e s m args below meth c ls A Q S hr hlk hnm hl hsz hP hK hD hS hA hT hQ => ?_)
  obtain ⟨hx, hb, hml, hown, hts⟩ := id S
  have hw : ∀ w ∈ wl, w.before args s = true := fun w h => hts w (List.mem_cons_of_mem _ h)
  have hl : lv_has ls 11 [(0, .ref rM), (1, .int (iv (q0)))] := hl
  refine lv_aload_n hx hb d_Mod_spell_0 rfl (lv_at hl 0 rfl) ?_
  refine lv_iconst (v := iv (0)) hx hb d_Mod_spell_1 rfl ?_
  refine va_put (D := gD G) (ci := 7) (v := .int (iv (0))) (ty := .int) (C := R_Mod) (T := F_Mod) (N := 34) hx hb hw in_Mod t_Mod t_Mod_ok n_Mod hown hK hP hD hS 0 rfl rfl 32 (by decide) (hw _ m3_156) (fun _ h => h) rfl (by decide +kernel) rfl rfl (Nat.le_of_ble_eq_true rfl) d_Mod_spell_2 (fun H locs hP hD hS => ?_)
  have hP : va_P (gD G) classes [o_Mod rM wd ht rP rk rG rW rK kd db ew ac dn pr nu de rE rst wr rd rev rod cn rp rb ba sz1 lb rm cu sp nz rbl 0 uz, (rp, ai (gI G) 256 (gp)), (rb, ai (gI G) 256 (gb)), (rE, ai (gI G) 8 (es)), (rG, al (gL G) 256 (gg)), (rW, al (gL G) 256 (gv)), (rbl, ai (gB G) 1024 (bk))] H := hP
  have hD : va_D A [o_Mod rM wd ht rP rk rG rW rK kd db ew ac dn pr nu de rE rst wr rd rev rod cn rp rb ba sz1 lb rm cu sp nz rbl 0 uz, (rp, ai (gI G) 256 (gp)), (rb, ai (gI G) 256 (gb)), (rE, ai (gI G) 8 (es)), (rG, al (gL G) 256 (gg)), (rW, al (gL G) 256 (gv)), (rbl, ai (gB G) 1024 (bk))] := hD
  refine lv_aload_n hx hb d_Mod_spell_5 rfl (lv_at hl 0 rfl) ?_
  refine lv_iconst (v := iv (0)) hx hb d_Mod_spell_6 rfl ?_
  refine va_put (D := gD G) (ci := 7) (v := .int (iv (0))) (ty := .int) (C := R_Mod) (T := F_Mod) (N := 34) hx hb hw in_Mod t_Mod t_Mod_ok n_Mod hown hK hP hD hS 0 rfl rfl 33 (by decide) (hw _ m3_157) (fun _ h => h) rfl (by decide +kernel) rfl rfl (Nat.le_of_ble_eq_true rfl) d_Mod_spell_7 (fun H locs hP hD hS => ?_)
  have hP : va_P (gD G) classes [o_Mod rM wd ht rP rk rG rW rK kd db ew ac dn pr nu de rE rst wr rd rev rod cn rp rb ba sz1 lb rm cu sp nz rbl 0 0, (rp, ai (gI G) 256 (gp)), (rb, ai (gI G) 256 (gb)), (rE, ai (gI G) 8 (es)), (rG, al (gL G) 256 (gg)), (rW, al (gL G) 256 (gv)), (rbl, ai (gB G) 1024 (bk))] H := hP
  have hD : va_D A [o_Mod rM wd ht rP rk rG rW rK kd db ew ac dn pr nu de rE rst wr rd rev rod cn rp rb ba sz1 lb rm cu sp nz rbl 0 0, (rp, ai (gI G) 256 (gp)), (rb, ai (gI G) 256 (gb)), (rE, ai (gI G) 8 (es)), (rG, al (gL G) 256 (gg)), (rW, al (gL G) 256 (gv)), (rbl, ai (gB G) 1024 (bk))] := hD
  refine lv_iconst (v := iv (0)) hx hb d_Mod_spell_10 rfl ?_
  refine lv_istore_n hx hb d_Mod_spell_11 rfl hl (by decide) rfl (fun ls hl => ?_)
  have hl : lv_has ls 11 [(2, .int (iv (0))), (0, .ref rM), (1, .int (iv (q0)))] := hl
  refine lo_up (P := fun i => ∀ (ls : Array Slot) (H : Heap) (locs : List Loc) (sl1 : Int) (uz1 : Int) (bk1 : Int → Int) (gv1 : Int → Int64), lv_has ls 11 [(0, .ref rM), (1, .int (iv (q0))), (2, .int (iv (i)))] → va_P (gD G) classes [o_Mod rM wd ht rP rk rG rW rK kd db ew ac dn pr nu de rE rst wr rd rev rod cn rp rb ba sz1 lb rm cu sp nz rbl sl1 uz1, (rp, ai (gI G) 256 (gp)), (rb, ai (gI G) 256 (gb)), (rE, ai (gI G) 8 (es)), (rG, al (gL G) 256 (gg)), (rW, al (gL G) 256 (gv1)), (rbl, ai (gB G) 1024 (bk1))] H → va_D A [o_Mod rM wd ht rP rk rG rW rK kd db ew ac dn pr nu de rE rst wr rd rev rod cn rp rb ba sz1 lb rm cu sp nz rbl sl1 uz1, (rp, ai (gI G) 256 (gp)), (rb, ai (gI G) 256 (gb)), (rE, ai (gI G) 8 (es)), (rG, al (gL G) 256 (gg)), (rW, al (gL G) 256 (gv1)), (rbl, ai (gB G) 1024 (bk1))] → va_S A s.heap H locs → (((sl1, uz1, bk1), gv1) = it (spf pr es gb gp gg q0) 0 i ((0, 0, bk), gv)) → (∀ j, bd 134217728 (gv1 j)) → (0 ≤ sl1 ∧ sl1 ≤ 54 * i) → W p l e r_Mod_spell s m args below meth c H locs 0 0 Q (F0 m 12 ls [])) (a := 0) (b := cn) (fun i hii hji ihi => ?_) _ _ _ 0 0 bk gv (lv_sub hl [1, 2, 0] rfl) hP hD hS (it_self _ _ _).symm hgv (by omega)
  intro ls H locs sl1 uz1 bk1 gv1 hl hP hD hS hs hv1 hsr
  refine lv_iload_n hx hb d_Mod_spell_12 rfl (lv_at hl 2 rfl) ?_
  refine lv_aload_n hx hb d_Mod_spell_13 rfl (lv_at hl 0 rfl) ?_
  refine va_get (D := gD G) (ci := 7) (v := .int (iv (cn))) (C := R_Mod) (T := F_Mod) (N := 34) hx hb hw in_Mod hown hK hP 0 rfl rfl 21 (by decide) (hw _ m3_145) (fun _ h => h) rfl d_Mod_spell_14 ?_
  refine k_icmp_ge (tgt := 118) hx hb d_Mod_spell_17 (by decide) (by omega) (by omega) (fun hc17 => ?_) (fun hc17 => ?_)
  · exact k_vret hx hb hr hlk hQ ((sl1, uz1, bk1, gv1)) (by rw [show spS pr es gb gp gg cn q0 bk gv = ((sl1, uz1, bk1), gv1) from by unfold spS; rw [hs]; exact (it_x _ _ hc17 hji).symm]) hP hD hS d_Mod_spell_118
  · have hp := hgp i hii hc17
    have hf := hes (gb i) hp.2.1 hp.2.2
    refine lv_aload_n hx hb d_Mod_spell_20 rfl (lv_at hl 0 rfl) ?_
    refine va_get (D := gD G) (ci := 7) (v := .ref rp) (C := R_Mod) (T := F_Mod) (N := 34) hx hb hw in_Mod hown hK hP 0 rfl rfl 22 (by decide) (hw _ m3_146) (fun _ h => h) rfl d_Mod_spell_21 ?_
    refine lv_iload_n hx hb d_Mod_spell_24 rfl (lv_at hl 2 rfl) ?_
    refine k_ial hx hb hK hP 1 0 rfl rfl (by decide) (by omega) d_Mod_spell_25 ?_
    refine lv_istore_n hx hb d_Mod_spell_26 rfl hl (by decide) rfl (fun ls hl => ?_)
    have hl : lv_has ls 11 [(3, .int (iv (gp i))), (0, .ref rM), (1, .int (iv (q0))), (2, .int (iv (i)))] := hl
    refine lv_aload_n hx hb d_Mod_spell_27 rfl (lv_at hl 1 rfl) ?_
    refine lv_iload_n hx hb d_Mod_spell_28 rfl (lv_at hl 2 rfl) ?_
    refine lv_aload_n hx hb d_Mod_spell_29 rfl (lv_at hl 1 rfl) ?_
    refine va_get (D := gD G) (ci := 7) (v := .ref rb) (C := R_Mod) (T := F_Mod) (N := 34) hx hb hw in_Mod hown hK hP 0 rfl rfl 23 (by decide) (hw _ m3_147) (fun _ h => h) rfl d_Mod_spell_30 ?_
    refine lv_iload_n hx hb d_Mod_spell_33 rfl (lv_at hl 3 rfl) ?_
    refine k_ial hx hb hK hP 2 0 rfl rfl (by decide) (by omega) d_Mod_spell_34 ?_
    refine k_ciR (k_rv S (c_Mod_fineness l G _ rM rP rk rG rW rK rE rst rev rod rp rb rbl q0 (gb i) wd ht kd db ew ac dn pr nu de wr rd cn ba sz1 lb rm cu sp nz sl1 uz1 es (by omega) (by omega) hf) 2 m4_133 m4_130 m4_132 mp_40 m1_9 (by decide +kernel) (by decide) rfl rfl (k_preV (q0 := 0) hK hP hD hS hA hT rfl rfl [0, 3] (by decide) rfl) rfl hl.1 rfl (Nat.le_of_ble_eq_true rfl) d_Mod_spell_35 ⟨Nat.le_of_ble_eq_true rfl, Nat.le_of_ble_eq_true rfl⟩) (fun r35 h35 => ?_)
    subst h35
    refine lv_istore hx hb d_Mod_spell_38 hl (by decide) rfl (fun ls hl => ?_)
    have hl : lv_has ls 11 [(4, .int (iv (max 0 (q0 - es (gb i))))), (3, .int (iv (gp i))), (0, .ref rM), (1, .int (iv (q0))), (2, .int (iv (i)))] := hl
    have hm65 : ∀ (ls : Array Slot) (H : Heap) (locs : List Loc) (p5 : Int64), lv_has ls 11 [(0, .ref rM), (1, .int (iv (q0))), (2, .int (iv (i))), (3, .int (iv (gp i))), (4, .int (iv (max 0 (q0 - es (gb i)))))] → va_P (gD G) classes [o_Mod rM wd ht rP rk rG rW rK kd db ew ac dn pr nu de rE rst wr rd rev rod cn rp rb ba sz1 lb rm cu sp nz rbl sl1 uz1, (rp, ai (gI G) 256 (gp)), (rb, ai (gI G) 256 (gb)), (rE, ai (gI G) 8 (es)), (rG, al (gL G) 256 (gg)), (rW, al (gL G) 256 (gv1)), (rbl, ai (gB G) 1024 (bk1))] H → va_D A [o_Mod rM wd ht rP rk rG rW rK kd db ew ac dn pr nu de rE rst wr rd rev rod cn rp rb ba sz1 lb rm cu sp nz rbl sl1 uz1, (rp, ai (gI G) 256 (gp)), (rb, ai (gI G) 256 (gb)), (rE, ai (gI G) 8 (es)), (rG, al (gL G) 256 (gg)), (rW, al (gL G) 256 (gv1)), (rbl, ai (gB G) 1024 (bk1))] → va_S A s.heap H locs → (p5 = prd pr gb gp gv1 i) → W p l e r_Mod_spell s m args below meth c H locs 0 0 Q (F0 m 65 ls [.long (p5)]) := by
      intro ls H locs p5 hl hP hD hS hp5
      refine lv_lstore hx hb d_Mod_spell_65 hl (by decide) rfl (fun ls hl => ?_)
      have hl : lv_has ls 11 [(5, .long (p5)), (0, .ref rM), (1, .int (iv (q0))), (2, .int (iv (i))), (3, .int (iv (gp i))), (4, .int (iv (max 0 (q0 - es (gb i)))))] := hl
      refine lv_aload_n hx hb d_Mod_spell_67 rfl (lv_at hl 1 rfl) ?_
      refine va_get (D := gD G) (ci := 7) (v := .ref rG) (C := R_Mod) (T := F_Mod) (N := 34) hx hb hw in_Mod hown hK hP 0 rfl rfl 4 (by decide) (hw _ m3_128) (fun _ h => h) rfl d_Mod_spell_68 ?_
      refine lv_iload_n hx hb d_Mod_spell_71 rfl (lv_at hl 4 rfl) ?_
      refine k_lal hx hb hK hP 4 1 rfl rfl (by decide) (by omega) d_Mod_spell_72 ?_
      refine lv_lload hx hb d_Mod_spell_73 (lv_at hl 0 rfl) ?_
      refine lv_lsub hx hb d_Mod_spell_75 ?_
      refine lv_iload hx hb d_Mod_spell_76 (lv_at hl 5 rfl) ?_
      refine k_clR (k_rs S (c_Mod_number l G _ (max 0 (q0 - es (gb i))) ((gg (gp i)) - p5) (by omega)) 2 m4_141 m4_139 m4_140 m1_9 (by decide +kernel) (by decide) rfl rfl (k_preS hK hP hD hS hA hT [] (by decide) rfl) rfl hl.1 rfl (Nat.le_of_ble_eq_true rfl) d_Mod_spell_78 ⟨Nat.le_of_ble_eq_true rfl, Nat.le_of_ble_eq_true rfl⟩) (fun r78 h78 => ?_)
      subst h78
      refine k_nml (fun v78 hv78 => ?_)
      have hcb : bd 1152921504606846976 (gg (gp i) - p5) := by rw [hp5]; exact bd_le (bd_sub (hcf i hii hc17) (prd_b hv1) (by omega)).1 (by omega)
      have hnm := nmE hcb (r := (max 0 (q0 - es (gb i)))) (by omega)
      have hvi : v78.toInt = spv pr es gb gp gg q0 i gv1 := by rw [hv78, hnm.1, hp5]; rfl
      have hvr := nmC_r hcb (fac_r (r := (max 0 (q0 - es (gb i)))) (by omega))
      have hvb : bd 134217726 v78 := by unfold bd; rw [hv78, hnm.1]; exact hvr
      have hvl : v78 = lw (spv pr es gb gp gg q0 i gv1) := by rw [hv78, hnm.2, hp5]; rfl
      have hvr2 : -134217726 ≤ spv pr es gb gp gg q0 i gv1 ∧ spv pr es gb gp gg q0 i gv1 ≤ 134217726 := by rw [← hvi]; exact hvb
      refine lv_lstore hx hb d_Mod_spell_81 hl (by decide) rfl (fun ls hl => ?_)
      have hl : lv_has ls 11 [(7, .long (v78)), (5, .long (p5)), (0, .ref rM), (1, .int (iv (q0))), (2, .int (iv (i))), (3, .int (iv (gp i))), (4, .int (iv (max 0 (q0 - es (gb i)))))] := hl
      refine lv_aload_n hx hb d_Mod_spell_83 rfl (lv_at hl 2 rfl) ?_
      refine lv_lload hx hb d_Mod_spell_84 (lv_at hl 0 rfl) ?_
      refine k_cv (wz := fun u : Int × Int × (Int → Int) => [o_Mod rM wd ht rP rk rG rW rK kd db ew ac dn pr nu de rE rst wr rd rev rod cn rp rb ba sz1 lb rm cu sp nz rbl u.1 u.2.1, (rp, ai (gI G) 256 (gp)), (rb, ai (gI G) 256 (gb)), (rE, ai (gI G) 8 (es)), (rG, al (gL G) 256 (gg)), (rW, al (gL G) 256 (gv1)), (rbl, ai (gB G) 1024 (u.2.2))]) (wr := [(rp, ai (gI G) 256 (gp)), (rb, ai (gI G) 256 (gb)), (rE, ai (gI G) 8 (es)), (rG, al (gL G) 256 (gg)), (rW, al (gL G) 256 (gv1))]) (k_rv S (c_Mod_emitNumber l G _ rM rP rk rG rW rK rE rst rev rod rp rb rbl wd ht kd db ew ac dn pr nu de wr rd cn ba sz1 lb rm cu sp nz sl1 uz1 v78 bk1 hvb (by omega)) 1 m4_159 m4_156 m4_158 mp_42 m1_9 (by decide +kernel) (by decide) rfl rfl (k_preV (q0 := 0) hK hP hD hS hA hT rfl rfl [0, 6] (by decide) rfl) rfl hl.1 rfl (Nat.le_of_ble_eq_true rfl) d_Mod_spell_86 ⟨Nat.le_of_ble_eq_true rfl, Nat.le_of_ble_eq_true rfl⟩) hP hD hS hA [0, 6] [1, 2, 3, 4, 5] [5, 0, 1, 2, 3, 4, 6] rfl rfl (by decide) (by decide) (by decide) (fun _ => rfl) (fun u86 H locs h86 hP hD hS => ?_)
      obtain ⟨sl86, uz86, bk86⟩ := u86
      have hP : va_P (gD G) classes [o_Mod rM wd ht rP rk rG rW rK kd db ew ac dn pr nu de rE rst wr rd rev rod cn rp rb ba sz1 lb rm cu sp nz rbl sl86 uz86, (rp, ai (gI G) 256 (gp)), (rb, ai (gI G) 256 (gb)), (rE, ai (gI G) 8 (es)), (rG, al (gL G) 256 (gg)), (rW, al (gL G) 256 (gv1)), (rbl, ai (gB G) 1024 (bk86))] H := hP
      have hD : va_D A [o_Mod rM wd ht rP rk rG rW rK kd db ew ac dn pr nu de rE rst wr rd rev rod cn rp rb ba sz1 lb rm cu sp nz rbl sl86 uz86, (rp, ai (gI G) 256 (gp)), (rb, ai (gI G) 256 (gb)), (rE, ai (gI G) 8 (es)), (rG, al (gL G) 256 (gg)), (rW, al (gL G) 256 (gv1)), (rbl, ai (gB G) 1024 (bk86))] := hD
      try dsimp only at h86
      rw [hvi] at h86
      have c86 := emN_n (v := spv pr es gb gp gg q0 i gv1) (sl1, uz1, bk1) hvr2
      rw [← h86] at c86
      dsimp only at c86
      refine lv_lload hx hb d_Mod_spell_89 (lv_at hl 1 rfl) ?_
      refine lv_lload hx hb d_Mod_spell_91 (lv_at hl 0 rfl) ?_
      refine lv_iload hx hb d_Mod_spell_93 (lv_at hl 6 rfl) ?_
      refine k_clR (k_rs S (c_Mod_value l G _ (max 0 (q0 - es (gb i))) v78 (by omega)) 2 m4_166 m4_164 m4_165 m1_9 (by decide +kernel) (by decide) rfl rfl (k_preS hK hP hD hS hA hT [] (by decide) rfl) rfl hl.1 rfl (Nat.le_of_ble_eq_true rfl) d_Mod_spell_95 ⟨Nat.le_of_ble_eq_true rfl, Nat.le_of_ble_eq_true rfl⟩) (fun r95 h95 => ?_)
      subst h95
      refine k_eql (b := vlC (spv pr es gb gp gg q0 i gv1) (facI (max 0 (q0 - es (gb i)))) (offI (max 0 (q0 - es (gb i))))) (by rw [hvl]; exact vl_e (by omega) hvr2) ?_
      refine lv_ladd hx hb d_Mod_spell_98 ?_
      refine lv_lstore hx hb d_Mod_spell_99 hl (by decide) rfl (fun ls hl => ?_)
      have hl : lv_has ls 11 [(9, .long (p5 + (vlC (spv pr es gb gp gg q0 i gv1) (facI (max 0 (q0 - es (gb i)))) (offI (max 0 (q0 - es (gb i))))))), (7, .long (v78)), (5, .long (p5)), (0, .ref rM), (1, .int (iv (q0))), (2, .int (iv (i))), (3, .int (iv (gp i))), (4, .int (iv (max 0 (q0 - es (gb i)))))] := hl
      refine lv_aload_n hx hb d_Mod_spell_101 rfl (lv_at hl 3 rfl) ?_
      refine va_get (D := gD G) (ci := 7) (v := .ref rW) (C := R_Mod) (T := F_Mod) (N := 34) hx hb hw in_Mod hown hK hP 0 rfl rfl 5 (by decide) (hw _ m3_129) (fun _ h => h) rfl d_Mod_spell_102 ?_
      refine lv_iload_n hx hb d_Mod_spell_105 rfl (lv_at hl 6 rfl) ?_
      refine lv_lload hx hb d_Mod_spell_106 (lv_at hl 0 rfl) ?_
      refine k_clR (k_rs S (c_Mod_bound l G _ (p5 + (vlC (spv pr es gb gp gg q0 i gv1) (facI (max 0 (q0 - es (gb i)))) (offI (max 0 (q0 - es (gb i)))))) ) 1 m4_169 m4_167 m4_168 m1_9 (by decide +kernel) (by decide) rfl rfl (k_preS hK hP hD hS hA hT [] (by decide) rfl) rfl hl.1 rfl (Nat.le_of_ble_eq_true rfl) d_Mod_spell_108 ⟨Nat.le_of_ble_eq_true rfl, Nat.le_of_ble_eq_true rfl⟩) (fun r108 h108 => ?_)
      subst h108
      refine k_las hx hb hK hP hD hS 5 1 rfl rfl (by decide) (by omega) d_Mod_spell_111 (fun H locs hP hD hS => ?_)
      have hP : va_P (gD G) classes [o_Mod rM wd ht rP rk rG rW rK kd db ew ac dn pr nu de rE rst wr rd rev rod cn rp rb ba sz1 lb rm cu sp nz rbl sl86 uz86, (rp, ai (gI G) 256 (gp)), (rb, ai (gI G) 256 (gb)), (rE, ai (gI G) 8 (es)), (rG, al (gL G) 256 (gg)), (rW, al (gL G) 256 (up gv1 (gp i) (bdL (p5 + (vlC (spv pr es gb gp gg q0 i gv1) (facI (max 0 (q0 - es (gb i)))) (offI (max 0 (q0 - es (gb i))))))))), (rbl, ai (gB G) 1024 (bk86))] H := hP
      have hD : va_D A [o_Mod rM wd ht rP rk rG rW rK kd db ew ac dn pr nu de rE rst wr rd rev rod cn rp rb ba sz1 lb rm cu sp nz rbl sl86 uz86, (rp, ai (gI G) 256 (gp)), (rb, ai (gI G) 256 (gb)), (rE, ai (gI G) 8 (es)), (rG, al (gL G) 256 (gg)), (rW, al (gL G) 256 (up gv1 (gp i) (bdL (p5 + (vlC (spv pr es gb gp gg q0 i gv1) (facI (max 0 (q0 - es (gb i)))) (offI (max 0 (q0 - es (gb i))))))))), (rbl, ai (gB G) 1024 (bk86))] := hD
      refine lv_iinc (k := 5) (v := iv (i + 1)) hx hb d_Mod_spell_112 hl rfl (iv_add _ _) (by decide) rfl (fun ls hl => ?_)
      have hl : lv_has ls 11 [(2, .int (iv (i + 1))), (9, .long (p5 + (vlC (spv pr es gb gp gg q0 i gv1) (facI (max 0 (q0 - es (gb i)))) (offI (max 0 (q0 - es (gb i))))))), (7, .long (v78)), (5, .long (p5)), (0, .ref rM), (1, .int (iv (q0))), (3, .int (iv (gp i))), (4, .int (iv (max 0 (q0 - es (gb i)))))] := hl
      refine lv_goto (tgt := 12) hx hb d_Mod_spell_115 (by decide) ?_
      exact ihi (by omega) _ _ _ sl86 uz86 bk86 (up gv1 (gp i) (bdL (p5 + (vlC (spv pr es gb gp gg q0 i gv1) (facI (max 0 (q0 - es (gb i)))) (offI (max 0 (q0 - es (gb i)))))))) (lv_sub hl [4, 5, 0] rfl) hP hD hS (by rw [it_s _ _ hii, ← hs]; show _ = (emN (spv pr es gb gp gg q0 i gv1) (sl1, uz1, bk1), up gv1 (gp i) (bdL (prd pr gb gp gv1 i + vlC (spv pr es gb gp gg q0 i gv1) (facI (rrI es gb q0 i)) (offI (rrI es gb q0 i))))); rw [← h86, ← hp5]; rfl) (bd_up hv1 (bdL_b _)) (by omega)
    refine lv_aload_n hx hb d_Mod_spell_40 rfl (lv_at hl 2 rfl) ?_
    refine va_get (D := gD G) (ci := 7) (v := .int (iv (pr))) (C := R_Mod) (T := F_Mod) (N := 34) hx hb hw in_Mod hown hK hP 0 rfl rfl 12 (by decide) (hw _ m3_136) (fun _ h => h) rfl d_Mod_spell_41 ?_
    refine k_if_eq (tgt := 64) hx hb d_Mod_spell_44 (by decide) (by omega) (fun hc44 => ?_) (fun hc44 => ?_)
    · refine lv_lconst (v := 0) hx hb d_Mod_spell_64 rfl ?_
      exact hm65 _ _ _ ((0 : Int64)) (lv_sub hl [2, 3, 4, 1, 0] rfl) hP hD hS (by unfold prd; first | (have w : pr = 0 ∨ ¬ gb i = 0 := (by omega); rw [if_pos w]) | (have w : ¬ (pr = 0 ∨ ¬ gb i = 0) := (by omega); rw [if_neg w, fcM_e hp.1.1]))
    · refine lv_aload_n hx hb d_Mod_spell_47 rfl (lv_at hl 2 rfl) ?_
      refine va_get (D := gD G) (ci := 7) (v := .ref rb) (C := R_Mod) (T := F_Mod) (N := 34) hx hb hw in_Mod hown hK hP 0 rfl rfl 23 (by decide) (hw _ m3_147) (fun _ h => h) rfl d_Mod_spell_48 ?_
      refine lv_iload_n hx hb d_Mod_spell_51 rfl (lv_at hl 4 rfl) ?_
      refine k_ial hx hb hK hP 2 0 rfl rfl (by decide) (by omega) d_Mod_spell_52 ?_
      refine k_if_ne (tgt := 64) hx hb d_Mod_spell_53 (by decide) (by omega) (fun hc53 => ?_) (fun hc53 => ?_)
      · refine lv_lconst (v := 0) hx hb d_Mod_spell_64 rfl ?_
        exact hm65 _ _ _ ((0 : Int64)) (lv_sub hl [2, 3, 4, 1, 0] rfl) hP hD hS (by unfold prd; first | (have w : pr = 0 ∨ ¬ gb i = 0 := (by omega); rw [if_pos w]) | (have w : ¬ (pr = 0 ∨ ¬ gb i = 0) := (by omega); rw [if_neg w, fcM_e hp.1.1]))
      · refine lv_aload_n hx hb d_Mod_spell_56 rfl (lv_at hl 2 rfl) ?_
        refine lv_iload_n hx hb d_Mod_spell_57 rfl (lv_at hl 1 rfl) ?_
        refine k_clR (k_rv S (c_Mod_forecast l G _ rM rP rk rG rW rK rE rst rev rod rp rb rbl (gp i) wd ht kd db ew ac dn pr nu de wr rd cn ba sz1 lb rm cu sp nz sl1 uz1 gv1 (by omega)) 1 m4_137 m4_134 m4_136 mp_41 m1_9 (by decide +kernel) (by decide) rfl rfl (k_preV (q0 := 0) hK hP hD hS hA hT rfl rfl [0, 5] (by decide) rfl) rfl hl.1 rfl (Nat.le_of_ble_eq_true rfl) d_Mod_spell_58 ⟨Nat.le_of_ble_eq_true rfl, Nat.le_of_ble_eq_true rfl⟩) (fun r58 h58 => ?_)
        subst h58
        refine lv_goto (tgt := 65) hx hb d_Mod_spell_61 (by decide) ?_
        exact hm65 _ _ _ (fcM gv1 (gp i)) (lv_sub hl [2, 3, 4, 1, 0] rfl) hP hD hS (by unfold prd; first | (have w : pr = 0 ∨ ¬ gb i = 0 := (by omega); rw [if_pos w]) | (have w : ¬ (pr = 0 ∨ ¬ gb i = 0) := (by omega); rw [if_neg w, fcM_e hp.1.1]))
abbrev w_Mod_putBit : List Cond := Cond.code y_Mod_putBit prog_9_method_47_code 4 none :: wl
abbrev r_Mod_putBit : Room := { frames := 0, cells := 0, slots := 0, locals := 0 }
set_option maxHeartbeats 4000000 in
set_option maxRecDepth 100000 in
theorem c_Mod_putBit (l : Launch) (G : k_G) (sz : Nat) (rM rP rk rG rW rK rE rst rev rod rp rb rbl : Nat) (i0 bt wd ht kd db ew ac dn pr nu de wr rd cn ba sz1 lb rm cu sp nz sl uz : Int) (g : Int → Int) (hg : ∀ j, -128 ≤ g j ∧ g j ≤ 127) (hi0 : 0 ≤ i0 ∧ i0 < 1024) (hbt : bt = 0 ∨ bt = 1) (hba : 0 ≤ ba ∧ ba + i0 / 8 < 2048) : Met l y_Mod_putBit w_Mod_putBit r_Mod_putBit (k_P G [.ref rM, .int (iv (i0)), .int (iv (bt))] [o_Mod rM wd ht rP rk rG rW rK kd db ew ac dn pr nu de rE rst wr rd rev rod cn rp rb ba sz1 lb rm cu sp nz rbl sl uz, (rst, ai (gB G) 2048 (g))] sz) (qv G (fun u : Int → Int => u = pbM ba g i0 bt) (fun u : Int → Int => [o_Mod rM wd ht rP rk rG rW rK kd db ew ac dn pr nu de rE rst wr rd rev rod cn rp rb ba sz1 lb rm cu sp nz rbl sl uz, (rst, ai (gB G) 2048 (u))]) (va_A [o_Mod rM wd ht rP rk rG rW rK kd db ew ac dn pr nu de rE rst wr rd rev rod cn rp rb ba sz1 lb rm cu sp nz rbl sl uz, (rst, ai (gB G) 2048 (g))] sz)) 0 0 (va_A [o_Mod rM wd ht rP rk rG rW rK kd db ew ac dn pr nu de rE rst wr rd rev rod cn rp rb ba sz1 lb rm cu sp nz rbl sl uz, (rst, ai (gB G) 2048 (g))] sz) := by
  refine k_met (fun A => qv G (fun u : Int → Int => u = pbM ba g i0 bt) (fun u : Int → Int => [o_Mod rM wd ht rP rk rG rW rK kd db ew ac dn pr nu de rE rst wr rd rev rod cn rp rb ba sz1 lb rm cu sp nz rbl sl uz, (rst, ai (gB G) 2048 (u))]) A) (fun A => A) (by decide) rfl (Nat.le_of_ble_eq_true rfl) (fun p e s m args below meth c ls A Q S hr hlk hnm hl hsz hP hK hD hS hA hT hQ => ?_)
  obtain ⟨hx, hb, hml, hown, hts⟩ := id S
  have hw : ∀ w ∈ wl, w.before args s = true := fun w h => hts w (List.mem_cons_of_mem _ h)
  have hl : lv_has ls 4 [(0, .ref rM), (1, .int (iv (i0))), (2, .int (iv (bt)))] := hl
  refine lv_aload_n hx hb d_Mod_putBit_0 rfl (lv_at hl 0 rfl) ?_
  refine va_get (D := gD G) (ci := 7) (v := .int (iv (ba))) (C := R_Mod) (T := F_Mod) (N := 34) hx hb hw in_Mod hown hK hP 0 rfl rfl 24 (by decide) (hw _ m3_148) (fun _ h => h) rfl d_Mod_putBit_1 ?_
  refine lv_iload_n hx hb d_Mod_putBit_4 rfl (lv_at hl 1 rfl) ?_
  refine lv_bipush (v := iv (8)) hx hb d_Mod_putBit_5 rfl ?_
  refine k_idiv hx hb d_Mod_putBit_7 (by omega) (by omega) ?_
  refine k_iadd hx hb d_Mod_putBit_8 ?_
  refine lv_istore_n hx hb d_Mod_putBit_9 rfl hl (by decide) rfl (fun ls hl => ?_)
  have hl : lv_has ls 4 [(3, .int (iv (ba + (i0 / 8)))), (0, .ref rM), (1, .int (iv (i0))), (2, .int (iv (bt)))] := hl
  refine lv_aload_n hx hb d_Mod_putBit_10 rfl (lv_at hl 1 rfl) ?_
  refine va_get (D := gD G) (ci := 7) (v := .ref rst) (C := R_Mod) (T := F_Mod) (N := 34) hx hb hw in_Mod hown hK hP 0 rfl rfl 16 (by decide) (hw _ m3_140) (fun _ h => h) rfl d_Mod_putBit_11 ?_
  refine lv_iload_n hx hb d_Mod_putBit_14 rfl (lv_at hl 0 rfl) ?_
  refine lv_dup2_11 hx hb d_Mod_putBit_15 rfl rfl ?_
  refine k_bal hx hb hK hP 1 2 rfl rfl (by decide) (by omega) d_Mod_putBit_16 ?_
  refine lv_iload_n hx hb d_Mod_putBit_17 rfl (lv_at hl 3 rfl) ?_
  refine lv_bipush (v := iv (7)) hx hb d_Mod_putBit_18 rfl ?_
  refine lv_iload_n hx hb d_Mod_putBit_20 rfl (lv_at hl 2 rfl) ?_
  refine lv_bipush (v := iv (8)) hx hb d_Mod_putBit_21 rfl ?_
  refine k_irem hx hb d_Mod_putBit_23 (by omega) (by omega) ?_
  refine k_isub hx hb d_Mod_putBit_24 ?_
  refine k_ishl hx hb d_Mod_putBit_25 (by omega) ?_
  refine k_iadd hx hb d_Mod_putBit_26 ?_
  refine k_i2b hx hb d_Mod_putBit_27 ?_
  refine k_bas hx hb hK hP hD hS 1 2 rfl rfl (by decide) (by omega) d_Mod_putBit_28 (fun H locs hP hD hS => ?_)
  have hP : va_P (gD G) classes [o_Mod rM wd ht rP rk rG rW rK kd db ew ac dn pr nu de rE rst wr rd rev rod cn rp rb ba sz1 lb rm cu sp nz rbl sl uz, (rst, ai (gB G) 2048 (up g (ba + (i0 / 8)) (b8 (b8 ((g (ba + (i0 / 8))) + (bt * 2 ^ (7 - (i0 % 8)).toNat))))))] H := hP
  have hD : va_D A [o_Mod rM wd ht rP rk rG rW rK kd db ew ac dn pr nu de rE rst wr rd rev rod cn rp rb ba sz1 lb rm cu sp nz rbl sl uz, (rst, ai (gB G) 2048 (up g (ba + (i0 / 8)) (b8 (b8 ((g (ba + (i0 / 8))) + (bt * 2 ^ (7 - (i0 % 8)).toNat))))))] := hD
  exact k_vret hx hb hr hlk hQ (up g (ba + (i0 / 8)) (b8 (b8 ((g (ba + (i0 / 8))) + (bt * 2 ^ (7 - (i0 % 8)).toNat))))) (by rw [b8_8]; rfl) hP hD hS d_Mod_putBit_29
