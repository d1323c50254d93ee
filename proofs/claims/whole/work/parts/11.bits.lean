/-! the bits of a stream: what is read and written -/
/-- bit j of a row of bytes, the highest of a byte first -/
def bitv (g : Int → Int) (j : Int) : Int := g (j / 8) / 2 ^ (7 - j % 8).toNat % 2
/-- a bit read at a with the end en, and the place behind it -/
def tkV (g : Int → Int) (en a : Int) : Int := if a < en then bitv g a else 1
def tkA (en a : Int) : Int := if a < en then a + 1 else a
theorem tkV_t {g : Int → Int} {en a : Int} (h : a < en) : tkV g en a = bitv g a := if_pos h
theorem tkV_f {g : Int → Int} {en a : Int} (h : ¬ a < en) : tkV g en a = 1 := if_neg h
theorem tkA_t {en a : Int} (h : a < en) : tkA en a = a + 1 := if_pos h
theorem tkA_f {en a : Int} (h : ¬ a < en) : tkA en a = a := if_neg h
theorem bitv_01 (g : Int → Int) (j : Int) : 0 ≤ bitv g j ∧ bitv g j ≤ 1 := by unfold bitv; omega
theorem tkV_01 (g : Int → Int) (en a : Int) : 0 ≤ tkV g en a ∧ tkV g en a ≤ 1 := by
  unfold tkV; split
  · exact bitv_01 g a
  · omega
theorem tkA_b (en a : Int) : a ≤ tkA en a ∧ (a ≤ en → tkA en a ≤ en) ∧ tkA en a ≤ a + 1 := by
  unfold tkA; split <;> omega
/-- a bit written at x.1 with the end en -/
def pt (en bit : Int) (x : Int × (Int → Int)) : Int × (Int → Int) := if x.1 < en then (x.1 + 1, up x.2 (x.1 / 8) (orI (x.2 (x.1 / 8)) (bit * 2 ^ (7 - x.1 % 8).toNat))) else x
theorem pt_t {en bit a : Int} {g : Int → Int} (h : a < en) : pt en bit (a, g) = (a + 1, up g (a / 8) (orI (g (a / 8)) (bit * 2 ^ (7 - a % 8).toNat))) := if_pos h
theorem pt_f {en bit a : Int} {g : Int → Int} (h : ¬ a < en) : pt en bit (a, g) = (a, g) := if_neg h
theorem tkA_r {en a : Int} (h : 0 ≤ a ∧ a ≤ 16384) (he : 0 ≤ en ∧ en ≤ 16384) : 0 ≤ tkA en a ∧ tkA en a ≤ 16384 := by
  unfold tkA; split <;> omega
theorem pt_r {en b : Int} {x : Int × (Int → Int)} (h : 0 ≤ x.1 ∧ x.1 ≤ 16384) (he : 0 ≤ en ∧ en ≤ 16384) : 0 ≤ (pt en b x).1 ∧ (pt en b x).1 ≤ 16384 := by
  unfold pt; split
  · show 0 ≤ x.1 + 1 ∧ x.1 + 1 ≤ 16384; omega
  · exact h
/-- a field of n bits: (value, place) -/
def tkf (g : Int → Int) (en : Int) : Int → Int × Int → Int × Int := fun _ x => (2 * x.1 + tkV g en x.2, tkA en x.2)
def tkF (g : Int → Int) (en n a : Int) : Int × Int := it (tkf g en) 0 n (0, a)
/-- a field of n bits, written -/
def ptf (en v n : Int) : Int → Int × (Int → Int) → Int × (Int → Int) := fun k y => pt en (v / 2 ^ (n - 1 - k).toNat % 2) y
def ptF (en v n : Int) (x : Int × (Int → Int)) : Int × (Int → Int) := it (ptf en v n) 0 n x
/-- the digits of a number -/
def lg (i : Int) : Int := (Nat.log2 i.toNat : Int)
theorem lg_p {i : Int} (k : Nat) (p : Int) (hp : p = 2 ^ k) (h1 : p ≤ i) (h2 : i < 2 * p) : lg i = k := by
  unfold lg
  have hq : ((2 ^ k : Nat) : Int) = 2 ^ k := by rw [Int.natCast_pow]; rfl
  have h0 : 0 < (2 : Nat) ^ k := Nat.pow_pos (by decide)
  have : Nat.log2 i.toNat = k := by
    rw [Nat.log2_eq_iff (by omega)]
    have hs : (2 : Nat) ^ (k + 1) = 2 * 2 ^ k := by rw [Nat.pow_succ, Nat.mul_comm]
    rw [hs]
    omega
  omega
theorem lg_s {i : Int} (h : 0 < i) : 2 ^ (lg i).toNat ≤ i ∧ i < 2 * 2 ^ (lg i).toNat := by
  unfold lg
  have hn : i.toNat ≠ 0 := by omega
  have h1 := (Nat.log2_eq_iff (k := i.toNat.log2) hn).mp rfl
  rw [Int.toNat_natCast]
  have hq : ((2 ^ i.toNat.log2 : Nat) : Int) = 2 ^ i.toNat.log2 := by rw [Int.natCast_pow]; rfl
  have hs : (2 : Nat) ^ (i.toNat.log2 + 1) = 2 * 2 ^ i.toNat.log2 := by rw [Nat.pow_succ, Nat.mul_comm]
  rw [hs] at h1
  omega
theorem p2_le {a b : Nat} (h : a ≤ b) : (2 : Int) ^ a ≤ 2 ^ b := by
  have h1 : (2 : Nat) ^ a ≤ 2 ^ b := Nat.pow_le_pow_right (by decide) h
  have e : ∀ k : Nat, ((2 ^ k : Nat) : Int) = 2 ^ k := fun k => by rw [Int.natCast_pow]; rfl
  have e1 := e a
  have e2 := e b
  omega
theorem p2_1 (k : Nat) : (1 : Int) ≤ 2 ^ k := by
  have : (0 : Int) < 2 ^ k := Int.pow_pos (by decide)
  omega
theorem lg_r {i : Int} (n : Nat) (p : Int) (hp : p = 2 ^ n) (h0 : 0 < i) (h1 : i < p) : 0 ≤ lg i ∧ lg i < n := by
  subst hp
  refine ⟨Int.natCast_nonneg _, ?_⟩
  have h2 := (lg_s h0).1
  have h3 : 0 ≤ lg i := Int.natCast_nonneg _
  refine Classical.byContradiction fun q => ?_
  have h4 : (2 : Int) ^ n ≤ 2 ^ (lg i).toNat := p2_le (by omega)
  omega
/-- how many bits a number has; up to its last 0 -/
def szN (v : Int) : Int := 2 * lg (absI v + 1) + (if lg (absI v + 1) < 26 then 1 else 0) + (if v = 0 then 0 else 1)
def zlN (v : Int) : Int := if v < 0 then (if (1 - v) % 2 = 0 then 2 * lg (1 - v) else 2 * lg (1 - v) - 1) else if v = 0 then 0 else szN v
/-- a number, written -/
def ptg (en n k : Int) : Int → Int × (Int → Int) → Int × (Int → Int) := fun j y => pt en (n / 2 ^ (k - 1 - j).toNat % 2) (pt en 0 y)
def ptN (en v : Int) (x : Int × (Int → Int)) : Int × (Int → Int) :=
  let y := it (ptg en (absI v + 1) (lg (absI v + 1))) 0 (lg (absI v + 1)) x
  let z := if lg (absI v + 1) < 26 then pt en 1 y else y
  if v = 0 then z else pt en (if v < 0 then 1 else 0) z
/-- the digits of a number, read: (n, place) -/
def rdl (g : Int → Int) (en : Int) : Nat → Int → Int → Int × Int
  | 0, n, a => (n, a)
  | k + 1, n, a => if tkV g en a = 1 then (n, tkA en a) else rdl g en k (2 * n + tkV g en (tkA en a)) (tkA en (tkA en a))
theorem rdl_0 {g : Int → Int} {en n a : Int} {k : Nat} (hk : k = 0) : rdl g en k n a = (n, a) := by subst hk; rfl
theorem rdl_b {g : Int → Int} {en n a : Int} {k : Nat} (hk : 0 < k) (h : tkV g en a = 1) : rdl g en k n a = (n, tkA en a) := by
  obtain ⟨j, rfl⟩ : ∃ j, k = j + 1 := ⟨k - 1, by omega⟩
  exact if_pos h
theorem rdl_g {g : Int → Int} {en n a : Int} {k j : Nat} (hk : k = j + 1) (h : ¬ tkV g en a = 1) : rdl g en k n a = rdl g en j (2 * n + tkV g en (tkA en a)) (tkA en (tkA en a)) := by
  subst hk; exact if_neg h
theorem rdl_r (g : Int → Int) (en : Int) (M : Int) : ∀ (k : Nat) (n a : Int), 1 ≤ n → (n + 1) * 2 ^ k ≤ M → 1 ≤ (rdl g en k n a).1 ∧ (rdl g en k n a).1 + 1 ≤ M
  | 0, n, a, h1, h2 => by
    show 1 ≤ n ∧ n + 1 ≤ M
    rw [Int.pow_zero, Int.mul_one] at h2
    exact ⟨h1, h2⟩
  | k + 1, n, a, h1, h2 => by
    have hp : (0 : Int) < 2 ^ k := Int.pow_pos (by decide)
    have h3 : (n + 1) * 2 ^ (k + 1) = (2 * n + 1 + 1) * 2 ^ k := by rw [Int.pow_succ, Int.mul_comm (2 ^ k) 2, ← Int.mul_assoc]; congr 1; omega
    by_cases h : tkV g en a = 1
    · rw [rdl_b (by omega) h]
      show 1 ≤ n ∧ n + 1 ≤ M
      refine ⟨h1, ?_⟩
      have h4 : (n + 1) * 1 ≤ (n + 1) * 2 ^ (k + 1) := Int.mul_le_mul_of_nonneg_left (p2_1 _) (by omega)
      omega
    · rw [rdl_g rfl h]
      have hb := tkV_01 g en (tkA en a)
      refine rdl_r g en M k _ _ (by omega) ?_
      have h5 : (2 * n + tkV g en (tkA en a) + 1) * 2 ^ k ≤ (2 * n + 1 + 1) * 2 ^ k := Int.mul_le_mul_of_nonneg_right (by omega) (by omega)
      omega
theorem rdl_m {g : Int → Int} {en a n b : Int} (h : rdl g en 26 1 a = (n, b)) : 1 ≤ n ∧ n ≤ 134217727 := by
  have := rdl_r g en 134217728 26 1 a (by omega) (by decide)
  rw [h] at this
  have h2 : 1 ≤ n ∧ n + 1 ≤ 134217728 := this
  omega
/-- a number, read at a: (number, place) -/
def rdN (g : Int → Int) (en a : Int) : Int × Int :=
  if (rdl g en 26 1 a).1 = 1 then (0, (rdl g en 26 1 a).2) else (if tkV g en (rdl g en 26 1 a).2 = 1 then 1 - (rdl g en 26 1 a).1 else (rdl g en 26 1 a).1 - 1, tkA en (rdl g en 26 1 a).2)
theorem rdN_0 {g : Int → Int} {en a n b : Int} (h : rdl g en 26 1 a = (n, b)) (hn : n = 1) : rdN g en a = (0, b) := by
  unfold rdN; rw [h]; exact if_pos hn
theorem rdN_n {g : Int → Int} {en a n b : Int} (h : rdl g en 26 1 a = (n, b)) (hn : ¬ n = 1) (hb : tkV g en b = 1) : rdN g en a = (1 - n, tkA en b) := by
  unfold rdN; rw [h]; show (if n = 1 then _ else _) = _; rw [if_neg hn]; show (if tkV g en b = 1 then _ else _, _) = _; rw [if_pos hb]
theorem rdN_p {g : Int → Int} {en a n b : Int} (h : rdl g en 26 1 a = (n, b)) (hn : ¬ n = 1) (hb : ¬ tkV g en b = 1) : rdN g en a = (n - 1, tkA en b) := by
  unfold rdN; rw [h]; show (if n = 1 then _ else _) = _; rw [if_neg hn]; show (if tkV g en b = 1 then _ else _, _) = _; rw [if_neg hb]
theorem rdN_r (g : Int → Int) (en a : Int) : -134217726 ≤ (rdN g en a).1 ∧ (rdN g en a).1 ≤ 134217726 := by
  obtain ⟨n, b, hx⟩ : ∃ n b, rdl g en 26 1 a = (n, b) := ⟨_, _, rfl⟩
  have h := rdl_m hx
  by_cases h1 : n = 1
  · rw [rdN_0 hx h1]; exact ⟨by show (-134217726 : Int) ≤ 0; omega, by show (0 : Int) ≤ 134217726; omega⟩
  · by_cases h2 : tkV g en b = 1
    · rw [rdN_n hx h1 h2]; show -134217726 ≤ 1 - n ∧ 1 - n ≤ 134217726; omega
    · rw [rdN_p hx h1 h2]; show -134217726 ≤ n - 1 ∧ n - 1 ≤ 134217726; omega
theorem tkF_r {g : Int → Int} {en n a : Int} (hn : 0 ≤ n) (h : 0 ≤ a ∧ a ≤ 16384) (he : 0 ≤ en ∧ en ≤ 16384) : 0 ≤ (tkF g en n a).1 ∧ (tkF g en n a).1 < 2 ^ n.toNat ∧ 0 ≤ (tkF g en n a).2 ∧ (tkF g en n a).2 ≤ 16384 := by
  unfold tkF
  refine it_inv (I := fun i (x : Int × Int) => 0 ≤ x.1 ∧ x.1 < 2 ^ i.toNat ∧ 0 ≤ x.2 ∧ x.2 ≤ 16384) ?_ ?_ hn
  · show (0 : Int) ≤ 0 ∧ (0 : Int) < 2 ^ (0 : Int).toNat ∧ 0 ≤ a ∧ a ≤ 16384
    exact ⟨by omega, by decide, h.1, h.2⟩
  · intro i y hi _ ⟨h1, h2, h3, h4⟩
    show 0 ≤ 2 * y.1 + tkV g en y.2 ∧ 2 * y.1 + tkV g en y.2 < 2 ^ (i + 1).toNat ∧ 0 ≤ tkA en y.2 ∧ tkA en y.2 ≤ 16384
    have hb := tkV_01 g en y.2
    have ht := tkA_r (en := en) ⟨h3, h4⟩ he
    rw [show (i + 1).toNat = i.toNat + 1 by omega, Int.pow_succ]
    omega
theorem m3_4 : Cond.code y_Bits_put prog_2_method_3_code 2 none ∈ wl := wl_3 4 (by decide +kernel) (by decide +kernel)
theorem m3_24 : Cond.code y_Bits_take prog_2_method_4_code 2 (some .int) ∈ wl := wl_3 24 (by decide +kernel) (by decide +kernel)
theorem m1_167 : Cond.fieldLink "WaveletSlices$Bits" 7 "WaveletSlices$Bits" "at" "I" ∈ wl := wl_1 167 (by decide +kernel) (by decide +kernel)
theorem m1_166 : Cond.fieldLink "WaveletSlices$Bits" 16 "WaveletSlices$Bits" "bytes" "[I" ∈ wl := wl_1 166 (by decide +kernel) (by decide +kernel)
theorem m1_168 : Cond.fieldLink "WaveletSlices$Bits" 13 "WaveletSlices$Bits" "end" "I" ∈ wl := wl_1 168 (by decide +kernel) (by decide +kernel)
theorem m1_7 : Cond.initialized "WaveletSlices$Bits" ∈ wl := wl_1 7 (by decide +kernel) (by decide +kernel)
theorem m3_2 : Cond.instanceMethod y_Bits_put ∈ wl := wl_3 2 (by decide +kernel) (by decide +kernel)
theorem m3_22 : Cond.instanceMethod y_Bits_take ∈ wl := wl_3 22 (by decide +kernel) (by decide +kernel)
theorem m3_1 : Cond.methodLink "WaveletSlices$Bits" 20 y_Bits_put ∈ wl := wl_3 1 (by decide +kernel) (by decide +kernel)
theorem m3_21 : Cond.methodLink "WaveletSlices$Bits" 24 y_Bits_take ∈ wl := wl_3 21 (by decide +kernel) (by decide +kernel)
theorem m3_3 : Cond.selects "WaveletSlices$Bits" y_Bits_put y_Bits_put ∈ wl := wl_3 3 (by decide +kernel) (by decide +kernel)
theorem m3_23 : Cond.selects "WaveletSlices$Bits" y_Bits_take y_Bits_take ∈ wl := wl_3 23 (by decide +kernel) (by decide +kernel)
theorem d_Bits_open_0 : decode prog_2_method_2_code 0 = .ok (.aload_n 0, 1) := by decide +kernel
theorem d_Bits_open_1 : decode prog_2_method_2_code 1 = .ok (.iload_n 1, 1) := by decide +kernel
theorem d_Bits_open_2 : decode prog_2_method_2_code 2 = .ok (.putfield 7, 3) := by decide +kernel
theorem d_Bits_open_5 : decode prog_2_method_2_code 5 = .ok (.aload_n 0, 1) := by decide +kernel
theorem d_Bits_open_6 : decode prog_2_method_2_code 6 = .ok (.iload_n 1, 1) := by decide +kernel
theorem d_Bits_open_7 : decode prog_2_method_2_code 7 = .ok (.iload_n 2, 1) := by decide +kernel
theorem d_Bits_open_8 : decode prog_2_method_2_code 8 = .ok (.iadd, 1) := by decide +kernel
theorem d_Bits_open_9 : decode prog_2_method_2_code 9 = .ok (.putfield 13, 3) := by decide +kernel
theorem d_Bits_open_12 : decode prog_2_method_2_code 12 = .ok (.return_, 1) := by decide +kernel
theorem d_Bits_put_0 : decode prog_2_method_3_code 0 = .ok (.aload_n 0, 1) := by decide +kernel
theorem d_Bits_put_1 : decode prog_2_method_3_code 1 = .ok (.getfield 7, 3) := by decide +kernel
theorem d_Bits_put_4 : decode prog_2_method_3_code 4 = .ok (.aload_n 0, 1) := by decide +kernel
theorem d_Bits_put_5 : decode prog_2_method_3_code 5 = .ok (.getfield 13, 3) := by decide +kernel
theorem d_Bits_put_8 : decode prog_2_method_3_code 8 = .ok (.if_icmp .ge 39, 3) := by decide +kernel
theorem d_Bits_put_11 : decode prog_2_method_3_code 11 = .ok (.aload_n 0, 1) := by decide +kernel
theorem d_Bits_put_12 : decode prog_2_method_3_code 12 = .ok (.getfield 16, 3) := by decide +kernel
theorem d_Bits_put_15 : decode prog_2_method_3_code 15 = .ok (.aload_n 0, 1) := by decide +kernel
theorem d_Bits_put_16 : decode prog_2_method_3_code 16 = .ok (.getfield 7, 3) := by decide +kernel
theorem d_Bits_put_19 : decode prog_2_method_3_code 19 = .ok (.iconst 3, 1) := by decide +kernel
theorem d_Bits_put_20 : decode prog_2_method_3_code 20 = .ok (.ishr, 1) := by decide +kernel
theorem d_Bits_put_21 : decode prog_2_method_3_code 21 = .ok (.dup2, 1) := by decide +kernel
theorem d_Bits_put_22 : decode prog_2_method_3_code 22 = .ok (.iaload, 1) := by decide +kernel
theorem d_Bits_put_23 : decode prog_2_method_3_code 23 = .ok (.iload_n 1, 1) := by decide +kernel
theorem d_Bits_put_24 : decode prog_2_method_3_code 24 = .ok (.bipush 7, 2) := by decide +kernel
theorem d_Bits_put_26 : decode prog_2_method_3_code 26 = .ok (.aload_n 0, 1) := by decide +kernel
theorem d_Bits_put_27 : decode prog_2_method_3_code 27 = .ok (.getfield 7, 3) := by decide +kernel
theorem d_Bits_put_30 : decode prog_2_method_3_code 30 = .ok (.bipush 7, 2) := by decide +kernel
theorem d_Bits_put_32 : decode prog_2_method_3_code 32 = .ok (.iand, 1) := by decide +kernel
theorem d_Bits_put_33 : decode prog_2_method_3_code 33 = .ok (.isub, 1) := by decide +kernel
theorem d_Bits_put_34 : decode prog_2_method_3_code 34 = .ok (.ishl, 1) := by decide +kernel
theorem d_Bits_put_35 : decode prog_2_method_3_code 35 = .ok (.ior, 1) := by decide +kernel
theorem d_Bits_put_36 : decode prog_2_method_3_code 36 = .ok (.iastore, 1) := by decide +kernel
theorem d_Bits_put_37 : decode prog_2_method_3_code 37 = .ok (.aload_n 0, 1) := by decide +kernel
theorem d_Bits_put_38 : decode prog_2_method_3_code 38 = .ok (.dup, 1) := by decide +kernel
theorem d_Bits_put_39 : decode prog_2_method_3_code 39 = .ok (.getfield 7, 3) := by decide +kernel
theorem d_Bits_put_42 : decode prog_2_method_3_code 42 = .ok (.iconst 1, 1) := by decide +kernel
theorem d_Bits_put_43 : decode prog_2_method_3_code 43 = .ok (.iadd, 1) := by decide +kernel
theorem d_Bits_put_44 : decode prog_2_method_3_code 44 = .ok (.putfield 7, 3) := by decide +kernel
theorem d_Bits_put_47 : decode prog_2_method_3_code 47 = .ok (.return_, 1) := by decide +kernel
theorem d_Bits_take_0 : decode prog_2_method_4_code 0 = .ok (.aload_n 0, 1) := by decide +kernel
theorem d_Bits_take_1 : decode prog_2_method_4_code 1 = .ok (.getfield 7, 3) := by decide +kernel
theorem d_Bits_take_4 : decode prog_2_method_4_code 4 = .ok (.aload_n 0, 1) := by decide +kernel
theorem d_Bits_take_5 : decode prog_2_method_4_code 5 = .ok (.getfield 13, 3) := by decide +kernel
theorem d_Bits_take_8 : decode prog_2_method_4_code 8 = .ok (.if_icmp .lt 5, 3) := by decide +kernel
theorem d_Bits_take_11 : decode prog_2_method_4_code 11 = .ok (.iconst 1, 1) := by decide +kernel
theorem d_Bits_take_12 : decode prog_2_method_4_code 12 = .ok (.ireturn, 1) := by decide +kernel
theorem d_Bits_take_13 : decode prog_2_method_4_code 13 = .ok (.aload_n 0, 1) := by decide +kernel
theorem d_Bits_take_14 : decode prog_2_method_4_code 14 = .ok (.getfield 16, 3) := by decide +kernel
theorem d_Bits_take_17 : decode prog_2_method_4_code 17 = .ok (.aload_n 0, 1) := by decide +kernel
theorem d_Bits_take_18 : decode prog_2_method_4_code 18 = .ok (.getfield 7, 3) := by decide +kernel
theorem d_Bits_take_21 : decode prog_2_method_4_code 21 = .ok (.iconst 3, 1) := by decide +kernel
theorem d_Bits_take_22 : decode prog_2_method_4_code 22 = .ok (.ishr, 1) := by decide +kernel
theorem d_Bits_take_23 : decode prog_2_method_4_code 23 = .ok (.iaload, 1) := by decide +kernel
theorem d_Bits_take_24 : decode prog_2_method_4_code 24 = .ok (.bipush 7, 2) := by decide +kernel
theorem d_Bits_take_26 : decode prog_2_method_4_code 26 = .ok (.aload_n 0, 1) := by decide +kernel
theorem d_Bits_take_27 : decode prog_2_method_4_code 27 = .ok (.getfield 7, 3) := by decide +kernel
theorem d_Bits_take_30 : decode prog_2_method_4_code 30 = .ok (.bipush 7, 2) := by decide +kernel
theorem d_Bits_take_32 : decode prog_2_method_4_code 32 = .ok (.iand, 1) := by decide +kernel
theorem d_Bits_take_33 : decode prog_2_method_4_code 33 = .ok (.isub, 1) := by decide +kernel
theorem d_Bits_take_34 : decode prog_2_method_4_code 34 = .ok (.ishr, 1) := by decide +kernel
theorem d_Bits_take_35 : decode prog_2_method_4_code 35 = .ok (.iconst 1, 1) := by decide +kernel
theorem d_Bits_take_36 : decode prog_2_method_4_code 36 = .ok (.iand, 1) := by decide +kernel
theorem d_Bits_take_37 : decode prog_2_method_4_code 37 = .ok (.istore_n 1, 1) := by decide +kernel
theorem d_Bits_take_38 : decode prog_2_method_4_code 38 = .ok (.aload_n 0, 1) := by decide +kernel
theorem d_Bits_take_39 : decode prog_2_method_4_code 39 = .ok (.dup, 1) := by decide +kernel
theorem d_Bits_take_40 : decode prog_2_method_4_code 40 = .ok (.getfield 7, 3) := by decide +kernel
theorem d_Bits_take_43 : decode prog_2_method_4_code 43 = .ok (.iconst 1, 1) := by decide +kernel
theorem d_Bits_take_44 : decode prog_2_method_4_code 44 = .ok (.iadd, 1) := by decide +kernel
theorem d_Bits_take_45 : decode prog_2_method_4_code 45 = .ok (.putfield 7, 3) := by decide +kernel
theorem d_Bits_take_48 : decode prog_2_method_4_code 48 = .ok (.iload_n 1, 1) := by decide +kernel
theorem d_Bits_take_49 : decode prog_2_method_4_code 49 = .ok (.ireturn, 1) := by decide +kernel
theorem d_Bits_takeField_0 : decode prog_2_method_6_code 0 = .ok (.iconst 0, 1) := by decide +kernel
theorem d_Bits_takeField_1 : decode prog_2_method_6_code 1 = .ok (.istore_n 2, 1) := by decide +kernel
theorem d_Bits_takeField_2 : decode prog_2_method_6_code 2 = .ok (.iconst 0, 1) := by decide +kernel
theorem d_Bits_takeField_3 : decode prog_2_method_6_code 3 = .ok (.istore_n 3, 1) := by decide +kernel
theorem d_Bits_takeField_4 : decode prog_2_method_6_code 4 = .ok (.iload_n 3, 1) := by decide +kernel
theorem d_Bits_takeField_5 : decode prog_2_method_6_code 5 = .ok (.iload_n 1, 1) := by decide +kernel
theorem d_Bits_takeField_6 : decode prog_2_method_6_code 6 = .ok (.if_icmp .ge 18, 3) := by decide +kernel
theorem d_Bits_takeField_9 : decode prog_2_method_6_code 9 = .ok (.iconst 2, 1) := by decide +kernel
theorem d_Bits_takeField_10 : decode prog_2_method_6_code 10 = .ok (.iload_n 2, 1) := by decide +kernel
theorem d_Bits_takeField_11 : decode prog_2_method_6_code 11 = .ok (.imul, 1) := by decide +kernel
theorem d_Bits_takeField_12 : decode prog_2_method_6_code 12 = .ok (.aload_n 0, 1) := by decide +kernel
theorem d_Bits_takeField_13 : decode prog_2_method_6_code 13 = .ok (.invokevirtual 24, 3) := by decide +kernel
theorem d_Bits_takeField_16 : decode prog_2_method_6_code 16 = .ok (.iadd, 1) := by decide +kernel
theorem d_Bits_takeField_17 : decode prog_2_method_6_code 17 = .ok (.istore_n 2, 1) := by decide +kernel
theorem d_Bits_takeField_18 : decode prog_2_method_6_code 18 = .ok (.iinc 3 1, 3) := by decide +kernel
theorem d_Bits_takeField_21 : decode prog_2_method_6_code 21 = .ok (.goto (-17), 3) := by decide +kernel
theorem d_Bits_takeField_24 : decode prog_2_method_6_code 24 = .ok (.iload_n 2, 1) := by decide +kernel
theorem d_Bits_takeField_25 : decode prog_2_method_6_code 25 = .ok (.ireturn, 1) := by decide +kernel
theorem d_Bits_putField_0 : decode prog_2_method_5_code 0 = .ok (.iload_n 2, 1) := by decide +kernel
theorem d_Bits_putField_1 : decode prog_2_method_5_code 1 = .ok (.iconst 1, 1) := by decide +kernel
theorem d_Bits_putField_2 : decode prog_2_method_5_code 2 = .ok (.isub, 1) := by decide +kernel
theorem d_Bits_putField_3 : decode prog_2_method_5_code 3 = .ok (.istore_n 3, 1) := by decide +kernel
theorem d_Bits_putField_4 : decode prog_2_method_5_code 4 = .ok (.iload_n 3, 1) := by decide +kernel
theorem d_Bits_putField_5 : decode prog_2_method_5_code 5 = .ok (.ifCond .lt 18, 3) := by decide +kernel
theorem d_Bits_putField_8 : decode prog_2_method_5_code 8 = .ok (.aload_n 0, 1) := by decide +kernel
theorem d_Bits_putField_9 : decode prog_2_method_5_code 9 = .ok (.iload_n 1, 1) := by decide +kernel
theorem d_Bits_putField_10 : decode prog_2_method_5_code 10 = .ok (.iload_n 3, 1) := by decide +kernel
theorem d_Bits_putField_11 : decode prog_2_method_5_code 11 = .ok (.ishr, 1) := by decide +kernel
theorem d_Bits_putField_12 : decode prog_2_method_5_code 12 = .ok (.iconst 1, 1) := by decide +kernel
theorem d_Bits_putField_13 : decode prog_2_method_5_code 13 = .ok (.iand, 1) := by decide +kernel
theorem d_Bits_putField_14 : decode prog_2_method_5_code 14 = .ok (.invokevirtual 20, 3) := by decide +kernel
theorem d_Bits_putField_17 : decode prog_2_method_5_code 17 = .ok (.iinc 3 (-1), 3) := by decide +kernel
theorem d_Bits_putField_20 : decode prog_2_method_5_code 20 = .ok (.goto (-16), 3) := by decide +kernel
theorem d_Bits_putField_23 : decode prog_2_method_5_code 23 = .ok (.return_, 1) := by decide +kernel
abbrev w_Bits_open : List Cond := Cond.code y_Bits_open prog_2_method_2_code 3 none :: wl
abbrev r_Bits_open : Room := { frames := 0, cells := 0, slots := 0, locals := 0 }
set_option maxHeartbeats 4000000 in
set_option maxRecDepth 100000 in
theorem c_Bits_open (l : Launch) (G : k_G) (sz : Nat) (rB rst : Nat) (a1 n1 fa fe : Int) : Met l y_Bits_open w_Bits_open r_Bits_open (k_P G [.ref rB, .int (iv (a1)), .int (iv (n1))] [(rB, .inr (0, [.ref rst, .int (iv (fa)), .int (iv (fe))]))] sz) (qv G (fun u : Int × Int => u = (a1, a1 + n1)) (fun u : Int × Int => [(rB, .inr (0, [.ref rst, .int (iv (u.1)), .int (iv (u.2))]))]) (va_A [(rB, .inr (0, [.ref rst, .int (iv (fa)), .int (iv (fe))]))] sz)) 0 0 (va_A [(rB, .inr (0, [.ref rst, .int (iv (fa)), .int (iv (fe))]))] sz) := by
  refine k_met (fun A => qv G (fun u : Int × Int => u = (a1, a1 + n1)) (fun u : Int × Int => [(rB, .inr (0, [.ref rst, .int (iv (u.1)), .int (iv (u.2))]))]) A) (fun A => A) (by decide) rfl (Nat.le_of_ble_eq_true rfl) (fun p e s m args below meth c ls A Q S hr hlk hnm hl hsz hP hK hD hS hA hT hQ => ?_)
  obtain ⟨hx, hb, hml, hown, hts⟩ := id S
  have hw : ∀ w ∈ wl, w.before args s = true := fun w h => hts w (List.mem_cons_of_mem _ h)
  have hl : lv_has ls 3 [(0, .ref rB), (1, .int (iv (a1))), (2, .int (iv (n1)))] := hl
  refine lv_aload_n hx hb d_Bits_open_0 rfl (lv_at hl 0 rfl) ?_
  refine lv_iload_n hx hb d_Bits_open_1 rfl (lv_at hl 1 rfl) ?_
  refine va_put (D := gD G) (ci := 0) (v := .int (iv (a1))) (ty := .int) (C := R_Bits) (T := F_Bits) (N := 3) hx hb hw in_Bits t_Bits t_Bits_ok n_Bits hown hK hP hD hS 0 rfl rfl 1 (by decide) (hw _ m1_167) (fun _ h => h) rfl (by decide +kernel) rfl rfl (Nat.le_of_ble_eq_true rfl) d_Bits_open_2 (fun H locs hP hD hS => ?_)
  have hP : va_P (gD G) classes [(rB, .inr (0, [.ref rst, .int (iv (a1)), .int (iv (fe))]))] H := hP
  have hD : va_D A [(rB, .inr (0, [.ref rst, .int (iv (a1)), .int (iv (fe))]))] := hD
  refine lv_aload_n hx hb d_Bits_open_5 rfl (lv_at hl 0 rfl) ?_
  refine lv_iload_n hx hb d_Bits_open_6 rfl (lv_at hl 1 rfl) ?_
  refine lv_iload_n hx hb d_Bits_open_7 rfl (lv_at hl 2 rfl) ?_
  refine k_iadd hx hb d_Bits_open_8 ?_
  refine va_put (D := gD G) (ci := 0) (v := .int (iv (a1 + n1))) (ty := .int) (C := R_Bits) (T := F_Bits) (N := 3) hx hb hw in_Bits t_Bits t_Bits_ok n_Bits hown hK hP hD hS 0 rfl rfl 2 (by decide) (hw _ m1_168) (fun _ h => h) rfl (by decide +kernel) rfl rfl (Nat.le_of_ble_eq_true rfl) d_Bits_open_9 (fun H locs hP hD hS => ?_)
  have hP : va_P (gD G) classes [(rB, .inr (0, [.ref rst, .int (iv (a1)), .int (iv (a1 + n1))]))] H := hP
  have hD : va_D A [(rB, .inr (0, [.ref rst, .int (iv (a1)), .int (iv (a1 + n1))]))] := hD
  exact k_vret hx hb hr hlk hQ ((a1, a1 + n1)) (rfl) hP hD hS d_Bits_open_12
abbrev w_Bits_put : List Cond := Cond.code y_Bits_put prog_2_method_3_code 2 none :: wl
abbrev r_Bits_put : Room := { frames := 0, cells := 0, slots := 0, locals := 0 }
set_option maxHeartbeats 4000000 in
set_option maxRecDepth 100000 in
theorem c_Bits_put (l : Launch) (G : k_G) (sz : Nat) (rB rst : Nat) (bit fa fe : Int) (g : Int → Int) (hfa : 0 ≤ fa ∧ fa ≤ 16384) (hfe : 0 ≤ fe ∧ fe ≤ 16384) : Met l y_Bits_put w_Bits_put r_Bits_put (k_P G [.ref rB, .int (iv (bit))] [(rB, .inr (0, [.ref rst, .int (iv (fa)), .int (iv (fe))])), (rst, ai (gI G) 2048 (g))] sz) (qv G (fun u : Int × (Int → Int) => u = pt fe bit (fa, g)) (fun u : Int × (Int → Int) => [(rB, .inr (0, [.ref rst, .int (iv (u.1)), .int (iv (fe))])), (rst, ai (gI G) 2048 (u.2))]) (va_A [(rB, .inr (0, [.ref rst, .int (iv (fa)), .int (iv (fe))])), (rst, ai (gI G) 2048 (g))] sz)) 0 0 (va_A [(rB, .inr (0, [.ref rst, .int (iv (fa)), .int (iv (fe))])), (rst, ai (gI G) 2048 (g))] sz) := by
  refine k_met (fun A => qv G (fun u : Int × (Int → Int) => u = pt fe bit (fa, g)) (fun u : Int × (Int → Int) => [(rB, .inr (0, [.ref rst, .int (iv (u.1)), .int (iv (fe))])), (rst, ai (gI G) 2048 (u.2))]) A) (fun A => A) (by decide) rfl (Nat.le_of_ble_eq_true rfl) (fun p e s m args below meth c ls A Q S hr hlk hnm hl hsz hP hK hD hS hA hT hQ => ?_)
  obtain ⟨hx, hb, hml, hown, hts⟩ := id S
  have hw : ∀ w ∈ wl, w.before args s = true := fun w h => hts w (List.mem_cons_of_mem _ h)
  have hl : lv_has ls 2 [(0, .ref rB), (1, .int (iv (bit)))] := hl
  refine lv_aload_n hx hb d_Bits_put_0 rfl (lv_at hl 0 rfl) ?_
  refine va_get (D := gD G) (ci := 0) (v := .int (iv (fa))) (C := R_Bits) (T := F_Bits) (N := 3) hx hb hw in_Bits hown hK hP 0 rfl rfl 1 (by decide) (hw _ m1_167) (fun _ h => h) rfl d_Bits_put_1 ?_
  refine lv_aload_n hx hb d_Bits_put_4 rfl (lv_at hl 0 rfl) ?_
  refine va_get (D := gD G) (ci := 0) (v := .int (iv (fe))) (C := R_Bits) (T := F_Bits) (N := 3) hx hb hw in_Bits hown hK hP 0 rfl rfl 2 (by decide) (hw _ m1_168) (fun _ h => h) rfl d_Bits_put_5 ?_
  refine k_icmp_ge (tgt := 47) hx hb d_Bits_put_8 (by decide) (by omega) (by omega) (fun hc8 => ?_) (fun hc8 => ?_)
  · exact k_vret hx hb hr hlk hQ ((fa, g)) (by first | rw [pt_t (by omega)] | rw [pt_f (by omega)]) hP hD hS d_Bits_put_47
  · refine lv_aload_n hx hb d_Bits_put_11 rfl (lv_at hl 0 rfl) ?_
    refine va_get (D := gD G) (ci := 0) (v := .ref rst) (C := R_Bits) (T := F_Bits) (N := 3) hx hb hw in_Bits hown hK hP 0 rfl rfl 0 (by decide) (hw _ m1_166) (fun _ h => h) rfl d_Bits_put_12 ?_
    refine lv_aload_n hx hb d_Bits_put_15 rfl (lv_at hl 0 rfl) ?_
    refine va_get (D := gD G) (ci := 0) (v := .int (iv (fa))) (C := R_Bits) (T := F_Bits) (N := 3) hx hb hw in_Bits hown hK hP 0 rfl rfl 1 (by decide) (hw _ m1_167) (fun _ h => h) rfl d_Bits_put_16 ?_
    refine lv_iconst (v := iv (3)) hx hb d_Bits_put_19 rfl ?_
    refine k_ishrc 3 8 rfl (by decide) rfl hx hb d_Bits_put_20 (by omega) ?_
    refine lv_dup2_11 hx hb d_Bits_put_21 rfl rfl ?_
    refine k_ial hx hb hK hP 1 0 rfl rfl (by decide) (by omega) d_Bits_put_22 ?_
    refine lv_iload_n hx hb d_Bits_put_23 rfl (lv_at hl 1 rfl) ?_
    refine lv_bipush (v := iv (7)) hx hb d_Bits_put_24 rfl ?_
    refine lv_aload_n hx hb d_Bits_put_26 rfl (lv_at hl 0 rfl) ?_
    refine va_get (D := gD G) (ci := 0) (v := .int (iv (fa))) (C := R_Bits) (T := F_Bits) (N := 3) hx hb hw in_Bits hown hK hP 0 rfl rfl 1 (by decide) (hw _ m1_167) (fun _ h => h) rfl d_Bits_put_27 ?_
    refine lv_bipush (v := iv (7)) hx hb d_Bits_put_30 rfl ?_
    refine k_iandc 3 8 rfl (by decide) rfl hx hb d_Bits_put_32 ?_
    refine k_isub hx hb d_Bits_put_33 ?_
    refine k_ishl hx hb d_Bits_put_34 (by omega) ?_
    refine k_ior hx hb d_Bits_put_35 ?_
    refine k_ias hx hb hK hP hD hS 1 0 rfl rfl (by decide) (by omega) d_Bits_put_36 (fun H locs hP hD hS => ?_)
    have hP : va_P (gD G) classes [(rB, .inr (0, [.ref rst, .int (iv (fa)), .int (iv (fe))])), (rst, ai (gI G) 2048 (up g (fa / 8) (orI (g (fa / 8)) (bit * 2 ^ (7 - (fa % 8)).toNat))))] H := hP
    have hD : va_D A [(rB, .inr (0, [.ref rst, .int (iv (fa)), .int (iv (fe))])), (rst, ai (gI G) 2048 (up g (fa / 8) (orI (g (fa / 8)) (bit * 2 ^ (7 - (fa % 8)).toNat))))] := hD
    refine lv_aload_n hx hb d_Bits_put_37 rfl (lv_at hl 0 rfl) ?_
    refine lv_dup hx hb d_Bits_put_38 rfl ?_
    refine va_get (D := gD G) (ci := 0) (v := .int (iv (fa))) (C := R_Bits) (T := F_Bits) (N := 3) hx hb hw in_Bits hown hK hP 0 rfl rfl 1 (by decide) (hw _ m1_167) (fun _ h => h) rfl d_Bits_put_39 ?_
    refine lv_iconst (v := iv (1)) hx hb d_Bits_put_42 rfl ?_
    refine k_iadd hx hb d_Bits_put_43 ?_
    refine va_put (D := gD G) (ci := 0) (v := .int (iv (fa + 1))) (ty := .int) (C := R_Bits) (T := F_Bits) (N := 3) hx hb hw in_Bits t_Bits t_Bits_ok n_Bits hown hK hP hD hS 0 rfl rfl 1 (by decide) (hw _ m1_167) (fun _ h => h) rfl (by decide +kernel) rfl rfl (Nat.le_of_ble_eq_true rfl) d_Bits_put_44 (fun H locs hP hD hS => ?_)
    have hP : va_P (gD G) classes [(rB, .inr (0, [.ref rst, .int (iv (fa + 1)), .int (iv (fe))])), (rst, ai (gI G) 2048 (up g (fa / 8) (orI (g (fa / 8)) (bit * 2 ^ (7 - (fa % 8)).toNat))))] H := hP
    have hD : va_D A [(rB, .inr (0, [.ref rst, .int (iv (fa + 1)), .int (iv (fe))])), (rst, ai (gI G) 2048 (up g (fa / 8) (orI (g (fa / 8)) (bit * 2 ^ (7 - (fa % 8)).toNat))))] := hD
    exact k_vret hx hb hr hlk hQ ((fa + 1, up g (fa / 8) (orI (g (fa / 8)) (bit * 2 ^ (7 - (fa % 8)).toNat)))) (by first | rw [pt_t (by omega)] | rw [pt_f (by omega)]) hP hD hS d_Bits_put_47
abbrev w_Bits_take : List Cond := Cond.code y_Bits_take prog_2_method_4_code 2 (some .int) :: wl
abbrev r_Bits_take : Room := { frames := 0, cells := 0, slots := 0, locals := 0 }
set_option maxHeartbeats 4000000 in
set_option maxRecDepth 100000 in
theorem c_Bits_take (l : Launch) (G : k_G) (sz : Nat) (rB rst : Nat) (fa fe : Int) (g : Int → Int) (hfa : 0 ≤ fa ∧ fa ≤ 16384) (hfe : 0 ≤ fe ∧ fe ≤ 16384) (hg : ∀ j, 0 ≤ g j ∧ g j < 256) : Met l y_Bits_take w_Bits_take r_Bits_take (k_P G [.ref rB] [(rB, .inr (0, [.ref rst, .int (iv (fa)), .int (iv (fe))])), (rst, ai (gI G) 2048 (g))] sz) (qi G (fun (r : Int32) (u : Int × Int) => r = iv (u.1) ∧ (u = (tkV g fe fa, tkA fe fa))) (fun u : Int × Int => [(rB, .inr (0, [.ref rst, .int (iv (u.2)), .int (iv (fe))])), (rst, ai (gI G) 2048 (g))]) (va_A [(rB, .inr (0, [.ref rst, .int (iv (fa)), .int (iv (fe))])), (rst, ai (gI G) 2048 (g))] sz)) 0 0 (va_A [(rB, .inr (0, [.ref rst, .int (iv (fa)), .int (iv (fe))])), (rst, ai (gI G) 2048 (g))] sz) := by
  refine k_met (fun A => qi G (fun (r : Int32) (u : Int × Int) => r = iv (u.1) ∧ (u = (tkV g fe fa, tkA fe fa))) (fun u : Int × Int => [(rB, .inr (0, [.ref rst, .int (iv (u.2)), .int (iv (fe))])), (rst, ai (gI G) 2048 (g))]) A) (fun A => A) (by decide) rfl (Nat.le_of_ble_eq_true rfl) (fun p e s m args below meth c ls A Q S hr hlk hnm hl hsz hP hK hD hS hA hT hQ => ?_)
  obtain ⟨hx, hb, hml, hown, hts⟩ := id S
  have hw : ∀ w ∈ wl, w.before args s = true := fun w h => hts w (List.mem_cons_of_mem _ h)
  have hl : lv_has ls 2 [(0, .ref rB)] := hl
  refine lv_aload_n hx hb d_Bits_take_0 rfl (lv_at hl 0 rfl) ?_
  refine va_get (D := gD G) (ci := 0) (v := .int (iv (fa))) (C := R_Bits) (T := F_Bits) (N := 3) hx hb hw in_Bits hown hK hP 0 rfl rfl 1 (by decide) (hw _ m1_167) (fun _ h => h) rfl d_Bits_take_1 ?_
  refine lv_aload_n hx hb d_Bits_take_4 rfl (lv_at hl 0 rfl) ?_
  refine va_get (D := gD G) (ci := 0) (v := .int (iv (fe))) (C := R_Bits) (T := F_Bits) (N := 3) hx hb hw in_Bits hown hK hP 0 rfl rfl 2 (by decide) (hw _ m1_168) (fun _ h => h) rfl d_Bits_take_5 ?_
  refine k_icmp_lt (tgt := 13) hx hb d_Bits_take_8 (by decide) (by omega) (by omega) (fun hc8 => ?_) (fun hc8 => ?_)
  · refine lv_aload_n hx hb d_Bits_take_13 rfl (lv_at hl 0 rfl) ?_
    refine va_get (D := gD G) (ci := 0) (v := .ref rst) (C := R_Bits) (T := F_Bits) (N := 3) hx hb hw in_Bits hown hK hP 0 rfl rfl 0 (by decide) (hw _ m1_166) (fun _ h => h) rfl d_Bits_take_14 ?_
    refine lv_aload_n hx hb d_Bits_take_17 rfl (lv_at hl 0 rfl) ?_
    refine va_get (D := gD G) (ci := 0) (v := .int (iv (fa))) (C := R_Bits) (T := F_Bits) (N := 3) hx hb hw in_Bits hown hK hP 0 rfl rfl 1 (by decide) (hw _ m1_167) (fun _ h => h) rfl d_Bits_take_18 ?_
    refine lv_iconst (v := iv (3)) hx hb d_Bits_take_21 rfl ?_
    refine k_ishrc 3 8 rfl (by decide) rfl hx hb d_Bits_take_22 (by omega) ?_
    have hq := hg (fa / 8)
    refine k_ial hx hb hK hP 1 0 rfl rfl (by decide) (by omega) d_Bits_take_23 ?_
    refine lv_bipush (v := iv (7)) hx hb d_Bits_take_24 rfl ?_
    refine lv_aload_n hx hb d_Bits_take_26 rfl (lv_at hl 0 rfl) ?_
    refine va_get (D := gD G) (ci := 0) (v := .int (iv (fa))) (C := R_Bits) (T := F_Bits) (N := 3) hx hb hw in_Bits hown hK hP 0 rfl rfl 1 (by decide) (hw _ m1_167) (fun _ h => h) rfl d_Bits_take_27 ?_
    refine lv_bipush (v := iv (7)) hx hb d_Bits_take_30 rfl ?_
    refine k_iandc 3 8 rfl (by decide) rfl hx hb d_Bits_take_32 ?_
    refine k_isub hx hb d_Bits_take_33 ?_
    refine k_ishr hx hb d_Bits_take_34 (by omega) (by omega) ?_
    refine lv_iconst (v := iv (1)) hx hb d_Bits_take_35 rfl ?_
    refine k_iandc 1 2 rfl (by decide) rfl hx hb d_Bits_take_36 ?_
    refine lv_istore_n hx hb d_Bits_take_37 rfl hl (by decide) rfl (fun ls hl => ?_)
    have hl : lv_has ls 2 [(1, .int (iv (((g (fa / 8)) / 2 ^ (7 - (fa % 8)).toNat) % 2))), (0, .ref rB)] := hl
    refine lv_aload_n hx hb d_Bits_take_38 rfl (lv_at hl 1 rfl) ?_
    refine lv_dup hx hb d_Bits_take_39 rfl ?_
    refine va_get (D := gD G) (ci := 0) (v := .int (iv (fa))) (C := R_Bits) (T := F_Bits) (N := 3) hx hb hw in_Bits hown hK hP 0 rfl rfl 1 (by decide) (hw _ m1_167) (fun _ h => h) rfl d_Bits_take_40 ?_
    refine lv_iconst (v := iv (1)) hx hb d_Bits_take_43 rfl ?_
    refine k_iadd hx hb d_Bits_take_44 ?_
    refine va_put (D := gD G) (ci := 0) (v := .int (iv (fa + 1))) (ty := .int) (C := R_Bits) (T := F_Bits) (N := 3) hx hb hw in_Bits t_Bits t_Bits_ok n_Bits hown hK hP hD hS 0 rfl rfl 1 (by decide) (hw _ m1_167) (fun _ h => h) rfl (by decide +kernel) rfl rfl (Nat.le_of_ble_eq_true rfl) d_Bits_take_45 (fun H locs hP hD hS => ?_)
    have hP : va_P (gD G) classes [(rB, .inr (0, [.ref rst, .int (iv (fa + 1)), .int (iv (fe))])), (rst, ai (gI G) 2048 (g))] H := hP
    have hD : va_D A [(rB, .inr (0, [.ref rst, .int (iv (fa + 1)), .int (iv (fe))])), (rst, ai (gI G) 2048 (g))] := hD
    refine lv_iload_n hx hb d_Bits_take_48 rfl (lv_at hl 0 rfl) ?_
    exact k_iret hx hb hr hlk hQ ((((g (fa / 8)) / 2 ^ (7 - (fa % 8)).toNat) % 2, fa + 1)) (⟨rfl, by rw [tkV_t (by omega), tkA_t (by omega)]; rfl⟩) hP hD hS d_Bits_take_49
  · refine lv_iconst (v := iv (1)) hx hb d_Bits_take_11 rfl ?_
    exact k_iret hx hb hr hlk hQ ((1, fa)) (⟨rfl, by rw [tkV_f (by omega), tkA_f (by omega)]⟩) hP hD hS d_Bits_take_12
abbrev w_Bits_takeField : List Cond := Cond.code y_Bits_takeField prog_2_method_6_code 4 (some .int) :: wl
abbrev r_Bits_takeField : Room := { frames := 1, cells := 0, slots := 0, locals := 21 }
set_option maxHeartbeats 4000000 in
set_option maxRecDepth 100000 in
theorem c_Bits_takeField (l : Launch) (G : k_G) (sz : Nat) (rB rst : Nat) (n0 fa fe : Int) (g : Int → Int) (hfa : 0 ≤ fa ∧ fa ≤ 16384) (hfe : 0 ≤ fe ∧ fe ≤ 16384) (hg : ∀ j, 0 ≤ g j ∧ g j < 256) (hn0 : 0 ≤ n0 ∧ n0 ≤ 16) : Met l y_Bits_takeField w_Bits_takeField r_Bits_takeField (k_P G [.ref rB, .int (iv (n0))] [(rB, .inr (0, [.ref rst, .int (iv (fa)), .int (iv (fe))])), (rst, ai (gI G) 2048 (g))] sz) (qi G (fun (r : Int32) (u : Int × Int) => r = iv (u.1) ∧ (u = tkF g fe n0 fa)) (fun u : Int × Int => [(rB, .inr (0, [.ref rst, .int (iv (u.2)), .int (iv (fe))])), (rst, ai (gI G) 2048 (g))]) (va_A [(rB, .inr (0, [.ref rst, .int (iv (fa)), .int (iv (fe))])), (rst, ai (gI G) 2048 (g))] sz)) 0 0 (va_A [(rB, .inr (0, [.ref rst, .int (iv (fa)), .int (iv (fe))])), (rst, ai (gI G) 2048 (g))] sz) := by
  refine k_met (fun A => qi G (fun (r : Int32) (u : Int × Int) => r = iv (u.1) ∧ (u = tkF g fe n0 fa)) (fun u : Int × Int => [(rB, .inr (0, [.ref rst, .int (iv (u.2)), .int (iv (fe))])), (rst, ai (gI G) 2048 (g))]) A) (fun A => A) (by decide) rfl (Nat.le_of_ble_eq_true rfl) (fun p e s m args below meth c ls A Q S hr hlk hnm hl hsz hP hK hD hS hA hT hQ => ?_)
  obtain ⟨hx, hb, hml, hown, hts⟩ := id S
  have hw : ∀ w ∈ wl, w.before args s = true := fun w h => hts w (List.mem_cons_of_mem _ h)
  have hl : lv_has ls 4 [(0, .ref rB), (1, .int (iv (n0)))] := hl
  refine lv_iconst (v := iv (0)) hx hb d_Bits_takeField_0 rfl ?_
  refine lv_istore_n hx hb d_Bits_takeField_1 rfl hl (by decide) rfl (fun ls hl => ?_)
  have hl : lv_has ls 4 [(2, .int (iv (0))), (0, .ref rB), (1, .int (iv (n0)))] := hl
  refine lv_iconst (v := iv (0)) hx hb d_Bits_takeField_2 rfl ?_
  refine lv_istore_n hx hb d_Bits_takeField_3 rfl hl (by decide) rfl (fun ls hl => ?_)
  have hl : lv_has ls 4 [(3, .int (iv (0))), (2, .int (iv (0))), (0, .ref rB), (1, .int (iv (n0)))] := hl
  refine lo_up (P := fun i => ∀ (ls : Array Slot) (H : Heap) (locs : List Loc) (v1 : Int) (fa1 : Int), lv_has ls 4 [(0, .ref rB), (1, .int (iv (n0))), (2, .int (iv (v1))), (3, .int (iv (i)))] → va_P (gD G) classes [(rB, .inr (0, [.ref rst, .int (iv (fa1)), .int (iv (fe))])), (rst, ai (gI G) 2048 (g))] H → va_D A [(rB, .inr (0, [.ref rst, .int (iv (fa1)), .int (iv (fe))])), (rst, ai (gI G) 2048 (g))] → va_S A s.heap H locs → ((v1, fa1) = it (tkf g fe) 0 i (0, fa)) → (0 ≤ fa1 ∧ fa1 ≤ 16384) → W p l e r_Bits_takeField s m args below meth c H locs 0 0 Q (F0 m 4 ls [])) (a := 0) (b := n0) (fun i hii hji ihi => ?_) _ _ _ 0 fa (lv_sub hl [2, 3, 1, 0] rfl) hP hD hS (it_self _ _ _).symm hfa
  intro ls H locs v1 fa1 hl hP hD hS hs hrg
  refine lv_iload_n hx hb d_Bits_takeField_4 rfl (lv_at hl 3 rfl) ?_
  refine lv_iload_n hx hb d_Bits_takeField_5 rfl (lv_at hl 1 rfl) ?_
  refine k_icmp_ge (tgt := 24) hx hb d_Bits_takeField_6 (by decide) (by omega) (by omega) (fun hc6 => ?_) (fun hc6 => ?_)
  · refine lv_iload_n hx hb d_Bits_takeField_24 rfl (lv_at hl 2 rfl) ?_
    exact k_iret hx hb hr hlk hQ ((v1, fa1)) (⟨rfl, by rw [hs]; exact it_x _ _ hc6 hji⟩) hP hD hS d_Bits_takeField_25
  · refine lv_iconst (v := iv (2)) hx hb d_Bits_takeField_9 rfl ?_
    refine lv_iload_n hx hb d_Bits_takeField_10 rfl (lv_at hl 2 rfl) ?_
    refine k_imul hx hb d_Bits_takeField_11 ?_
    refine lv_aload_n hx hb d_Bits_takeField_12 rfl (lv_at hl 0 rfl) ?_
    refine k_ci (wz := fun u : Int × Int => [(rB, .inr (0, [.ref rst, .int (iv (u.2)), .int (iv (fe))])), (rst, ai (gI G) 2048 (g))]) (wr := []) (k_rv S (c_Bits_take l G _ rB rst fa1 fe g (by omega) (by omega) hg) 0 m3_24 m3_21 m3_22 m3_23 m1_7 (by decide +kernel) (by decide) rfl rfl (k_preV (q0 := 0) hK hP hD hS hA hT rfl rfl [0, 1] (by decide) rfl) rfl hl.1 rfl (Nat.le_of_ble_eq_true rfl) d_Bits_takeField_13 ⟨Nat.le_of_ble_eq_true rfl, Nat.le_of_ble_eq_true rfl⟩) hP hD hS hA [0, 1] [] [0, 1] rfl rfl (by decide) (by decide) (by decide) (fun _ => rfl) (fun r13 u13 H locs h13 hP hD hS => ?_)
    obtain ⟨b13, fa13⟩ := u13
    have hP : va_P (gD G) classes [(rB, .inr (0, [.ref rst, .int (iv (fa13)), .int (iv (fe))])), (rst, ai (gI G) 2048 (g))] H := hP
    have hD : va_D A [(rB, .inr (0, [.ref rst, .int (iv (fa13)), .int (iv (fe))])), (rst, ai (gI G) 2048 (g))] := hD
    obtain ⟨hr13, h13⟩ := h13
    subst hr13
    try dsimp only at h13
    refine k_iadd hx hb d_Bits_takeField_16 ?_
    refine lv_istore_n hx hb d_Bits_takeField_17 rfl hl (by decide) rfl (fun ls hl => ?_)
    have hl : lv_has ls 4 [(2, .int (iv ((2 * v1) + b13))), (0, .ref rB), (1, .int (iv (n0))), (3, .int (iv (i)))] := hl
    refine lv_iinc (k := 3) (v := iv (i + 1)) hx hb d_Bits_takeField_18 hl rfl (iv_add _ _) (by decide) rfl (fun ls hl => ?_)
    have hl : lv_has ls 4 [(3, .int (iv (i + 1))), (2, .int (iv ((2 * v1) + b13))), (0, .ref rB), (1, .int (iv (n0)))] := hl
    refine lv_goto (tgt := 4) hx hb d_Bits_takeField_21 (by decide) ?_
    obtain ⟨q1, q2⟩ := Prod.mk.inj h13
    exact ihi (by omega) _ _ _ ((2 * v1) + b13) fa13 (lv_sub hl [2, 3, 1, 0] rfl) hP hD hS (by rw [it_s _ _ hii, ← hs]; show _ = (2 * v1 + tkV g fe fa1, tkA fe fa1); rw [q1, q2]) (by rw [q2]; exact tkA_r hrg hfe)
abbrev w_Bits_putField : List Cond := Cond.code y_Bits_putField prog_2_method_5_code 4 none :: wl
abbrev r_Bits_putField : Room := { frames := 1, cells := 0, slots := 0, locals := 21 }
set_option maxHeartbeats 4000000 in
set_option maxRecDepth 100000 in
theorem c_Bits_putField (l : Launch) (G : k_G) (sz : Nat) (rB rst : Nat) (v0 n0 fa fe : Int) (g : Int → Int) (hfa : 0 ≤ fa ∧ fa ≤ 16384) (hfe : 0 ≤ fe ∧ fe ≤ 16384) (hv0 : -2147483648 ≤ v0 ∧ v0 < 2147483648) (hn0 : 0 ≤ n0 ∧ n0 ≤ 16) : Met l y_Bits_putField w_Bits_putField r_Bits_putField (k_P G [.ref rB, .int (iv (v0)), .int (iv (n0))] [(rB, .inr (0, [.ref rst, .int (iv (fa)), .int (iv (fe))])), (rst, ai (gI G) 2048 (g))] sz) (qv G (fun u : Int × (Int → Int) => u = ptF fe v0 n0 (fa, g)) (fun u : Int × (Int → Int) => [(rB, .inr (0, [.ref rst, .int (iv (u.1)), .int (iv (fe))])), (rst, ai (gI G) 2048 (u.2))]) (va_A [(rB, .inr (0, [.ref rst, .int (iv (fa)), .int (iv (fe))])), (rst, ai (gI G) 2048 (g))] sz)) 0 0 (va_A [(rB, .inr (0, [.ref rst, .int (iv (fa)), .int (iv (fe))])), (rst, ai (gI G) 2048 (g))] sz) := by
  refine k_met (fun A => qv G (fun u : Int × (Int → Int) => u = ptF fe v0 n0 (fa, g)) (fun u : Int × (Int → Int) => [(rB, .inr (0, [.ref rst, .int (iv (u.1)), .int (iv (fe))])), (rst, ai (gI G) 2048 (u.2))]) A) (fun A => A) (by decide) rfl (Nat.le_of_ble_eq_true rfl) (fun p e s m args below meth c ls A Q S hr hlk hnm hl hsz hP hK hD hS hA hT hQ => ?_)
  obtain ⟨hx, hb, hml, hown, hts⟩ := id S
  have hw : ∀ w ∈ wl, w.before args s = true := fun w h => hts w (List.mem_cons_of_mem _ h)
  have hl : lv_has ls 4 [(0, .ref rB), (1, .int (iv (v0))), (2, .int (iv (n0)))] := hl
  refine lv_iload_n hx hb d_Bits_putField_0 rfl (lv_at hl 2 rfl) ?_
  refine lv_iconst (v := iv (1)) hx hb d_Bits_putField_1 rfl ?_
  refine k_isub hx hb d_Bits_putField_2 ?_
  refine lv_istore_n hx hb d_Bits_putField_3 rfl hl (by decide) rfl (fun ls hl => ?_)
  have hl : lv_has ls 4 [(3, .int (iv (n0 - 1))), (0, .ref rB), (1, .int (iv (v0))), (2, .int (iv (n0)))] := hl
  refine lo_dn (P := fun i => ∀ (ls : Array Slot) (H : Heap) (locs : List Loc) (fa1 : Int) (g1 : Int → Int), lv_has ls 4 [(0, .ref rB), (1, .int (iv (v0))), (2, .int (iv (n0))), (3, .int (iv (i)))] → va_P (gD G) classes [(rB, .inr (0, [.ref rst, .int (iv (fa1)), .int (iv (fe))])), (rst, ai (gI G) 2048 (g1))] H → va_D A [(rB, .inr (0, [.ref rst, .int (iv (fa1)), .int (iv (fe))])), (rst, ai (gI G) 2048 (g1))] → va_S A s.heap H locs → ((fa1, g1) = it (ptf fe v0 n0) 0 (n0 - 1 - i) (fa, g)) → (0 ≤ fa1 ∧ fa1 ≤ 16384) → W p l e r_Bits_putField s m args below meth c H locs 0 0 Q (F0 m 4 ls [])) (a := n0 - 1) (fun i hii hji ihi => ?_) _ _ _ fa g (lv_sub hl [1, 2, 3, 0] rfl) hP hD hS (by rw [Int.sub_self, it_self]) hfa
  intro ls H locs fa1 g1 hl hP hD hS hs hrg
  refine lv_iload_n hx hb d_Bits_putField_4 rfl (lv_at hl 3 rfl) ?_
  refine k_if_lt (tgt := 23) hx hb d_Bits_putField_5 (by decide) (by omega) (fun hc5 => ?_) (fun hc5 => ?_)
  · exact k_vret hx hb hr hlk hQ ((fa1, g1)) (by rw [hs]; unfold ptF; exact it_x _ _ (by omega) (by omega)) hP hD hS d_Bits_putField_23
  · refine lv_aload_n hx hb d_Bits_putField_8 rfl (lv_at hl 0 rfl) ?_
    refine lv_iload_n hx hb d_Bits_putField_9 rfl (lv_at hl 1 rfl) ?_
    refine lv_iload_n hx hb d_Bits_putField_10 rfl (lv_at hl 3 rfl) ?_
    refine k_ishr hx hb d_Bits_putField_11 (by omega) (by omega) ?_
    refine lv_iconst (v := iv (1)) hx hb d_Bits_putField_12 rfl ?_
    refine k_iandc 1 2 rfl (by decide) rfl hx hb d_Bits_putField_13 ?_
    refine k_cv (wz := fun u : Int × (Int → Int) => [(rB, .inr (0, [.ref rst, .int (iv (u.1)), .int (iv (fe))])), (rst, ai (gI G) 2048 (u.2))]) (wr := []) (k_rv S (c_Bits_put l G _ rB rst ((v0 / 2 ^ (i).toNat) % 2) fa1 fe g1 (by omega) (by omega)) 1 m3_4 m3_1 m3_2 m3_3 m1_7 (by decide +kernel) (by decide) rfl rfl (k_preV (q0 := 0) hK hP hD hS hA hT rfl rfl [0, 1] (by decide) rfl) rfl hl.1 rfl (Nat.le_of_ble_eq_true rfl) d_Bits_putField_14 ⟨Nat.le_of_ble_eq_true rfl, Nat.le_of_ble_eq_true rfl⟩) hP hD hS hA [0, 1] [] [0, 1] rfl rfl (by decide) (by decide) (by decide) (fun _ => rfl) (fun u14 H locs h14 hP hD hS => ?_)
    obtain ⟨fa14, g14⟩ := u14
    have hP : va_P (gD G) classes [(rB, .inr (0, [.ref rst, .int (iv (fa14)), .int (iv (fe))])), (rst, ai (gI G) 2048 (g14))] H := hP
    have hD : va_D A [(rB, .inr (0, [.ref rst, .int (iv (fa14)), .int (iv (fe))])), (rst, ai (gI G) 2048 (g14))] := hD
    try dsimp only at h14
    refine lv_iinc (k := 3) (v := iv (i + (-1))) hx hb d_Bits_putField_17 hl rfl (iv_add _ _) (by decide) rfl (fun ls hl => ?_)
    have hl : lv_has ls 4 [(3, .int (iv (i + (-1)))), (0, .ref rB), (1, .int (iv (v0))), (2, .int (iv (n0)))] := hl
    refine lv_goto (tgt := 4) hx hb d_Bits_putField_20 (by decide) ?_
    have hq := pt_r (b := v0 / 2 ^ i.toNat % 2) (x := (fa1, g1)) hrg hfe
    rw [← h14] at hq
    exact ihi (by omega) _ _ _ fa14 g14 (lv_sub hl [1, 2, 3, 0] rfl) hP hD hS (by rw [show n0 - 1 - (i + (-1)) = (n0 - 1 - i) + 1 by omega, it_s _ _ (by omega), ← hs]; show _ = pt fe (v0 / 2 ^ (n0 - 1 - (n0 - 1 - i)).toNat % 2) (fa1, g1); rw [show n0 - 1 - (n0 - 1 - i) = i by omega]; exact h14) hq
