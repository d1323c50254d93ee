/-! cells: int, byte and long arrays by functions on the integers -/
abbrev ai (cA : ClassId) (n : Nat) (g : Int → Int) : va_E := .inl (cA, n, .inl (fun j : Nat => iv (g (j : Int))))
abbrev al (cA : ClassId) (n : Nat) (g : Int → Int64) : va_E := .inl (cA, n, .inr (.inl (fun j : Nat => g (j : Int))))
/-- a byte by its integer -/
def b8 (z : Int) : Int := z.bmod 256
theorem upd_up (g : Int → Int) {z v : Int} (h0 : 0 ≤ z) (h1 : z < 2147483648) : upd (fun j : Nat => iv (g (j : Int))) (iv z).toNatClampNeg (iv v) = fun j : Nat => iv (up g z v (j : Int)) := by
  funext j
  rw [iv_clamp h0 h1]
  unfold upd up
  by_cases h : j = z.toNat
  · rw [if_pos h, if_pos (by omega)]
  · rw [if_neg h, if_neg (by omega)]
theorem updL_up (g : Int → Int64) {z : Int} {v : Int64} (h0 : 0 ≤ z) (h1 : z < 2147483648) : vp_updL (fun j : Nat => g (j : Int)) (iv z).toNatClampNeg v = fun j : Nat => up g z v (j : Int) := by
  funext j
  rw [iv_clamp h0 h1]
  unfold vp_updL up
  by_cases h : j = z.toNat
  · rw [if_pos h, if_pos (by omega)]
  · rw [if_neg h, if_neg (by omega)]
theorem nar_b8 (v : Int) : vp_nar .byte (iv v) = iv (b8 v) := by
  rw [vp_nar_byte]
  show (Int32.ofInt v).toInt8.toInt32 = Int32.ofInt (v.bmod 256)
  rw [Int32.toInt8_ofInt, ← Int32.ofInt_int8ToInt]
  congr 1
  exact Int8.toInt_ofInt
theorem lg_z (x y : Int64) : (lg_cmp x y = 0 ↔ x = y) ∧ (lg_cmp x y < 0 ↔ x < y) ∧ (0 ≤ lg_cmp x y ↔ y ≤ x) ∧ (0 < lg_cmp x y ↔ y < x) ∧ (lg_cmp x y ≤ 0 ↔ x ≤ y) := by
  unfold lg_cmp
  simp only [gt_iff_lt, Int64.lt_iff_toInt_lt, Int64.le_iff_toInt_le, ← Int64.toInt_inj]
  have a1 : ¬ ((1 : Int32) = 0) := by decide
  have a2 : ¬ ((1 : Int32) < 0) := by decide
  have a3 : ((0 : Int32) ≤ 1) := by decide
  have a4 : ((0 : Int32) < 1) := by decide
  have a5 : ¬ ((1 : Int32) ≤ 0) := by decide
  have b1 : ¬ ((-1 : Int32) = 0) := by decide
  have b2 : ((-1 : Int32) < 0) := by decide
  have b3 : ¬ ((0 : Int32) ≤ -1) := by decide
  have b4 : ¬ ((0 : Int32) < -1) := by decide
  have b5 : ((-1 : Int32) ≤ 0) := by decide
  have c2 : ¬ ((0 : Int32) < 0) := by decide
  have c3 : ((0 : Int32) ≤ 0) := by decide
  by_cases h1 : y.toInt < x.toInt
  · rw [if_pos h1]
    exact ⟨iff_of_false a1 (by omega), iff_of_false a2 (by omega), iff_of_true a3 (by omega), iff_of_true a4 (by omega), iff_of_false a5 (by omega)⟩
  · rw [if_neg h1]
    by_cases h2 : x.toInt = y.toInt
    · rw [if_pos h2]
      exact ⟨iff_of_true rfl h2, iff_of_false c2 (by omega), iff_of_true c3 (by omega), iff_of_false c2 (by omega), iff_of_true c3 (by omega)⟩
    · rw [if_neg h2]
      exact ⟨iff_of_false b1 h2, iff_of_true b2 (by omega), iff_of_false b3 (by omega), iff_of_false b4 (by omega), iff_of_true b5 (by omega)⟩
/-! a truth value by its integer; or; shifts of longs -/
def bI (B : Prop) [Decidable B] : Int := if B then 1 else 0
theorem bI_t {B : Prop} [Decidable B] (h : B) : bI B = 1 := if_pos h
theorem bI_f {B : Prop} [Decidable B] (h : ¬ B) : bI B = 0 := if_neg h
theorem bI_0 (B : Prop) [Decidable B] : bI B = 0 ↔ ¬ B := by
  unfold bI; by_cases h : B <;> simp [h]
theorem bI_r (B : Prop) [Decidable B] : -2147483648 ≤ bI B ∧ bI B < 2147483648 := by
  unfold bI; by_cases h : B <;> simp [h]
theorem bI_z (B : Prop) [Decidable B] : bI B = 0 ∨ bI B = 1 := by
  unfold bI; by_cases h : B <;> simp [h]
def orI (a b : Int) : Int := (iv a ||| iv b).toInt
theorem iv_or (a b : Int) : iv (orI a b) = iv a ||| iv b := Int32.ofInt_toInt _
def shL (x : Int64) (a : Int) : Int64 := x <<< ((iv a).toInt64 &&& 63)
def shR (x : Int64) (a : Int) : Int64 := x >>> ((iv a).toInt64 &&& 63)
section KR
variable {p : Program} {l : Launch} {e : Env} {R : Room} {s : State} {m : MethodId} {args : Array Value} {below : List Frame} {meth : Method} {c : Code} {H : Heap} {locs : List Loc} {cells slots : Nat} {Q : State → Prop}
variable {cc : ByteArray} {pc : Nat} {ls : Array Slot} {rest : List Value} {D : va_G} {cl : List vw_C} {tys : List (ClassId × FieldType)} {ws : va_W} {A : Nat → Prop} {H0 : Heap}
theorem k_iadd (hx : p.tables.exec = Jvm.exec) (hb : c.code = cc) {a b : Int} (d : decode cc pc = .ok (.iadd, 1))
    (k : W p l e R s m args below meth c H locs cells slots Q (F0 m (pc + 1) ls (.int (iv (a + b)) :: rest))) : W p l e R s m args below meth c H locs cells slots Q (F0 m pc ls (.int (iv b) :: .int (iv a) :: rest)) :=
  lv_iadd hx hb d (by rw [iv_add]; exact k)
theorem k_isub (hx : p.tables.exec = Jvm.exec) (hb : c.code = cc) {a b : Int} (d : decode cc pc = .ok (.isub, 1))
    (k : W p l e R s m args below meth c H locs cells slots Q (F0 m (pc + 1) ls (.int (iv (a - b)) :: rest))) : W p l e R s m args below meth c H locs cells slots Q (F0 m pc ls (.int (iv b) :: .int (iv a) :: rest)) :=
  lv_isub hx hb d (by rw [iv_sub]; exact k)
theorem k_imul (hx : p.tables.exec = Jvm.exec) (hb : c.code = cc) {a b : Int} (d : decode cc pc = .ok (.imul, 1))
    (k : W p l e R s m args below meth c H locs cells slots Q (F0 m (pc + 1) ls (.int (iv (a * b)) :: rest))) : W p l e R s m args below meth c H locs cells slots Q (F0 m pc ls (.int (iv b) :: .int (iv a) :: rest)) :=
  lv_imul hx hb d (by rw [iv_mul]; exact k)
theorem k_ineg (hx : p.tables.exec = Jvm.exec) (hb : c.code = cc) {a : Int} (d : decode cc pc = .ok (.ineg, 1))
    (k : W p l e R s m args below meth c H locs cells slots Q (F0 m (pc + 1) ls (.int (iv (-a)) :: rest))) : W p l e R s m args below meth c H locs cells slots Q (F0 m pc ls (.int (iv a) :: rest)) :=
  lv_ineg hx hb d (by first | (rw [iv_neg]; exact k) | (rw [iv_zero, iv_sub, Int.zero_sub]; exact k))
theorem k_idiv (hx : p.tables.exec = Jvm.exec) (hb : c.code = cc) {a b : Int} (d : decode cc pc = .ok (.idiv, 1)) (ha : 0 ≤ a ∧ a < 2147483648) (hbb : 0 < b ∧ b < 2147483648)
    (k : W p l e R s m args below meth c H locs cells slots Q (F0 m (pc + 1) ls (.int (iv (a / b)) :: rest))) : W p l e R s m args below meth c H locs cells slots Q (F0 m pc ls (.int (iv b) :: .int (iv a) :: rest)) :=
  lv_idiv hx hb d (by rw [iv_zero, iv_eq ⟨by omega, by omega⟩ ⟨by omega, by omega⟩]; omega) (by rw [iv_div ha.1 ha.2 hbb.1 hbb.2]; exact k)
theorem k_irem (hx : p.tables.exec = Jvm.exec) (hb : c.code = cc) {a b : Int} (d : decode cc pc = .ok (.irem, 1)) (ha : 0 ≤ a ∧ a < 2147483648) (hbb : 0 < b ∧ b < 2147483648)
    (k : W p l e R s m args below meth c H locs cells slots Q (F0 m (pc + 1) ls (.int (iv (a % b)) :: rest))) : W p l e R s m args below meth c H locs cells slots Q (F0 m pc ls (.int (iv b) :: .int (iv a) :: rest)) :=
  lv_irem hx hb d (by rw [iv_zero, iv_eq ⟨by omega, by omega⟩ ⟨by omega, by omega⟩]; omega) (by rw [iv_rem ha.1 ha.2 hbb.1 hbb.2]; exact k)
theorem k_ishl (hx : p.tables.exec = Jvm.exec) (hb : c.code = cc) {a b : Int} (d : decode cc pc = .ok (.ishl, 1)) (hbb : 0 ≤ b ∧ b < 32)
    (k : W p l e R s m args below meth c H locs cells slots Q (F0 m (pc + 1) ls (.int (iv (a * 2 ^ b.toNat)) :: rest))) : W p l e R s m args below meth c H locs cells slots Q (F0 m pc ls (.int (iv b) :: .int (iv a) :: rest)) :=
  lv_ishl hx hb d (by rw [iv_shl hbb]; exact k)
theorem k_ishr (hx : p.tables.exec = Jvm.exec) (hb : c.code = cc) {a b : Int} (d : decode cc pc = .ok (.ishr, 1)) (ha : -2147483648 ≤ a ∧ a < 2147483648) (hbb : 0 ≤ b ∧ b < 32)
    (k : W p l e R s m args below meth c H locs cells slots Q (F0 m (pc + 1) ls (.int (iv (a / 2 ^ b.toNat)) :: rest))) : W p l e R s m args below meth c H locs cells slots Q (F0 m pc ls (.int (iv b) :: .int (iv a) :: rest)) :=
  lv_ishr hx hb d (by rw [iv_shr ha hbb]; exact k)
theorem k_iand (hx : p.tables.exec = Jvm.exec) (hb : c.code = cc) {a b : Int} (n : Nat) (hn : n ≤ 31) (hm : b = 2 ^ n - 1) (d : decode cc pc = .ok (.iand, 1))
    (k : W p l e R s m args below meth c H locs cells slots Q (F0 m (pc + 1) ls (.int (iv (a % 2 ^ n)) :: rest))) : W p l e R s m args below meth c H locs cells slots Q (F0 m pc ls (.int (iv b) :: .int (iv a) :: rest)) :=
  lv_iand hx hb d (by rw [iv_and n hn hm]; exact k)
theorem k_i2l (hx : p.tables.exec = Jvm.exec) (hb : c.code = cc) {a : Int} (d : decode cc pc = .ok (.i2l, 1)) (ha : -2147483648 ≤ a ∧ a < 2147483648)
    (k : W p l e R s m args below meth c H locs cells slots Q (F0 m (pc + 1) ls (.long (lw a) :: rest))) : W p l e R s m args below meth c H locs cells slots Q (F0 m pc ls (.int (iv a) :: rest)) :=
  lv_i2l hx hb d (lw_of ha) k
theorem k_l2i (hx : p.tables.exec = Jvm.exec) (hb : c.code = cc) {x : Int64} (d : decode cc pc = .ok (.l2i, 1))
    (k : W p l e R s m args below meth c H locs cells slots Q (F0 m (pc + 1) ls (.int (iv x.toInt) :: rest))) : W p l e R s m args below meth c H locs cells slots Q (F0 m pc ls (.long x :: rest)) :=
  lv_l2i hx hb d (iv_l2i x) k
theorem k_i2b (hx : p.tables.exec = Jvm.exec) (hb : c.code = cc) {a : Int} (d : decode cc pc = .ok (.i2b, 1))
    (k : W p l e R s m args below meth c H locs cells slots Q (F0 m (pc + 1) ls (.int (iv (b8 a)) :: rest))) : W p l e R s m args below meth c H locs cells slots Q (F0 m pc ls (.int (iv a) :: rest)) :=
  lv_i2b hx hb d (by rw [← nar_b8, vp_nar_byte]) k
/-- the top of the stack by another name -/
theorem k_eqi {a b : Int} (h : a = b) (k : W p l e R s m args below meth c H locs cells slots Q (F0 m pc ls (.int (iv b) :: rest))) : W p l e R s m args below meth c H locs cells slots Q (F0 m pc ls (.int (iv a) :: rest)) := h ▸ k
theorem k_eql {a b : Int64} (h : a = b) (k : W p l e R s m args below meth c H locs cells slots Q (F0 m pc ls (.long b :: rest))) : W p l e R s m args below meth c H locs cells slots Q (F0 m pc ls (.long a :: rest)) := h ▸ k
theorem k_nmi {a : Int} (k : ∀ z : Int, z = a → W p l e R s m args below meth c H locs cells slots Q (F0 m pc ls (.int (iv z) :: rest))) : W p l e R s m args below meth c H locs cells slots Q (F0 m pc ls (.int (iv a) :: rest)) := k a rfl
theorem k_nml {a : Int64} (k : ∀ z : Int64, z = a → W p l e R s m args below meth c H locs cells slots Q (F0 m pc ls (.long z :: rest))) : W p l e R s m args below meth c H locs cells slots Q (F0 m pc ls (.long a :: rest)) := k a rfl
theorem k_icmp_eq (hx : p.tables.exec = Jvm.exec) (hb : c.code = cc) {a b : Int} {off : Int} {tgt : Nat} (d : decode cc pc = .ok (.if_icmp .eq off, 3)) (ht : (pc : Int) + off = (tgt : Int)) (ha : -2147483648 ≤ a ∧ a < 2147483648) (hbb : -2147483648 ≤ b ∧ b < 2147483648)
    (kt : a = b → W p l e R s m args below meth c H locs cells slots Q (F0 m tgt ls rest)) (kf : ¬ a = b → W p l e R s m args below meth c H locs cells slots Q (F0 m (pc + 3) ls rest)) : W p l e R s m args below meth c H locs cells slots Q (F0 m pc ls (.int (iv b) :: .int (iv a) :: rest)) :=
  lv_icmp_eq hx hb d ht (fun h => kt ((iv_eq ha hbb).mp h)) (fun h => kf (fun q => h ((iv_eq ha hbb).mpr q)))
theorem k_icmp_ne (hx : p.tables.exec = Jvm.exec) (hb : c.code = cc) {a b : Int} {off : Int} {tgt : Nat} (d : decode cc pc = .ok (.if_icmp .ne off, 3)) (ht : (pc : Int) + off = (tgt : Int)) (ha : -2147483648 ≤ a ∧ a < 2147483648) (hbb : -2147483648 ≤ b ∧ b < 2147483648)
    (kt : ¬ a = b → W p l e R s m args below meth c H locs cells slots Q (F0 m tgt ls rest)) (kf : a = b → W p l e R s m args below meth c H locs cells slots Q (F0 m (pc + 3) ls rest)) : W p l e R s m args below meth c H locs cells slots Q (F0 m pc ls (.int (iv b) :: .int (iv a) :: rest)) :=
  lv_icmp_ne hx hb d ht (fun h => kt (fun q => h ((iv_eq ha hbb).mpr q))) (fun h => kf ((iv_eq ha hbb).mp (h)))
theorem k_icmp_lt (hx : p.tables.exec = Jvm.exec) (hb : c.code = cc) {a b : Int} {off : Int} {tgt : Nat} (d : decode cc pc = .ok (.if_icmp .lt off, 3)) (ht : (pc : Int) + off = (tgt : Int)) (ha : -2147483648 ≤ a ∧ a < 2147483648) (hbb : -2147483648 ≤ b ∧ b < 2147483648)
    (kt : a < b → W p l e R s m args below meth c H locs cells slots Q (F0 m tgt ls rest)) (kf : b ≤ a → W p l e R s m args below meth c H locs cells slots Q (F0 m (pc + 3) ls rest)) : W p l e R s m args below meth c H locs cells slots Q (F0 m pc ls (.int (iv b) :: .int (iv a) :: rest)) :=
  lv_icmp_lt hx hb d ht (fun h => kt ((iv_lt ha hbb).mp h)) (fun h => kf (by rw [iv_lt ha hbb] at h; omega))
theorem k_icmp_ge (hx : p.tables.exec = Jvm.exec) (hb : c.code = cc) {a b : Int} {off : Int} {tgt : Nat} (d : decode cc pc = .ok (.if_icmp .ge off, 3)) (ht : (pc : Int) + off = (tgt : Int)) (ha : -2147483648 ≤ a ∧ a < 2147483648) (hbb : -2147483648 ≤ b ∧ b < 2147483648)
    (kt : b ≤ a → W p l e R s m args below meth c H locs cells slots Q (F0 m tgt ls rest)) (kf : a < b → W p l e R s m args below meth c H locs cells slots Q (F0 m (pc + 3) ls rest)) : W p l e R s m args below meth c H locs cells slots Q (F0 m pc ls (.int (iv b) :: .int (iv a) :: rest)) :=
  lv_icmp_ge hx hb d ht (fun h => kt ((iv_le hbb ha).mp h)) (fun h => kf (by rw [iv_le hbb ha] at h; omega))
theorem k_icmp_gt (hx : p.tables.exec = Jvm.exec) (hb : c.code = cc) {a b : Int} {off : Int} {tgt : Nat} (d : decode cc pc = .ok (.if_icmp .gt off, 3)) (ht : (pc : Int) + off = (tgt : Int)) (ha : -2147483648 ≤ a ∧ a < 2147483648) (hbb : -2147483648 ≤ b ∧ b < 2147483648)
    (kt : b < a → W p l e R s m args below meth c H locs cells slots Q (F0 m tgt ls rest)) (kf : a ≤ b → W p l e R s m args below meth c H locs cells slots Q (F0 m (pc + 3) ls rest)) : W p l e R s m args below meth c H locs cells slots Q (F0 m pc ls (.int (iv b) :: .int (iv a) :: rest)) :=
  lv_icmp_gt hx hb d ht (fun h => kt ((iv_lt hbb ha).mp h)) (fun h => kf (by rw [iv_lt hbb ha] at h; omega))
theorem k_icmp_le (hx : p.tables.exec = Jvm.exec) (hb : c.code = cc) {a b : Int} {off : Int} {tgt : Nat} (d : decode cc pc = .ok (.if_icmp .le off, 3)) (ht : (pc : Int) + off = (tgt : Int)) (ha : -2147483648 ≤ a ∧ a < 2147483648) (hbb : -2147483648 ≤ b ∧ b < 2147483648)
    (kt : a ≤ b → W p l e R s m args below meth c H locs cells slots Q (F0 m tgt ls rest)) (kf : b < a → W p l e R s m args below meth c H locs cells slots Q (F0 m (pc + 3) ls rest)) : W p l e R s m args below meth c H locs cells slots Q (F0 m pc ls (.int (iv b) :: .int (iv a) :: rest)) :=
  lv_icmp_le hx hb d ht (fun h => kt ((iv_le ha hbb).mp h)) (fun h => kf (by rw [iv_le ha hbb] at h; omega))
theorem z0 : -2147483648 ≤ (0 : Int) ∧ (0 : Int) < 2147483648 := by omega
theorem k_if_eq (hx : p.tables.exec = Jvm.exec) (hb : c.code = cc) {a : Int} {off : Int} {tgt : Nat} (d : decode cc pc = .ok (.ifCond .eq off, 3)) (ht : (pc : Int) + off = (tgt : Int)) (ha : -2147483648 ≤ a ∧ a < 2147483648)
    (kt : a = 0 → W p l e R s m args below meth c H locs cells slots Q (F0 m tgt ls rest)) (kf : ¬ a = 0 → W p l e R s m args below meth c H locs cells slots Q (F0 m (pc + 3) ls rest)) : W p l e R s m args below meth c H locs cells slots Q (F0 m pc ls (.int (iv a) :: rest)) :=
  lv_if_eq hx hb d ht (fun h => kt ((iv_eq ha z0).mp (by rw [← iv_zero]; exact h))) (fun h => kf (fun q => h (by rw [iv_zero]; exact (iv_eq ha z0).mpr q)))
theorem k_if_ne (hx : p.tables.exec = Jvm.exec) (hb : c.code = cc) {a : Int} {off : Int} {tgt : Nat} (d : decode cc pc = .ok (.ifCond .ne off, 3)) (ht : (pc : Int) + off = (tgt : Int)) (ha : -2147483648 ≤ a ∧ a < 2147483648)
    (kt : ¬ a = 0 → W p l e R s m args below meth c H locs cells slots Q (F0 m tgt ls rest)) (kf : a = 0 → W p l e R s m args below meth c H locs cells slots Q (F0 m (pc + 3) ls rest)) : W p l e R s m args below meth c H locs cells slots Q (F0 m pc ls (.int (iv a) :: rest)) :=
  lv_if_ne hx hb d ht (fun h => kt (fun q => h (by rw [iv_zero]; exact (iv_eq ha z0).mpr q))) (fun h => kf ((iv_eq ha z0).mp (by rw [← iv_zero]; exact h)))
theorem k_if_lt (hx : p.tables.exec = Jvm.exec) (hb : c.code = cc) {a : Int} {off : Int} {tgt : Nat} (d : decode cc pc = .ok (.ifCond .lt off, 3)) (ht : (pc : Int) + off = (tgt : Int)) (ha : -2147483648 ≤ a ∧ a < 2147483648)
    (kt : a < 0 → W p l e R s m args below meth c H locs cells slots Q (F0 m tgt ls rest)) (kf : 0 ≤ a → W p l e R s m args below meth c H locs cells slots Q (F0 m (pc + 3) ls rest)) : W p l e R s m args below meth c H locs cells slots Q (F0 m pc ls (.int (iv a) :: rest)) :=
  lv_if_lt hx hb d ht (fun h => kt ((iv_lt ha z0).mp (by rw [← iv_zero]; exact h))) (fun h => kf (by rw [iv_zero, iv_lt ha z0] at h; omega))
theorem k_if_ge (hx : p.tables.exec = Jvm.exec) (hb : c.code = cc) {a : Int} {off : Int} {tgt : Nat} (d : decode cc pc = .ok (.ifCond .ge off, 3)) (ht : (pc : Int) + off = (tgt : Int)) (ha : -2147483648 ≤ a ∧ a < 2147483648)
    (kt : 0 ≤ a → W p l e R s m args below meth c H locs cells slots Q (F0 m tgt ls rest)) (kf : a < 0 → W p l e R s m args below meth c H locs cells slots Q (F0 m (pc + 3) ls rest)) : W p l e R s m args below meth c H locs cells slots Q (F0 m pc ls (.int (iv a) :: rest)) :=
  lv_if_ge hx hb d ht (fun h => kt ((iv_le z0 ha).mp (by rw [← iv_zero]; exact h))) (fun h => kf (by rw [iv_zero, iv_le z0 ha] at h; omega))
theorem k_if_gt (hx : p.tables.exec = Jvm.exec) (hb : c.code = cc) {a : Int} {off : Int} {tgt : Nat} (d : decode cc pc = .ok (.ifCond .gt off, 3)) (ht : (pc : Int) + off = (tgt : Int)) (ha : -2147483648 ≤ a ∧ a < 2147483648)
    (kt : 0 < a → W p l e R s m args below meth c H locs cells slots Q (F0 m tgt ls rest)) (kf : a ≤ 0 → W p l e R s m args below meth c H locs cells slots Q (F0 m (pc + 3) ls rest)) : W p l e R s m args below meth c H locs cells slots Q (F0 m pc ls (.int (iv a) :: rest)) :=
  lv_if_gt hx hb d ht (fun h => kt ((iv_lt z0 ha).mp (by rw [← iv_zero]; exact h))) (fun h => kf (by rw [iv_zero, iv_lt z0 ha] at h; omega))
theorem k_if_le (hx : p.tables.exec = Jvm.exec) (hb : c.code = cc) {a : Int} {off : Int} {tgt : Nat} (d : decode cc pc = .ok (.ifCond .le off, 3)) (ht : (pc : Int) + off = (tgt : Int)) (ha : -2147483648 ≤ a ∧ a < 2147483648)
    (kt : a ≤ 0 → W p l e R s m args below meth c H locs cells slots Q (F0 m tgt ls rest)) (kf : 0 < a → W p l e R s m args below meth c H locs cells slots Q (F0 m (pc + 3) ls rest)) : W p l e R s m args below meth c H locs cells slots Q (F0 m pc ls (.int (iv a) :: rest)) :=
  lv_if_le hx hb d ht (fun h => kt ((iv_le ha z0).mp (by rw [← iv_zero]; exact h))) (fun h => kf (by rw [iv_zero, iv_le ha z0] at h; omega))
theorem k_leq (hx : p.tables.exec = Jvm.exec) (hb : c.code = cc) {x y : Int64} {off : Int} {tgt : Nat} (d1 : decode cc pc = .ok (.lcmp, 1)) (d : decode cc (pc + 1) = .ok (.ifCond .eq off, 3)) (ht : ((pc + 1 : Nat) : Int) + off = (tgt : Int))
    (kt : x = y → W p l e R s m args below meth c H locs cells slots Q (F0 m tgt ls rest)) (kf : ¬ x = y → W p l e R s m args below meth c H locs cells slots Q (F0 m (pc + 1 + 3) ls rest)) : W p l e R s m args below meth c H locs cells slots Q (F0 m pc ls (.long y :: .long x :: rest)) :=
  W.lcmp hx hb d1 (lv_if_eq hx hb d ht (fun h => kt ((lg_z x y).1.mp h)) (fun h => kf (fun q => h ((lg_z x y).1.mpr q))))
theorem k_lne (hx : p.tables.exec = Jvm.exec) (hb : c.code = cc) {x y : Int64} {off : Int} {tgt : Nat} (d1 : decode cc pc = .ok (.lcmp, 1)) (d : decode cc (pc + 1) = .ok (.ifCond .ne off, 3)) (ht : ((pc + 1 : Nat) : Int) + off = (tgt : Int))
    (kt : ¬ x = y → W p l e R s m args below meth c H locs cells slots Q (F0 m tgt ls rest)) (kf : x = y → W p l e R s m args below meth c H locs cells slots Q (F0 m (pc + 1 + 3) ls rest)) : W p l e R s m args below meth c H locs cells slots Q (F0 m pc ls (.long y :: .long x :: rest)) :=
  W.lcmp hx hb d1 (lv_if_ne hx hb d ht (fun h => kt (fun q => h ((lg_z x y).1.mpr q))) (fun h => kf ((lg_z x y).1.mp (h))))
theorem k_llt (hx : p.tables.exec = Jvm.exec) (hb : c.code = cc) {x y : Int64} {off : Int} {tgt : Nat} (d1 : decode cc pc = .ok (.lcmp, 1)) (d : decode cc (pc + 1) = .ok (.ifCond .lt off, 3)) (ht : ((pc + 1 : Nat) : Int) + off = (tgt : Int))
    (kt : x < y → W p l e R s m args below meth c H locs cells slots Q (F0 m tgt ls rest)) (kf : ¬ x < y → W p l e R s m args below meth c H locs cells slots Q (F0 m (pc + 1 + 3) ls rest)) : W p l e R s m args below meth c H locs cells slots Q (F0 m pc ls (.long y :: .long x :: rest)) :=
  W.lcmp hx hb d1 (lv_if_lt hx hb d ht (fun h => kt ((lg_z x y).2.1.mp h)) (fun h => kf (fun q => h ((lg_z x y).2.1.mpr q))))
theorem k_lge (hx : p.tables.exec = Jvm.exec) (hb : c.code = cc) {x y : Int64} {off : Int} {tgt : Nat} (d1 : decode cc pc = .ok (.lcmp, 1)) (d : decode cc (pc + 1) = .ok (.ifCond .ge off, 3)) (ht : ((pc + 1 : Nat) : Int) + off = (tgt : Int))
    (kt : y ≤ x → W p l e R s m args below meth c H locs cells slots Q (F0 m tgt ls rest)) (kf : ¬ y ≤ x → W p l e R s m args below meth c H locs cells slots Q (F0 m (pc + 1 + 3) ls rest)) : W p l e R s m args below meth c H locs cells slots Q (F0 m pc ls (.long y :: .long x :: rest)) :=
  W.lcmp hx hb d1 (lv_if_ge hx hb d ht (fun h => kt ((lg_z x y).2.2.1.mp h)) (fun h => kf (fun q => h ((lg_z x y).2.2.1.mpr q))))
theorem k_lgt (hx : p.tables.exec = Jvm.exec) (hb : c.code = cc) {x y : Int64} {off : Int} {tgt : Nat} (d1 : decode cc pc = .ok (.lcmp, 1)) (d : decode cc (pc + 1) = .ok (.ifCond .gt off, 3)) (ht : ((pc + 1 : Nat) : Int) + off = (tgt : Int))
    (kt : y < x → W p l e R s m args below meth c H locs cells slots Q (F0 m tgt ls rest)) (kf : ¬ y < x → W p l e R s m args below meth c H locs cells slots Q (F0 m (pc + 1 + 3) ls rest)) : W p l e R s m args below meth c H locs cells slots Q (F0 m pc ls (.long y :: .long x :: rest)) :=
  W.lcmp hx hb d1 (lv_if_gt hx hb d ht (fun h => kt ((lg_z x y).2.2.2.1.mp h)) (fun h => kf (fun q => h ((lg_z x y).2.2.2.1.mpr q))))
theorem k_lle (hx : p.tables.exec = Jvm.exec) (hb : c.code = cc) {x y : Int64} {off : Int} {tgt : Nat} (d1 : decode cc pc = .ok (.lcmp, 1)) (d : decode cc (pc + 1) = .ok (.ifCond .le off, 3)) (ht : ((pc + 1 : Nat) : Int) + off = (tgt : Int))
    (kt : x ≤ y → W p l e R s m args below meth c H locs cells slots Q (F0 m tgt ls rest)) (kf : ¬ x ≤ y → W p l e R s m args below meth c H locs cells slots Q (F0 m (pc + 1 + 3) ls rest)) : W p l e R s m args below meth c H locs cells slots Q (F0 m pc ls (.long y :: .long x :: rest)) :=
  W.lcmp hx hb d1 (lv_if_le hx hb d ht (fun h => kt ((lg_z x y).2.2.2.2.mp h)) (fun h => kf (fun q => h ((lg_z x y).2.2.2.2.mpr q))))
theorem k_ial (hx : p.tables.exec = Jvm.exec) (hb : c.code = cc) (hK : va_K D cl tys s) (hP : va_P D cl ws H) (q0 t0 : Nat) {a : Nat} {cA : ClassId} {n : Nat} {g : Int → Int} (ha : ws[q0]? = some (a, ai cA n g)) (ht : tys[t0]? = some (cA, .int)) (hn : n < 2147483648) {z : Int} (hz : 0 ≤ z ∧ z < (n : Int)) (d : decode cc pc = .ok (.iaload, 1))
    (k : W p l e R s m args below meth c H locs cells slots Q (F0 m (pc + 1) ls (.int (iv (g z)) :: rest))) : W p l e R s m args below meth c H locs cells slots Q (F0 m pc ls (.int (iv z) :: .ref a :: rest)) := by
  refine va_iald hx hb hK hP q0 t0 ha ht (iv_in hz.1 hz.2 hn) d ?_
  rw [iv_clamp hz.1 (by omega), Int.toNat_of_nonneg hz.1]
  exact k
theorem k_bal (hx : p.tables.exec = Jvm.exec) (hb : c.code = cc) (hK : va_K D cl tys s) (hP : va_P D cl ws H) (q0 t0 : Nat) {a : Nat} {cA : ClassId} {n : Nat} {g : Int → Int} (ha : ws[q0]? = some (a, ai cA n g)) (ht : tys[t0]? = some (cA, .byte)) (hn : n < 2147483648) {z : Int} (hz : 0 ≤ z ∧ z < (n : Int)) (d : decode cc pc = .ok (.baload, 1))
    (k : W p l e R s m args below meth c H locs cells slots Q (F0 m (pc + 1) ls (.int (iv (g z)) :: rest))) : W p l e R s m args below meth c H locs cells slots Q (F0 m pc ls (.int (iv z) :: .ref a :: rest)) := by
  refine va_bald hx hb hK hP q0 t0 ha ht (iv_in hz.1 hz.2 hn) d ?_
  rw [iv_clamp hz.1 (by omega), Int.toNat_of_nonneg hz.1]
  exact k
theorem k_lal (hx : p.tables.exec = Jvm.exec) (hb : c.code = cc) (hK : va_K D cl tys s) (hP : va_P D cl ws H) (q0 t0 : Nat) {a : Nat} {cA : ClassId} {n : Nat} {g : Int → Int64} (ha : ws[q0]? = some (a, al cA n g)) (ht : tys[t0]? = some (cA, .long)) (hn : n < 2147483648) {z : Int} (hz : 0 ≤ z ∧ z < (n : Int)) (d : decode cc pc = .ok (.laload, 1))
    (k : W p l e R s m args below meth c H locs cells slots Q (F0 m (pc + 1) ls (.long (g z) :: rest))) : W p l e R s m args below meth c H locs cells slots Q (F0 m pc ls (.int (iv z) :: .ref a :: rest)) := by
  refine va_lald hx hb hK hP q0 t0 ha ht (iv_in hz.1 hz.2 hn) d ?_
  rw [iv_clamp hz.1 (by omega), Int.toNat_of_nonneg hz.1]
  exact k
theorem k_ias (hx : p.tables.exec = Jvm.exec) (hb : c.code = cc) (hK : va_K D cl tys s) (hP : va_P D cl ws H) (hD : va_D A ws) (hS : va_S A H0 H locs) (q0 t0 : Nat) {a : Nat} {cA : ClassId} {n : Nat} {g : Int → Int} (ha : ws[q0]? = some (a, ai cA n g)) (ht : tys[t0]? = some (cA, .int)) (hn : n < 2147483648) {z v : Int} (hz : 0 ≤ z ∧ z < (n : Int)) (d : decode cc pc = .ok (.iastore, 1))
    (k : ∀ (H1 : Heap) (locs1 : List Loc), va_P D cl (ws.set q0 (a, ai cA n (up g z v))) H1 → va_D A (ws.set q0 (a, ai cA n (up g z v))) → va_S A H0 H1 locs1 → W p l e R s m args below meth c H1 locs1 cells slots Q (F0 m (pc + 1) ls rest)) : W p l e R s m args below meth c H locs cells slots Q (F0 m pc ls (.int (iv v) :: .int (iv z) :: .ref a :: rest)) := by
  refine va_iast hx hb hK hP hD hS q0 t0 ha ht (iv_in hz.1 hz.2 hn) d (fun H1 locs1 hP1 hD1 hS1 => ?_)
  rw [upd_up g hz.1 (by omega)] at hP1 hD1
  exact k H1 locs1 hP1 hD1 hS1
theorem k_bas (hx : p.tables.exec = Jvm.exec) (hb : c.code = cc) (hK : va_K D cl tys s) (hP : va_P D cl ws H) (hD : va_D A ws) (hS : va_S A H0 H locs) (q0 t0 : Nat) {a : Nat} {cA : ClassId} {n : Nat} {g : Int → Int} (ha : ws[q0]? = some (a, ai cA n g)) (ht : tys[t0]? = some (cA, .byte)) (hn : n < 2147483648) {z v : Int} (hz : 0 ≤ z ∧ z < (n : Int)) (d : decode cc pc = .ok (.bastore, 1))
    (k : ∀ (H1 : Heap) (locs1 : List Loc), va_P D cl (ws.set q0 (a, ai cA n (up g z (b8 v)))) H1 → va_D A (ws.set q0 (a, ai cA n (up g z (b8 v)))) → va_S A H0 H1 locs1 → W p l e R s m args below meth c H1 locs1 cells slots Q (F0 m (pc + 1) ls rest)) : W p l e R s m args below meth c H locs cells slots Q (F0 m pc ls (.int (iv v) :: .int (iv z) :: .ref a :: rest)) := by
  refine va_bast hx hb hK hP hD hS q0 t0 ha ht (iv_in hz.1 hz.2 hn) d (fun H1 locs1 hP1 hD1 hS1 => ?_)
  rw [nar_b8, upd_up g hz.1 (by omega)] at hP1 hD1
  exact k H1 locs1 hP1 hD1 hS1
theorem k_las (hx : p.tables.exec = Jvm.exec) (hb : c.code = cc) (hK : va_K D cl tys s) (hP : va_P D cl ws H) (hD : va_D A ws) (hS : va_S A H0 H locs) (q0 t0 : Nat) {a : Nat} {cA : ClassId} {n : Nat} {g : Int → Int64} (ha : ws[q0]? = some (a, al cA n g)) (ht : tys[t0]? = some (cA, .long)) (hn : n < 2147483648) {z : Int} {v : Int64} (hz : 0 ≤ z ∧ z < (n : Int)) (d : decode cc pc = .ok (.lastore, 1))
    (k : ∀ (H1 : Heap) (locs1 : List Loc), va_P D cl (ws.set q0 (a, al cA n (up g z v))) H1 → va_D A (ws.set q0 (a, al cA n (up g z v))) → va_S A H0 H1 locs1 → W p l e R s m args below meth c H1 locs1 cells slots Q (F0 m (pc + 1) ls rest)) : W p l e R s m args below meth c H locs cells slots Q (F0 m pc ls (.long v :: .int (iv z) :: .ref a :: rest)) := by
  refine va_last hx hb hK hP hD hS q0 t0 ha ht (iv_in hz.1 hz.2 hn) d (fun H1 locs1 hP1 hD1 hS1 => ?_)
  rw [updL_up g hz.1 (by omega)] at hP1 hD1
  exact k H1 locs1 hP1 hD1 hS1
theorem k_ldc (hx : p.tables.exec = Jvm.exec) (hb : c.code = cc) {own : String} {index : Nat} {v : Int32} {n : Int} (hown : s.vm.findClass own = some m.cls) (hc : (Jvm.Cond.constant own index v).before args s = true) (hv : v = iv n) (d : decode cc pc = .ok (.ldc index, 2))
    (k : W p l e R s m args below meth c H locs cells slots Q (F0 m (pc + 2) ls (.int (iv n) :: rest))) : W p l e R s m args below meth c H locs cells slots Q (F0 m pc ls rest) := by
  subst hv; exact lv_ldc hx hb hown hc d k
theorem k_ishlc (b : Nat) (e2 : Int) (he : e2 = 2 ^ b) (hb32 : b < 32) {kk : Int} (hk : kk = (b : Int)) (hx : p.tables.exec = Jvm.exec) (hb : c.code = cc) {a : Int} (d : decode cc pc = .ok (.ishl, 1))
    (k : W p l e R s m args below meth c H locs cells slots Q (F0 m (pc + 1) ls (.int (iv (a * e2)) :: rest))) : W p l e R s m args below meth c H locs cells slots Q (F0 m pc ls (.int (iv kk) :: .int (iv a) :: rest)) := by
  subst hk; subst he
  exact k_ishl hx hb d ⟨by omega, by omega⟩ (by rw [Int.toNat_natCast]; exact k)
theorem k_ishrc (b : Nat) (e2 : Int) (he : e2 = 2 ^ b) (hb32 : b < 32) {kk : Int} (hk : kk = (b : Int)) (hx : p.tables.exec = Jvm.exec) (hb : c.code = cc) {a : Int} (d : decode cc pc = .ok (.ishr, 1)) (ha : -2147483648 ≤ a ∧ a < 2147483648)
    (k : W p l e R s m args below meth c H locs cells slots Q (F0 m (pc + 1) ls (.int (iv (a / e2)) :: rest))) : W p l e R s m args below meth c H locs cells slots Q (F0 m pc ls (.int (iv kk) :: .int (iv a) :: rest)) := by
  subst hk; subst he
  exact k_ishr hx hb d ha ⟨by omega, by omega⟩ (by rw [Int.toNat_natCast]; exact k)
theorem k_iandc (n : Nat) (e2 : Int) (he : e2 = 2 ^ n) (hn : n ≤ 31) {b : Int} (hm : b = e2 - 1) (hx : p.tables.exec = Jvm.exec) (hb : c.code = cc) {a : Int} (d : decode cc pc = .ok (.iand, 1))
    (k : W p l e R s m args below meth c H locs cells slots Q (F0 m (pc + 1) ls (.int (iv (a % e2)) :: rest))) : W p l e R s m args below meth c H locs cells slots Q (F0 m pc ls (.int (iv b) :: .int (iv a) :: rest)) := by
  subst he
  exact k_iand hx hb n hn hm d k
theorem k_ior (hx : p.tables.exec = Jvm.exec) (hb : c.code = cc) {a b : Int} (d : decode cc pc = .ok (.ior, 1))
    (k : W p l e R s m args below meth c H locs cells slots Q (F0 m (pc + 1) ls (.int (iv (orI a b)) :: rest))) : W p l e R s m args below meth c H locs cells slots Q (F0 m pc ls (.int (iv b) :: .int (iv a) :: rest)) :=
  lv_ior hx hb d (by rw [← iv_or]; exact k)
theorem k_lshl (hx : p.tables.exec = Jvm.exec) (hb : c.code = cc) {x : Int64} {a : Int} (d : decode cc pc = .ok (.lshl, 1))
    (k : W p l e R s m args below meth c H locs cells slots Q (F0 m (pc + 1) ls (.long (shL x a) :: rest))) : W p l e R s m args below meth c H locs cells slots Q (F0 m pc ls (.int (iv a) :: .long x :: rest)) :=
  lv_lshl hx hb d rfl k
theorem k_lshr (hx : p.tables.exec = Jvm.exec) (hb : c.code = cc) {x : Int64} {a : Int} (d : decode cc pc = .ok (.lshr, 1))
    (k : W p l e R s m args below meth c H locs cells slots Q (F0 m (pc + 1) ls (.long (shR x a) :: rest))) : W p l e R s m args below meth c H locs cells slots Q (F0 m pc ls (.int (iv a) :: .long x :: rest)) :=
  lv_lshr hx hb d rfl k
theorem k_ifb_eq (hx : p.tables.exec = Jvm.exec) (hb : c.code = cc) {B : Prop} [Decidable B] {off : Int} {tgt : Nat} (d : decode cc pc = .ok (.ifCond .eq off, 3)) (ht : (pc : Int) + off = (tgt : Int))
    (kt : ¬ B → W p l e R s m args below meth c H locs cells slots Q (F0 m tgt ls rest)) (kf : B → W p l e R s m args below meth c H locs cells slots Q (F0 m (pc + 3) ls rest)) : W p l e R s m args below meth c H locs cells slots Q (F0 m pc ls (.int (iv (bI B)) :: rest)) :=
  k_if_eq hx hb d ht (bI_r B) (fun h => kt ((bI_0 B).mp h)) (fun h => kf (Classical.byContradiction (fun q => h ((bI_0 B).mpr q))))
theorem k_ifb_ne (hx : p.tables.exec = Jvm.exec) (hb : c.code = cc) {B : Prop} [Decidable B] {off : Int} {tgt : Nat} (d : decode cc pc = .ok (.ifCond .ne off, 3)) (ht : (pc : Int) + off = (tgt : Int))
    (kt : B → W p l e R s m args below meth c H locs cells slots Q (F0 m tgt ls rest)) (kf : ¬ B → W p l e R s m args below meth c H locs cells slots Q (F0 m (pc + 3) ls rest)) : W p l e R s m args below meth c H locs cells slots Q (F0 m pc ls (.int (iv (bI B)) :: rest)) :=
  k_if_ne hx hb d ht (bI_r B) (fun h => kt (Classical.byContradiction (fun q => h ((bI_0 B).mpr q)))) (fun h => kf ((bI_0 B).mp h))
theorem k_tab (hx : p.tables.exec = Jvm.exec) (hb : c.code = cc) {t N : Nat} {f : Int → Int} (hT : va_T .int t N (fun j : Nat => .int (iv (f (j : Int)))) A s s.heap) (hS : va_S A s.heap H locs) {z : Int} (hz : 0 ≤ z ∧ z < (N : Int) ∧ z < 2147483648) (d : decode cc pc = .ok (.iaload, 1))
    (k : W p l e R s m args below meth c H locs cells slots Q (F0 m (pc + 1) ls (.int (iv (f z)) :: rest))) : W p l e R s m args below meth c H locs cells slots Q (F0 m pc ls (.int (iv z) :: .ref t :: rest)) := by
  refine va_ti hx hb hT hS (i := iv z) ?_ (v := .int (iv (f z))) ?_ d k
  · rw [vp_in_iff, iv_toInt ⟨by omega, by omega⟩]; omega
  · rw [iv_clamp hz.1 hz.2.2, Int.toNat_of_nonneg hz.1]
end KR
