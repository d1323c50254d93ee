/-! ints by their integers (iv), longs raw (lw only for an int made long) -/
def iv (z : Int) : Int32 := Int32.ofInt z
def lw (z : Int) : Int64 := Int64.ofInt z
theorem iv_add (a b : Int) : iv a + iv b = iv (a + b) := (Int32.ofInt_add a b).symm
theorem iv_sub (a b : Int) : iv a - iv b = iv (a - b) := (Int32.ofInt_sub a b).symm
theorem iv_mul (a b : Int) : iv a * iv b = iv (a * b) := (Int32.ofInt_mul a b).symm
theorem iv_neg (a : Int) : -iv a = iv (-a) := (Int32.ofInt_neg a).symm
theorem iv_toInt {z : Int} (h : -2147483648 ≤ z ∧ z < 2147483648) : (iv z).toInt = z := Int32.toInt_ofInt_of_le (by omega) (by omega)
theorem iv_lt {a b : Int} (ha : -2147483648 ≤ a ∧ a < 2147483648) (hb : -2147483648 ≤ b ∧ b < 2147483648) : iv a < iv b ↔ a < b := by
  rw [Int32.lt_iff_toInt_lt, iv_toInt ha, iv_toInt hb]
theorem iv_le {a b : Int} (ha : -2147483648 ≤ a ∧ a < 2147483648) (hb : -2147483648 ≤ b ∧ b < 2147483648) : iv a ≤ iv b ↔ a ≤ b := by
  rw [Int32.le_iff_toInt_le, iv_toInt ha, iv_toInt hb]
theorem iv_eq {a b : Int} (ha : -2147483648 ≤ a ∧ a < 2147483648) (hb : -2147483648 ≤ b ∧ b < 2147483648) : iv a = iv b ↔ a = b := by
  rw [← Int32.toInt_inj, iv_toInt ha, iv_toInt hb]
theorem iv_zero : (0 : Int32) = iv 0 := by decide +kernel
theorem iv_of (x : Int32) : ∃ z : Int, (-2147483648 ≤ z ∧ z < 2147483648) ∧ x = iv z :=
  ⟨x.toInt, ⟨by have := x.le_toInt; omega, by have := x.toInt_lt; omega⟩, (Int32.ofInt_toInt x).symm⟩
theorem iv_clamp {z : Int} (h0 : 0 ≤ z) (h1 : z < 2147483648) : (iv z).toNatClampNeg = z.toNat := Int32.toNatClampNeg_ofInt_of_le (by omega) (by omega)
theorem iv_in {z : Int} {n : Nat} (h0 : 0 ≤ z) (h1 : z < (n : Int)) (hn : n < 2147483648) : vp_in (iv z) n := by
  rw [vp_in_iff, iv_toInt ⟨by omega, by omega⟩]; exact ⟨h0, h1⟩
theorem iv_div {a b : Int} (ha0 : 0 ≤ a) (ha : a < 2147483648) (hb0 : 0 < b) (hb : b < 2147483648) : iv a / iv b = iv (a / b) := by
  have q1 : (iv a).toInt = a := iv_toInt ⟨by omega, ha⟩
  have q2 : (iv b).toInt = b := iv_toInt ⟨by omega, hb⟩
  have q3 : 0 ≤ a / b := Int.ediv_nonneg ha0 (by omega)
  have q4 : a / b ≤ a := Int.ediv_le_self _ ha0
  have q5 : (iv (a / b)).toInt = a / b := iv_toInt ⟨by omega, by omega⟩
  apply Int32.toInt.inj
  rw [Int32.toInt_div_of_ne_right _ _ (by intro h; have h2 := congrArg Int32.toInt h; rw [q2] at h2; have h3 : (-1 : Int32).toInt = -1 := by decide +kernel
                                          rw [h3] at h2; omega), q1, q2, q5, Int.tdiv_eq_ediv_of_nonneg ha0]
theorem iv_rem {a b : Int} (ha0 : 0 ≤ a) (ha : a < 2147483648) (hb0 : 0 < b) (hb : b < 2147483648) : iv a - iv a / iv b * iv b = iv (a % b) := by
  rw [iv_div ha0 ha hb0 hb, iv_mul, iv_sub]
  congr 1
  have := Int.emod_def a b
  rw [Int.mul_comm] at this
  exact this.symm
theorem iv_nat (n : Nat) : iv (n : Int) = nI n := Int32.ofInt_eq_ofNat
theorem sh_c : ∀ k : Nat, k < 32 → ((nI k &&& 31).toBitVec.smod 32).toNat = k := by decide +kernel
theorem iv_shr {a k : Int} (ha : -2147483648 ≤ a ∧ a < 2147483648) (hk : 0 ≤ k ∧ k < 32) : iv a >>> (iv k &&& 31) = iv (a / 2 ^ k.toNat) := by
  obtain ⟨n, rfl⟩ : ∃ n : Nat, k = (n : Int) := ⟨k.toNat, by omega⟩
  have e1 : (iv a >>> (iv n &&& 31)).toInt = a >>> n := by
    rw [pk_shr (iv a) (iv n &&& 31) n (by rw [iv_nat]; exact sh_c n (by omega)), iv_toInt ha]
  have e2 : a >>> n = a / 2 ^ n := Int.shiftRight_eq_div_pow a n
  rw [Int.toNat_natCast]
  have hp : (0 : Int) < 2 ^ n := Int.pow_pos (by omega)
  have b1 : a / 2 ^ n < 2147483648 := by
    by_cases h : 0 ≤ a
    · have := Int.ediv_le_self (2 ^ n) h; omega
    · have := Int.ediv_neg_of_neg_of_pos (show a < 0 by omega) hp; omega
  have b2 : -2147483648 ≤ a / 2 ^ n := by
    rw [Int.le_ediv_iff_mul_le hp]
    have h1 : (1 : Int) ≤ 2 ^ n := by omega
    have h2 : -2147483648 * (2 ^ n : Int) ≤ -2147483648 * 1 := Int.mul_le_mul_of_nonpos_left (by omega) h1
    omega
  apply Int32.toInt.inj
  rw [e1, e2, iv_toInt ⟨b2, b1⟩]
theorem iv_shl {a k : Int} (hk : 0 ≤ k ∧ k < 32) : iv a <<< (iv k &&& 31) = iv (a * 2 ^ k.toNat) := by
  obtain ⟨n, rfl⟩ : ∃ n : Nat, k = (n : Int) := ⟨k.toNat, by omega⟩
  have h1 := pk_shl (iv a) (iv n &&& 31) n (by rw [iv_nat]; exact sh_c n (by omega))
  rw [Int.toNat_natCast]
  apply Int32.toBitVec.inj
  apply BitVec.eq_of_toNat_eq
  rw [h1]
  show (BitVec.ofInt 32 a).toNat * 2 ^ n % 2 ^ 32 = (BitVec.ofInt 32 (a * 2 ^ n)).toNat
  rw [BitVec.toNat_ofInt, BitVec.toNat_ofInt]
  have e : ((((a % (2 ^ 32 : Nat)).toNat * 2 ^ n % 2 ^ 32 : Nat)) : Int) = a * 2 ^ n % (2 ^ 32 : Nat) := by
    have hm : 0 ≤ a % ((2 ^ 32 : Nat) : Int) := Int.emod_nonneg _ (by decide)
    rw [Int.natCast_emod, Int.natCast_mul, Int.toNat_of_nonneg hm, Int.natCast_pow]
    rw [Int.mul_emod, Int.emod_emod, ← Int.mul_emod]
    rfl
  have := congrArg Int.toNat e
  rwa [Int.toNat_natCast] at this
theorem iv_and {a : Int} (k : Nat) (hk : k ≤ 31) {m : Int} (hm : m = 2 ^ k - 1) : iv a &&& iv m = iv (a % 2 ^ k) := by
  subst hm
  have hb : (iv (2 ^ k - 1)).toBitVec.toNat = 2 ^ k - 1 := by
    show (BitVec.ofInt 32 (2 ^ k - 1)).toNat = _
    rw [BitVec.toNat_ofInt]
    have h1 : (2 : Nat) ^ k ≤ 2 ^ 31 := Nat.pow_le_pow_right (by decide) hk
    have h2 : 0 < (2 : Nat) ^ k := Nat.pow_pos (by decide)
    have h3 : ((2 : Int) ^ k) = ((2 ^ k : Nat) : Int) := by rw [Int.natCast_pow]; rfl
    rw [h3]
    omega
  rw [pk_and (iv a) k hb, ← iv_nat]
  congr 1
  show (((BitVec.ofInt 32 a).toNat % 2 ^ k : Nat) : Int) = a % 2 ^ k
  rw [BitVec.toNat_ofInt, Int.natCast_emod, Int.toNat_of_nonneg (Int.emod_nonneg _ (by decide)), Int.natCast_pow]
  have hd : ((2 : Int) ^ k) ∣ ((2 ^ 32 : Nat) : Int) := by
    refine ⟨2 ^ (32 - k), ?_⟩
    rw [← Int.pow_add]
    have : k + (32 - k) = 32 := by omega
    rw [this]; rfl
  exact Int.emod_emod_of_dvd a hd
/-! long rows -/
theorem lw_of {z : Int} (h : -2147483648 ≤ z ∧ z < 2147483648) : (iv z).toInt64 = lw z := by
  apply Int64.toInt.inj
  rw [Int32.toInt_toInt64, iv_toInt h]
  exact (Int64.toInt_ofInt_of_le (by omega) (by omega)).symm
theorem lw_toInt {z : Int} (h : -9223372036854775808 ≤ z ∧ z < 9223372036854775808) : (lw z).toInt = z := Int64.toInt_ofInt_of_le (by omega) (by omega)
theorem iv_l2i (x : Int64) : x.toInt32 = iv x.toInt := (Int32.ofInt_int64ToInt x).symm
/-! functions on the integers, changed at a place; iteration -/
def up {α : Type} (g : Int → α) (k : Int) (v : α) : Int → α := fun j => if j = k then v else g j
theorem up_self {α : Type} (g : Int → α) (k : Int) (v : α) : up g k v k = v := by simp [up]
theorem up_ne {α : Type} (g : Int → α) {k j : Int} (v : α) (h : j ≠ k) : up g k v j = g j := by simp [up, h]
def it0 {σ : Type} (f : Int → σ → σ) (a : Int) : Nat → σ → σ
  | 0, x => x
  | n + 1, x => f (a + n) (it0 f a n x)
def it {σ : Type} (f : Int → σ → σ) (a b : Int) (x : σ) : σ := it0 f a (b - a).toNat x
theorem it_le {σ : Type} (f : Int → σ → σ) {a b : Int} (x : σ) (h : b ≤ a) : it f a b x = x := by
  unfold it; rw [show (b - a).toNat = 0 by omega]; rfl
theorem it_self {σ : Type} (f : Int → σ → σ) (a : Int) (x : σ) : it f a a x = x := it_le f x (Int.le_refl a)
theorem it_s {σ : Type} (f : Int → σ → σ) {a i : Int} (x : σ) (h : a ≤ i) : it f a (i + 1) x = f i (it f a i x) := by
  unfold it
  obtain ⟨n, hn⟩ : ∃ n : Nat, i = a + n := ⟨(i - a).toNat, by omega⟩
  subst hn
  rw [show (a + n + 1 - a).toNat = n + 1 by omega, show (a + n - a).toNat = n by omega]
  rfl
theorem it_x {σ : Type} (f : Int → σ → σ) {a b i : Int} (x : σ) (h1 : b ≤ i) (h2 : i ≤ b ∨ i = a) : it f a i x = it f a b x := by
  rcases h2 with h2 | h2
  · rw [show i = b by omega]
  · subst h2; rw [it_self, it_le f x h1]
/-- invariants of an iteration -/
theorem it_inv {σ : Type} {f : Int → σ → σ} {a b : Int} {x : σ} (I : Int → σ → Prop) (h0 : I a x) (hs : ∀ i y, a ≤ i → i < b → I i y → I (i + 1) (f i y)) (hab : a ≤ b) : I b (it f a b x) := by
  obtain ⟨n, hn⟩ : ∃ n : Nat, b = a + n := ⟨(b - a).toNat, by omega⟩
  subst hn
  clear hab
  induction n with
  | zero => simpa [it_self] using h0
  | succ n ih =>
    have e : a + ((n + 1 : Nat) : Int) = (a + n) + 1 := by omega
    rw [e, it_s f x (by omega)]
    exact hs _ _ (by omega) (by omega) (ih fun i y h1 h2 => hs i y h1 (by omega))
theorem it_congr {σ : Type} {f g : Int → σ → σ} {a b : Int} {x : σ} (h : ∀ i y, a ≤ i → i < b → f i y = g i y) : it f a b x = it g a b x := by
  by_cases hab : a ≤ b
  · obtain ⟨n, hn⟩ : ∃ n : Nat, b = a + n := ⟨(b - a).toNat, by omega⟩
    subst hn
    clear hab
    induction n with
    | zero => simp [it_self]
    | succ n ih =>
      have e : a + ((n + 1 : Nat) : Int) = (a + n) + 1 := by omega
      rw [e, it_s f x (by omega), it_s g x (by omega), ih fun i y h1 h2 => h i y h1 (by omega)]
      exact h _ _ (by omega) (by omega)
  · rw [it_le f x (by omega), it_le g x (by omega)]
/-- a loop that counts up -/
theorem lo_up {P : Int → Prop} {a b : Int} (h : ∀ i, a ≤ i → (i ≤ b ∨ i = a) → (i < b → P (i + 1)) → P i) : P a := by
  have key : ∀ n : Nat, ∀ i, a ≤ i → (i ≤ b ∨ i = a) → (b - i).toNat ≤ n → P i := by
    intro n
    induction n with
    | zero => intro i h1 h2 h3; exact h i h1 h2 (fun h4 => by omega)
    | succ n ih => intro i h1 h2 h3; exact h i h1 h2 (fun h4 => ih (i + 1) (by omega) (Or.inl (by omega)) (by omega))
  exact key _ a (Int.le_refl a) (Or.inr rfl) (Nat.le_refl _)
/-- a loop that counts down to 0 -/
theorem lo_dn {P : Int → Prop} {a : Int} (h : ∀ i, i ≤ a → (-1 ≤ i ∨ i = a) → (0 ≤ i → P (i + (-1))) → P i) : P a := by
  have key : ∀ n : Nat, ∀ i, i ≤ a → (-1 ≤ i ∨ i = a) → (i + 1).toNat ≤ n → P i := by
    intro n
    induction n with
    | zero => intro i h1 h2 h3; exact h i h1 h2 (fun h4 => by omega)
    | succ n ih => intro i h1 h2 h3; exact h i h1 h2 (fun h4 => ih (i + (-1)) (by omega) (Or.inl (by omega)) (by omega))
  exact key _ a (Int.le_refl a) (Or.inr rfl) (Nat.le_refl _)
/-- a loop by a measure -/
theorem lo_me {α : Type} {P : α → Prop} (μ : α → Nat) (h : ∀ x, (∀ y, μ y < μ x → P y) → P x) (x : α) : P x := by
  have key : ∀ n : Nat, ∀ x, μ x ≤ n → P x := by
    intro n
    induction n with
    | zero => intro x hx; exact h x (fun y hy => by omega)
    | succ n ih => intro x hx; exact h x (fun y hy => ih y (by omega))
  exact key _ x (Nat.le_refl _)
