/-! where the bands lie, and which places each slice has: the document's words -/
def hvW (db ew b : Int) : Int := if b = 0 then db + ew else if b ≤ ew then db + ew - b + 1 else db - (b - ew - 1) / 3
def hvH (db ew b : Int) : Int := if b = 0 then db else if b ≤ ew then db else db - (b - ew - 1) / 3
def bWd (cP db ew b : Int) : Int := cP / 2 ^ (hvW db ew b).toNat
def bHt (cQ db ew b : Int) : Int := cQ / 2 ^ (hvH db ew b).toNat
def bLf (cP db ew b : Int) : Int := if 0 < b ∧ (b ≤ ew ∨ ¬ (b - ew - 1) % 3 = 1) then bWd cP db ew b else 0
def bTp (cQ db ew b : Int) : Int := if ew < b ∧ ¬ (b - ew - 1) % 3 = 0 then bHt cQ db ew b else 0
def nBd (db ew : Int) : Int := 1 + ew + 3 * db
/-- the bands as the layout must have them -/
def okB (cP cQ db ew nb : Int) (gl gt gw gh : Int → Int) : Prop := nb = nBd db ew ∧ ∀ b, 0 ≤ b → b < nb → gl b = bLf cP db ew b ∧ gt b = bTp cQ db ew b ∧ gw b = bWd cP db ew b ∧ gh b = bHt cQ db ew b
theorem de_c {db ew : Int} (h : 0 ≤ db ∧ db ≤ 2 ∧ 0 ≤ ew ∧ ew ≤ 2 ∧ db + ew ≤ 3) : (db = 0 ∧ ew = 0) ∨ (db = 0 ∧ ew = 1) ∨ (db = 0 ∧ ew = 2) ∨ (db = 1 ∧ ew = 0) ∨ (db = 1 ∧ ew = 1) ∨ (db = 1 ∧ ew = 2) ∨ (db = 2 ∧ ew = 0) ∨ (db = 2 ∧ ew = 1) := by omega
set_option maxRecDepth 10000 in
theorem plA_ok {cP cQ db ew : Int} {gl gt gw gh : Int → Int} (h : 0 ≤ db ∧ db ≤ 2 ∧ 0 ≤ ew ∧ ew ≤ 2 ∧ db + ew ≤ 3) : okB cP cQ db ew (plA cP cQ db ew gl gt gw gh).1 (plA cP cQ db ew gl gt gw gh).2.1 (plA cP cQ db ew gl gt gw gh).2.2.1 (plA cP cQ db ew gl gt gw gh).2.2.2.1 (plA cP cQ db ew gl gt gw gh).2.2.2.2 := by
  rcases de_c h with ⟨rfl, rfl⟩ | ⟨rfl, rfl⟩ | ⟨rfl, rfl⟩ | ⟨rfl, rfl⟩ | ⟨rfl, rfl⟩ | ⟨rfl, rfl⟩ | ⟨rfl, rfl⟩ | ⟨rfl, rfl⟩
  · refine ⟨rfl, fun b h0 h1 => ?_⟩
    have h1 : b < 1 := h1
    rcases (show b = 0 by omega) with rfl
    exact ⟨rfl, rfl, rfl, rfl⟩
  · refine ⟨rfl, fun b h0 h1 => ?_⟩
    have h1 : b < 2 := h1
    rcases (show b = 0 ∨ b = 1 by omega) with rfl | rfl <;> exact ⟨rfl, rfl, rfl, rfl⟩
  · refine ⟨rfl, fun b h0 h1 => ?_⟩
    have h1 : b < 3 := h1
    rcases (show b = 0 ∨ b = 1 ∨ b = 2 by omega) with rfl | rfl | rfl <;> exact ⟨rfl, rfl, rfl, rfl⟩
  · refine ⟨rfl, fun b h0 h1 => ?_⟩
    have h1 : b < 4 := h1
    rcases (show b = 0 ∨ b = 1 ∨ b = 2 ∨ b = 3 by omega) with rfl | rfl | rfl | rfl <;> exact ⟨rfl, rfl, rfl, rfl⟩
  · refine ⟨rfl, fun b h0 h1 => ?_⟩
    have h1 : b < 5 := h1
    rcases (show b = 0 ∨ b = 1 ∨ b = 2 ∨ b = 3 ∨ b = 4 by omega) with rfl | rfl | rfl | rfl | rfl <;> exact ⟨rfl, rfl, rfl, rfl⟩
  · refine ⟨rfl, fun b h0 h1 => ?_⟩
    have h1 : b < 6 := h1
    rcases (show b = 0 ∨ b = 1 ∨ b = 2 ∨ b = 3 ∨ b = 4 ∨ b = 5 by omega) with rfl | rfl | rfl | rfl | rfl | rfl <;> exact ⟨rfl, rfl, rfl, rfl⟩
  · refine ⟨rfl, fun b h0 h1 => ?_⟩
    have h1 : b < 7 := h1
    rcases (show b = 0 ∨ b = 1 ∨ b = 2 ∨ b = 3 ∨ b = 4 ∨ b = 5 ∨ b = 6 by omega) with rfl | rfl | rfl | rfl | rfl | rfl | rfl <;> exact ⟨rfl, rfl, rfl, rfl⟩
  · refine ⟨rfl, fun b h0 h1 => ?_⟩
    have h1 : b < 8 := h1
    rcases (show b = 0 ∨ b = 1 ∨ b = 2 ∨ b = 3 ∨ b = 4 ∨ b = 5 ∨ b = 6 ∨ b = 7 by omega) with rfl | rfl | rfl | rfl | rfl | rfl | rfl | rfl <;> exact ⟨rfl, rfl, rfl, rfl⟩
/-! sums -/
def Sm (f : Int → Int) (n : Int) : Int := it (fun i c => c + f i) 0 n 0
theorem Sm_0 (f : Int → Int) : Sm f 0 = 0 := it_self _ _ _
theorem Sm_s (f : Int → Int) {n : Int} (h : 0 ≤ n) : Sm f (n + 1) = Sm f n + f n := it_s _ _ h
theorem Sm_i {P : Int → Prop} {n : Int} (hn : 0 ≤ n) (h0 : P 0) (hs : ∀ i, 0 ≤ i → i < n → P i → P (i + 1)) : P n := by
  obtain ⟨k, rfl⟩ : ∃ k : Nat, n = (k : Int) := ⟨n.toNat, by omega⟩
  have key : ∀ j : Nat, j ≤ k → P (j : Int) := by
    intro j
    induction j with
    | zero => intro _; exact h0
    | succ j ih => intro hj; exact hs _ (by omega) (by omega) (ih (by omega))
  exact key k (Nat.le_refl k)
theorem Sm_le {f g : Int → Int} {n : Int} (hn : 0 ≤ n) (h : ∀ i, 0 ≤ i → i < n → f i ≤ g i) : Sm f n ≤ Sm g n :=
  Sm_i (P := fun n => Sm f n ≤ Sm g n) hn (by rw [Sm_0, Sm_0]; omega) (fun i h1 h2 h3 => by
    rw [Sm_s _ h1, Sm_s _ h1]
    have := h i h1 h2
    omega)
theorem Sm_eq {f g : Int → Int} {n : Int} (hn : 0 ≤ n) (h : ∀ i, 0 ≤ i → i < n → f i = g i) : Sm f n = Sm g n :=
  Sm_i (P := fun n => Sm f n = Sm g n) hn (by rw [Sm_0, Sm_0]) (fun i h1 h2 h3 => by
    rw [Sm_s _ h1, Sm_s _ h1, h3, h i h1 h2])
theorem Sm_add {f g : Int → Int} {n : Int} (hn : 0 ≤ n) : Sm f n + Sm g n = Sm (fun i => f i + g i) n :=
  Sm_i (P := fun n => Sm f n + Sm g n = Sm (fun i => f i + g i) n) hn (by rw [Sm_0, Sm_0, Sm_0]; rfl) (fun i h1 _ h3 => by
    rw [Sm_s _ h1, Sm_s _ h1, Sm_s _ h1, ← h3]
    omega)
theorem Sm_p {f : Int → Int} {m n : Int} (hm : 0 ≤ m ∧ m ≤ n) (h : ∀ i, 0 ≤ i → i < n → 0 ≤ f i) : Sm f m ≤ Sm f n := by
  obtain ⟨k, rfl⟩ : ∃ k : Nat, n = m + (k : Int) := ⟨(n - m).toNat, by omega⟩
  induction k with
  | zero => simp
  | succ k ih =>
    have e : m + ((k + 1 : Nat) : Int) = (m + k) + 1 := by omega
    rw [e, Sm_s _ (by omega)]
    have h1 := ih (by omega) (fun i a b => h i a (by omega))
    have h2 := h (m + k) (by omega) (by omega)
    omega
theorem Sm_n {f : Int → Int} {n : Int} (hn : 0 ≤ n) (h : ∀ i, 0 ≤ i → i < n → 0 ≤ f i) : 0 ≤ Sm f n := by
  have := Sm_p (f := f) (m := 0) (n := n) ⟨by omega, hn⟩ h
  rw [Sm_0] at this
  exact this
/-- two iterations side by side -/
theorem it_rel {σ τ : Type} {R : σ → τ → Prop} {f : Int → σ → σ} {g : Int → τ → τ} {a b : Int} {x : σ} {y : τ} (h0 : R x y) (hs : ∀ i x y, a ≤ i → i < b → R x y → R (f i x) (g i y)) : R (it f a b x) (it g a b y) := by
  by_cases hab : a ≤ b
  · obtain ⟨n, hn⟩ : ∃ n : Nat, b = a + n := ⟨(b - a).toNat, by omega⟩
    subst hn
    clear hab
    induction n with
    | zero => simpa [it_self] using h0
    | succ n ih =>
      have e : a + ((n + 1 : Nat) : Int) = (a + n) + 1 := by omega
      rw [e, it_s f x (by omega), it_s g y (by omega)]
      exact hs _ _ _ (by omega) (by omega) (ih fun i x y h1 h2 => hs i x y h1 (by omega))
  · rw [it_le f x (by omega), it_le g y (by omega)]; exact h0
theorem it_iv {σ : Type} {I : σ → Prop} {f : Int → σ → σ} {a b : Int} {x : σ} (h0 : I x) (hs : ∀ i x, a ≤ i → i < b → I x → I (f i x)) : I (it f a b x) :=
  it_rel (R := fun x (_ : Unit) => I x) (g := fun _ u => u) (y := ()) h0 (fun i x _ h1 h2 h => hs i x h1 h2 h)
/-! counts -/
theorem prx_c {l t b y xs xe : Int} {x : lst3} (h : xs ≤ xe) : (it (prx l t b y) xs xe x).1 = x.1 + (xe - xs) := by
  have := it_inv (f := prx l t b y) (a := xs) (b := xe) (x := x) (I := fun i (z : lst3) => z.1 = x.1 + (i - xs)) (by omega) (fun i z h1 h2 hz => by show z.1 + 1 = _; omega) h
  exact this
theorem prt_c {l t w h b ac dn s : Int} {x : lst3} (hw : 0 ≤ w) (hh : 0 ≤ h) (ha : 1 ≤ ac) (hd : 1 ≤ dn) : (prt l t w h b ac dn s x).1 = x.1 + psz w h ac dn s := by
  have m7 := cut_m (w := w) (a := ac) (i := s % ac) hw ha
  have m8 := cut_m (w := h) (a := dn) (i := s / ac) hh hd
  have := it_inv (f := pry l t b (cutI w ac (s % ac)) (cutI w ac (s % ac + 1))) (a := cutI h dn (s / ac)) (b := cutI h dn (s / ac + 1)) (x := x) (I := fun i (z : lst3) => z.1 = x.1 + (i - cutI h dn (s / ac)) * (cutI w ac (s % ac + 1) - cutI w ac (s % ac))) (by rw [Int.sub_self, Int.zero_mul]; omega) (fun i z h1 h2 hz => by
    show (it (prx l t b i) _ _ z).1 = _
    rw [prx_c m7, hz, show i + 1 - cutI h dn (s / ac) = (i - cutI h dn (s / ac)) + 1 by omega, Int.add_mul, Int.one_mul]
    omega) m8
  exact this
theorem psz_n {w h ac dn s : Int} (hw : 0 ≤ w) (hh : 0 ≤ h) (ha : 1 ≤ ac) (hd : 1 ≤ dn) : 0 ≤ psz w h ac dn s := by
  have m7 := cut_m (w := w) (a := ac) (i := s % ac) hw ha
  have m8 := cut_m (w := h) (a := dn) (i := s / ac) hh hd
  exact Int.mul_nonneg (by omega) (by omega)
/-- how many places of a band lie in the slices before s -/
def bfS (w h ac dn s : Int) : Int := cutI h dn (s / ac) * w + (cutI h dn (s / ac + 1) - cutI h dn (s / ac)) * cutI w ac (s % ac)
theorem bfS_0 {w h ac dn : Int} (ha : 1 ≤ ac) : bfS w h ac dn 0 = 0 := by
  unfold bfS cutI
  rw [Int.zero_ediv, Int.zero_emod, Int.mul_zero, Int.mul_zero, Int.zero_ediv, Int.zero_ediv, Int.zero_mul, Int.mul_zero]
  rfl
theorem bfS_s {w h ac dn s : Int} (ha : 1 ≤ ac ∧ ac ≤ 4) (hs : 0 ≤ s) : bfS w h ac dn (s + 1) = bfS w h ac dn s + psz w h ac dn s := by
  have hc : ((s + 1) / ac = s / ac ∧ (s + 1) % ac = s % ac + 1) ∨ ((s + 1) / ac = s / ac + 1 ∧ (s + 1) % ac = 0 ∧ s % ac + 1 = ac) := by
    rcases (show ac = 1 ∨ ac = 2 ∨ ac = 3 ∨ ac = 4 by omega) with rfl | rfl | rfl | rfl <;> omega
  unfold bfS psz
  rcases hc with ⟨e1, e2⟩ | ⟨e1, e2, e3⟩
  · rw [e1, e2, Int.mul_sub]; omega
  · rw [e1, e2, e3]
    have x0 : cutI w ac 0 = 0 := by unfold cutI; rw [Int.mul_zero, Int.zero_ediv]
    have x1 : cutI w ac ac = w := by unfold cutI; exact Int.mul_ediv_cancel _ (by omega)
    have e4 : (cutI h dn (s / ac + 1) - cutI h dn (s / ac)) * w = cutI h dn (s / ac + 1) * w - cutI h dn (s / ac) * w := Int.sub_mul _ _ _
    rw [x0, x1, Int.mul_zero, Int.mul_sub]
    omega
theorem bfS_h {w h ac dn s : Int} (hw : 0 ≤ w) (hh : 0 ≤ h) (ha : 1 ≤ ac) (hd : 1 ≤ dn) (hs : 0 ≤ s ∧ s < ac * dn) : bfS w h ac dn s + psz w h ac dn s ≤ w * h := by
  have m2 : 0 ≤ s / ac ∧ s / ac < dn := ⟨Int.ediv_nonneg hs.1 (by omega), Int.ediv_lt_of_lt_mul (by omega) (by rw [Int.mul_comm]; exact hs.2)⟩
  have m1 : 0 ≤ s % ac ∧ s % ac < ac := ⟨Int.emod_nonneg _ (by omega), Int.emod_lt_of_pos _ (by omega)⟩
  have m8 := cut_m (w := h) (a := dn) (i := s / ac) hh hd
  have x1 : cutI w ac (s % ac + 1) ≤ w := by
    unfold cutI
    have : w * (s % ac + 1) / ac ≤ w * ac / ac := Int.ediv_le_ediv (by omega) (Int.mul_le_mul_of_nonneg_left (by omega) hw)
    rw [Int.mul_ediv_cancel _ (by omega)] at this
    exact this
  have y1 : cutI h dn (s / ac + 1) ≤ h := by
    unfold cutI
    have : h * (s / ac + 1) / dn ≤ h * dn / dn := Int.ediv_le_ediv (by omega) (Int.mul_le_mul_of_nonneg_left (by omega) hh)
    rw [Int.mul_ediv_cancel _ (by omega)] at this
    exact this
  unfold bfS psz
  have h1 : (cutI h dn (s / ac + 1) - cutI h dn (s / ac)) * cutI w ac (s % ac + 1) ≤ (cutI h dn (s / ac + 1) - cutI h dn (s / ac)) * w := Int.mul_le_mul_of_nonneg_left x1 (by omega)
  have h2 : cutI h dn (s / ac + 1) * w ≤ h * w := Int.mul_le_mul_of_nonneg_right y1 hw
  have e4 : (cutI h dn (s / ac + 1) - cutI h dn (s / ac)) * w = cutI h dn (s / ac + 1) * w - cutI h dn (s / ac) * w := Int.sub_mul _ _ _
  rw [Int.mul_sub, Int.mul_comm w h]
  omega
theorem tot_k : ∀ cP : Fin 17, ∀ cQ : Fin 17, ∀ db : Fin 3, ∀ ew : Fin 3, db.val + ew.val ≤ 3 → Sm (fun b => bWd (cP.val : Int) db.val ew.val b * bHt (cQ.val : Int) db.val ew.val b) (nBd db.val ew.val) ≤ 256 ∧ ∀ b : Fin 8, (b.val : Int) < nBd db.val ew.val → (0 ≤ bWd (cP.val : Int) db.val ew.val b.val ∧ 0 ≤ bLf (cP.val : Int) db.val ew.val b.val ∧ bLf (cP.val : Int) db.val ew.val b.val + bWd (cP.val : Int) db.val ew.val b.val ≤ 16) ∧ 0 ≤ bHt (cQ.val : Int) db.val ew.val b.val ∧ 0 ≤ bTp (cQ.val : Int) db.val ew.val b.val ∧ bTp (cQ.val : Int) db.val ew.val b.val + bHt (cQ.val : Int) db.val ew.val b.val ≤ 16 := by decide +kernel
theorem tot_r {cP cQ db ew : Int} (hP : 0 ≤ cP ∧ cP ≤ 16) (hQ : 0 ≤ cQ ∧ cQ ≤ 16) (h : 0 ≤ db ∧ db ≤ 2 ∧ 0 ≤ ew ∧ ew ≤ 2 ∧ db + ew ≤ 3) : Sm (fun b => bWd cP db ew b * bHt cQ db ew b) (nBd db ew) ≤ 256 ∧ ∀ b, 0 ≤ b → b < nBd db ew → (0 ≤ bWd cP db ew b ∧ 0 ≤ bLf cP db ew b ∧ bLf cP db ew b + bWd cP db ew b ≤ 16) ∧ 0 ≤ bHt cQ db ew b ∧ 0 ≤ bTp cQ db ew b ∧ bTp cQ db ew b + bHt cQ db ew b ≤ 16 := by
  have k := tot_k ⟨cP.toNat, by omega⟩ ⟨cQ.toNat, by omega⟩ ⟨db.toNat, by omega⟩ ⟨ew.toNat, by omega⟩ (by show db.toNat + ew.toNat ≤ 3; omega)
  simp only [Int.toNat_of_nonneg hP.1, Int.toNat_of_nonneg hQ.1, Int.toNat_of_nonneg h.1, Int.toNat_of_nonneg h.2.2.1] at k
  refine ⟨k.1, fun b h0 h1 => ?_⟩
  have hb : b < 8 := by unfold nBd at h1; omega
  have k2 := k.2 ⟨b.toNat, by omega⟩
  simp only [Int.toNat_of_nonneg h0] at k2
  exact k2 h1
/-! the slices' places: of one slice from 0 on, and side by side in the class's rows -/
def lsB (cP cQ db ew ac dn s : Int) : Int → lst3 → lst3 := fun b x => prt (bLf cP db ew b) (bTp cQ db ew b) (bWd cP db ew b) (bHt cQ db ew b) b ac dn s x
def lsS (cP cQ db ew ac dn s : Int) : lst3 := it (lsB cP cQ db ew ac dn s) 0 (nBd db ew) (0, fun _ => 0, fun _ => 0)
/-- what the layout's rows must hold -/
def okS (cP cQ db ew ac dn : Int) (gf gp gb : Int → Int) : Prop := ∀ s, 0 ≤ s → s < ac * dn → (0 ≤ gf s ∧ gf (s + 1) = gf s + (lsS cP cQ db ew ac dn s).1 ∧ gf (s + 1) ≤ 256) ∧ ∀ k, 0 ≤ k → k < (lsS cP cQ db ew ac dn s).1 → gp (gf s + k) = (lsS cP cQ db ew ac dn s).2.1 k ∧ gb (gf s + k) = (lsS cP cQ db ew ac dn s).2.2 k
/-- pushing at c0 + .. as pushing at .. -/
def shR3 (c0 : Int) (x y : lst3) : Prop := 0 ≤ y.1 ∧ x.1 = c0 + y.1 ∧ ∀ k, 0 ≤ k → k < y.1 → x.2.1 (c0 + k) = y.2.1 k ∧ x.2.2 (c0 + k) = y.2.2 k
theorem sh_psh {c0 p b : Int} {x y : lst3} (h : shR3 c0 x y) : shR3 c0 (psh p b x) (psh p b y) := by
  obtain ⟨h1, h2, h3⟩ := h
  refine ⟨by show 0 ≤ y.1 + 1; omega, by show x.1 + 1 = c0 + (y.1 + 1); omega, fun k k0 k1 => ?_⟩
  have k1 : k < y.1 + 1 := k1
  show up x.2.1 x.1 p (c0 + k) = up y.2.1 y.1 p k ∧ up x.2.2 x.1 b (c0 + k) = up y.2.2 y.1 b k
  by_cases e : k = y.1
  · subst e; rw [h2, up_self, up_self, up_self, up_self]; exact ⟨rfl, rfl⟩
  · rw [up_ne _ _ (show c0 + k ≠ x.1 by omega), up_ne _ _ e, up_ne _ _ (show c0 + k ≠ x.1 by omega), up_ne _ _ e]
    exact h3 k k0 (by omega)
theorem sh_prt {c0 l t w h b ac dn s : Int} {x y : lst3} (hh : shR3 c0 x y) : shR3 c0 (prt l t w h b ac dn s x) (prt l t w h b ac dn s y) :=
  it_rel hh (fun i x y _ _ hx => it_rel hx (fun j x y _ _ hy => sh_psh hy))
/-- pushing keeps what stands below c -/
def kpR3 (c : Int) (z x : lst3) : Prop := c ≤ x.1 ∧ ∀ j, j < c → x.2.1 j = z.2.1 j ∧ x.2.2 j = z.2.2 j
theorem kp_psh {c p b : Int} {z x : lst3} (h : kpR3 c z x) : kpR3 c z (psh p b x) := by
  obtain ⟨h1, h2⟩ := h
  refine ⟨by show c ≤ x.1 + 1; omega, fun j hj => ?_⟩
  show up x.2.1 x.1 p j = _ ∧ up x.2.2 x.1 b j = _
  rw [up_ne _ _ (show j ≠ x.1 by omega), up_ne _ _ (show j ≠ x.1 by omega)]
  exact h2 j hj
theorem kp_prt {c l t w h b ac dn s : Int} {z x : lst3} (hh : kpR3 c z x) : kpR3 c z (prt l t w h b ac dn s x) :=
  it_iv hh (fun i x _ _ hx => it_iv hx (fun j x _ _ hy => kp_psh hy))
/-- what is pushed is a place, and a band -/
def rgR3 (nb : Int) (x : lst3) : Prop := 0 ≤ x.1 ∧ ∀ k, 0 ≤ k → k < x.1 → (0 ≤ x.2.1 k ∧ x.2.1 k < 256) ∧ 0 ≤ x.2.2 k ∧ x.2.2 k < nb
theorem rg_psh {nb p b : Int} {x : lst3} (h : rgR3 nb x) (hp : 0 ≤ p ∧ p < 256) (hb : 0 ≤ b ∧ b < nb) : rgR3 nb (psh p b x) := by
  obtain ⟨h1, h2⟩ := h
  refine ⟨by show 0 ≤ x.1 + 1; omega, fun k k0 k1 => ?_⟩
  have k1 : k < x.1 + 1 := k1
  show (0 ≤ up x.2.1 x.1 p k ∧ up x.2.1 x.1 p k < 256) ∧ 0 ≤ up x.2.2 x.1 b k ∧ up x.2.2 x.1 b k < nb
  by_cases e : k = x.1
  · subst e; rw [up_self, up_self]; exact ⟨hp, hb⟩
  · rw [up_ne _ _ e, up_ne _ _ e]; exact h2 k k0 (by omega)
theorem cut_in {w a i j : Int} (hw : 0 ≤ w) (ha : 1 ≤ a) (hi : 0 ≤ i ∧ i < a) (h1 : cutI w a i ≤ j) (h2 : j < cutI w a (i + 1)) : 0 ≤ j ∧ j < w := by
  have h3 : 0 ≤ cutI w a i := Int.ediv_nonneg (Int.mul_nonneg hw hi.1) (by omega)
  have x1 : cutI w a (i + 1) ≤ w := by
    unfold cutI
    have : w * (i + 1) / a ≤ w * a / a := Int.ediv_le_ediv (by omega) (Int.mul_le_mul_of_nonneg_left (by omega) hw)
    rw [Int.mul_ediv_cancel _ (by omega)] at this
    exact this
  omega
theorem sl_i {ac dn s : Int} (ha : 1 ≤ ac) (hs : 0 ≤ s ∧ s < ac * dn) : (0 ≤ s % ac ∧ s % ac < ac) ∧ 0 ≤ s / ac ∧ s / ac < dn :=
  ⟨⟨Int.emod_nonneg _ (by omega), Int.emod_lt_of_pos _ (by omega)⟩, Int.ediv_nonneg hs.1 (by omega), Int.ediv_lt_of_lt_mul (by omega) (by rw [Int.mul_comm]; exact hs.2)⟩
theorem rg_prt {nb l t w h b ac dn s : Int} {x : lst3} (hx : rgR3 nb x) (hb : 0 ≤ b ∧ b < nb) (hw : 0 ≤ w ∧ 0 ≤ l ∧ l + w ≤ 16) (hh : 0 ≤ h ∧ 0 ≤ t ∧ t + h ≤ 16) (ha : 1 ≤ ac) (hd : 1 ≤ dn) (hs : 0 ≤ s ∧ s < ac * dn) : rgR3 nb (prt l t w h b ac dn s x) := by
  have hi := sl_i ha hs
  refine it_iv hx (fun y z y0 y1 hz => it_iv hz (fun i z i0 i1 hz => rg_psh hz ?_ hb))
  have a1 := cut_in hh.1 hd hi.2 y0 y1
  have a2 := cut_in hw.1 ha hi.1 i0 i1
  omega
theorem lsS_r {cP cQ db ew ac dn s : Int} (hP : 0 ≤ cP ∧ cP ≤ 16) (hQ : 0 ≤ cQ ∧ cQ ≤ 16) (h : 0 ≤ db ∧ db ≤ 2 ∧ 0 ≤ ew ∧ ew ≤ 2 ∧ db + ew ≤ 3) (ha : 1 ≤ ac) (hd : 1 ≤ dn) (hs : 0 ≤ s ∧ s < ac * dn) : rgR3 (nBd db ew) (lsS cP cQ db ew ac dn s) := by
  have tr := (tot_r hP hQ h).2
  exact it_iv ⟨by show (0 : Int) ≤ 0; omega, fun k k0 k1 => by have k1 : k < 0 := k1; omega⟩ (fun b x b0 b1 hx => rg_prt hx ⟨b0, b1⟩ (tr b b0 b1).1 (tr b b0 b1).2 ha hd hs)
/-- the state of the class's rows before slice s: how many there are -/
theorem slA_c {cP cQ db ew nb ac dn : Int} {gl gt gw gh gf gp gb : Int → Int} (hB : okB cP cQ db ew nb gl gt gw gh) (hP : 0 ≤ cP ∧ cP ≤ 16) (hQ : 0 ≤ cQ ∧ cQ ≤ 16) (h : 0 ≤ db ∧ db ≤ 2 ∧ 0 ≤ ew ∧ ew ≤ 2 ∧ db + ew ≤ 3) (ha : 1 ≤ ac ∧ ac ≤ 4) (hd : 1 ≤ dn ∧ dn ≤ 4) {s : Int} (hs : 0 ≤ s) :
    (slA gl gt gw gh nb ac dn gf gp gb s).2.1 = Sm (fun b => bfS (bWd cP db ew b) (bHt cQ db ew b) ac dn s) nb ∧ ∀ b, 0 ≤ b → b ≤ nb → (it (prb gl gt gw gh ac dn s) 0 b (slA gl gt gw gh nb ac dn gf gp gb s).2).1 = (slA gl gt gw gh nb ac dn gf gp gb s).2.1 + Sm (fun b => psz (bWd cP db ew b) (bHt cQ db ew b) ac dn s) b := by
  have tr := (tot_r hP hQ h).2
  have hn : 0 ≤ nb := by rw [hB.1]; unfold nBd; omega
  have inner : ∀ s b x, 0 ≤ b → b ≤ nb → (it (prb gl gt gw gh ac dn s) 0 b x).1 = x.1 + Sm (fun b => psz (bWd cP db ew b) (bHt cQ db ew b) ac dn s) b := by
    intro s b x b0 b1
    refine Sm_i (P := fun k => k ≤ nb → (it (prb gl gt gw gh ac dn s) 0 k x).1 = x.1 + Sm (fun b => psz (bWd cP db ew b) (bHt cQ db ew b) ac dn s) k) b0 (fun _ => by rw [it_self, Sm_0]; omega) (fun i h1 h2 h3 h4 => ?_) b1
    rw [it_s _ _ h1, Sm_s _ h1]
    have hb := hB.2 i h1 (by omega)
    have ht := tr i h1 (by rw [← hB.1]; omega)
    show (prt (gl i) (gt i) (gw i) (gh i) i ac dn s _).1 = _
    rw [hb.2.2.1, hb.2.2.2, prt_c ht.1.1 ht.2.1 ha.1 hd.1, h3 (by omega)]
    omega
  have outer : (slA gl gt gw gh nb ac dn gf gp gb s).2.1 = Sm (fun b => bfS (bWd cP db ew b) (bHt cQ db ew b) ac dn s) nb := by
    refine Sm_i (P := fun k => (slA gl gt gw gh nb ac dn gf gp gb k).2.1 = Sm (fun b => bfS (bWd cP db ew b) (bHt cQ db ew b) ac dn k) nb) hs ?_ (fun i h1 h2 h3 => ?_)
    · show (slA gl gt gw gh nb ac dn gf gp gb 0).2.1 = _
      unfold slA
      rw [it_self]
      rw [Sm_eq hn (g := fun _ => 0) (fun b _ _ => bfS_0 ha.1)]
      show (0 : Int) = _
      exact (Sm_i (P := fun n => 0 = Sm (fun _ => 0) n) hn (Sm_0 _).symm (fun i a _ c => by rw [Sm_s _ a, ← c]; rfl))
    · show (it (slf gl gt gw gh nb ac dn) 0 (i + 1) (gf, 0, gp, gb)).2.1 = _
      rw [it_s _ _ h1]
      show (it (prb gl gt gw gh ac dn i) 0 nb (slA gl gt gw gh nb ac dn gf gp gb i).2).1 = _
      rw [inner i nb _ hn (Int.le_refl nb), h3, Sm_add hn]
      exact Sm_eq hn (fun b _ _ => (bfS_s ha h1).symm)
  exact ⟨outer, fun b b0 b1 => inner s b _ b0 b1⟩
theorem slA_cap {cP cQ db ew nb ac dn : Int} {gl gt gw gh gf gp gb : Int → Int} (hB : okB cP cQ db ew nb gl gt gw gh) (hP : 0 ≤ cP ∧ cP ≤ 16) (hQ : 0 ≤ cQ ∧ cQ ≤ 16) (h : 0 ≤ db ∧ db ≤ 2 ∧ 0 ≤ ew ∧ ew ≤ 2 ∧ db + ew ≤ 3) (ha : 1 ≤ ac ∧ ac ≤ 4) (hd : 1 ≤ dn ∧ dn ≤ 4) {s : Int} (hs : 0 ≤ s ∧ s < ac * dn) :
    0 ≤ (slA gl gt gw gh nb ac dn gf gp gb s).2.1 ∧ (slA gl gt gw gh nb ac dn gf gp gb s).2.1 + Sm (fun b => psz (bWd cP db ew b) (bHt cQ db ew b) ac dn s) nb ≤ 256 := by
  have tr := tot_r hP hQ h
  have hn : 0 ≤ nb := by rw [hB.1]; unfold nBd; omega
  have hc := (slA_c (gf := gf) (gp := gp) (gb := gb) hB hP hQ h ha hd hs.1).1
  have ht := fun b (b0 : 0 ≤ b) (b1 : b < nb) => tr.2 b b0 (by rw [← hB.1]; exact b1)
  have hz : ∀ k, 0 ≤ k → ∀ b, 0 ≤ b → b < nb → 0 ≤ bfS (bWd cP db ew b) (bHt cQ db ew b) ac dn k := fun k hk b b0 b1 =>
    Sm_i (P := fun k => 0 ≤ bfS (bWd cP db ew b) (bHt cQ db ew b) ac dn k) hk (by rw [bfS_0 ha.1]; omega) (fun i h1 _ h3 => by
      rw [bfS_s ha h1]
      have := psz_n (s := i) (ht b b0 b1).1.1 (ht b b0 b1).2.1 ha.1 hd.1
      omega)
  rw [hc]
  refine ⟨Sm_n hn (hz s hs.1), ?_⟩
  rw [Sm_add hn]
  have h1 := Sm_le (f := fun b => bfS (bWd cP db ew b) (bHt cQ db ew b) ac dn s + psz (bWd cP db ew b) (bHt cQ db ew b) ac dn s) (g := fun b => bWd cP db ew b * bHt cQ db ew b) hn (fun b b0 b1 => bfS_h (ht b b0 b1).1.1 (ht b b0 b1).2.1 ha.1 hd.1 hs)
  have h2 := tr.1
  rw [← hB.1] at h2
  omega
/-- cutSlices may be called -/
theorem cut_cap {cP cQ db ew nb ac dn : Int} {gl gt gw gh gf gp gb : Int → Int} (hB : okB cP cQ db ew nb gl gt gw gh) (hP : 0 ≤ cP ∧ cP ≤ 16) (hQ : 0 ≤ cQ ∧ cQ ≤ 16) (h : 0 ≤ db ∧ db ≤ 2 ∧ 0 ≤ ew ∧ ew ≤ 2 ∧ db + ew ≤ 3) (ha : 1 ≤ ac ∧ ac ≤ 4) (hd : 1 ≤ dn ∧ dn ≤ 4) :
    ∀ s b, 0 ≤ s → s < ac * dn → 0 ≤ b → b < nb → 0 ≤ (it (prb gl gt gw gh ac dn s) 0 b (slA gl gt gw gh nb ac dn gf gp gb s).2).1 ∧ (it (prb gl gt gw gh ac dn s) 0 b (slA gl gt gw gh nb ac dn gf gp gb s).2).1 + psz (gw b) (gh b) ac dn s ≤ 256 := by
  intro s b s0 s1 b0 b1
  have tr := (tot_r hP hQ h).2
  have hc := (slA_c (gf := gf) (gp := gp) (gb := gb) hB hP hQ h ha hd s0).2 b b0 (by omega)
  have hk := slA_cap (gf := gf) (gp := gp) (gb := gb) hB hP hQ h ha hd ⟨s0, s1⟩
  have hb := hB.2 b b0 b1
  have hps : ∀ i, 0 ≤ i → i < nb → 0 ≤ psz (bWd cP db ew i) (bHt cQ db ew i) ac dn s := fun i i0 i1 => psz_n (tr i i0 (by rw [← hB.1]; exact i1)).1.1 (tr i i0 (by rw [← hB.1]; exact i1)).2.1 ha.1 hd.1
  have h1 := Sm_p (f := fun b => psz (bWd cP db ew b) (bHt cQ db ew b) ac dn s) (m := b + 1) (n := nb) ⟨by omega, by omega⟩ hps
  have h2 := Sm_n (f := fun b => psz (bWd cP db ew b) (bHt cQ db ew b) ac dn s) (n := b) b0 (fun i i0 i1 => hps i i0 (by omega))
  rw [Sm_s _ b0] at h1
  rw [hc, hb.2.2.1, hb.2.2.2]
  omega
theorem okB_r {cP cQ db ew nb : Int} {gl gt gw gh : Int → Int} (hB : okB cP cQ db ew nb gl gt gw gh) (hP : 0 ≤ cP ∧ cP ≤ 16) (hQ : 0 ≤ cQ ∧ cQ ≤ 16) (h : 0 ≤ db ∧ db ≤ 2 ∧ 0 ≤ ew ∧ ew ≤ 2 ∧ db + ew ≤ 3) : (0 ≤ nb ∧ nb ≤ 8) ∧ ∀ b, 0 ≤ b → b < nb → (0 ≤ gw b ∧ gw b ≤ 16) ∧ 0 ≤ gh b ∧ gh b ≤ 16 := by
  have tr := (tot_r hP hQ h).2
  refine ⟨by rw [hB.1]; unfold nBd; omega, fun b b0 b1 => ?_⟩
  have hb := hB.2 b b0 b1
  have ht := tr b b0 (by rw [← hB.1]; exact b1)
  rw [hb.2.2.1, hb.2.2.2]
  omega
theorem cut_ok {cP cQ db ew nb ac dn : Int} {gl gt gw gh gf gp gb : Int → Int} (hB : okB cP cQ db ew nb gl gt gw gh) (hP : 0 ≤ cP ∧ cP ≤ 16) (hQ : 0 ≤ cQ ∧ cQ ≤ 16) (h : 0 ≤ db ∧ db ≤ 2 ∧ 0 ≤ ew ∧ ew ≤ 2 ∧ db + ew ≤ 3) (ha : 1 ≤ ac ∧ ac ≤ 4) (hd : 1 ≤ dn ∧ dn ≤ 4) :
    okS cP cQ db ew ac dn (up (slA gl gt gw gh nb ac dn gf gp gb (ac * dn)).1 (ac * dn) (slA gl gt gw gh nb ac dn gf gp gb (ac * dn)).2.1) (slA gl gt gw gh nb ac dn gf gp gb (ac * dn)).2.2.1 (slA gl gt gw gh nb ac dn gf gp gb (ac * dn)).2.2.2 := by
  have hn : 0 ≤ nb := by rw [hB.1]; unfold nBd; omega
  -- before slice k: the rows keep what was, and first holds the counts
  have keep : ∀ s k, 0 ≤ s → s ≤ k → kpR3 (slA gl gt gw gh nb ac dn gf gp gb s).2.1 (slA gl gt gw gh nb ac dn gf gp gb s).2 (slA gl gt gw gh nb ac dn gf gp gb k).2 ∧ (s < k → (slA gl gt gw gh nb ac dn gf gp gb k).1 s = (slA gl gt gw gh nb ac dn gf gp gb s).2.1) := by
    intro s k s0 sk
    obtain ⟨n, rfl⟩ : ∃ n : Nat, k = s + (n : Int) := ⟨(k - s).toNat, by omega⟩
    induction n with
    | zero =>
      rw [show s + ((0 : Nat) : Int) = s by omega]
      exact ⟨⟨Int.le_refl _, fun j _ => ⟨rfl, rfl⟩⟩, fun q => by omega⟩
    | succ n ih =>
      obtain ⟨i1, i2⟩ := ih (by omega)
      have e : slA gl gt gw gh nb ac dn gf gp gb (s + ((n + 1 : Nat) : Int)) = slf gl gt gw gh nb ac dn (s + n) (slA gl gt gw gh nb ac dn gf gp gb (s + n)) := by
        unfold slA
        rw [show s + ((n + 1 : Nat) : Int) = (s + n) + 1 by omega, it_s _ _ (by omega)]
      rw [e]
      refine ⟨it_iv (I := fun x => kpR3 (slA gl gt gw gh nb ac dn gf gp gb s).2.1 (slA gl gt gw gh nb ac dn gf gp gb s).2 x) i1 (fun i x _ _ hx => kp_prt hx), fun _ => ?_⟩
      show up (slA gl gt gw gh nb ac dn gf gp gb (s + n)).1 (s + n) (slA gl gt gw gh nb ac dn gf gp gb (s + n)).2.1 s = _
      by_cases e2 : n = 0
      · subst e2
        rw [show s + ((0 : Nat) : Int) = s by omega, up_self]
      · rw [up_ne _ _ (show s ≠ s + (n : Int) by omega)]
        exact i2 (by omega)
  have first : ∀ s, 0 ≤ s → s ≤ ac * dn → up (slA gl gt gw gh nb ac dn gf gp gb (ac * dn)).1 (ac * dn) (slA gl gt gw gh nb ac dn gf gp gb (ac * dn)).2.1 s = (slA gl gt gw gh nb ac dn gf gp gb s).2.1 := by
    intro s s0 s1
    by_cases e : s = ac * dn
    · subst e; rw [up_self]
    · rw [up_ne _ _ e]; exact (keep s (ac * dn) s0 s1).2 (by omega)
  intro s s0 s1
  have sh : shR3 (slA gl gt gw gh nb ac dn gf gp gb s).2.1 (slA gl gt gw gh nb ac dn gf gp gb (s + 1)).2 (lsS cP cQ db ew ac dn s) := by
    have e : (slA gl gt gw gh nb ac dn gf gp gb (s + 1)).2 = it (prb gl gt gw gh ac dn s) 0 nb (slA gl gt gw gh nb ac dn gf gp gb s).2 := by
      unfold slA
      rw [it_s _ _ s0]
      rfl
    rw [e]
    unfold lsS
    rw [← hB.1]
    refine it_rel ⟨by show (0 : Int) ≤ 0; omega, by show _ = _ + (0 : Int); omega, fun k k0 k1 => by have k1 : k < 0 := k1; omega⟩ (fun b x y b0 b1 hx => ?_)
    have hb := hB.2 b b0 b1
    show shR3 _ (prt (gl b) (gt b) (gw b) (gh b) b ac dn s x) (prt _ _ _ _ b ac dn s y)
    rw [hb.1, hb.2.1, hb.2.2.1, hb.2.2.2]
    exact sh_prt hx
  have cp := slA_cap (gf := gf) (gp := gp) (gb := gb) hB hP hQ h ha hd ⟨s0, s1⟩
  have cc := (slA_c (gf := gf) (gp := gp) (gb := gb) hB hP hQ h ha hd s0).2 nb hn (Int.le_refl nb)
  have e1 : (slA gl gt gw gh nb ac dn gf gp gb (s + 1)).2.1 = (slA gl gt gw gh nb ac dn gf gp gb s).2.1 + Sm (fun b => psz (bWd cP db ew b) (bHt cQ db ew b) ac dn s) nb := by
    rw [← cc]
    unfold slA
    rw [it_s _ _ s0]
    rfl
  rw [first s s0 (by omega), first (s + 1) (by omega) (by omega)]
  refine ⟨⟨cp.1, sh.2.1, by rw [e1]; exact cp.2⟩, fun k k0 k1 => ?_⟩
  have kk := (keep (s + 1) (ac * dn) (by omega) (by omega)).1.2 ((slA gl gt gw gh nb ac dn gf gp gb s).2.1 + k) (by rw [sh.2.1]; omega)
  have kh := sh.2.2 k k0 k1
  rw [kk.1, kk.2]
  exact kh
theorem okS_r {cP cQ db ew ac dn : Int} {gf gp gb : Int → Int} (hS : okS cP cQ db ew ac dn gf gp gb) (hP : 0 ≤ cP ∧ cP ≤ 16) (hQ : 0 ≤ cQ ∧ cQ ≤ 16) (h : 0 ≤ db ∧ db ≤ 2 ∧ 0 ≤ ew ∧ ew ≤ 2 ∧ db + ew ≤ 3) (ha : 1 ≤ ac) (hd : 1 ≤ dn) {s : Int} (hs : 0 ≤ s ∧ s < ac * dn) : (0 ≤ gf s ∧ gf s ≤ gf (s + 1) ∧ gf (s + 1) ≤ 256) ∧ ∀ i, gf s ≤ i → i < gf (s + 1) → (0 ≤ gp i ∧ gp i < 256) ∧ 0 ≤ gb i ∧ gb i < 8 := by
  obtain ⟨⟨h1, h2, h3⟩, h4⟩ := hS s hs.1 hs.2
  have rg := lsS_r hP hQ h ha hd hs
  refine ⟨⟨h1, by have := rg.1; omega, h3⟩, fun i i0 i1 => ?_⟩
  have k := h4 (i - gf s) (by omega) (by omega)
  have r := rg.2 (i - gf s) (by omega) (by omega)
  rw [show gf s + (i - gf s) = i by omega] at k
  rw [k.1, k.2]
  have hn : nBd db ew ≤ 8 := by unfold nBd; omega
  omega

