
/-! the quantiser that is found, in both -/
theorem ws_e {m1 : Int → (Int → Int) → (Int → Int64) → tri} {m2 : Int → (Int → Int) → (Int → Int64) → spl4} {ro : Int} {S : tri → spl4 → Prop} (hd : ∀ X Y, S X Y → (X.1 ≤ ro ↔ Y.1.2.1 ≤ ro)) (hm : ∀ q X Y, 0 ≤ q → q ≤ 31 → S X Y → S (m1 q X.2.1 X.2.2) (m2 q Y.1.2.2 Y.2)) : ∀ (k : Nat) (q : Int) (X : tri) (Y : spl4), 0 ≤ q → q + k ≤ 31 → S X Y → (wsq m1 ro k q X).1 = (wmq m2 ro k q Y).1 ∧ S (wsq m1 ro k q X).2 (wmq m2 ro k q Y).2
  | 0, q, X, Y, _, _, h => ⟨rfl, h⟩
  | k + 1, q, X, Y, hq, hk, h => by
    by_cases c : X.1 ≤ ro
    · rw [wsq_s c, wmq_s ((hd X Y h).mp c)]; exact ⟨rfl, h⟩
    · rw [wsq_g rfl c, wmq_g rfl (fun w => c ((hd X Y h).mpr w))]
      exact ws_e hd hm k (q + 1) _ _ (by omega) (by omega) (hm (q + 1) X Y (by omega) (by omega) h)
/-! bits that are put -/
def ptB (en : Int) (bk : Int → Int) (m : Int) (y : Int × (Int → Int)) : Int × (Int → Int) := it (fun i y => pt en (bk i) y) 0 m y
theorem pt_a {en b : Int} (y : Int × (Int → Int)) : (pt en b y).1 = if y.1 < en then y.1 + 1 else y.1 := by
  unfold pt; split <;> rfl
theorem pt_no {en b : Int} {y : Int × (Int → Int)} (h : en ≤ y.1) : pt en b y = y := if_neg (by omega)
theorem ptB_a {en m A : Int} {bk : Int → Int} {g : Int → Int} (hA : A ≤ en) (hm : 0 ≤ m) : (ptB en bk m (A, g)).1 = min (A + m) en :=
  it_inv (f := fun i (y : Int × (Int → Int)) => pt en (bk i) y) (I := fun i (y : Int × (Int → Int)) => y.1 = min (A + i) en) (by show A = _; omega) (fun i y h1 h2 hy => by
    show (pt en (bk i) y).1 = _
    rw [pt_a, hy]; split <;> omega) hm
theorem ptB_s {en m : Int} {bk : Int → Int} {y : Int × (Int → Int)} (h : 0 ≤ m) : ptB en bk (m + 1) y = pt en (bk m) (ptB en bk m y) := it_s _ _ h
theorem ptB_c {en m : Int} {bk bl : Int → Int} {y : Int × (Int → Int)} (h : ∀ t, 0 ≤ t → t < m → bk t = bl t) : ptB en bk m y = ptB en bl m y := it_congr (fun i z i0 i1 => by rw [h i i0 i1])
theorem ptB_e {en m A len : Int} {bk : Int → Int} {g : Int → Int} (he : en = A + len) (hl : 0 ≤ len ∧ len ≤ m) : ptB en bk m (A, g) = ptB en bk len (A, g) := by
  have h1 := ptB_a (en := en) (bk := bk) (g := g) (m := len) (A := A) (by omega) hl.1
  unfold ptB at h1 ⊢
  rw [it_split (a := 0) (b := len) (c := m) hl.1 hl.2]
  refine it_iv (I := fun z => z = it (fun i y => pt en (bk i) y) 0 len (A, g)) rfl (fun i z _ _ hz => ?_)
  rw [hz]
  exact pt_no (by omega)
abbrev tSP (en A : Int) (g : Int → Int) (x : spl3) (y : Int × (Int → Int)) : Prop := 0 ≤ x.1 ∧ y = ptB en x.2.2 x.1 (A, g)
theorem tS_M {en A b : Int} {g : Int → Int} {x : spl3} {y : Int × (Int → Int)} (hA : A ≤ en ∧ en < A + 1024) (h : tSP en A g x y) : tSP en A g (emM b x) (pt en b y) := by
  obtain ⟨h0, rfl⟩ := h
  refine ⟨by show 0 ≤ x.1 + 1; omega, ?_⟩
  show pt en b (ptB en x.2.2 x.1 (A, g)) = ptB en (if x.1 < 1024 then up x.2.2 x.1 b else x.2.2) (x.1 + 1) (A, g)
  have ha := ptB_a (en := en) (bk := x.2.2) (g := g) (A := A) hA.1 h0
  rw [ptB_s h0]
  by_cases c : x.1 < 1024
  · rw [if_pos c, up_self]
    congr 1
    exact ptB_c (fun t t0 t1 => by rw [up_ne _ _ (by omega)])
  · rw [if_neg c, pt_no (by omega), pt_no (by omega)]
theorem tS_N {en A v : Int} {g : Int → Int} {x : spl3} {y : Int × (Int → Int)} (hA : A ≤ en ∧ en < A + 1024) (h : tSP en A g x y) : tSP en A g (emN v x) (ptN en v y) := by
  have h1 : tSP en A g (it (emg (absI v + 1) (lg (absI v + 1))) 0 (lg (absI v + 1)) x) (it (ptg en (absI v + 1) (lg (absI v + 1))) 0 (lg (absI v + 1)) y) := it_rel (R := tSP en A g) h (fun i x y _ _ hx => tS_M hA (tS_M hA hx))
  unfold emN ptN
  dsimp only
  by_cases c1 : lg (absI v + 1) < 26
  · rw [if_pos c1, if_pos c1]
    by_cases c2 : v = 0
    · rw [if_pos c2, if_pos c2]; exact tS_M hA h1
    · rw [if_neg c2, if_neg c2]; exact tS_M hA (tS_M hA h1)
  · rw [if_neg c1, if_neg c1]
    by_cases c2 : v = 0
    · rw [if_pos c2, if_pos c2]; exact h1
    · rw [if_neg c2, if_neg c2]; exact tS_M hA h1
theorem wb_e {en A f0 n : Int} {N g bk : Int → Int} (hn : 0 ≤ n) (hA : A ≤ en ∧ en < A + 1024) : it (wbf en N) f0 (f0 + n) (A, g) = ptB en (spN N f0 bk n).2.2 (spN N f0 bk n).1 (A, g) := by
  have e := it_shift (f := wbf en N) (a := 0) (b := n) f0 hn (A, g)
  rw [Int.zero_add, Int.add_comm n f0] at e
  rw [e]
  unfold spN
  exact (it_rel (R := tSP en A g) (f := fun j y => emN (N (f0 + j)) y) (g := fun i => wbf en N (i + f0)) (a := 0) (b := n) (x := (0, 0, bk)) (y := (A, g)) ⟨by show (0 : Int) ≤ 0; omega, (it_self _ _ _).symm⟩ (fun i x y _ _ hx => by
    show tSP en A g (emN (N (f0 + i)) x) (ptN en (N (i + f0)) y)
    rw [Int.add_comm i f0]
    exact tS_N hA hx)).2
theorem or_k2 : ∀ a : Nat, a < 256 → ∀ k : Nat, k < 8 → ((a : Int) / 2 ^ k % 2 = 0 → orI (a : Int) (2 ^ k) = a + 2 ^ k) ∧ orI (a : Int) 0 = a ∧ ((a : Int) / 2 ^ k % 2 = 0 → ∀ m : Nat, m < k → ((a : Int) + 2 ^ k) / 2 ^ m % 2 = (a : Int) / 2 ^ m % 2) := by decide +kernel
theorem or_a {a b : Int} {k : Nat} (ha : 0 ≤ a ∧ a < 256) (hk : k < 8) (hb : b = 0 ∨ b = 1) (hz : a / 2 ^ k % 2 = 0) : orI a (b * 2 ^ k) = a + b * 2 ^ k ∧ ∀ m : Nat, m < k → (a + b * 2 ^ k) / 2 ^ m % 2 = a / 2 ^ m % 2 := by
  have h := or_k2 a.toNat (by omega) k hk
  rw [Int.toNat_of_nonneg ha.1] at h
  rcases hb with rfl | rfl
  · rw [Int.zero_mul, Int.add_zero]; exact ⟨h.2.1, fun _ _ => rfl⟩
  · rw [Int.one_mul]; exact ⟨h.1 hz, h.2.2 hz⟩
/-- class and reference behind i bits of a slice -/
def rB (ba sz : Int) (g g2 : Int → Int) (i : Int) (y : Int × (Int → Int)) (f : Int → Int) : Prop :=
  y.1 = 8 * ba + i ∧ (∀ j, 0 ≤ y.2 j ∧ y.2 j < 256) ∧ (∀ j, ba ≤ j → j < ba + sz → y.2 j % 256 = f j % 256) ∧ (∀ p, i ≤ p → p < 8 * sz → y.2 (ba + p / 8) / 2 ^ (7 - p % 8).toNat % 2 = 0) ∧ (∀ j, (j < ba ∨ ba + sz ≤ j) → y.2 j = g j ∧ f j = g2 j)
theorem rB_s {ba sz en i b : Int} {g g2 f : Int → Int} {y : Int × (Int → Int)} (h : rB ba sz g g2 i y f) (hi : 0 ≤ i ∧ i < 8 * sz) (he : 8 * ba + i < en) (hb : b = 0 ∨ b = 1) : rB ba sz g g2 (i + 1) (pt en b y) (pbM ba f i b) := by
  obtain ⟨h1, h2, h3, h4, h5⟩ := h
  have e8 : (8 * ba + i) / 8 = ba + i / 8 := by omega
  have m8 : (8 * ba + i) % 8 = i % 8 := by omega
  have z := h4 i (Int.le_refl i) hi.2
  have o := or_a (b := b) (h2 (ba + i / 8)) (show (7 - i % 8).toNat < 8 by omega) hb z
  have ey : pt en b y = (8 * ba + i + 1, up y.2 (ba + i / 8) (y.2 (ba + i / 8) + b * 2 ^ (7 - i % 8).toNat)) := by
    unfold pt
    rw [h1, if_pos he, e8, m8, o.1]
  have hr := or_r (j := i) (h2 (ba + i / 8)) hb
  rw [o.1] at hr
  rw [ey]
  refine ⟨by show 8 * ba + i + 1 = _; omega, fun j => ?_, fun j j0 j1 => ?_, fun p p0 p1 => ?_, fun j hj => ?_⟩
  · show 0 ≤ up y.2 _ _ j ∧ up y.2 _ _ j < 256
    unfold up
    split
    · exact hr
    · exact h2 j
  · show up y.2 (ba + i / 8) _ j % 256 = up f (ba + i / 8) _ j % 256
    by_cases c : j = ba + i / 8
    · subst c
      rw [up_self, up_self]
      have h3 := h3 (ba + i / 8) j0 j1
      have e : b8 (f (ba + i / 8) + b * 2 ^ (7 - i % 8).toNat) % 256 = (f (ba + i / 8) + b * 2 ^ (7 - i % 8).toNat) % 256 := Int.bmod_emod
      rw [e, Int.add_emod, h3, ← Int.add_emod]
    · rw [up_ne _ _ c, up_ne _ _ c]; exact h3 j j0 j1
  · show up y.2 (ba + i / 8) _ (ba + p / 8) / _ % 2 = 0
    have hp := h4 p (by omega) p1
    by_cases c : p / 8 = i / 8
    · rw [show ba + p / 8 = ba + i / 8 by omega, up_self, o.2 _ (by omega)]
      rw [c] at hp
      exact hp
    · rw [up_ne _ _ (by omega)]; exact hp
  · show up y.2 (ba + i / 8) _ j = g j ∧ up f (ba + i / 8) _ j = g2 j
    rw [up_ne _ _ (by omega), up_ne _ _ (by omega)]
    exact h5 j hj
theorem wr_e {ba sz ld f0 n q len : Int} {N g g2 bk bl : Int → Int} (hn : 0 ≤ n) (hld : 0 ≤ ld ∧ ld ≤ 10) (hlen : 0 ≤ len ∧ len < 1000 + 16) (hsz : 5 + ld + len ≤ 8 * sz) (hs0 : 0 ≤ sz) (hg : ∀ j, 0 ≤ g j ∧ g j < 256) (hz : ∀ j, ba ≤ j → j < ba + sz → g j = 0) (hbl : bits bl) (hc : len ≤ (spN N f0 bk n).1) (hb : ∀ t, 0 ≤ t → t < len → bl t = (spN N f0 bk n).2.2 t) :
    (∀ j, ba ≤ j → j < ba + sz → (wbA (8 * ba) ld f0 (f0 + n) q len N g).2 j % 256 = wmG ba sz ld q len bl g2 j % 256) ∧ (∀ j, (j < ba ∨ ba + sz ≤ j) → (wbA (8 * ba) ld f0 (f0 + n) q len N g).2 j = g j ∧ wmG ba sz ld q len bl g2 j = g2 j) := by
  obtain ⟨en, hen⟩ : ∃ en, en = 8 * ba + (5 + ld + len) := ⟨_, rfl⟩
  obtain ⟨c0, hc0⟩ : ∃ c0, c0 = it (fun i f => up f (ba + i) (b8 0)) 0 sz g2 := ⟨_, rfl⟩
  have b0 : b8 0 = 0 := by decide
  have cv : ∀ j, c0 j = if ba ≤ j ∧ j < ba + sz then 0 else g2 j := by
    rw [hc0]
    refine it_inv (f := fun i (f : Int → Int) => up f (ba + i) (b8 0)) (I := fun i (f : Int → Int) => ∀ j, f j = if ba ≤ j ∧ j < ba + i then 0 else g2 j) (fun j => by rw [if_neg (by omega)]) (fun i f i0 i1 hf j => ?_) hs0
    show up f (ba + i) (b8 0) j = _
    by_cases e : j = ba + i
    · subst e; rw [up_self, if_pos (by omega), b0]
    · rw [up_ne _ _ e, hf j]
      by_cases w : ba ≤ j ∧ j < ba + i
      · rw [if_pos w, if_pos (by omega)]
      · rw [if_neg w, if_neg (by omega)]
  have r0 : rB ba sz g g2 0 (8 * ba, g) c0 := by
    refine ⟨by show 8 * ba = 8 * ba + 0; omega, hg, fun j j0 j1 => ?_, fun p p0 p1 => ?_, fun j hj => ⟨rfl, ?_⟩⟩
    · show g j % 256 = c0 j % 256
      rw [cv, if_pos ⟨j0, j1⟩, hz j j0 j1]
    · show g (ba + p / 8) / _ % 2 = 0
      rw [hz _ (by omega) (by omega), Int.zero_ediv]; rfl
    · rw [cv, if_neg (by omega)]
  have r1 := it_reli (R := fun i y f => rB ba sz g g2 i y f) (f := ptf en q 5) (g := fun i f => pbM ba f i (q / 2 ^ (4 - i).toNat % 2)) (a := 0) (b := 5) r0 (fun i y f i0 i1 h => by
    show rB ba sz g g2 (i + 1) (pt en (q / 2 ^ (5 - 1 - i).toNat % 2) y) _
    rw [show (5 : Int) - 1 - i = 4 - i by omega]
    exact rB_s h ⟨i0, by omega⟩ (by omega) (m2_01 _)) (by omega)
  have r2 := it_reli (R := fun i y f => rB ba sz g g2 (5 + i) y f) (f := ptf en len ld) (g := fun i f => pbM ba f (5 + i) (len / 2 ^ (ld - 1 - i).toNat % 2)) (a := 0) (b := ld) r1 (fun i y f i0 i1 h => by
    have := rB_s (en := en) (b := len / 2 ^ (ld - 1 - i).toNat % 2) h ⟨by omega, by omega⟩ (by omega) (m2_01 _)
    rw [show 5 + i + 1 = 5 + (i + 1) by omega] at this
    exact this) hld.1
  obtain ⟨y2, hy2⟩ : ∃ y2, y2 = it (ptf en len ld) 0 ld (it (ptf en q 5) 0 5 (8 * ba, g)) := ⟨_, rfl⟩
  rw [← hy2] at r2
  have hw : wbA (8 * ba) ld f0 (f0 + n) q len N g = ptB en bl len y2 := by
    have e1 : wbA (8 * ba) ld f0 (f0 + n) q len N g = it (wbf en N) f0 (f0 + n) y2 := by
      rw [hy2, hen]; rfl
    have ey : y2 = (8 * ba + (5 + ld), y2.2) := Prod.ext r2.1 rfl
    rw [e1, ey, wb_e (bk := bk) hn ⟨by omega, by omega⟩, ptB_e (len := len) (by omega) ⟨hlen.1, hc⟩]
    exact ptB_c (fun t t0 t1 => (hb t t0 t1).symm)
  have r3 := it_reli (R := fun i y f => rB ba sz g g2 (5 + ld + i) y f) (f := fun i y => pt en (bl i) y) (g := fun i f => pbM ba f (5 + ld + i) (bl i)) (a := 0) (b := len) (by rw [Int.add_zero]; exact r2) (fun i y f i0 i1 h => by
    have := rB_s (en := en) (b := bl i) h ⟨by omega, by omega⟩ (by omega) (hbl i)
    rw [show 5 + ld + i + 1 = 5 + ld + (i + 1) by omega] at this
    exact this) hlen.1
  rw [hw]
  have ew : wmG ba sz ld q len bl g2 = it (fun i f => pbM ba f (5 + ld + i) (bl i)) 0 len (it (fun i f => pbM ba f (5 + i) (len / 2 ^ (ld - 1 - i).toNat % 2)) 0 ld (it (fun i f => pbM ba f i (q / 2 ^ (4 - i).toNat % 2)) 0 5 c0)) := by
    rw [hc0]; rfl
  rw [ew]
  exact ⟨r3.2.2.1, r3.2.2.2.2⟩

