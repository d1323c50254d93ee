
/-! which places stand before which -/
def mem3 (z : lst3) (q : Int) : Prop := ∃ k, 0 ≤ k ∧ k < z.1 ∧ z.2.1 k = q
def OR3 (K : Int → Prop) (z : lst3) : Prop := 0 ≤ z.1 ∧ ∀ k, 0 ≤ k → k < z.1 → z.2.2 k = 0 → ∀ q, nbr (z.2.1 k) q → K q ∨ ∃ j, 0 ≤ j ∧ j < k ∧ z.2.1 j = q
theorem mem_psh {z : lst3} {p b q : Int} (h0 : 0 ≤ z.1) (h : mem3 z q ∨ q = p) : mem3 (psh p b z) q := by
  rcases h with ⟨k, k0, k1, k2⟩ | h
  · exact ⟨k, k0, by show k < z.1 + 1; omega, by show up z.2.1 z.1 p k = q; rw [up_ne _ _ (by omega)]; exact k2⟩
  · exact ⟨z.1, h0, by show z.1 < z.1 + 1; omega, by show up z.2.1 z.1 p z.1 = q; rw [up_self]; exact h.symm⟩
theorem or_psh {K : Int → Prop} {z : lst3} {p b : Int} (h : OR3 K z) (hp : b = 0 → ∀ q, nbr p q → K q ∨ mem3 z q) : OR3 K (psh p b z) := by
  obtain ⟨h0, h1⟩ := h
  refine ⟨by show 0 ≤ z.1 + 1; omega, fun k k0 k1 hb q hq => ?_⟩
  have k1 : k < z.1 + 1 := k1
  have hb : up z.2.2 z.1 b k = 0 := hb
  have hq : nbr (up z.2.1 z.1 p k) q := hq
  show K q ∨ ∃ j, 0 ≤ j ∧ j < k ∧ up z.2.1 z.1 p j = q
  by_cases e : k = z.1
  · subst e
    rw [up_self] at hb hq
    rcases hp hb q hq with w | ⟨j, j0, j1, j2⟩
    · exact Or.inl w
    · exact Or.inr ⟨j, j0, j1, by rw [up_ne _ _ (by omega)]; exact j2⟩
  · rw [up_ne _ _ e] at hb hq
    rcases h1 k k0 (by omega) hb q hq with w | ⟨j, j0, j1, j2⟩
    · exact Or.inl w
    · exact Or.inr ⟨j, j0, j1, by rw [up_ne _ _ (by omega)]; exact j2⟩
/-- places of a band that the slices before s have -/
def KB (l t w h ac dn s q : Int) : Prop := ∃ x y, (0 ≤ x ∧ x < w) ∧ (0 ≤ y ∧ y < h) ∧ q = (t + y) * 16 + l + x ∧ (y < cutI h dn (s / ac) ∨ (y < cutI h dn (s / ac + 1) ∧ x < cutI w ac (s % ac)))
theorem cut_0 (w a : Int) : cutI w a 0 = 0 := by unfold cutI; rw [Int.mul_zero, Int.zero_ediv]
theorem cut_a {w a : Int} (h : 1 ≤ a) : cutI w a a = w := by unfold cutI; exact Int.mul_ediv_cancel _ (by omega)
theorem KB_0 {l t w h ac dn q : Int} (ha : 1 ≤ ac) : ¬ KB l t w h ac dn 0 q := by
  rintro ⟨x, y, hx, hy, _, hk⟩
  rw [Int.zero_ediv, Int.zero_emod, cut_0, cut_0] at hk
  omega
theorem KB_n {l t w h ac dn x y : Int} (ha : 1 ≤ ac) (hd : 1 ≤ dn) (hx : 0 ≤ x ∧ x < w) (hy : 0 ≤ y ∧ y < h) : KB l t w h ac dn (ac * dn) ((t + y) * 16 + l + x) := by
  refine ⟨x, y, hx, hy, rfl, Or.inl ?_⟩
  rw [Int.mul_ediv_cancel_left _ (by omega), cut_a hd]
  exact hy.2
theorem KB_s {l t w h ac dn s q : Int} (ha : 1 ≤ ac ∧ ac ≤ 4) (hs : 0 ≤ s) (hk : KB l t w h ac dn (s + 1) q) : KB l t w h ac dn s q ∨ ∃ x y, (cutI w ac (s % ac) ≤ x ∧ x < cutI w ac (s % ac + 1)) ∧ (cutI h dn (s / ac) ≤ y ∧ y < cutI h dn (s / ac + 1)) ∧ q = (t + y) * 16 + l + x := by
  obtain ⟨x, y, hx, hy, hq, hk⟩ := hk
  have hc : ((s + 1) / ac = s / ac ∧ (s + 1) % ac = s % ac + 1) ∨ ((s + 1) / ac = s / ac + 1 ∧ (s + 1) % ac = 0 ∧ s % ac + 1 = ac) := by
    rcases (show ac = 1 ∨ ac = 2 ∨ ac = 3 ∨ ac = 4 by omega) with rfl | rfl | rfl | rfl <;> omega
  by_cases c : y < cutI h dn (s / ac) ∨ (y < cutI h dn (s / ac + 1) ∧ x < cutI w ac (s % ac))
  · exact Or.inl ⟨x, y, hx, hy, hq, c⟩
  · refine Or.inr ⟨x, y, ?_, ?_, hq⟩
    · rcases hc with ⟨e1, e2⟩ | ⟨e1, e2, e3⟩
      · rw [e1, e2] at hk; omega
      · rw [e1, e2, cut_0] at hk
        rw [e3, cut_a ha.1]; omega
    · rcases hc with ⟨e1, e2⟩ | ⟨e1, e2, e3⟩
      · rw [e1, e2] at hk; omega
      · rw [e1, e2, cut_0] at hk; omega
theorem mem_prt {l t w h b ac dn s : Int} {z : lst3} (h0 : 0 ≤ z.1) (hw : 0 ≤ w) (hh : 0 ≤ h) (ha : 1 ≤ ac) (hd : 1 ≤ dn) : (∀ q, mem3 z q → mem3 (prt l t w h b ac dn s z) q) ∧ ∀ x y, (cutI w ac (s % ac) ≤ x ∧ x < cutI w ac (s % ac + 1)) → (cutI h dn (s / ac) ≤ y ∧ y < cutI h dn (s / ac + 1)) → mem3 (prt l t w h b ac dn s z) ((t + y) * 16 + l + x) := by
  have m7 := cut_m (w := w) (a := ac) (i := s % ac) hw ha
  have m8 := cut_m (w := h) (a := dn) (i := s / ac) hh hd
  have row : ∀ (y : Int) (u : lst3), 0 ≤ u.1 → 0 ≤ (pry l t b (cutI w ac (s % ac)) (cutI w ac (s % ac + 1)) y u).1 ∧ (∀ q, mem3 u q → mem3 (pry l t b (cutI w ac (s % ac)) (cutI w ac (s % ac + 1)) y u) q) ∧ ∀ x, cutI w ac (s % ac) ≤ x → x < cutI w ac (s % ac + 1) → mem3 (pry l t b (cutI w ac (s % ac)) (cutI w ac (s % ac + 1)) y u) ((t + y) * 16 + l + x) := by
    intro y u hu
    refine it_inv (f := prx l t b y) (I := fun i (v : lst3) => 0 ≤ v.1 ∧ (∀ q, mem3 u q → mem3 v q) ∧ ∀ x, cutI w ac (s % ac) ≤ x → x < i → mem3 v ((t + y) * 16 + l + x)) ⟨hu, fun q hq => hq, fun x x0 x1 => by omega⟩ ?_ m7
    intro i v i0 i1 ⟨v0, v1, v2⟩
    refine ⟨by show 0 ≤ v.1 + 1; omega, fun q hq => mem_psh v0 (Or.inl (v1 q hq)), fun x x0 x1 => ?_⟩
    by_cases e : x = i
    · subst e; exact mem_psh v0 (Or.inr rfl)
    · exact mem_psh v0 (Or.inl (v2 x x0 (by omega)))
  have k := it_inv (f := pry l t b (cutI w ac (s % ac)) (cutI w ac (s % ac + 1))) (a := cutI h dn (s / ac)) (b := cutI h dn (s / ac + 1)) (x := z) (I := fun i (v : lst3) => 0 ≤ v.1 ∧ (∀ q, mem3 z q → mem3 v q) ∧ ∀ x y, (cutI w ac (s % ac) ≤ x ∧ x < cutI w ac (s % ac + 1)) → (cutI h dn (s / ac) ≤ y ∧ y < i) → mem3 v ((t + y) * 16 + l + x)) ⟨h0, fun q hq => hq, fun x y x0 y0 => by omega⟩ (fun i v i0 i1 ⟨v0, v1, v2⟩ => by
    have r := row i v v0
    refine ⟨r.1, fun q hq => r.2.1 q (v1 q hq), fun x y hx hy => ?_⟩
    by_cases e : y = i
    · subst e; exact r.2.2 x hx.1 hx.2
    · exact r.2.1 _ (v2 x y hx (by omega))) m8
  exact k.2
theorem prt_0 {l t w h b ac dn s : Int} {z : lst3} (h0 : 0 ≤ z.1) : 0 ≤ (prt l t w h b ac dn s z).1 :=
  it_iv (I := fun (v : lst3) => 0 ≤ v.1) h0 (fun i v _ _ hv => it_iv (I := fun (v : lst3) => 0 ≤ v.1) hv (fun j v _ _ hv => by show 0 ≤ v.1 + 1; omega))
/-- all places that slice s has of band b stand in its list -/
theorem mem_ls {cP cQ db ew ac dn s : Int} (hP : 0 ≤ cP ∧ cP ≤ 16) (hQ : 0 ≤ cQ ∧ cQ ≤ 16) (h : 0 ≤ db ∧ db ≤ 2 ∧ 0 ≤ ew ∧ ew ≤ 2 ∧ db + ew ≤ 3) (ha : 1 ≤ ac) (hd : 1 ≤ dn) {b : Int} (hb : 0 ≤ b ∧ b < nBd db ew) {x y : Int} (hx : cutI (bWd cP db ew b) ac (s % ac) ≤ x ∧ x < cutI (bWd cP db ew b) ac (s % ac + 1)) (hy : cutI (bHt cQ db ew b) dn (s / ac) ≤ y ∧ y < cutI (bHt cQ db ew b) dn (s / ac + 1)) : mem3 (lsS cP cQ db ew ac dn s) ((bTp cQ db ew b + y) * 16 + bLf cP db ew b + x) := by
  have tr := (tot_r hP hQ h).2
  unfold lsS
  rw [it_split (b := b + 1) (by omega) (by omega), it_s _ _ hb.1]
  have z0 : ∀ c, 0 ≤ (it (lsB cP cQ db ew ac dn s) 0 c (0, fun _ => 0, fun _ => 0)).1 := fun c => it_iv (I := fun (v : lst3) => 0 ≤ v.1) (by show (0 : Int) ≤ 0; omega) (fun i v _ _ hv => prt_0 hv)
  have m := (mem_prt (l := bLf cP db ew b) (t := bTp cQ db ew b) (b := b) (s := s) (z0 b) (tr b hb.1 hb.2).1.1 (tr b hb.1 hb.2).2.1 ha hd).2 x y hx hy
  refine (it_iv (I := fun (v : lst3) => 0 ≤ v.1 ∧ mem3 v _) ⟨prt_0 (z0 b), m⟩ (fun i v i0 i1 hv => ?_)).2
  exact ⟨prt_0 hv.1, (mem_prt hv.1 (tr i (by omega) i1).1.1 (tr i (by omega) i1).2.1 ha hd).1 _ hv.2⟩
theorem KB_m {cP cQ db ew ac dn s q b : Int} (hP : 0 ≤ cP ∧ cP ≤ 16) (hQ : 0 ≤ cQ ∧ cQ ≤ 16) (h : 0 ≤ db ∧ db ≤ 2 ∧ 0 ≤ ew ∧ ew ≤ 2 ∧ db + ew ≤ 3) (ha : 1 ≤ ac ∧ ac ≤ 4) (hd : 1 ≤ dn) (hb : 0 ≤ b ∧ b < nBd db ew) (hs : 0 ≤ s) (hk : KB (bLf cP db ew b) (bTp cQ db ew b) (bWd cP db ew b) (bHt cQ db ew b) ac dn (s + 1) q) : KB (bLf cP db ew b) (bTp cQ db ew b) (bWd cP db ew b) (bHt cQ db ew b) ac dn s q ∨ mem3 (lsS cP cQ db ew ac dn s) q := by
  rcases KB_s ha hs hk with w | ⟨x, y, hx, hy, rfl⟩
  · exact Or.inl w
  · exact Or.inr (mem_ls hP hQ h ha.1 hd hb hx hy)
abbrev K0 (cP cQ db ew ac dn s q : Int) : Prop := KB 0 0 (bWd cP db ew 0) (bHt cQ db ew 0) ac dn s q
theorem bL0 (cP db ew : Int) : bLf cP db ew 0 = 0 := if_neg (by omega)
theorem bT0 {cQ db ew : Int} (h : 0 ≤ ew) : bTp cQ db ew 0 = 0 := if_neg (by omega)
/-- the order in a slice's list -/
theorem or_ls {cP cQ db ew ac dn s : Int} (hP : 0 ≤ cP ∧ cP ≤ 16) (hQ : 0 ≤ cQ ∧ cQ ≤ 16) (h : 0 ≤ db ∧ db ≤ 2 ∧ 0 ≤ ew ∧ ew ≤ 2 ∧ db + ew ≤ 3) (ha : 1 ≤ ac ∧ ac ≤ 4) (hd : 1 ≤ dn ∧ dn ≤ 4) (hs : 0 ≤ s ∧ s < ac * dn) : OR3 (K0 cP cQ db ew ac dn s) (lsS cP cQ db ew ac dn s) := by
  have tr := (tot_r hP hQ h).2
  have hn : 1 ≤ nBd db ew := by unfold nBd; omega
  have t0 := tr 0 (by omega) (by omega)
  have hi := sl_i ha.1 hs
  unfold lsS
  rw [it_split (b := 1) (by omega) hn, it_01]
  refine it_iv (I := fun (v : lst3) => OR3 (K0 cP cQ db ew ac dn s) v) ?_ (fun b v b0 b1 hv => ?_)
  · show OR3 _ (prt (bLf cP db ew 0) (bTp cQ db ew 0) (bWd cP db ew 0) (bHt cQ db ew 0) 0 ac dn s (0, fun _ => 0, fun _ => 0))
    rw [bL0, bT0 h.2.2.1] at t0 ⊢
    unfold K0
    obtain ⟨w, hw⟩ : ∃ w, w = bWd cP db ew 0 := ⟨_, rfl⟩
    obtain ⟨e, he⟩ : ∃ e, e = bHt cQ db ew 0 := ⟨_, rfl⟩
    rw [← hw, ← he] at t0 ⊢
    have m7 := cut_m (w := w) (a := ac) (i := s % ac) t0.1.1 ha.1
    have m8 := cut_m (w := e) (a := dn) (i := s / ac) t0.2.1 hd.1
    have k := it_inv (f := pry 0 0 0 (cutI w ac (s % ac)) (cutI w ac (s % ac + 1))) (a := cutI e dn (s / ac)) (b := cutI e dn (s / ac + 1)) (x := (((0 : Int), (fun _ => 0), (fun _ => 0)) : lst3)) (I := fun y (v : lst3) => OR3 (KB 0 0 w e ac dn s) v ∧ ∀ x' y', (cutI w ac (s % ac) ≤ x' ∧ x' < cutI w ac (s % ac + 1)) → (cutI e dn (s / ac) ≤ y' ∧ y' < y) → mem3 v (y' * 16 + x')) ⟨⟨by show (0 : Int) ≤ 0; omega, fun k k0 k1 => by have k1 : k < 0 := k1; omega⟩, fun x' y' _ hy => by omega⟩ (fun y v y0 y1 ⟨v0, v1⟩ => by
      have a1 := cut_in t0.2.1 hd.1 hi.2 y0 y1
      have k2 := it_inv (f := prx 0 0 0 y) (a := cutI w ac (s % ac)) (b := cutI w ac (s % ac + 1)) (x := v) (I := fun x (u : lst3) => OR3 (KB 0 0 w e ac dn s) u ∧ (∀ x' y', (cutI w ac (s % ac) ≤ x' ∧ x' < cutI w ac (s % ac + 1)) → (cutI e dn (s / ac) ≤ y' ∧ y' < y) → mem3 u (y' * 16 + x')) ∧ ∀ x', cutI w ac (s % ac) ≤ x' → x' < x → mem3 u (y * 16 + x')) ⟨v0, v1, fun x' _ _ => by omega⟩ (fun x u x0 x1 ⟨u0, u1, u2⟩ => by
        have a2 := cut_in t0.1.1 ha.1 hi.1 x0 x1
        have ep : (0 + y) * 16 + 0 + x = y * 16 + x := by omega
        show OR3 _ (psh ((0 + y) * 16 + 0 + x) 0 u) ∧ (∀ x' y', _ → _ → mem3 (psh ((0 + y) * 16 + 0 + x) 0 u) (y' * 16 + x')) ∧ ∀ x', _ → _ → mem3 (psh ((0 + y) * 16 + 0 + x) 0 u) (y * 16 + x')
        rw [ep]
        refine ⟨or_psh u0 (fun _ q hq => ?_), fun x' y' hx hy => mem_psh u0.1 (Or.inl (u1 x' y' hx hy)), fun x' x0' x1' => ?_⟩
        · have left : ∀ y', 0 ≤ y' → y' < cutI e dn (s / ac + 1) → y' < e → 1 ≤ x → x - 1 < cutI w ac (s % ac) → KB 0 0 w e ac dn s (y' * 16 + (x - 1)) := fun y' c1 c2 c4 c3 c5 => ⟨x - 1, y', by omega, by omega, by omega, Or.inr ⟨c2, c5⟩⟩
          have above : ∀ x', 0 ≤ x' → x' < w → y - 1 < cutI e dn (s / ac) → 1 ≤ y → KB 0 0 w e ac dn s ((y - 1) * 16 + x') := fun x' c1 c2 c3 c4 => ⟨x', y - 1, by omega, by omega, by omega, Or.inl c3⟩
          rcases hq with ⟨c, rfl⟩ | ⟨c, rfl⟩ | ⟨c, d, rfl⟩
          · rw [show y * 16 + x - 1 = y * 16 + (x - 1) by omega]
            by_cases g : cutI w ac (s % ac) ≤ x - 1
            · exact Or.inr (u2 (x - 1) g (by omega))
            · exact Or.inl (left y (by omega) y1 (by omega) (by omega) (by omega))
          · rw [show y * 16 + x - 16 = (y - 1) * 16 + x by omega]
            by_cases g : cutI e dn (s / ac) ≤ y - 1
            · exact Or.inr (u1 x (y - 1) ⟨x0, x1⟩ ⟨g, by omega⟩)
            · exact Or.inl (above x (by omega) (by omega) (by omega) (by omega))
          · rw [show y * 16 + x - 17 = (y - 1) * 16 + (x - 1) by omega]
            by_cases g : cutI e dn (s / ac) ≤ y - 1
            · by_cases g2 : cutI w ac (s % ac) ≤ x - 1
              · exact Or.inr (u1 (x - 1) (y - 1) ⟨g2, by omega⟩ ⟨g, by omega⟩)
              · exact Or.inl (left (y - 1) (by omega) (by omega) (by omega) (by omega) (by omega))
            · exact Or.inl (above (x - 1) (by omega) (by omega) (by omega) (by omega))
        · by_cases g : x' = x
          · subst g; exact mem_psh u0.1 (Or.inr rfl)
          · exact mem_psh u0.1 (Or.inl (u2 x' x0' (by omega)))) m7
      refine ⟨k2.1, fun x' y' hx hy => ?_⟩
      by_cases g : y' = y
      · subst g; exact k2.2.2 x' hx.1 hx.2
      · exact k2.2.1 x' y' hx (by omega)) m8
    exact k.1
  · exact it_iv (I := fun (v : lst3) => OR3 (K0 cP cQ db ew ac dn s) v) hv (fun i v _ _ hv => it_iv (I := fun (v : lst3) => OR3 (K0 cP cQ db ew ac dn s) v) hv (fun j v _ _ hv => or_psh hv (fun q => by omega)))
/-- what a slice has is not among what the slices before it have -/
theorem K0_no {cP cQ db ew ac dn s : Int} (hP : 0 ≤ cP ∧ cP ≤ 16) (hQ : 0 ≤ cQ ∧ cQ ≤ 16) (h : 0 ≤ db ∧ db ≤ 2 ∧ 0 ≤ ew ∧ ew ≤ 2 ∧ db + ew ≤ 3) (ha : 1 ≤ ac ∧ ac ≤ 4) (hd : 1 ≤ dn ∧ dn ≤ 4) (hs : 0 ≤ s ∧ s < ac * dn) : ∀ k, 0 ≤ k → k < (lsS cP cQ db ew ac dn s).1 → ¬ K0 cP cQ db ew ac dn s ((lsS cP cQ db ew ac dn s).2.1 k) := by
  have tr := (tot_r hP hQ h).2
  have hn : 1 ≤ nBd db ew := by unfold nBd; omega
  have t0 := tr 0 (by omega) (by omega)
  have hi := sl_i ha.1 hs
  have out : ∀ b, 1 ≤ b → b < nBd db ew → bWd cP db ew 0 ≤ bLf cP db ew b ∨ bHt cQ db ew 0 ≤ bTp cQ db ew b := by
    intro b b0 b1
    have dv : ∀ (c : Int) (i j : Nat), 0 ≤ c → j ≤ i → c / 2 ^ i ≤ c / 2 ^ j := by
      intro c i j hc hij
      obtain ⟨k, rfl⟩ : ∃ k, i = j + k := ⟨i - j, by omega⟩
      rw [Int.pow_add, ← Int.ediv_ediv_of_nonneg (by have := p2_1 j; omega)]
      exact Int.ediv_le_self _ (Int.ediv_nonneg hc (by have := p2_1 j; omega))
    by_cases c : b ≤ ew ∨ ¬ (b - ew - 1) % 3 = 1
    · refine Or.inl ?_
      unfold bLf
      rw [if_pos ⟨by omega, c⟩]
      refine dv cP _ _ hP.1 ?_
      unfold hvW
      rw [if_pos rfl, if_neg (by omega)]
      split <;> omega
    · refine Or.inr ?_
      unfold bTp
      rw [if_pos ⟨by omega, by omega⟩]
      refine dv cQ _ _ hQ.1 ?_
      unfold hvH
      rw [if_pos rfl, if_neg (by omega), if_neg (by omega)]
      unfold nBd at b1
      omega
  have nz : ∀ (z : lst3), (0 ≤ z.1 ∧ ∀ k, 0 ≤ k → k < z.1 → ¬ K0 cP cQ db ew ac dn s (z.2.1 k)) → ∀ p b, ¬ K0 cP cQ db ew ac dn s p → (0 ≤ (psh p b z).1 ∧ ∀ k, 0 ≤ k → k < (psh p b z).1 → ¬ K0 cP cQ db ew ac dn s ((psh p b z).2.1 k)) := by
    intro z hz p b hp
    refine ⟨by show 0 ≤ z.1 + 1; omega, fun k k0 k1 => ?_⟩
    have k1 : k < z.1 + 1 := k1
    show ¬ K0 cP cQ db ew ac dn s (up z.2.1 z.1 p k)
    by_cases e : k = z.1
    · subst e; rw [up_self]; exact hp
    · rw [up_ne _ _ e]; exact hz.2 k k0 (by omega)
  refine (it_iv (I := fun (z : lst3) => 0 ≤ z.1 ∧ ∀ k, 0 ≤ k → k < z.1 → ¬ K0 cP cQ db ew ac dn s (z.2.1 k)) ⟨by show (0 : Int) ≤ 0; omega, fun k k0 k1 => by have k1 : k < 0 := k1; omega⟩ (fun b z b0 b1 hz => ?_)).2
  have tb := tr b b0 b1
  refine it_iv (I := fun (z : lst3) => 0 ≤ z.1 ∧ ∀ k, 0 ≤ k → k < z.1 → ¬ K0 cP cQ db ew ac dn s (z.2.1 k)) hz (fun y z y0 y1 hz => it_iv (I := fun (z : lst3) => 0 ≤ z.1 ∧ ∀ k, 0 ≤ k → k < z.1 → ¬ K0 cP cQ db ew ac dn s (z.2.1 k)) hz (fun x z x0 x1 hz => nz z hz _ _ ?_))
  have a1 := cut_in tb.2.1 hd.1 hi.2 y0 y1
  have a2 := cut_in tb.1.1 ha.1 hi.1 x0 x1
  rintro ⟨x', y', hx, hy, e, hk⟩
  rw [bL0, bT0 h.2.2.1] at t0
  by_cases c : b = 0
  · subst c
    rw [bL0, bT0 h.2.2.1] at e
    have e1 : x' = x := by omega
    have e2 : y' = y := by omega
    subst e1; subst e2
    omega
  · have o := out b (by omega) b1
    omega

