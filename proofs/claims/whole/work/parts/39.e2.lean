
/-! class and reference: bits that are read -/
theorem it_reli {σ τ : Type} {R : Int → σ → τ → Prop} {f : Int → σ → σ} {g : Int → τ → τ} {a b : Int} {x : σ} {y : τ} (h0 : R a x y) (hs : ∀ i x y, a ≤ i → i < b → R i x y → R (i + 1) (f i x) (g i y)) (hab : a ≤ b) : R b (it f a b x) (it g a b y) := by
  obtain ⟨n, rfl⟩ : ∃ n : Nat, b = a + n := ⟨(b - a).toNat, by omega⟩
  clear hab
  induction n with
  | zero => rw [show a + ((0 : Nat) : Int) = a by omega, it_self, it_self]; exact h0
  | succ n ih =>
    have e : a + ((n + 1 : Nat) : Int) = (a + n) + 1 := by omega
    rw [e, it_s f x (by omega), it_s g y (by omega)]
    exact hs _ _ _ (by omega) (by omega) (ih fun i x y h1 h2 => hs i x y h1 (by omega))
theorem bit_m {a b : Int} (h : a % 256 = b % 256) (k : Nat) (hk : k < 8) : a / 2 ^ k % 2 = b / 2 ^ k % 2 := by
  rcases (show k = 0 ∨ k = 1 ∨ k = 2 ∨ k = 3 ∨ k = 4 ∨ k = 5 ∨ k = 6 ∨ k = 7 by omega) with rfl | rfl | rfl | rfl | rfl | rfl | rfl | rfl
  · show a / 1 % 2 = b / 1 % 2; omega
  · show a / 2 % 2 = b / 2 % 2; omega
  · show a / 4 % 2 = b / 4 % 2; omega
  · show a / 8 % 2 = b / 8 % 2; omega
  · show a / 16 % 2 = b / 16 % 2; omega
  · show a / 32 % 2 = b / 32 % 2; omega
  · show a / 64 % 2 = b / 64 % 2; omega
  · show a / 128 % 2 = b / 128 % 2; omega
/-- bytes from ba on, as far as sp bits reach, are the same -/
def sameB (g1 g2 : Int → Int) (ba sp : Int) : Prop := ∀ j, ba ≤ j → 8 * (j - ba) < sp → g1 j % 256 = g2 j % 256
theorem sameB_le {g1 g2 : Int → Int} {ba sp sp' : Int} (h : sameB g1 g2 ba sp) (hs : sp' ≤ sp) : sameB g1 g2 ba sp' := fun j h1 h2 => h j h1 (by omega)
theorem bt_e {g1 g2 : Int → Int} {ba sp c : Int} (h : sameB g1 g2 ba sp) (hc : 0 ≤ c ∧ c < sp) : bitv g1 (8 * ba + c) = btM g2 ba c := by
  unfold bitv btM
  rw [show (8 * ba + c) / 8 = ba + c / 8 by omega, show (8 * ba + c) % 8 = c % 8 by omega]
  exact bit_m (h _ (by omega) (by omega)) _ (by omega)
theorem tk_e {g1 g2 : Int → Int} {ba sp c : Int} (h : sameB g1 g2 ba sp) (hc : 0 ≤ c) (hs : 0 ≤ sp) : tkV g1 (8 * ba + sp) (min (8 * ba + c) (8 * ba + sp)) = nxM g2 ba sp c ∧ tkA (8 * ba + sp) (min (8 * ba + c) (8 * ba + sp)) = min (8 * ba + (c + 1)) (8 * ba + sp) := by
  by_cases q : c < sp
  · have e : min (8 * ba + c) (8 * ba + sp) = 8 * ba + c := by omega
    rw [e, tkV_t (by omega), tkA_t (by omega), bt_e h ⟨hc, q⟩]
    refine ⟨?_, by omega⟩
    unfold nxM
    rw [if_pos q]
  · have e : min (8 * ba + c) (8 * ba + sp) = 8 * ba + sp := by omega
    rw [e, tkV_f (by omega), tkA_f (by omega)]
    refine ⟨?_, by omega⟩
    unfold nxM
    rw [if_neg q]
theorem lw_da (n v : Int) : 2 * lw n + lw v = lw (2 * n + v) := by
  show 2 * Int64.ofInt n + Int64.ofInt v = Int64.ofInt (2 * n + v)
  rw [Int64.ofInt_add, Int64.ofInt_mul]
  rfl
theorem rdl_e {g1 g2 : Int → Int} {ba sp : Int} (h : sameB g1 g2 ba sp) (hs : 0 ≤ sp) : ∀ (k : Nat) (n c : Int), 0 ≤ c → ∃ d, 0 ≤ d ∧ rml g2 ba sp k (lw n) c = (lw (rdl g1 (8 * ba + sp) k n (min (8 * ba + c) (8 * ba + sp))).1, d) ∧ (rdl g1 (8 * ba + sp) k n (min (8 * ba + c) (8 * ba + sp))).2 = min (8 * ba + d) (8 * ba + sp)
  | 0, n, c, hc => ⟨c, hc, rfl, rfl⟩
  | k + 1, n, c, hc => by
    have t := tk_e h hc hs
    have t2 := tk_e h (c := c + 1) (by omega) hs
    by_cases q : nxM g2 ba sp c = 1
    · rw [rdl_b (by omega) (by rw [t.1]; exact q)]
      refine ⟨c + 1, by omega, ?_, t.2⟩
      show (if nxM g2 ba sp c = 1 then (lw n, c + 1) else _) = _
      rw [if_pos q]
    · rw [rdl_g (j := k) rfl (by rw [t.1]; exact q), t.2, t2.1, t2.2]
      obtain ⟨d, d0, d1, d2⟩ := rdl_e h hs k (2 * n + nxM g2 ba sp (c + 1)) (c + 1 + 1) (by omega)
      refine ⟨d, d0, ?_, d2⟩
      show (if nxM g2 ba sp c = 1 then (lw n, c + 1) else rml g2 ba sp k (2 * lw n + lw (nxM g2 ba sp (c + 1))) (c + 1 + 1)) = _
      rw [if_neg q, lw_da]
      exact d1
theorem lw_s (a b : Int) : lw a - lw b = lw (a - b) := (Int64.ofInt_sub a b).symm
theorem rdN_e {g1 g2 : Int → Int} {ba sp c : Int} (h : sameB g1 g2 ba sp) (hs : 0 ≤ sp) (hc : 0 ≤ c) : ∃ d, 0 ≤ d ∧ rmN g2 ba sp c = (lw (rdN g1 (8 * ba + sp) (min (8 * ba + c) (8 * ba + sp))).1, d) ∧ (rdN g1 (8 * ba + sp) (min (8 * ba + c) (8 * ba + sp))).2 = min (8 * ba + d) (8 * ba + sp) := by
  obtain ⟨d, d0, d1, d2⟩ := rdl_e h hs 26 1 c hc
  obtain ⟨n, b, hx⟩ : ∃ n b, rdl g1 (8 * ba + sp) 26 1 (min (8 * ba + c) (8 * ba + sp)) = (n, b) := ⟨_, _, rfl⟩
  have hm := rdl_m hx
  rw [hx] at d1 d2
  have d2 : b = min (8 * ba + d) (8 * ba + sp) := d2
  have d1 : rml g2 ba sp 26 1 c = (lw n, d) := d1
  have o : (lw n = 1 ↔ n = 1) := by
    rw [← Int64.toInt_inj, lw_toInt ⟨by omega, by omega⟩]
    exact Iff.rfl
  have t := tk_e h d0 hs
  rw [← d2] at t
  by_cases q : n = 1
  · rw [rdN_0 hx q, ← rmN_0 d1.symm (o.mpr q)]
    exact ⟨d, d0, rfl, d2⟩
  · by_cases r : nxM g2 ba sp d = 1
    · rw [rdN_n hx q (by rw [t.1]; exact r), ← rmN_n d1.symm (fun w => q (o.mp w)) r]
      exact ⟨d + 1, by omega, by show (lw 1 - lw n, d + 1) = _; rw [lw_s], t.2⟩
    · rw [rdN_p hx q (by rw [t.1]; exact r), ← rmN_p d1.symm (fun w => q (o.mp w)) r]
      exact ⟨d + 1, by omega, by show (lw n - lw 1, d + 1) = _; rw [lw_s], t.2⟩
theorem tkF_e {g1 g2 : Int → Int} {ba sp fm n : Int} (h : sameB g1 g2 ba sp) (hn : 0 ≤ n) (hf : 0 ≤ fm) (hs : fm + n ≤ sp) : (tkF g1 (8 * ba + (fm + n)) n (8 * ba + fm)).1 = bsM g2 ba fm n := by
  unfold tkF bsM
  have e := it_shift (f := fun i v => 2 * v + btM g2 ba i) (a := 0) (b := n) fm hn (0 : Int)
  rw [Int.zero_add, Int.add_comm n fm] at e
  rw [e]
  have k := it_reli (R := fun i (x : Int × Int) (v : Int) => x.1 = v ∧ x.2 = 8 * ba + (fm + i)) (f := tkf g1 (8 * ba + (fm + n))) (g := fun i v => 2 * v + btM g2 ba (i + fm)) (a := 0) (b := n) (x := (0, 8 * ba + fm)) (y := 0) ⟨rfl, by show 8 * ba + fm = _; omega⟩ (fun i x v i0 i1 hx => by
    obtain ⟨h1, h2⟩ := hx
    show 2 * x.1 + tkV g1 _ x.2 = _ ∧ tkA _ x.2 = _
    rw [h2, tkV_t (by omega), tkA_t (by omega), h1, bt_e h ⟨by omega, by omega⟩, Int.add_comm i fm]
    exact ⟨rfl, by omega⟩) hn
  exact k.1
theorem rq_e {g1 g2 : Int → Int} {nu de s sp : Int} (h : sameB g1 g2 (sBy nu de s) sp) (hs : 5 ≤ sp) : rqI g1 nu de s = bsM g2 (sBy nu de s) 0 5 := by
  have := tkF_e (fm := 0) (n := 5) h (by omega) (by omega) (by omega)
  rw [Int.add_zero] at this
  exact this
theorem rl_e {g1 g2 : Int → Int} {nu de s sp : Int} (h : sameB g1 g2 (sBy nu de s) sp) (hl : 0 ≤ ldI nu de s) (hs : 5 + ldI nu de s ≤ sp) : rlI g1 nu de s = lnM g2 nu de s := by
  have := tkF_e (fm := 5) (n := ldI nu de s) h hl (by omega) hs
  unfold rlI lnM
  rw [show 8 * sBy nu de s + 5 + ldI nu de s = 8 * sBy nu de s + (5 + ldI nu de s) by omega, this]
  split <;> omega
/-! a slice, read by both -/
def nbr (p q : Int) : Prop := (¬ p % 16 = 0 ∧ q = p - 1) ∨ (16 ≤ p ∧ q = p - 16) ∨ (¬ p % 16 = 0 ∧ 16 ≤ p ∧ q = p - 17)
theorem fc_e {v w : Int → Int64} {p : Int} (h : ∀ q, nbr p q → v q = w q) : fcL v p = fcL w p := by
  unfold fcL
  by_cases c1 : p % 16 = 0
  · rw [if_pos c1, if_pos c1]
    by_cases c2 : p < 16
    · rw [if_pos c2, if_pos c2]
    · rw [if_neg c2, if_neg c2]; exact h _ (Or.inr (Or.inl ⟨by omega, rfl⟩))
  · rw [if_neg c1, if_neg c1]
    have e1 := h (p - 1) (Or.inl ⟨c1, rfl⟩)
    by_cases c2 : p < 16
    · rw [if_pos c2, if_pos c2]; exact e1
    · rw [if_neg c2, if_neg c2, e1, h (p - 16) (Or.inr (Or.inl ⟨by omega, rfl⟩)), h (p - 17) (Or.inr (Or.inr ⟨c1, by omega, rfl⟩))]
def ordL (K : Int → Prop) (n : Int) (P B : Int → Int) : Prop := ∀ k, 0 ≤ k → k < n → B k = 0 → ∀ q, nbr (P k) q → K q ∨ ∃ j, 0 ≤ j ∧ j < k ∧ P j = q
theorem prd_e {pr : Int} {K : Int → Prop} {n k f0 : Int} {P B gb gp gb2 gp2 : Int → Int} {v w : Int → Int64} (ho : ordL K n P B) (hk : 0 ≤ k ∧ k < n) (h1 : gp f0 = P k ∧ gb f0 = B k) (h2 : gp2 k = P k ∧ gb2 k = B k) (hv : ∀ q, (K q ∨ ∃ j, 0 ≤ j ∧ j < k ∧ P j = q) → v q = w q) : prd pr gb gp v f0 = prd pr gb2 gp2 w k := by
  unfold prd
  rw [h1.1, h1.2, h2.1, h2.2]
  by_cases c : pr = 0 ∨ ¬ B k = 0
  · rw [if_pos c, if_pos c]
  · rw [if_neg c, if_neg c]
    exact fc_e (fun q hq => hv q (ho k hk.1 hk.2 (Classical.byContradiction fun w => c (Or.inr w)) q hq))
/-- places of the numbers -/
theorem rns_v {g : Int → Int} {en f0 n a0 : Int} {gn : Int → Int} (k : Int) (hk : 0 ≤ k ∧ k < n) : (it (rns g en) f0 (f0 + n) (gn, a0)).1 (f0 + k) = (rdN g en (it (rns g en) f0 (f0 + k) (gn, a0)).2).1 := by
  rw [it_split (b := f0 + k + 1) (c := f0 + n) (by omega) (by omega), it_s _ _ (show f0 ≤ f0 + k by omega)]
  refine it_iv (I := fun (x : (Int → Int) × Int) => x.1 (f0 + k) = _) ?_ (fun i x i0 i1 hx => ?_)
  · show up _ (f0 + k) _ (f0 + k) = _
    rw [up_self]
  · show up x.1 i _ (f0 + k) = _
    rw [up_ne _ _ (show f0 + k ≠ i by omega)]
    exact hx
theorem cnA_s {f : Int → Int} {a b : Int} (h : a ≤ b) : cnA f a (b + 1) = cnA f a b + (if f b = 0 then 0 else 1) := by
  unfold cnA
  rw [it_s _ _ h]
  unfold cnf
  split <;> omega
theorem rd_e {g1 g2 : Int → Int} {nu de pr s f0 n : Int} {es es2 gb gp qf qo gn P B : Int → Int} {K : Int → Prop} {L : lst3} {v w : Int → Int64} (hok : okR nu de) (hs : 0 ≤ s ∧ s < 16) (hg : sameB g1 g2 (sBy nu de s) (8 * sBy nu de (s + 1) - 8 * sBy nu de s)) (hn : 0 ≤ n) (h1 : ∀ k, 0 ≤ k → k < n → gp (f0 + k) = P k ∧ gb (f0 + k) = B k) (hL : L.1 = n) (h2 : ∀ k, 0 ≤ k → k < n → L.2.1 k = P k ∧ L.2.2 k = B k) (hPB : ∀ k, 0 ≤ k → k < n → 0 ≤ P k ∧ 0 ≤ B k ∧ B k < 8) (hes : ∀ b, 0 ≤ b → b < 8 → 0 ≤ es b ∧ es b ≤ 15) (hqf : ∀ r, 0 ≤ r → r < 32 → qf r = facI r ∧ qo r = offI r) (he : ∀ b, 0 ≤ b → b < 8 → es b = es2 b) (ho : ordL K n P B) (hv : ∀ q, K q → v q = w q) {gf : Int → Int} (hf : gf s = f0 ∧ gf (s + 1) = f0 + n) :
    (∀ q, (v q = w q ∨ ∃ j, 0 ≤ j ∧ j < n ∧ P j = q) → it (rbs pr es gb gp qf qo (rnA g1 nu de gf s gn).1 (rqI g1 nu de s)) f0 (f0 + n) v q = (rmA g2 nu de pr es2 s L w).2.2 q) ∧ cnA (rnA g1 nu de gf s gn).1 f0 (f0 + n) = (rmA g2 nu de pr es2 s L w).1 := by
  have q3 := sBy_s hok (s := s)
  have q4 := ldI_r hok (s := s)
  have q5 := rmI_r hok (s := s)
  have q6 : rmI nu de s = 8 * sBy nu de (s + 1) - 8 * sBy nu de s - 5 - ldI nu de s := rfl
  have q7 := rlI_r (g := g1) hok hs
  have q8 := rqI_r (g := g1) hok hs
  have eq := rq_e hg (by omega)
  have el := rl_e hg (by omega) (by omega)
  obtain ⟨N, hN⟩ : ∃ N, N = (rnA g1 nu de gf s gn).1 := ⟨_, rfl⟩
  obtain ⟨sp, hsp⟩ : ∃ sp, sp = 5 + ldI nu de s + rlI g1 nu de s := ⟨_, rfl⟩
  have hen : 8 * sBy nu de s + 5 + ldI nu de s + rlI g1 nu de s = 8 * sBy nu de s + sp := by omega
  have hg2 := sameB_le (sp' := sp) hg (by omega)
  have hNv : ∀ k, 0 ≤ k → k < n → N (f0 + k) = (rdN g1 (8 * sBy nu de s + sp) (it (rns g1 (8 * sBy nu de s + sp)) f0 (f0 + k) (gn, 8 * sBy nu de s + 5 + ldI nu de s)).2).1 := by
    intro k k0 k1
    rw [hN]
    unfold rnA
    rw [hf.1, hf.2, hen]
    exact rns_v k ⟨k0, k1⟩
  rw [← hN]
  unfold rmA
  rw [hL, ← eq, ← el, ← hsp]
  obtain ⟨q0, hq0⟩ : ∃ q0, q0 = rqI g1 nu de s := ⟨_, rfl⟩
  rw [← hq0] at q8 ⊢
  have e := it_shift (f := rbs pr es gb gp qf qo N q0) (a := 0) (b := n) f0 hn v
  rw [Int.zero_add, Int.add_comm n f0] at e
  rw [e]
  have k := it_reli (R := fun i (V : Int → Int64) (z : rst3) => z.1 = cnA N f0 (f0 + i) ∧ 0 ≤ z.2.1 ∧ (it (rns g1 (8 * sBy nu de s + sp)) f0 (f0 + i) (gn, 8 * sBy nu de s + 5 + ldI nu de s)).2 = min (8 * sBy nu de s + z.2.1) (8 * sBy nu de s + sp) ∧ ∀ q, (v q = w q ∨ ∃ j, 0 ≤ j ∧ j < i ∧ P j = q) → V q = z.2.2 q) (f := fun i => rbs pr es gb gp qf qo N q0 (i + f0)) (g := rmf pr es2 L.2.2 L.2.1 g2 (sBy nu de s) sp q0) (a := 0) (b := n) (x := v) (y := (0, 5 + ldI nu de s, w))
    ⟨by show (0 : Int) = cnA N f0 (f0 + 0); rw [Int.add_zero]; exact (it_self _ _ _).symm, by show 0 ≤ 5 + ldI nu de s; omega, by rw [Int.add_zero, it_self]; show 8 * sBy nu de s + 5 + ldI nu de s = min (8 * sBy nu de s + (5 + ldI nu de s)) _; omega, fun q hq => hq.elim id (fun ⟨j, j0, j1, _⟩ => by omega)⟩
    (fun i V z i0 i1 hz => by
      obtain ⟨z1, z2, z3, z4⟩ := hz
      obtain ⟨d, d0, d1, d2⟩ := rdN_e hg2 (by omega) z2
      have hNi := hNv i i0 i1
      rw [z3] at hNi
      rw [← hNi] at d1
      have hr := rdN_r g1 (8 * sBy nu de s + sp) (min (8 * sBy nu de s + z.2.1) (8 * sBy nu de s + sp))
      rw [← hNi] at hr
      obtain ⟨zc, zp, zv⟩ := z
      have hPi := hPB i i0 i1
      have p1 := h1 i i0 i1
      have p2 := h2 i i0 i1
      have hei := hes (B i) hPi.2.1 hPi.2.2
      rw [rmf_e (r := lw (N (f0 + i))) (d := d) d1.symm]
      refine ⟨?_, d0, ?_, ?_⟩
      · show zc + (if lw (N (f0 + i)) = 0 then 0 else 1) = cnA N f0 (f0 + (i + 1))
        rw [show f0 + (i + 1) = f0 + i + 1 by omega, cnA_s (by omega), ← z1]
        have o : (lw (N (f0 + i)) = 0 ↔ N (f0 + i) = 0) := by
          rw [← Int64.toInt_inj, lw_toInt ⟨by omega, by omega⟩]
          exact Iff.rfl
        by_cases c : N (f0 + i) = 0
        · rw [if_pos c, if_pos (o.mpr c)]
        · rw [if_neg c, if_neg (fun u => c (o.mp u))]
      · rw [show f0 + (i + 1) = f0 + i + 1 by omega, it_s _ _ (show f0 ≤ f0 + i by omega)]
        show (rdN g1 _ (it (rns g1 _) f0 (f0 + i) _).2).2 = _
        rw [z3]
        exact d2
      · have ep : prd pr gb gp V (i + f0) = prd pr L.2.2 L.2.1 zv i := by
          rw [Int.add_comm i f0]
          refine prd_e (K := K) (n := n) (P := P) (B := B) ho ⟨i0, i1⟩ p1 p2 (fun q hq => z4 q ?_)
          rcases hq with hq | hq
          · exact Or.inl (hv q hq)
          · exact Or.inr hq
        have er : rrI es gb q0 (i + f0) = rrI es2 L.2.2 q0 i := by
          rw [Int.add_comm i f0]; unfold rrI; rw [p1.2, p2.2, he (B i) hPi.2.1 hPi.2.2]
        have hrr : 0 ≤ rrI es2 L.2.2 q0 i ∧ rrI es2 L.2.2 q0 i < 32 := by unfold rrI; rw [p2.2, ← he (B i) hPi.2.1 hPi.2.2]; omega
        have hq := hqf _ hrr.1 hrr.2
        have val : bdL (prd pr gb gp V (i + f0) + vlC (N (i + f0)) (qf (rrI es gb q0 (i + f0))) (qo (rrI es gb q0 (i + f0)))) = rmv pr es2 L.2.2 L.2.1 q0 i (lw (N (f0 + i))) zv := by
          rw [ep, er, hq.1, hq.2, Int.add_comm i f0, ← vl_e hrr hr]
          unfold rmv prd
          by_cases c : pr = 0 ∨ ¬ L.2.2 i = 0
          · rw [if_pos c, if_pos c]; congr 1; grind
          · rw [if_neg c, if_neg c, fcM_e (by rw [p2.1]; exact hPi.1)]; congr 1; grind
        intro q hq
        show up V (gp (i + f0)) _ q = up zv (L.2.1 i) _ q
        rw [val, Int.add_comm i f0, p1.1, p2.1]
        by_cases c : q = P i
        · rw [c, up_self, up_self]
        · rw [up_ne _ _ c, up_ne _ _ c]
          refine z4 q ?_
          rcases hq with hq | ⟨j, j0, j1, j2⟩
          · exact Or.inl hq
          · refine Or.inr ⟨j, j0, ?_, j2⟩
            have : j ≠ i := fun w => c (by rw [← j2, w])
            omega) hn
  exact ⟨k.2.2.2, k.1.symm⟩

