
/-! the places of a slice lie in the region -/
theorem bd_in {cP cQ db ew b : Int} (hP : 0 ≤ cP ∧ cP ≤ 16) (hQ : 0 ≤ cQ ∧ cQ ≤ 16) (h : 0 ≤ db ∧ db ≤ 2 ∧ 0 ≤ ew ∧ ew ≤ 2 ∧ db + ew ≤ 3) (hb : 0 ≤ b ∧ b < nBd db ew) : (0 ≤ bLf cP db ew b ∧ bLf cP db ew b + bWd cP db ew b ≤ cP) ∧ 0 ≤ bTp cQ db ew b ∧ bTp cQ db ew b + bHt cQ db ew b ≤ cQ := by
  have h2 : ∀ (c : Int) (k : Nat), 0 ≤ c → 1 ≤ k → c / 2 ^ k + c / 2 ^ k ≤ c := by
    intro c k hc hk
    obtain ⟨j, rfl⟩ : ∃ j, k = j + 1 := ⟨k - 1, by omega⟩
    rw [Int.pow_succ, ← Int.ediv_ediv_of_nonneg (by have := p2_1 j; omega)]
    have := lv_le j hc
    omega
  have hb1 := hb.2
  unfold nBd at hb1
  have w1 := lv_le (hvW db ew b).toNat hP.1
  have w2 := lv_le (hvH db ew b).toNat hQ.1
  constructor
  · unfold bLf
    split
    · rename_i c
      refine ⟨w1.1, h2 cP _ hP.1 ?_⟩
      unfold hvW
      rw [if_neg (by omega)]
      split <;> omega
    · exact ⟨Int.le_refl _, by rw [Int.zero_add]; exact w1.2⟩
  · unfold bTp
    split
    · rename_i c
      refine ⟨w2.1, h2 cQ _ hQ.1 ?_⟩
      unfold hvH
      rw [if_neg (by omega), if_neg (by omega)]
      omega
    · exact ⟨Int.le_refl _, by rw [Int.zero_add]; exact w2.2⟩
theorem pl_in {cP cQ db ew ac dn s : Int} (hP : 0 ≤ cP ∧ cP ≤ 16) (hQ : 0 ≤ cQ ∧ cQ ≤ 16) (h : 0 ≤ db ∧ db ≤ 2 ∧ 0 ≤ ew ∧ ew ≤ 2 ∧ db + ew ≤ 3) (ha : 1 ≤ ac) (hd : 1 ≤ dn) (hs : 0 ≤ s ∧ s < ac * dn) : ∀ k, 0 ≤ k → k < (lsS cP cQ db ew ac dn s).1 → inZ cP cQ ((lsS cP cQ db ew ac dn s).2.1 k) := by
  have tr := (tot_r hP hQ h).2
  have hi := sl_i ha hs
  have nz : ∀ (z : lst3), (0 ≤ z.1 ∧ ∀ k, 0 ≤ k → k < z.1 → inZ cP cQ (z.2.1 k)) → ∀ p b, inZ cP cQ p → (0 ≤ (psh p b z).1 ∧ ∀ k, 0 ≤ k → k < (psh p b z).1 → inZ cP cQ ((psh p b z).2.1 k)) := by
    intro z hz p b hp
    refine ⟨by show 0 ≤ z.1 + 1; omega, fun k k0 k1 => ?_⟩
    have k1 : k < z.1 + 1 := k1
    show inZ cP cQ (up z.2.1 z.1 p k)
    by_cases e : k = z.1
    · subst e; rw [up_self]; exact hp
    · rw [up_ne _ _ e]; exact hz.2 k k0 (by omega)
  refine (it_iv (I := fun (z : lst3) => 0 ≤ z.1 ∧ ∀ k, 0 ≤ k → k < z.1 → inZ cP cQ (z.2.1 k)) ⟨by show (0 : Int) ≤ 0; omega, fun k k0 k1 => by have k1 : k < 0 := k1; omega⟩ (fun b z b0 b1 hz => ?_)).2
  have tb := tr b b0 b1
  have bi := bd_in hP hQ h ⟨b0, b1⟩
  refine it_iv (I := fun (z : lst3) => 0 ≤ z.1 ∧ ∀ k, 0 ≤ k → k < z.1 → inZ cP cQ (z.2.1 k)) hz (fun y z y0 y1 hz => it_iv (I := fun (z : lst3) => 0 ≤ z.1 ∧ ∀ k, 0 ≤ k → k < z.1 → inZ cP cQ (z.2.1 k)) hz (fun x z x0 x1 hz => nz z hz _ _ ?_))
  have a1 := cut_in tb.2.1 hd hi.2 y0 y1
  have a2 := cut_in tb.1.1 ha hi.1 x0 x1
  omega
/-- all slices, encoded: the streams of both are the same -/
theorem en_e {cP cQ db ew ac dn nu de pr : Int} {es es2 gf gb gp qf qo gn gp2 gb2 g1 g2 bk : Int → Int} {cf cg gv w : Int → Int64} (hok : okR nu de) (hS : okS cP cQ db ew ac dn gf gp gb) (hP : 0 ≤ cP ∧ cP ≤ 16) (hQ : 0 ≤ cQ ∧ cQ ≤ 16) (h : 0 ≤ db ∧ db ≤ 2 ∧ 0 ≤ ew ∧ ew ≤ 2 ∧ db + ew ≤ 3) (ha : 1 ≤ ac ∧ ac ≤ 4) (hd : 1 ≤ dn ∧ dn ≤ 4) (hes : ∀ b, 0 ≤ b → b < 8 → 0 ≤ es b ∧ es b ≤ 15) (hqf : ∀ r, 0 ≤ r → r < 32 → qf r = facI r ∧ qo r = offI r) (he : ∀ b, 0 ≤ b → b < 8 → es b = es2 b) (hcf : eqZ (inZ cP cQ) cf cg) (hcb : bdZ (inZ cP cQ) 576460752303423488 cg) (hg1 : ∀ j, 0 ≤ g1 j ∧ g1 j < 256) (hz : ∀ j, 0 ≤ j → j < 2048 → g1 j = 0) (hgn : ∀ j, -134217726 ≤ gn j ∧ gn j ≤ 134217726) (hgv : ∀ j, bd 134217728 (gv j)) (hw : ∀ j, bd 134217728 (w j)) (hbk : bits bk) :
    sameT (it (enf nu de pr gf es gb gp qf qo cf) 0 (ac * dn) (g1, gn, gv)).1 (it (wmf cP cQ db ew ac dn nu de pr es2 cg) 0 (ac * dn) (g2, w, bk, gp2, gb2)).1 (sBy nu de (ac * dn)) ∧ ∀ j, 0 ≤ (it (enf nu de pr gf es gb gp qf qo cf) 0 (ac * dn) (g1, gn, gv)).1 j ∧ (it (enf nu de pr gf es gb gp qf qo cf) 0 (ac * dn) (g1, gn, gv)).1 j < 256 := by
  have n16 := n16 ha hd
  have s00 : sBy nu de 0 = 0 := by unfold sBy; rw [Int.zero_mul, Int.zero_ediv]
  have hqr : ∀ r, 0 ≤ r → r < 32 → 0 < qf r ∧ qf r < 2147483648 := fun r r0 r1 => by rw [(hqf r r0 r1).1]; exact fac_r ⟨r0, r1⟩
  have k := it_reli (R := fun s (x : (Int → Int) × (Int → Int) × (Int → Int64)) (y : en5) => (sameT x.1 y.1 (sBy nu de s) ∧ (∀ j, sBy nu de s ≤ j → j < 2048 → x.1 j = 0) ∧ ∀ q, K0 cP cQ db ew ac dn s q → x.2.2 q = y.2.1 q) ∧ (∀ j, 0 ≤ x.1 j ∧ x.1 j < 256) ∧ (∀ j, -134217726 ≤ x.2.1 j ∧ x.2.1 j ≤ 134217726) ∧ (∀ j, bd 134217728 (x.2.2 j)) ∧ (∀ j, bd 134217728 (y.2.1 j)) ∧ bits y.2.2.1) (f := enf nu de pr gf es gb gp qf qo cf) (g := wmf cP cQ db ew ac dn nu de pr es2 cg) (a := 0) (b := ac * dn) (x := (g1, gn, gv)) (y := (g2, w, bk, gp2, gb2))
    ⟨⟨fun j j0 j1 => by rw [s00] at j1; omega, fun j j0 j1 => hz j (by rw [s00] at j0; exact j0) j1, fun q hq => absurd hq (KB_0 ha.1)⟩, hg1, hgn, hgv, hw, hbk⟩
    (fun s x y s0 s1 hx => by
      obtain ⟨G, gnx, V⟩ := x
      obtain ⟨G2, W, bkx, gpx, gbx⟩ := y
      obtain ⟨⟨i1, i2, i3⟩, i4, i5, i6, i7, i8⟩ := hx
      have i1 : sameT G G2 (sBy nu de s) := i1
      have i2 : ∀ j, sBy nu de s ≤ j → j < 2048 → G j = 0 := i2
      have i3 : ∀ q, K0 cP cQ db ew ac dn s q → V q = W q := i3
      have i4 : ∀ j, 0 ≤ G j ∧ G j < 256 := i4
      have i5 : ∀ j, -134217726 ≤ gnx j ∧ gnx j ≤ 134217726 := i5
      have i6 : ∀ j, bd 134217728 (V j) := i6
      have i7 : ∀ j, bd 134217728 (W j) := i7
      have i8 : bits bkx := i8
      have q1 := sBy_r hok (s := s) (by omega)
      have q2 := sBy_r hok (s := s + 1) (by omega)
      have q3 := sBy_s hok (s := s)
      have q4 := ldI_r hok (s := s)
      have q5 := rmI_r hok (s := s)
      have q6 : rmI nu de s = 8 * sBy nu de (s + 1) - 8 * sBy nu de s - 5 - ldI nu de s := rfl
      have s2 := sl_2 hS ⟨s0, s1⟩ hP hQ h ha hd
      have kS := okS_r hS hP hQ h ha.1 hd.1 (s := s) ⟨s0, s1⟩
      have le := ls_e (cP := cP) (cQ := cQ) (db := db) (ew := ew) (ac := ac) (dn := dn) (s := s) gpx gbx
      have pin := pl_in hP hQ h ha.1 hd.1 (s := s) ⟨s0, s1⟩
      have kno := K0_no hP hQ h ha hd (s := s) ⟨s0, s1⟩
      obtain ⟨L, hL⟩ : ∃ L, L = it (lsB cP cQ db ew ac dn s) 0 (nBd db ew) (0, gpx, gbx) := ⟨_, rfl⟩
      rw [← hL] at le
      have le2 := ls_e (cP := cP) (cQ := cQ) (db := db) (ew := ew) (ac := ac) (dn := dn) (s := s) L.2.1 L.2.2
      obtain ⟨n, hn⟩ : ∃ n, n = (lsS cP cQ db ew ac dn s).1 := ⟨_, rfl⟩
      obtain ⟨P, hPl⟩ : ∃ P, P = (lsS cP cQ db ew ac dn s).2.1 := ⟨_, rfl⟩
      obtain ⟨B, hBl⟩ : ∃ B, B = (lsS cP cQ db ew ac dn s).2.2 := ⟨_, rfl⟩
      rw [← hn, ← hPl, ← hBl] at s2 le le2
      rw [← hn, ← hPl] at pin kno
      have hcfP : ∀ k, 0 ≤ k → k < n → cf (P k) = cg (P k) ∧ bd 576460752303423488 (cg (P k)) := fun k k0 k1 => ⟨hcf _ (pin k k0 k1), hcb _ (pin k k0 k1)⟩
      have hcfC : ∀ i, gf s ≤ i → i < gf (s + 1) → bd 576460752303423488 (cf (gp i)) := fun i i0 i1 => by
        have e := s2.2.2.1 (i - gf s) (by omega) (by omega)
        rw [show gf s + (i - gf s) = i by omega] at e
        rw [e.1, (hcfP _ (by omega) (by omega)).1]
        exact (hcfP _ (by omega) (by omega)).2
      have n256 : n ≤ 256 := by have := kS.1; omega
      -- the search
      obtain ⟨S, hSd⟩ : ∃ S : tri → spl4 → Prop, S = fun X Y => (∃ b0, rM2 (K0 cP cQ db ew ac dn s) (rmI nu de s) (gf s) n b0 X Y) ∧ (∀ j, -134217726 ≤ X.2.1 j ∧ X.2.1 j ≤ 134217726) ∧ (∀ j, bd 134217728 (X.2.2 j)) ∧ (∀ j, bd 134217728 (Y.2 j)) ∧ bits Y.1.2.2 ∧ ∀ q, K0 cP cQ db ew ac dn s q → X.2.2 q = Y.2 q := ⟨_, rfl⟩
      have one : ∀ q0 (N : Int → Int) (V : Int → Int64) (b0 : Int → Int) (W : Int → Int64), 0 ≤ q0 → q0 ≤ 31 → (∀ j, -134217726 ≤ N j ∧ N j ≤ 134217726) → (∀ j, bd 134217728 (V j)) → (∀ j, bd 134217728 (W j)) → bits b0 → (∀ q, K0 cP cQ db ew ac dn s q → V q = W q) → S (mea (rmI nu de s) pr es gb gp qf qo cf (gf s) (gf (s + 1)) q0 N V) (spL4 pr es2 L cg q0 b0 W) := by
        intro q0 N V b0 W a0 a1 hN hV hW hb hK
        have r := ms_e (pr := pr) (ro := rmI nu de s) (q0 := q0) (v := V) (gn := N) (bk := b0) (qf := qf) (qo := qo) (es := es) (es2 := es2) (gb := gb) (gp := gp) (f0 := gf s) (n := n) (P := P) (B := B) (gp2 := L.2.1) (gb2 := L.2.2) s2.2.1 ⟨by omega, by omega⟩ s2.2.2.1 le.2 s2.2.2.2.1 hes hqf he s2.2.2.2.2 kno ⟨a0, a1⟩ hcfP hW hK
        have r2 := rM_2 r s2.2.1
        have m := mea_r (ro := rmI nu de s) (pr := pr) (gp := gp) (qo := qo) (q := q0) (gf := gf) (s := s) (gn := N) (gv := V) hqr hes kS.2 hcfC kS.1 ⟨a0, a1⟩ hN hV
        have t := spS_r (pr := pr) (es := es2) (gb := L.2.2) (gp := L.2.1) (cf := cg) (v := W) (cn := n) (q := q0) (bk := b0) ⟨s2.2.1, n256⟩ (fun i i0 i1 => by
          have e := le.2 i i0 i1
          have p := s2.2.2.2.1 i i0 i1
          have z := pin i i0 i1
          rw [e.1, e.2]; omega) (fun b b0 b1 => by rw [← he b b0 b1]; exact hes b b0 b1) ⟨a0, a1⟩ (fun i i0 i1 => by rw [(le.2 i i0 i1).1]; exact (hcfP i i0 i1).2) hW hb
        have eS : spL4 pr es2 L cg q0 b0 W = spS pr es2 L.2.2 L.2.1 cg n q0 b0 W := by unfold spL4; rw [le.1]
        have eM : mea (rmI nu de s) pr es gb gp qf qo cf (gf s) (gf (s + 1)) q0 N V = (it (msf (rmI nu de s) pr es gb gp qf qo cf q0) (gf s) (gf s + n) (0, 0, N, V)).2 := by unfold mea; rw [s2.1]
        rw [hSd, eS]
        refine ⟨⟨b0, by rw [eM]; exact r2⟩, m.2.1, m.2.2, t.2.2, t.1.1, ?_⟩
        rw [eM]
        exact r2.2.1
      have se := ws_e (m1 := mea (rmI nu de s) pr es gb gp qf qo cf (gf s) (gf (s + 1))) (m2 := spL4 pr es2 L cg) (ro := rmI nu de s) (S := S) (fun X Y hXY => by rw [hSd] at hXY; obtain ⟨⟨_, r⟩, _⟩ := hXY; exact r.2.2.1) (fun q X Y a0 a1 hXY => by
        rw [hSd] at hXY
        obtain ⟨_, a2, a3, a4, a5, a6⟩ := hXY
        exact one q _ _ _ _ a0 a1 a2 a3 a4 a5 a6) 31 0 (mea (rmI nu de s) pr es gb gp qf qo cf (gf s) (gf (s + 1)) 0 gnx V) (spL4 pr es2 L cg 0 bkx W) (by omega) (by omega) (one 0 gnx V bkx W (by omega) (by omega) i5 i6 i7 i8 i3)
      obtain ⟨X, hX⟩ : ∃ X, X = sl_S nu de pr gf es gb gp qf qo cf s gnx V := ⟨_, rfl⟩
      obtain ⟨F, hF⟩ : ∃ F, F = wmS nu de pr es2 L cg s bkx W := ⟨_, rfl⟩
      have se : X.1 = F.1 ∧ S X.2 F.2 := by rw [hX, hF]; exact se
      rw [hSd] at se
      obtain ⟨e1, ⟨b0, rr⟩, a2, a3, a4, a5, a6⟩ := se
      obtain ⟨r1, r2, r3, r4, r5, r6⟩ := rr
      -- the bytes
      obtain ⟨GA, hGA⟩ : ∃ GA, GA = sl_G G nu de pr gf es gb gp qf qo cf s gnx V := ⟨_, rfl⟩
      obtain ⟨GB, hGB⟩ : ∃ GB, GB = wmG (sBy nu de s) (sBy nu de (s + 1) - sBy nu de s) (ldI nu de s) F.1 (min F.2.1.2.1 (rmI nu de s)) F.2.1.2.2 G2 := ⟨_, rfl⟩
      have eGA : GA = (wbA (8 * sBy nu de s) (ldI nu de s) (gf s) (gf s + n) F.1 (min F.2.1.2.1 (rmI nu de s)) X.2.2.1 G).2 := by
        rw [hGA]; unfold sl_G
        rw [← hX, e1, r4, s2.1]
      have wr := wr_e (ba := sBy nu de s) (sz := sBy nu de (s + 1) - sBy nu de s) (ld := ldI nu de s) (f0 := gf s) (n := n) (q := F.1) (len := min F.2.1.2.1 (rmI nu de s)) (N := X.2.2.1) (g := G) (g2 := G2) (bk := b0) (bl := F.2.1.2.2) s2.2.1 ⟨by omega, by omega⟩ ⟨by omega, by omega⟩ (by omega) (by omega) i4 (fun j j0 j1 => i2 j j0 (by omega)) a5 r5 r6
      rw [← eGA, ← hGB] at wr
      have hsB : sameB GA GB (sBy nu de s) (8 * sBy nu de (s + 1) - 8 * sBy nu de s) := fun j j0 j1 => wr.1 j j0 (by omega)
      have rd := (rd_e (g1 := GA) (g2 := GB) (pr := pr) (gn := X.2.2.1) (gb := gb) (gp := gp) (qf := qf) (qo := qo) (v := X.2.2.2) (w := F.2.2) (gf := gf) (K := K0 cP cQ db ew ac dn s) (P := P) (B := B) hok ⟨s0, by omega⟩ hsB s2.2.1 s2.2.2.1 le2.1 le2.2 s2.2.2.2.1 hes hqf he s2.2.2.2.2 a6 ⟨rfl, s2.1⟩).1
      have ex : enf nu de pr gf es gb gp qf qo cf s (G, gnx, V) = (GA, (rnA GA nu de gf s X.2.2.1).1, it (rbs pr es gb gp qf qo (rnA GA nu de gf s X.2.2.1).1 (rqI GA nu de s)) (gf s) (gf s + n) X.2.2.2) := by
        rw [hGA, hX, ← s2.1]; rfl
      have ey : wmf cP cQ db ew ac dn nu de pr es2 cg s (G2, W, bkx, gpx, gbx) = (GB, (rmA GB nu de pr es2 s (it (lsB cP cQ db ew ac dn s) 0 (nBd db ew) (0, L.2.1, L.2.2)) F.2.2).2.2, F.2.1.2.2, (it (lsB cP cQ db ew ac dn s) 0 (nBd db ew) (0, L.2.1, L.2.2)).2.1, (it (lsB cP cQ db ew ac dn s) 0 (nBd db ew) (0, L.2.1, L.2.2)).2.2) := by
        rw [hGB, hF, hL]; rfl
      rw [ex, ey]
      refine ⟨⟨fun j j0 j1 => ?_, fun j j0 j1 => ?_, fun q hq => ?_⟩, ?_, ?_, ?_, ?_, a5⟩
      · show GA j % 256 = GB j % 256
        by_cases c : sBy nu de s ≤ j
        · exact wr.1 j c (by omega)
        · have o := wr.2 j (by omega)
          rw [o.1, o.2]; exact i1 j j0 (by omega)
      · show GA j = 0
        rw [(wr.2 j (by omega)).1]; exact i2 j (by omega) j1
      · refine rd q ?_
        have hm := KB_m hP hQ h ha hd.1 (b := 0) (by unfold nBd; omega) s0 (q := q) (by rw [bL0, bT0 h.2.2.1]; exact hq)
        rw [bL0, bT0 h.2.2.1] at hm
        rcases hm with m | ⟨k, k0, k1, k2⟩
        · exact Or.inl (a6 q m)
        · exact Or.inr ⟨k, k0, by rw [hn]; exact k1, by rw [hPl]; exact k2⟩
      · show ∀ j, 0 ≤ GA j ∧ GA j < 256
        rw [hGA]; exact sl_G_g i4
      · exact rnA_n a2
      · exact rbs_b a3
      · exact rmA_b a4) (by omega)
  exact ⟨k.1.1, k.2.1⟩

