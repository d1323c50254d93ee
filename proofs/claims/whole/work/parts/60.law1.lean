
/-! what class and reference answer, case by case -/
abbrev rg8 (f : Int → Int) : Prop := ∀ j, -128 ≤ f j ∧ f j ≤ 127
theorem lc_paint {wd ht x0 y0 w0 h0 v0 r1 r2 : Int} {pic pic2 p1 p2 : Int → Int} (hw : 1 ≤ wd ∧ wd ≤ 16) (hh : 1 ≤ ht ∧ ht ≤ 16) (hpi : eqI wd ht pic pic2) (h1 : rg8 pic) (h2 : rg8 pic2)
    (a1 : (r1, p1) = if ((0 ≤ x0 ∧ x0 ≤ wd - 1) ∧ 0 ≤ y0 ∧ y0 ≤ ht - 1) ∧ (1 ≤ w0 ∧ w0 ≤ 16) ∧ (1 ≤ h0 ∧ h0 ≤ 16) ∧ -128 ≤ v0 ∧ v0 ≤ 127 then (1, paA x0 y0 (min wd (x0 + w0)) (min ht (y0 + h0)) v0 pic) else (0, pic))
    (a2 : (r2, p2) = if ((0 ≤ x0 ∧ x0 ≤ wd - 1) ∧ 0 ≤ y0 ∧ y0 ≤ ht - 1) ∧ (1 ≤ w0 ∧ w0 ≤ 16) ∧ (1 ≤ h0 ∧ h0 ≤ 16) ∧ -128 ≤ v0 ∧ v0 ≤ 127 then (1, pmA wd ht x0 y0 (x0 + w0) (y0 + h0) v0 pic2) else (0, pic2)) : r1 = r2 ∧ eqI wd ht p1 p2 ∧ rg8 p1 ∧ rg8 p2 := by
  by_cases c : ((0 ≤ x0 ∧ x0 ≤ wd - 1) ∧ 0 ≤ y0 ∧ y0 ≤ ht - 1) ∧ (1 ≤ w0 ∧ w0 ≤ 16) ∧ (1 ≤ h0 ∧ h0 ≤ 16) ∧ -128 ≤ v0 ∧ v0 ≤ 127
  · rw [if_pos c] at a1 a2
    cases a1; cases a2
    refine ⟨rfl, pa_e hw hh c.1 ⟨c.2.1.1, c.2.2.1.1⟩ hpi, ?_, ?_⟩
    · exact it_iv (I := rg8) h1 (fun y f _ _ hf => it_iv (I := rg8) hf (fun x f _ _ hf j => up_r hf c.2.2.2 j))
    · refine it_iv (I := rg8) h2 (fun y f _ _ hf => it_iv (I := rg8) hf (fun x f _ _ hf => ?_))
      try dsimp only
      split
      · exact fun j => up_r hf c.2.2.2 j
      · exact hf
  · rw [if_neg c] at a1 a2
    cases a1; cases a2
    exact ⟨rfl, hpi, h1, h2⟩
theorem lc_slope {wd ht x0 y0 r1 r2 : Int} {pic pic2 p1 p2 : Int → Int} (hw : 1 ≤ wd ∧ wd ≤ 16) (hh : 1 ≤ ht ∧ ht ≤ 16) (hpi : eqI wd ht pic pic2) (h1 : rg8 pic) (h2 : rg8 pic2)
    (a1 : (r1, p1) = if (-32 ≤ x0 ∧ x0 ≤ 32) ∧ -32 ≤ y0 ∧ y0 ≤ 32 then (1, soA x0 y0 wd ht pic) else (0, pic)) (a2 : (r2, p2) = if (-32 ≤ x0 ∧ x0 ≤ 32) ∧ -32 ≤ y0 ∧ y0 ≤ 32 then (1, smA x0 y0 wd ht pic2) else (0, pic2)) : r1 = r2 ∧ eqI wd ht p1 p2 ∧ rg8 p1 ∧ rg8 p2 := by
  by_cases c : (-32 ≤ x0 ∧ x0 ≤ 32) ∧ -32 ≤ y0 ∧ y0 ≤ 32
  · rw [if_pos c] at a1 a2
    cases a1; cases a2
    exact ⟨rfl, so_e hw hh hpi, it_iv (I := rg8) h1 (fun y f _ _ hf => it_iv (I := rg8) hf (fun x f _ _ hf j => up_r hf (clp_r _) j)), it_iv (I := rg8) h2 (fun y f _ _ hf => it_iv (I := rg8) hf (fun x f _ _ hf j => up_r hf (clp_r _) j))⟩
  · rw [if_neg c] at a1 a2
    cases a1; cases a2
    exact ⟨rfl, hpi, h1, h2⟩
theorem lc_at {wd ht x0 y0 z : Int} {f g : Int → Int} (hw : wd ≤ 16) (h : eqI wd ht f g) : (if (0 ≤ x0 ∧ x0 ≤ wd - 1) ∧ 0 ≤ y0 ∧ y0 ≤ ht - 1 then f (y0 * 16 + x0) else z) = if (0 ≤ x0 ∧ x0 ≤ wd - 1) ∧ 0 ≤ y0 ∧ y0 ≤ ht - 1 then g (16 * y0 + x0) else z := by
  by_cases c : (0 ≤ x0 ∧ x0 ≤ wd - 1) ∧ 0 ≤ y0 ∧ y0 ≤ ht - 1
  · rw [if_pos c, if_pos c, show 16 * y0 + x0 = y0 * 16 + x0 by omega]
    exact h _ (by omega)
  · rw [if_neg c, if_neg c]
theorem lc_at2 {wd ht x0 y0 z rt : Int} {f g : Int → Int} (hw : wd ≤ 16) (h : rt = 1 → eqI wd ht f g) : (if rt = 1 ∧ (0 ≤ x0 ∧ x0 ≤ wd - 1) ∧ 0 ≤ y0 ∧ y0 ≤ ht - 1 then f (y0 * 16 + x0) else z) = if rt = 1 ∧ (0 ≤ x0 ∧ x0 ≤ wd - 1) ∧ 0 ≤ y0 ∧ y0 ≤ ht - 1 then g (16 * y0 + x0) else z := by
  by_cases c : rt = 1 ∧ (0 ≤ x0 ∧ x0 ≤ wd - 1) ∧ 0 ≤ y0 ∧ y0 ≤ ht - 1
  · rw [if_pos c, if_pos c, show 16 * y0 + x0 = y0 * 16 + x0 by omega]
    exact h c.1 _ (by omega)
  · rw [if_neg c, if_neg c]
theorem lc_at3 {wd ht x0 y0 rt : Int} {f g : Int → Int64} (hw : wd ≤ 16) (h : rt = 1 → eqZ (inZ wd ht) f g) : (if rt = 1 ∧ (0 ≤ x0 ∧ x0 ≤ wd - 1) ∧ 0 ≤ y0 ∧ y0 ≤ ht - 1 then f (y0 * 16 + x0) else 0) = if rt = 1 ∧ (0 ≤ x0 ∧ x0 ≤ wd - 1) ∧ 0 ≤ y0 ∧ y0 ≤ ht - 1 then g (16 * y0 + x0) else 0 := by
  by_cases c : rt = 1 ∧ (0 ≤ x0 ∧ x0 ≤ wd - 1) ∧ 0 ≤ y0 ∧ y0 ≤ ht - 1
  · rw [if_pos c, if_pos c, show 16 * y0 + x0 = y0 * 16 + x0 by omega]
    exact h c.1 _ (by omega)
  · rw [if_neg c, if_neg c]
abbrev esR (es es2 : Int → Int) : Prop := ∀ b, 0 ≤ b → b < 8 → (0 ≤ es b ∧ es b ≤ 15) ∧ es b = es2 b
abbrev deR (db ew : Int) : Prop := 0 ≤ db ∧ db ≤ 2 ∧ 0 ≤ ew ∧ ew ≤ 2 ∧ db + ew ≤ 3
/-- what the two say of the stream, and of what was read -/
abbrev smR (sth nu de ac dn : Int) (g g2 : Int → Int) : Prop := sth = 1 → sameT g g2 (sBy nu de (ac * dn))
abbrev rdR (wd ht cP cQ rth : Int) (krc kk : Int → Int64) (krp kb : Int → Int) : Prop := rth = 1 → eqZ (inZ cP cQ) krc kk ∧ eqI wd ht krp kb
theorem lc_filter {wd ht f0 d0 e0 ac dn nu de kd db ew cP cQ nb sth rth v1 kd1 db1 ew1 cP1 cQ1 nb1 sth1 rth1 v2 kd2 db2 ew2 wr2 rd2 : Int} {es es2 gl gt gw gh gf gp gb es1 gl1 gt1 gw1 gh1 gf1 gp1 gb1 es3 g g2 krp kb : Int → Int} {krc kk : Int → Int64}
    (hkd : 0 ≤ kd ∧ kd ≤ 6) (hde : deR db ew) (hO : okL wd ht db ew ac dn cP cQ nb gl gt gw gh gf gp gb) (hes : esR es es2) (hst : sth = 0 ∨ sth = 1) (hrt : rth = 0 ∨ rth = 1) (hsm : smR sth nu de ac dn g g2) (hrd : rdR wd ht cP cQ rth krc kk krp kb)
    (a1 : if (0 ≤ f0 ∧ f0 ≤ 6) ∧ (0 ≤ d0 ∧ d0 ≤ 2) ∧ (0 ≤ e0 ∧ e0 ≤ 2) ∧ d0 + e0 ≤ 3 then v1 = 1 ∧ (kd1 = f0 ∧ db1 = d0 ∧ ew1 = e0 ∧ ∀ b, 0 ≤ b → b < 8 → es1 b = 0) ∧ okL wd ht d0 e0 ac dn cP1 cQ1 nb1 gl1 gt1 gw1 gh1 gf1 gp1 gb1 ∧ sth1 = 0 ∧ rth1 = 0 else (v1, kd1, db1, ew1, es1, cP1, cQ1, nb1, gl1, gt1, gw1, gh1, gf1, gp1, gb1, sth1, rth1) = (0, kd, db, ew, es, cP, cQ, nb, gl, gt, gw, gh, gf, gp, gb, sth, rth))
    (a2 : (v2, kd2, db2, ew2, es3, wr2, rd2) = if (0 ≤ f0 ∧ f0 ≤ 6) ∧ (0 ≤ d0 ∧ d0 ≤ 2) ∧ (0 ≤ e0 ∧ e0 ≤ 2) ∧ d0 + e0 ≤ 3 then (1, f0, d0, e0, it (fun i f => up f i 0) 0 8 es2, 0, 0) else (0, kd, db, ew, es2, sth, rth)) :
    v1 = v2 ∧ (kd1 = kd2 ∧ db1 = db2 ∧ ew1 = ew2 ∧ sth1 = wr2 ∧ rth1 = rd2) ∧ (0 ≤ kd1 ∧ kd1 ≤ 6) ∧ deR db1 ew1 ∧ okL wd ht db1 ew1 ac dn cP1 cQ1 nb1 gl1 gt1 gw1 gh1 gf1 gp1 gb1 ∧ esR es1 es3 ∧ (sth1 = 0 ∨ sth1 = 1) ∧ (rth1 = 0 ∨ rth1 = 1) ∧ smR sth1 nu de ac dn g g2 ∧ rdR wd ht cP1 cQ1 rth1 krc kk krp kb := by
  by_cases c : (0 ≤ f0 ∧ f0 ≤ 6) ∧ (0 ≤ d0 ∧ d0 ≤ 2) ∧ (0 ≤ e0 ∧ e0 ≤ 2) ∧ d0 + e0 ≤ 3
  · rw [if_pos c] at a1 a2
    cases a2
    obtain ⟨rfl, ⟨rfl, rfl, rfl, b4⟩, b5, rfl, rfl⟩ := a1
    refine ⟨rfl, ⟨rfl, rfl, rfl, rfl, rfl⟩, c.1, by omega, b5, fun b b0 b1 => ?_, Or.inl rfl, Or.inl rfl, fun q => absurd q (by decide), fun q => absurd q (by decide)⟩
    rw [b4 b b0 b1, fill_v b0 b1]
    exact ⟨by omega, rfl⟩
  · rw [if_neg c] at a1 a2
    cases a1; cases a2
    exact ⟨rfl, ⟨rfl, rfl, rfl, rfl, rfl⟩, hkd, hde, hO, hes, hst, hrt, hsm, hrd⟩
theorem lc_slices {wd ht x0 y0 p0 nu de db ew ac dn pr cP cQ nb sth rth v1 ac1 dn1 pr1 sth1 rth1 v2 ac2 dn2 pr2 wr2 rd2 : Int} {gl gt gw gh gf gp gb gf1 gp1 gb1 g g2 krp kb : Int → Int} {krc kk : Int → Int64}
    (hac : 1 ≤ ac ∧ ac ≤ 4) (hdn : 1 ≤ dn ∧ dn ≤ 4) (hpr : pr = 0 ∨ pr = 1) (hp0 : p0 = 0 ∨ p0 = 1) (hO : okL wd ht db ew ac dn cP cQ nb gl gt gw gh gf gp gb) (hst : sth = 0 ∨ sth = 1) (hrt : rth = 0 ∨ rth = 1) (hsm : smR sth nu de ac dn g g2) (hrd : rdR wd ht cP cQ rth krc kk krp kb)
    (a1 : if (1 ≤ x0 ∧ x0 ≤ 4) ∧ 1 ≤ y0 ∧ y0 ≤ 4 then v1 = 1 ∧ ac1 = x0 ∧ dn1 = y0 ∧ pr1 = p0 ∧ okS cP cQ db ew x0 y0 gf1 gp1 gb1 ∧ sth1 = 0 ∧ rth1 = 0 else (v1, ac1, dn1, pr1, gf1, gp1, gb1, sth1, rth1) = (0, ac, dn, pr, gf, gp, gb, sth, rth))
    (a2 : (v2, ac2, dn2, pr2, wr2, rd2) = if (1 ≤ x0 ∧ x0 ≤ 4) ∧ 1 ≤ y0 ∧ y0 ≤ 4 then (1, x0, y0, p0, 0, 0) else (0, ac, dn, pr, sth, rth)) :
    v1 = v2 ∧ (ac1 = ac2 ∧ dn1 = dn2 ∧ pr1 = pr2 ∧ sth1 = wr2 ∧ rth1 = rd2) ∧ (1 ≤ ac1 ∧ ac1 ≤ 4) ∧ (1 ≤ dn1 ∧ dn1 ≤ 4) ∧ (pr1 = 0 ∨ pr1 = 1) ∧ okL wd ht db ew ac1 dn1 cP cQ nb gl gt gw gh gf1 gp1 gb1 ∧ (sth1 = 0 ∨ sth1 = 1) ∧ (rth1 = 0 ∨ rth1 = 1) ∧ smR sth1 nu de ac1 dn1 g g2 ∧ rdR wd ht cP cQ rth1 krc kk krp kb := by
  by_cases c : (1 ≤ x0 ∧ x0 ≤ 4) ∧ 1 ≤ y0 ∧ y0 ≤ 4
  · rw [if_pos c] at a1 a2
    cases a2
    obtain ⟨rfl, rfl, rfl, rfl, b5, rfl, rfl⟩ := a1
    exact ⟨rfl, ⟨rfl, rfl, rfl, rfl, rfl⟩, c.1, c.2, hp0, ⟨hO.1, hO.2.1, hO.2.2.1, b5⟩, Or.inl rfl, Or.inl rfl, fun q => absurd q (by decide), fun q => absurd q (by decide)⟩
  · rw [if_neg c] at a1 a2
    cases a1; cases a2
    exact ⟨rfl, ⟨rfl, rfl, rfl, rfl, rfl⟩, hac, hdn, hpr, hO, hst, hrt, hsm, hrd⟩
theorem lc_ease {wd ht x0 y0 db ew nu de ac dn cP cQ sth rth v1 sth1 rth1 v2 wr2 rd2 : Int} {es es2 es1 es3 g g2 krp kb : Int → Int} {krc kk : Int → Int64}
    (hes : esR es es2) (hst : sth = 0 ∨ sth = 1) (hrt : rth = 0 ∨ rth = 1) (hsm : smR sth nu de ac dn g g2) (hrd : rdR wd ht cP cQ rth krc kk krp kb)
    (a1 : (v1, es1, sth1, rth1) = if (0 ≤ x0 ∧ x0 ≤ nBd db ew - 1) ∧ 0 ≤ y0 ∧ y0 ≤ 15 then (1, up es x0 y0, 0, 0) else (0, es, sth, rth))
    (a2 : (v2, es3, wr2, rd2) = if (0 ≤ x0 ∧ x0 ≤ nBd db ew - 1) ∧ 0 ≤ y0 ∧ y0 ≤ 15 then (1, up es2 x0 y0, 0, 0) else (0, es2, sth, rth)) :
    v1 = v2 ∧ (sth1 = wr2 ∧ rth1 = rd2) ∧ esR es1 es3 ∧ (sth1 = 0 ∨ sth1 = 1) ∧ (rth1 = 0 ∨ rth1 = 1) ∧ smR sth1 nu de ac dn g g2 ∧ rdR wd ht cP cQ rth1 krc kk krp kb := by
  by_cases c : (0 ≤ x0 ∧ x0 ≤ nBd db ew - 1) ∧ 0 ≤ y0 ∧ y0 ≤ 15
  · rw [if_pos c] at a1 a2
    cases a1; cases a2
    refine ⟨rfl, ⟨rfl, rfl⟩, fun b b0 b1 => ?_, Or.inl rfl, Or.inl rfl, fun q => absurd q (by decide), fun q => absurd q (by decide)⟩
    by_cases q : b = x0
    · rw [q, up_self, up_self]; exact ⟨c.2, rfl⟩
    · rw [up_ne _ _ q, up_ne _ _ q]; exact hes b b0 b1
  · rw [if_neg c] at a1 a2
    cases a1; cases a2
    exact ⟨rfl, ⟨rfl, rfl⟩, hes, hst, hrt, hsm, hrd⟩
theorem lc_rate {wd ht x0 y0 nu de ac dn cP cQ sth rth v1 nu1 de1 sth1 rth1 v2 nu2 de2 wr2 rd2 : Int} {g g2 krp kb : Int → Int} {krc kk : Int → Int64}
    (hok : okR nu de) (hst : sth = 0 ∨ sth = 1) (hrt : rth = 0 ∨ rth = 1) (hsm : smR sth nu de ac dn g g2) (hrd : rdR wd ht cP cQ rth krc kk krp kb)
    (a1 : (v1, nu1, de1, sth1, rth1) = if (1 ≤ y0 ∧ y0 ≤ 64) ∧ 2 * y0 ≤ x0 ∧ x0 ≤ 128 * y0 then (1, x0, y0, 0, 0) else (0, nu, de, sth, rth))
    (a2 : (v2, nu2, de2, wr2, rd2) = if (1 ≤ y0 ∧ y0 ≤ 64) ∧ 2 * y0 ≤ x0 ∧ x0 ≤ 128 * y0 then (1, x0, y0, 0, 0) else (0, nu, de, sth, rth)) :
    v1 = v2 ∧ (nu1 = nu2 ∧ de1 = de2 ∧ sth1 = wr2 ∧ rth1 = rd2) ∧ okR nu1 de1 ∧ (sth1 = 0 ∨ sth1 = 1) ∧ (rth1 = 0 ∨ rth1 = 1) ∧ smR sth1 nu1 de1 ac dn g g2 ∧ rdR wd ht cP cQ rth1 krc kk krp kb := by
  by_cases c : (1 ≤ y0 ∧ y0 ≤ 64) ∧ 2 * y0 ≤ x0 ∧ x0 ≤ 128 * y0
  · rw [if_pos c] at a1 a2
    cases a1; cases a2
    exact ⟨rfl, ⟨rfl, rfl, rfl, rfl⟩, ⟨c.1.1, c.1.2, c.2.1, c.2.2⟩, Or.inl rfl, Or.inl rfl, fun q => absurd q (by decide), fun q => absurd q (by decide)⟩
  · rw [if_neg c] at a1 a2
    cases a1; cases a2
    exact ⟨rfl, ⟨rfl, rfl, rfl, rfl⟩, hok, hst, hrt, hsm, hrd⟩
/-- the coefficients of both, and how large they are -/
theorem lc_cf {wd ht cP cQ db ew kd : Int} {pic pic2 : Int → Int} {a0 ge go gg ge2 go2 : Int → Int64} (hw : 1 ≤ wd ∧ wd ≤ 16) (hh : 1 ≤ ht ∧ ht ≤ 16) (hP : 0 ≤ cP ∧ cP ≤ 16) (hQ : 0 ≤ cQ ∧ cQ ≤ 16) (hk : 0 ≤ kd ∧ kd ≤ 6) (hd : deR db ew) (hpi : eqI wd ht pic pic2) (h2 : rg8 pic2) :
    eqZ (inZ cP cQ) (fwA cP cQ db ew kd (fcA wd ht cP cQ pic a0, ge, go)).1 (fmW cP cQ db ew kd (fmA wd ht cP cQ pic2 gg, ge2, go2)).1 ∧ bdZ (inZ cP cQ) 576460752303423488 (fmW cP cQ db ew kd (fmA wd ht cP cQ pic2 gg, ge2, go2)).1 :=
  ⟨fw_e hk hP hQ ⟨hd.1, hd.2.2.1⟩ (fc_m hw hh hP hQ hpi), fm_b hk hP hQ hd (fc_b hP hQ h2)⟩
theorem lc_coef {wd ht cP cQ db ew kd x0 y0 : Int} {pic pic2 : Int → Int} {a0 ge go gg ge2 go2 : Int → Int64} (hw : 1 ≤ wd ∧ wd ≤ 16) (hh : 1 ≤ ht ∧ ht ≤ 16) (hP : 0 ≤ cP ∧ cP ≤ 16) (hQ : 0 ≤ cQ ∧ cQ ≤ 16) (hk : 0 ≤ kd ∧ kd ≤ 6) (hd : deR db ew) (hpi : eqI wd ht pic pic2) (h2 : rg8 pic2) {v1 v2 : Int64}
    (a1 : v1 = if (0 ≤ x0 ∧ x0 ≤ cP - 1) ∧ 0 ≤ y0 ∧ y0 ≤ cQ - 1 then (fwA cP cQ db ew kd (fcA wd ht cP cQ pic a0, ge, go)).1 (y0 * 16 + x0) else 0) (a2 : v2 = if (0 ≤ x0 ∧ x0 ≤ cP - 1) ∧ 0 ≤ y0 ∧ y0 ≤ cQ - 1 then (fmW cP cQ db ew kd (fmA wd ht cP cQ pic2 gg, ge2, go2)).1 (16 * y0 + x0) else 0) : v1 = v2 := by
  have h := (lc_cf (a0 := a0) (ge := ge) (go := go) (gg := gg) (ge2 := ge2) (go2 := go2) hw hh hP hQ hk hd hpi h2).1
  rw [a1, a2]
  by_cases c : (0 ≤ x0 ∧ x0 ≤ cP - 1) ∧ 0 ≤ y0 ∧ y0 ≤ cQ - 1
  · rw [if_pos c, if_pos c, show 16 * y0 + x0 = y0 * 16 + x0 by omega]
    exact h _ (by omega)
  · rw [if_neg c, if_neg c]
/-- bytes -/
theorem lc_byte {k0 n sth : Int} {g g2 : Int → Int} (hg : ∀ j, 0 ≤ g j ∧ g j < 256) (h : sth = 1 → sameT g g2 n) : (if sth = 1 ∧ 0 ≤ k0 ∧ k0 ≤ n - 1 then g k0 else -1) = if sth = 1 ∧ 0 ≤ k0 ∧ k0 ≤ n - 1 then g2 k0 % 256 else -1 := by
  by_cases c : sth = 1 ∧ 0 ≤ k0 ∧ k0 ≤ n - 1
  · rw [if_pos c, if_pos c]
    have h1 := h c.1 k0 c.2.1 (by omega)
    have h2 := hg k0
    omega
  · rw [if_neg c, if_neg c]
theorem lc_poke {k0 b0 n sth v1 v2 : Int} {g g2 g3 g4 : Int → Int} (hg : ∀ j, 0 ≤ g j ∧ g j < 256) (hg2 : rg8 g2) (h : sth = 1 → sameT g g2 n)
    (a1 : (v1, g3) = if (sth = 1 ∧ 0 ≤ k0 ∧ k0 ≤ n - 1) ∧ 0 ≤ b0 ∧ b0 ≤ 255 then (1, up g k0 b0) else (0, g)) (a2 : (v2, g4) = if (sth = 1 ∧ 0 ≤ k0 ∧ k0 ≤ n - 1) ∧ 0 ≤ b0 ∧ b0 ≤ 255 then (1, up g2 k0 (b8 b0)) else (0, g2)) : v1 = v2 ∧ (∀ j, 0 ≤ g3 j ∧ g3 j < 256) ∧ rg8 g4 ∧ (sth = 1 → sameT g3 g4 n) := by
  by_cases c : (sth = 1 ∧ 0 ≤ k0 ∧ k0 ≤ n - 1) ∧ 0 ≤ b0 ∧ b0 ≤ 255
  · rw [if_pos c] at a1 a2
    cases a1; cases a2
    refine ⟨rfl, fun j => ?_, fun j => up_r hg2 (b8_r _) j, fun q j j0 j1 => ?_⟩
    · unfold up; split
      · omega
      · exact hg j
    · by_cases e : j = k0
      · rw [e, up_self, up_self]
        exact (Int.bmod_emod (x := b0) (m := 256)).symm
      · rw [up_ne _ _ e, up_ne _ _ e]; exact h q j j0 j1
  · rw [if_neg c] at a1 a2
    cases a1; cases a2
    exact ⟨rfl, hg, hg2, h⟩
theorem lc_sl {nu de s n : Int} (hok : okR nu de) (hs : 0 ≤ s ∧ s < 16) : 5 + ldI nu de s ≤ 8 * sBy nu de (s + 1) - 8 * sBy nu de s ∧ 0 ≤ ldI nu de s := by
  have q3 := sBy_s hok (s := s)
  have q4 := ldI_r hok (s := s)
  have q5 := rmI_r hok (s := s)
  have q6 : rmI nu de s = 8 * sBy nu de (s + 1) - 8 * sBy nu de s - 5 - ldI nu de s := rfl
  omega
theorem lc_index {nu de ac dn k0 sth : Int} {g g2 : Int → Int} (hok : okR nu de) (hac : 1 ≤ ac ∧ ac ≤ 4) (hdn : 1 ≤ dn ∧ dn ≤ 4) (h : smR sth nu de ac dn g g2) {v1 v2 : Int} (a1 : v1 = if sth = 1 ∧ 0 ≤ k0 ∧ k0 ≤ ac * dn - 1 then rqI g nu de k0 else -1) (a2 : v2 = if sth = 1 ∧ 0 ≤ k0 ∧ k0 ≤ ac * dn - 1 then bsM g2 (sBy nu de k0) 0 5 else -1) : v1 = v2 := by
  have n16 := n16 hac hdn
  rw [a1, a2]
  by_cases c : sth = 1 ∧ 0 ≤ k0 ∧ k0 ≤ ac * dn - 1
  · rw [if_pos c, if_pos c]
    have := lc_sl (n := 0) hok (s := k0) ⟨c.2.1, by omega⟩
    exact rq_e (same_s hok (h c.1) ⟨c.2.1, by omega⟩ (by omega)) (by omega)
  · rw [if_neg c, if_neg c]
theorem lc_used {nu de ac dn k0 sth : Int} {g g2 : Int → Int} (hok : okR nu de) (hac : 1 ≤ ac ∧ ac ≤ 4) (hdn : 1 ≤ dn ∧ dn ≤ 4) (h : smR sth nu de ac dn g g2) {v1 v2 : Int} (a1 : v1 = if sth = 1 ∧ 0 ≤ k0 ∧ k0 ≤ ac * dn - 1 then rlI g nu de k0 else -1) (a2 : v2 = if sth = 1 ∧ 0 ≤ k0 ∧ k0 ≤ ac * dn - 1 then lnM g2 nu de k0 else -1) : v1 = v2 := by
  have n16 := n16 hac hdn
  rw [a1, a2]
  by_cases c : sth = 1 ∧ 0 ≤ k0 ∧ k0 ≤ ac * dn - 1
  · rw [if_pos c, if_pos c]
    have := lc_sl (n := 0) hok (s := k0) ⟨c.2.1, by omega⟩
    exact rl_e (same_s hok (h c.1) ⟨c.2.1, by omega⟩ (by omega)) this.2 this.1
  · rw [if_neg c, if_neg c]
theorem lc_nz {cP cQ db ew nu de ac dn pr k0 sth : Int} {es es2 gf gb gp gn gp2 gb2 g g2 : Int → Int} {w : Int → Int64} (hok : okR nu de) (hS : okS cP cQ db ew ac dn gf gp gb) (hP : 0 ≤ cP ∧ cP ≤ 16) (hQ : 0 ≤ cQ ∧ cQ ≤ 16) (hd : deR db ew) (hac : 1 ≤ ac ∧ ac ≤ 4) (hdn : 1 ≤ dn ∧ dn ≤ 4) (h : smR sth nu de ac dn g g2) (hes : esR es es2) {v1 v2 : Int} (a1 : v1 = if sth = 1 ∧ 0 ≤ k0 ∧ k0 ≤ ac * dn - 1 then cnA (rnA g nu de gf k0 gn).1 (gf k0) (gf (k0 + 1)) else -1) (a2 : v2 = if sth = 1 ∧ 0 ≤ k0 ∧ k0 ≤ ac * dn - 1 then (rmA g2 nu de pr es2 k0 (it (lsB cP cQ db ew ac dn k0) 0 (nBd db ew) (0, gp2, gb2)) w).1 else -1) : v1 = v2 := by
  rw [a1, a2]
  by_cases c : sth = 1 ∧ 0 ≤ k0 ∧ k0 ≤ ac * dn - 1
  · rw [if_pos c, if_pos c]
    exact nz_e hok hS hP hQ hd hac hdn (h c.1) (fun b b0 b1 => (hes b b0 b1).1) (fun b b0 b1 => (hes b b0 b1).2) ⟨c.2.1, by omega⟩
  · rw [if_neg c, if_neg c]
theorem lc_error {wd ht rth : Int} {krp kb p1 p2 : Int → Int} (hw : 1 ≤ wd ∧ wd ≤ 16) (hh : 1 ≤ ht ∧ ht ≤ 16) (h : rth = 1 → eqI wd ht krp kb) (hp : eqI wd ht p1 p2) : (if rth = 1 then erA krp p1 wd ht else -1) = if rth = 1 then it (erM wd ht kb p2) 0 256 0 else -1 := by
  by_cases c : rth = 1
  · rw [if_pos c, if_pos c]; exact er_e hw hh (h c) hp
  · rw [if_neg c, if_neg c]
/-- decoding -/
theorem lc_decode {wd ht cP cQ db ew kd ac dn nu de pr sth rth v1 v2 rth1 rd2 : Int} {es es2 gf gb gp qf qo gn gn1 gp2 gb2 gp3 gb3 g g2 p1 p2 krp kb krp1 kb1 : Int → Int} {krc krc1 a0 ge go wv wv1 kk kk1 gg ge2 go2 : Int → Int64}
    (hok : okR nu de) (hS : okS cP cQ db ew ac dn gf gp gb) (hP : 0 ≤ cP ∧ cP ≤ 16) (hQ : 0 ≤ cQ ∧ cQ ≤ 16) (hPm : cP % 2 ^ (db + ew).toNat = 0) (hQm : cQ % 2 ^ db.toNat = 0) (hwP : 1 ≤ wd ∧ wd ≤ cP) (hhQ : 1 ≤ ht ∧ ht ≤ cQ) (hk : 0 ≤ kd ∧ kd ≤ 6) (hd : deR db ew) (hac : 1 ≤ ac ∧ ac ≤ 4) (hdn : 1 ≤ dn ∧ dn ≤ 4) (h : smR sth nu de ac dn g g2) (hes : esR es es2) (hqf : ∀ r, 0 ≤ r → r < 32 → qf r = facI r ∧ qo r = offI r) (hpi : eqI wd ht p1 p2) (hst : sth = 0 ∨ sth = 1) (hrt : rth = 0 ∨ rth = 1) (hrd : rdR wd ht cP cQ rth krc kk krp kb) (hgn : ∀ j, -134217726 ≤ gn j ∧ gn j ≤ 134217726) (hkp : rg8 krp) (hwv : ∀ j, bd 134217728 (wv j))
    {fr tt fb ld ro fa fe fr1 tt1 fb1 ld1 ro1 fa1 fe1 : Int} {a1 ge1 go1 : Int → Int64}
    (b1 : if sth = 1 then (gn1, krc1) = it (dcf g nu de pr gf es gb gp qf qo) 0 (ac * dn) (gn, krc) ∧ krp1 = mrA wd ht (bwA cP cQ db ew kd (cpL krc1 a0, ge, go)).1 krp ∧ v1 = ccA krp1 p1 wd ht ∧ rth1 = 1 ∧ (∀ j, -134217726 ≤ gn1 j ∧ gn1 j ≤ 134217726) ∧ (∀ j, -128 ≤ krp1 j ∧ krp1 j ≤ 127) else (v1, fr1, tt1, fb1, ld1, ro1, fa1, fe1, gn1, krc1, a1, ge1, go1, krp1, rth1) = (-1, fr, tt, fb, ld, ro, fa, fe, gn, krc, a0, ge, go, krp, rth))
    (b2 : if sth = 1 then (wv1, gp3, gb3) = it (rdf g2 cP cQ db ew ac dn nu de pr es2) 0 (ac * dn) (wv, gp2, gb2) ∧ kk1 = it (kpf cP cQ wv1) 0 256 kk ∧ kb1 = it (bkf wd ht (bmW cP cQ db ew kd (it (kpf cP cQ wv1) 0 256 gg, ge2, go2)).1) 0 256 kb ∧ v2 = it (cmf wd ht (bmW cP cQ db ew kd (it (kpf cP cQ wv1) 0 256 gg, ge2, go2)).1 p2) 0 256 0 ∧ rd2 = 1 ∧ (∀ j, bd 134217728 (wv1 j)) else v2 = -1 ∧ wv1 = wv ∧ kk1 = kk ∧ kb1 = kb ∧ rd2 = rth) :
    v1 = v2 ∧ rth1 = rd2 ∧ (rth1 = 0 ∨ rth1 = 1) ∧ (∀ j, -134217726 ≤ gn1 j ∧ gn1 j ≤ 134217726) ∧ rg8 krp1 ∧ rdR wd ht cP cQ rth1 krc1 kk1 krp1 kb1 ∧ ∀ j, bd 134217728 (wv1 j) := by
  by_cases c : sth = 1
  · rw [if_pos c] at b1 b2
    obtain ⟨c1, c2, c3, c4, c5, c6⟩ := b1
    obtain ⟨d1, d2, d3, d4, d5, d6⟩ := b2
    have e := dc_e (pr := pr) (gn := gn) (v := krc) (w := wv) (gp2 := gp2) (gb2 := gb2) hok hS hP hQ hPm hQm hd hac hdn (h c) (fun b b0 b1 => (hes b b0 b1).1) hqf (fun b b0 b1 => (hes b b0 b1).2)
    rw [← c1, ← d1] at e
    have e2 := dp_e (db := db) (ew := ew) (kd := kd) (krc := krc1) (gv := wv1) (a0 := a0) (ge := ge) (go := go) (gg := gg) (ge2 := ge2) (go2 := go2) (kk := kk) (krp := krp) (kb := kb) (p1 := p1) (p2 := p2) hk ⟨hd.1, hd.2.2.1⟩ hwP hhQ hP.2 hQ.2 e hpi
    rw [← c2, ← d2, ← d3, ← d4] at e2
    refine ⟨by rw [c3]; exact e2.2.2, by rw [c4, d5], Or.inr c4, c5, c6, fun _ => ⟨e2.1, e2.2.1⟩, d6⟩
  · rw [if_neg c] at b1 b2
    cases b1
    obtain ⟨rfl, rfl, rfl, rfl, rfl⟩ := b2
    exact ⟨rfl, rfl, hrt, hgn, hkp, hrd, hwv⟩
/-- encoding -/
theorem lc_hcf {cP cQ db ew ac dn : Int} {gf gp gb : Int → Int} {cf cg : Int → Int64} (hS : okS cP cQ db ew ac dn gf gp gb) (hP : 0 ≤ cP ∧ cP ≤ 16) (hQ : 0 ≤ cQ ∧ cQ ≤ 16) (hd : deR db ew) (hac : 1 ≤ ac ∧ ac ≤ 4) (hdn : 1 ≤ dn ∧ dn ≤ 4) (he : eqZ (inZ cP cQ) cf cg) (hb : bdZ (inZ cP cQ) 576460752303423488 cg) : ∀ s, 0 ≤ s → s < ac * dn → ∀ i, gf s ≤ i → i < gf (s + 1) → bd 576460752303423488 (cf (gp i)) := by
  intro s s0 s1 i i0 i1
  have s2 := sl_2 hS ⟨s0, s1⟩ hP hQ hd hac hdn
  have e := s2.2.2.1 (i - gf s) (by omega) (by omega)
  rw [show gf s + (i - gf s) = i by omega] at e
  have z := pl_in hP hQ hd hac.1 hdn.1 (s := s) ⟨s0, s1⟩ (i - gf s) (by omega) (by omega)
  rw [e.1, he _ z]
  exact hb _ z
theorem lc_hcg {cP cQ db ew ac dn : Int} {cg : Int → Int64} (hP : 0 ≤ cP ∧ cP ≤ 16) (hQ : 0 ≤ cQ ∧ cQ ≤ 16) (hd : deR db ew) (hac : 1 ≤ ac ∧ ac ≤ 4) (hdn : 1 ≤ dn ∧ dn ≤ 4) (hb : bdZ (inZ cP cQ) 576460752303423488 cg) : ∀ s, 0 ≤ s → s < ac * dn → ∀ i, 0 ≤ i → i < (lsS cP cQ db ew ac dn s).1 → bd 576460752303423488 (cg ((lsS cP cQ db ew ac dn s).2.1 i)) :=
  fun s s0 s1 i i0 i1 => hb _ (pl_in hP hQ hd hac.1 hdn.1 (s := s) ⟨s0, s1⟩ i i0 i1)
theorem lc_encode {cP cQ db ew ac dn nu de pr v1 v2 sth1 wr1 : Int} {es es2 gf gb gp qf qo gn gn1 gp2 gb2 gp3 gb3 g g1 g2 g3 bk bk1 : Int → Int} {cf cg gv gv1 wv wv1 : Int → Int64}
    (hok : okR nu de) (hS : okS cP cQ db ew ac dn gf gp gb) (hP : 0 ≤ cP ∧ cP ≤ 16) (hQ : 0 ≤ cQ ∧ cQ ≤ 16) (hd : deR db ew) (hac : 1 ≤ ac ∧ ac ≤ 4) (hdn : 1 ≤ dn ∧ dn ≤ 4) (hes : esR es es2) (hqf : ∀ r, 0 ≤ r → r < 32 → qf r = facI r ∧ qo r = offI r) (he : eqZ (inZ cP cQ) cf cg) (hb : bdZ (inZ cP cQ) 576460752303423488 cg) (hg : ∀ j, 0 ≤ g j ∧ g j < 256) (hgn : ∀ j, -134217726 ≤ gn j ∧ gn j ≤ 134217726) (hgv : ∀ j, bd 134217728 (gv j)) (hwv : ∀ j, bd 134217728 (wv j)) (hbk : bits bk)
    (a1 : (v1 = sBy nu de (ac * dn) ∧ sth1 = 1) ∧ (g1, gn1, gv1) = it (enf nu de pr gf es gb gp qf qo cf) 0 (ac * dn) (it (fun i f => up f i 0) 0 2048 g, gn, gv) ∧ (∀ j, -134217726 ≤ gn1 j ∧ gn1 j ≤ 134217726) ∧ (∀ j, bd 134217728 (gv1 j)))
    (a2 : (v2 = sBy nu de (ac * dn) ∧ wr1 = 1) ∧ (g3, wv1, bk1, gp3, gb3) = it (wmf cP cQ db ew ac dn nu de pr es2 cg) 0 (ac * dn) (g2, wv, bk, gp2, gb2) ∧ (∀ j, -128 ≤ g3 j ∧ g3 j ≤ 127) ∧ (∀ j, bd 134217728 (wv1 j)) ∧ bits bk1) :
    v1 = v2 ∧ sth1 = wr1 ∧ (sth1 = 0 ∨ sth1 = 1) ∧ (∀ j, 0 ≤ g1 j ∧ g1 j < 256) ∧ smR sth1 nu de ac dn g1 g3 := by
  obtain ⟨⟨c1, c2⟩, c3, _⟩ := a1
  obtain ⟨⟨d1, d2⟩, d3, _⟩ := a2
  have e := en_e (pr := pr) (es2 := es2) (gn := gn) (gp2 := gp2) (gb2 := gb2) (g1 := it (fun i f => up f i 0) 0 2048 g) (g2 := g2) (bk := bk) (gv := gv) (w := wv) hok hS hP hQ hd hac hdn (fun b b0 b1 => (hes b b0 b1).1) hqf (fun b b0 b1 => (hes b b0 b1).2) he hb (fill_r hg) (fun j j0 j1 => fill_v j0 j1) hgn hgv hwv hbk
  rw [← c3, ← d3] at e
  exact ⟨by rw [c1, d1], by rw [c2, d2], Or.inr c2, e.2, fun _ => e.1⟩

