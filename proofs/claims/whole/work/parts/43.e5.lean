
/-! measuring and spelling -/
theorem emM_z0 (x : spl3) : (emM 0 x).2.1 = x.1 + 1 := by show (if (0 : Int) = 0 then x.1 + 1 else x.2.1) = _; rw [if_pos rfl]
theorem emM_z1 (x : spl3) : (emM 1 x).2.1 = x.2.1 := by show (if (1 : Int) = 0 then x.1 + 1 else x.2.1) = _; rw [if_neg (by decide)]
theorem lg_1 : lg 1 = 0 := by decide
theorem emN_z {v : Int} (x : spl3) (h : -134217726 ≤ v ∧ v ≤ 134217726) : (emN v x).2.1 = if 0 < zlN v then x.1 + zlN v else x.2.1 := by
  have hab : 0 ≤ absI v ∧ absI v ≤ 134217726 := by unfold absI; split <;> omega
  have hlg := lg_r (i := absI v + 1) 27 134217728 (by decide) (by omega) (by omega)
  have e := it_emg (absI v + 1) (lg (absI v + 1)) (a := 0) (b := lg (absI v + 1)) x (by omega)
  have en := (emN_n x h).2.2
  by_cases c0 : v = 0
  · subst c0
    have l0 : lg (absI 0 + 1) = 0 := by decide
    rw [emN_a rfl (by rw [l0]; omega) rfl, emM_z1, l0, it_self, show zlN 0 = 0 from rfl, if_neg (by omega)]
  · by_cases c1 : 0 < v
    · have hz : zlN v = szN v := by unfold zlN; rw [if_neg (by omega), if_neg c0]
      have hs := szN_r h
      rw [hz, if_pos (by omega), ← en]
      by_cases c2 : lg (absI v + 1) < 26
      · rw [emN_c rfl c2 c1]; exact emM_z0 _
      · rw [emN_f rfl c2 c1]; exact emM_z0 _
    · have hv : v < 0 := by omega
      have ea : absI v + 1 = 1 - v := by unfold absI; rw [if_neg (by omega)]; omega
      rw [ea] at e hlg
      have hl1 : 1 ≤ lg (1 - v) := by
        have hs := lg_s (i := 1 - v) (by omega)
        refine Classical.byContradiction fun q => ?_
        have : lg (1 - v) = 0 := by omega
        rw [this] at hs
        have e0 : (2 : Int) ^ (0 : Int).toNat = 1 := by decide
        omega
      -- after the digits
      have hd : (it (emg (1 - v) (lg (1 - v))) 0 (lg (1 - v)) x).2.1 = if (1 - v) % 2 = 0 then x.1 + 2 * lg (1 - v) else x.1 + (2 * lg (1 - v) - 1) := by
        have es := it_s (emg (1 - v) (lg (1 - v))) (a := 0) (i := lg (1 - v) - 1) x (by omega)
        rw [show lg (1 - v) - 1 + 1 = lg (1 - v) by omega] at es
        have ec := it_emg (1 - v) (lg (1 - v)) (a := 0) (b := lg (1 - v) - 1) x (by omega)
        rw [es]
        unfold emg
        rw [show (lg (1 - v) - 1 - (lg (1 - v) - 1)).toNat = 0 by omega, Int.pow_zero, Int.ediv_one]
        unfold emg at ec
        by_cases m : (1 - v) % 2 = 0
        · rw [m, if_pos rfl, emM_z0, emM_c]
          omega
        · rw [show (1 - v) % 2 = 1 by omega, emM_z1, emM_z0, if_neg (by omega)]
          omega
      have hz : zlN v = if (1 - v) % 2 = 0 then 2 * lg (1 - v) else 2 * lg (1 - v) - 1 := by unfold zlN; rw [if_pos hv]
      rw [hz]
      have fin : (emN v x).2.1 = (it (emg (1 - v) (lg (1 - v))) 0 (lg (1 - v)) x).2.1 := by
        by_cases c2 : lg (absI v + 1) < 26
        · rw [emN_b rfl c2 hv, emM_z1, emM_z1, ea]
        · rw [emN_e rfl c2 hv, emM_z1, ea]
      rw [fin, hd]
      by_cases m : (1 - v) % 2 = 0
      · rw [if_pos m, if_pos m, if_pos (by omega)]
      · rw [if_neg m, if_neg m, if_pos (by omega)]
/-- what spelling keeps: count and length grow, bits below the count stay -/
def grw (x y : spl3) : Prop := x.1 ≤ y.1 ∧ (x.2.1 ≤ x.1 → x.2.1 ≤ y.2.1 ∧ y.2.1 ≤ y.1) ∧ ∀ t, t < x.1 → y.2.2 t = x.2.2 t
theorem grw_r (x : spl3) : grw x x := ⟨Int.le_refl _, fun h => ⟨Int.le_refl _, h⟩, fun _ _ => rfl⟩
theorem grw_M {x y : spl3} (b : Int) (h : grw x y) : grw x (emM b y) := by
  obtain ⟨h1, h2, h3⟩ := h
  refine ⟨by show x.1 ≤ y.1 + 1; omega, fun q => ?_, fun t ht => ?_⟩
  · have := h2 q
    show x.2.1 ≤ (if b = 0 then y.1 + 1 else y.2.1) ∧ (if b = 0 then y.1 + 1 else y.2.1) ≤ y.1 + 1
    split <;> omega
  · show (if y.1 < 1024 then up y.2.2 y.1 b else y.2.2) t = _
    split
    · rw [up_ne _ _ (show t ≠ y.1 by omega)]; exact h3 t ht
    · exact h3 t ht
theorem grw_N {x y : spl3} (v : Int) (h : grw x y) : grw x (emN v y) := by
  have h1 : grw x (it (emg (absI v + 1) (lg (absI v + 1))) 0 (lg (absI v + 1)) y) := it_iv h (fun i z _ _ hz => grw_M _ (grw_M _ hz))
  unfold emN
  dsimp only
  by_cases c1 : lg (absI v + 1) < 26
  · rw [if_pos c1]
    split
    · exact grw_M _ h1
    · exact grw_M _ (grw_M _ h1)
  · rw [if_neg c1]
    split
    · exact h1
    · exact grw_M _ h1
/-- the first k numbers from f0 on, spelt -/
def spN (N : Int → Int) (f0 : Int) (bk : Int → Int) (k : Int) : spl3 := it (fun j y => emN (N (f0 + j)) y) 0 k (0, 0, bk)
theorem spN_s {N : Int → Int} {f0 : Int} {bk : Int → Int} {k : Int} (h : 0 ≤ k) : spN N f0 bk (k + 1) = emN (N (f0 + k)) (spN N f0 bk k) := it_s _ _ h
theorem spN_c {N M : Int → Int} {f0 : Int} {bk : Int → Int} {k : Int} (h : ∀ j, 0 ≤ j → j < k → N (f0 + j) = M (f0 + j)) : spN N f0 bk k = spN M f0 bk k := it_congr (fun j y j0 j1 => by rw [h j j0 j1])
theorem spN_g {N : Int → Int} {f0 : Int} {bk : Int → Int} {i k : Int} (h : 0 ≤ i ∧ i ≤ k) : grw (spN N f0 bk i) (spN N f0 bk k) := by
  unfold spN
  rw [it_split (a := 0) (b := i) (c := k) h.1 h.2]
  exact it_iv (grw_r _) (fun j y _ _ hy => grw_N _ hy)
theorem spN_i {N : Int → Int} {f0 : Int} {bk : Int → Int} {k : Int} : 0 ≤ (spN N f0 bk k).2.1 ∧ (spN N f0 bk k).2.1 ≤ (spN N f0 bk k).1 := by
  unfold spN
  have := it_iv (f := fun j y => emN (N (f0 + j)) y) (a := 0) (b := k) (I := fun y : spl3 => grw (0, 0, bk) y) (grw_r ((0, 0, bk) : spl3)) (fun j y _ _ hy => grw_N _ hy)
  exact this.2.1 (by show (0 : Int) ≤ 0; omega)
/-- a measured slice beside a spelt one, behind i of its n numbers -/
def rM (K : Int → Prop) (P : Int → Int) (ro f0 n : Int) (bk : Int → Int) (i : Int) (X : Int × Int × (Int → Int) × (Int → Int64)) (Y : spl4) : Prop :=
  (0 ≤ Y.1.2.1 ∧ Y.1.2.1 ≤ Y.1.1) ∧ (∀ q, K q → X.2.2.2 q = Y.2 q) ∧
  ((X.2.1 ≤ ro ∧ X.1 = Y.1.1 ∧ X.2.1 = Y.1.2.1 ∧ Y.1 = spN X.2.2.1 f0 bk i ∧ ∀ q, (K q ∨ ∃ j, 0 ≤ j ∧ j < i ∧ P j = q) → X.2.2.2 q = Y.2 q) ∨
   (ro < X.2.1 ∧ X.2.1 ≤ Y.1.2.1 ∧ ∃ j, 0 ≤ j ∧ j ≤ n ∧ ro < (spN X.2.2.1 f0 bk j).1 ∧ ∀ t, 0 ≤ t → t ≤ ro → Y.1.2.2 t = (spN X.2.2.1 f0 bk j).2.2 t))
theorem ms_e {pr ro f0 n q0 : Int} {es es2 gb gp qf qo P B gb2 gp2 gn bk : Int → Int} {K : Int → Prop} {cf cg v w : Int → Int64} (hn : 0 ≤ n) (hro : 0 ≤ ro ∧ ro < 1024) (h1 : ∀ k, 0 ≤ k → k < n → gp (f0 + k) = P k ∧ gb (f0 + k) = B k) (h2 : ∀ k, 0 ≤ k → k < n → gp2 k = P k ∧ gb2 k = B k) (hPB : ∀ k, 0 ≤ k → k < n → 0 ≤ P k ∧ 0 ≤ B k ∧ B k < 8) (hes : ∀ b, 0 ≤ b → b < 8 → 0 ≤ es b ∧ es b ≤ 15) (hqf : ∀ r, 0 ≤ r → r < 32 → qf r = facI r ∧ qo r = offI r) (he : ∀ b, 0 ≤ b → b < 8 → es b = es2 b) (ho : ordL K n P B) (hno : ∀ k, 0 ≤ k → k < n → ¬ K (P k)) (hq0 : 0 ≤ q0 ∧ q0 ≤ 31) (hcf : ∀ k, 0 ≤ k → k < n → cf (P k) = cg (P k) ∧ bd 576460752303423488 (cg (P k))) (hw : ∀ j, bd 134217728 (w j)) (hv : ∀ q, K q → v q = w q) :
    rM K P ro f0 n bk n (it (msf ro pr es gb gp qf qo cf q0) f0 (f0 + n) (0, 0, gn, v)) (spS pr es2 gb2 gp2 cg n q0 bk w) := by
  unfold spS
  have e := it_shift (f := msf ro pr es gb gp qf qo cf q0) (a := 0) (b := n) f0 hn (0, 0, gn, v)
  rw [Int.zero_add, Int.add_comm n f0] at e
  rw [e]
  have k := it_reli (R := fun i X (Y : spl4) => rM K P ro f0 n bk i X Y ∧ ∀ j, bd 134217728 (Y.2 j)) (f := fun i => msf ro pr es gb gp qf qo cf q0 (i + f0)) (g := spf pr es2 gb2 gp2 cg q0) (a := 0) (b := n) (x := (0, 0, gn, v)) (y := ((0, 0, bk), w))
    ⟨⟨by show (0 : Int) ≤ 0 ∧ (0 : Int) ≤ 0; omega, hv, Or.inl ⟨hro.1, rfl, rfl, (it_self _ _ _).symm, fun q hq => hq.elim (hv q) (fun ⟨j, j0, j1, _⟩ => by omega)⟩⟩, hw⟩
    (fun i X Y i0 i1 ⟨⟨y0, hK, hR⟩, hY⟩ => by
      have hPi := hPB i i0 i1
      have p1 := h1 i i0 i1
      have p2 := h2 i i0 i1
      have hei := hes (B i) hPi.2.1 hPi.2.2
      have hrr : 0 ≤ rrI es2 gb2 q0 i ∧ rrI es2 gb2 q0 i < 32 := by unfold rrI; rw [p2.2, ← he (B i) hPi.2.1 hPi.2.2]; omega
      have hsv := spv_r (pr := pr) (es := es2) (gb := gb2) (gp := gp2) (cf := cg) (v := Y.2) (q := q0) (i := i) (by rw [p2.1]; exact (hcf i i0 i1).2) hY hrr
      have eN := emN_n (v := spv pr es2 gb2 gp2 cg q0 i Y.2) Y.1 hsv
      have eZ := emN_z (v := spv pr es2 gb2 gp2 cg q0 i Y.2) Y.1 hsv
      have gN := grw_N (spv pr es2 gb2 gp2 cg q0 i Y.2) (grw_r Y.1)
      have g2 := gN.2.1 y0.2
      have hKi := hno i i0 i1
      obtain ⟨z, m, N, V⟩ := X
      obtain ⟨Y1, W⟩ := Y
      refine ⟨⟨?_, ?_, ?_⟩, bd_up hY (bdL_b _)⟩
      · show 0 ≤ (emN (spv pr es2 gb2 gp2 cg q0 i W) Y1).2.1 ∧ (emN (spv pr es2 gb2 gp2 cg q0 i W) Y1).2.1 ≤ (emN (spv pr es2 gb2 gp2 cg q0 i W) Y1).1
        have g2 : Y1.2.1 ≤ (emN (spv pr es2 gb2 gp2 cg q0 i W) Y1).2.1 ∧ (emN (spv pr es2 gb2 gp2 cg q0 i W) Y1).2.1 ≤ (emN (spv pr es2 gb2 gp2 cg q0 i W) Y1).1 := g2
        have y0 : 0 ≤ Y1.2.1 ∧ Y1.2.1 ≤ Y1.1 := y0
        omega
      · intro q hq
        have nq : q ≠ P i := fun u => hKi (u ▸ hq)
        show (msf ro pr es gb gp qf qo cf q0 (i + f0) (z, m, N, V)).2.2.2 q = up W (gp2 i) _ q
        rw [p2.1, up_ne _ _ nq]
        unfold msf
        split
        · exact hK q hq
        · show up V (gp (i + f0)) _ q = W q
          rw [Int.add_comm i f0, p1.1, up_ne _ _ nq]
          exact hK q hq
      · rcases hR with ⟨r1, r2, r3, r4, r5⟩ | ⟨r1, r2, j, j0, j1, j2, j3⟩
        · have r1 : m ≤ ro := r1
          have r2 : z = Y1.1 := r2
          have r3 : m = Y1.2.1 := r3
          have r4 : Y1 = spN N f0 bk i := r4
          have r5 : ∀ q, (K q ∨ ∃ j, 0 ≤ j ∧ j < i ∧ P j = q) → V q = W q := r5
          have ep : prd pr gb gp V (i + f0) = prd pr gb2 gp2 W i := by
            rw [Int.add_comm i f0]
            exact prd_e (K := K) (n := n) (P := P) (B := B) ho ⟨i0, i1⟩ p1 p2 r5
          have er : rrI es gb q0 (i + f0) = rrI es2 gb2 q0 i := by
            rw [Int.add_comm i f0]; unfold rrI; rw [p1.2, p2.2, he (B i) hPi.2.1 hPi.2.2]
          have hq := hqf _ hrr.1 hrr.2
          obtain ⟨sv, hsvE⟩ : ∃ sv, sv = spv pr es2 gb2 gp2 cg q0 i W := ⟨_, rfl⟩
          have hvv : sv = nmC (cf (gp (i + f0)) - prd pr gb2 gp2 W i) (qf (rrI es gb q0 (i + f0))) := by
            rw [hsvE]; unfold spv
            rw [er, hq.1, Int.add_comm i f0, p1.1, p2.1, (hcf i i0 i1).1]
          have eX : msf ro pr es gb gp qf qo cf q0 (i + f0) (z, m, N, V) = (z + szN sv, (if 0 < zlN sv then z + zlN sv else m), up N (i + f0) sv, up V (gp (i + f0)) (bdL (prd pr gb2 gp2 W i + vlC sv (facI (rrI es2 gb2 q0 i)) (offI (rrI es2 gb2 q0 i))))) := by
            unfold msf
            rw [if_neg (show ¬ ro < m by omega), msx_e (p := prd pr gb2 gp2 W i) ep.symm hvv, up_self, er, hq.1, hq.2]
          have eY : spf pr es2 gb2 gp2 cg q0 i (Y1, W) = (emN sv Y1, up W (gp2 i) (bdL (prd pr gb2 gp2 W i + vlC sv (facI (rrI es2 gb2 q0 i)) (offI (rrI es2 gb2 q0 i))))) := by
            rw [hsvE]; rfl
          have hsv : -134217726 ≤ sv ∧ sv ≤ 134217726 := by rw [hsvE]; exact hsv
          have eN : (emN sv Y1).1 = Y1.1 + szN sv := by rw [hsvE]; exact eN.2.2
          have eZ : (emN sv Y1).2.1 = if 0 < zlN sv then Y1.1 + zlN sv else Y1.2.1 := by rw [hsvE]; exact eZ
          have g2 : (emN sv Y1).2.1 ≤ (emN sv Y1).1 := by rw [hsvE]; exact g2.2
          have eS : emN sv Y1 = spN (up N (i + f0) sv) f0 bk (i + 1) := by
            rw [spN_s i0, Int.add_comm f0 i, up_self, r4]
            congr 1
            exact spN_c (fun j j0 j1 => by rw [up_ne _ _ (show f0 + j ≠ i + f0 by omega)])
          show (((msf ro pr es gb gp qf qo cf q0 (i + f0) (z, m, N, V)).2.1 ≤ ro ∧ _) ∨ _)
          rw [eX, eY]
          by_cases c : (if 0 < zlN sv then z + zlN sv else m) ≤ ro
          · refine Or.inl ⟨c, ?_, ?_, eS, fun q hq2 => ?_⟩
            · show z + szN sv = (emN sv Y1).1; omega
            · show (if 0 < zlN sv then z + zlN sv else m) = (emN sv Y1).2.1; rw [eZ, r2, r3]
            · show up V (gp (i + f0)) _ q = up W (gp2 i) _ q
              rw [Int.add_comm i f0, p1.1, p2.1]
              by_cases u : q = P i
              · rw [u, up_self, up_self]
              · rw [up_ne _ _ u, up_ne _ _ u]
                refine r5 q ?_
                rcases hq2 with hq2 | ⟨j, j0, j1, j2⟩
                · exact Or.inl hq2
                · exact Or.inr ⟨j, j0, by have : j ≠ i := fun w => u (by rw [← j2, w]); omega, j2⟩
          · refine Or.inr ⟨?_, ?_, i + 1, by omega, by omega, ?_, fun t t0 t1 => ?_⟩
            · show ro < (if 0 < zlN sv then z + zlN sv else m); omega
            · show (if 0 < zlN sv then z + zlN sv else m) ≤ (emN sv Y1).2.1; rw [eZ, r2, r3]; exact Int.le_refl _
            · show ro < (spN (up N (i + f0) sv) f0 bk (i + 1)).1
              rw [← eS]
              rw [r2, r3, ← eZ] at c
              omega
            · show (emN sv Y1).2.2 t = (spN (up N (i + f0) sv) f0 bk (i + 1)).2.2 t
              rw [eS]
        · have r1 : ro < m := r1
          have r2 : m ≤ Y1.2.1 := r2
          have y0 : 0 ≤ Y1.2.1 ∧ Y1.2.1 ≤ Y1.1 := y0
          have eX : msf ro pr es gb gp qf qo cf q0 (i + f0) (z, m, N, V) = (z, m, N, V) := if_pos r1
          rw [eX]
          refine Or.inr ⟨r1, ?_, j, j0, j1, j2, fun t t0 t1 => ?_⟩
          · show m ≤ (emN _ Y1).2.1
            have := g2.1
            exact Int.le_trans r2 this
          · show (emN _ Y1).2.2 t = _
            rw [gN.2.2 t (by show t < Y1.1; omega)]
            exact j3 t t0 t1) hn
  exact k.1
/-- the whole of it -/
def rM2 (K : Int → Prop) (ro f0 n : Int) (bk : Int → Int) (X : tri) (Y : spl4) : Prop :=
  (0 ≤ Y.1.2.1 ∧ Y.1.2.1 ≤ Y.1.1) ∧ (∀ q, K q → X.2.2 q = Y.2 q) ∧ (X.1 ≤ ro ↔ Y.1.2.1 ≤ ro) ∧ min X.1 ro = min Y.1.2.1 ro ∧ min Y.1.2.1 ro ≤ (spN X.2.1 f0 bk n).1 ∧ ∀ t, 0 ≤ t → t < min Y.1.2.1 ro → Y.1.2.2 t = (spN X.2.1 f0 bk n).2.2 t
theorem rM_2 {K : Int → Prop} {P : Int → Int} {ro f0 n : Int} {bk : Int → Int} {X : Int × Int × (Int → Int) × (Int → Int64)} {Y : spl4} (h : rM K P ro f0 n bk n X Y) (hn : 0 ≤ n) : rM2 K ro f0 n bk X.2 Y := by
  obtain ⟨h1, h2, h3⟩ := h
  have si := spN_i (N := X.2.2.1) (f0 := f0) (bk := bk) (k := n)
  rcases h3 with ⟨r1, r2, r3, r4, r5⟩ | ⟨r1, r2, j, j0, j1, j2, j3⟩
  · refine ⟨h1, h2, by rw [r3], by rw [r3], ?_, fun t t0 t1 => by rw [r4]⟩
    rw [← r4]; omega
  · have g := spN_g (N := X.2.2.1) (f0 := f0) (bk := bk) (i := j) (k := n) ⟨j0, j1⟩
    refine ⟨h1, h2, by omega, by omega, ?_, fun t t0 t1 => ?_⟩
    · have := g.1; show min Y.1.2.1 ro ≤ (spN X.2.2.1 f0 bk n).1; omega
    · rw [j3 t t0 (by omega)]; exact (g.2.2 t (by omega)).symm

