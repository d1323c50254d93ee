
/-! how large a coefficient can be -/
theorem bd_m {C B : Int} {c x : Int64} (hc : c.toInt = C) (hC : 0 ≤ C) (hx : bd B x) (h : C * B < 9223372036854775808) : bd (C * B) (c * x) := by
  unfold bd at *
  have h1 : C * x.toInt ≤ C * B := Int.mul_le_mul_of_nonneg_left hx.2 hC
  have h2 : C * -B ≤ C * x.toInt := Int.mul_le_mul_of_nonneg_left hx.1 hC
  rw [Int.mul_neg] at h2
  rw [Int64.toInt_mul, hc, bm_e ⟨by omega, by omega⟩]
  omega
theorem bd_sh {C p : Int} {e : Int64} {a : Int} (ha : 0 ≤ a ∧ a < 64) (hp : 2 ^ a.toNat = p) (h : bd C e) (hpp : 1 ≤ p) : bd (C / p + 1) (shR e a) := by
  unfold bd at *
  rw [shR_v ha, hp]
  have h1 : e.toInt / p ≤ C / p := Int.ediv_le_ediv (by omega) h.2
  have h2 : -C / p ≤ e.toInt / p := Int.ediv_le_ediv (by omega) h.1
  have h3 : -(C / p) - 1 ≤ -C / p := by
    have a1 := Int.mul_ediv_add_emod C p
    have a2 := Int.emod_nonneg C (show p ≠ 0 by omega)
    have a3 := Int.emod_lt_of_pos C (show 0 < p by omega)
    have a4 : (-(C / p) - 1) * p ≤ -C := by
      rw [Int.sub_mul, Int.neg_mul, Int.one_mul, Int.mul_comm (C / p) p]; omega
    exact (Int.le_ediv_iff_mul_le (by omega)).mpr a4
  omega
abbrev bdE (B n : Int) (x : eo) : Prop := ∀ k, 0 ≤ k → k < n → bd B (x.1 k) ∧ bd B (x.2 k)
def stF (kd st : Int) : Int := if kd = 6 ∧ st = 0 then 4 else 2
theorem am_b {kd st k n B : Int} {x : eo} (hs : kdst kd st) (hk : 0 ≤ k ∧ k < n) (hB : 128 ≤ B ∧ B ≤ 281474976710656) (h : bdE B n x) : bd (stF kd st * B) (amL kd st x.1 x.2 k n) := by
  have c1 : ∀ z, bd B (x.1 (clI n z)) := fun z => (h _ (cl_r (by omega)).1 (cl_r (by omega)).2).1
  have c2 : ∀ z, bd B (x.2 (clI n z)) := fun z => (h _ (cl_r (by omega)).1 (cl_r (by omega)).2).2
  have k1 := (h k hk.1 hk.2).1
  have k2 := (h k hk.1 hk.2).2
  have o1 : bd 1 (1 : Int64) := by unfold bd; decide
  have p1 : ∀ z w, bd (B + B) (x.1 (clI n z) + x.1 (clI n w)) := fun z w => (bd_add (c1 z) (c1 w) (by omega)).1
  have p2 : ∀ z w, bd (B + B) (x.2 (clI n z) + x.2 (clI n w)) := fun z w => (bd_add (c2 z) (c2 w) (by omega)).1
  rcases ks_c hs with ⟨rfl, rfl⟩ | ⟨rfl, rfl⟩ | ⟨rfl, rfl⟩ | ⟨rfl, rfl⟩ | ⟨rfl, rfl⟩ | ⟨rfl, rfl⟩ | ⟨rfl, rfl⟩ | ⟨rfl, rfl⟩ | ⟨rfl, rfl⟩ | ⟨rfl, rfl⟩ | ⟨rfl, rfl⟩ | ⟨rfl, rfl⟩ | ⟨rfl, rfl⟩ | ⟨rfl, rfl⟩ | ⟨rfl, rfl⟩ | ⟨rfl, rfl⟩
  · rw [am_00, show stF 0 0 = 2 from by decide]
    exact bd_le (bd_sh (p := 2) (by decide) (by decide) (bd_add (p1 _ _) (show bd 1 (1 : Int64) by unfold bd; decide) (by omega)).1 (by omega)) (by omega)
  · rw [am_01, show stF 0 1 = 2 from by decide]
    exact bd_le (bd_sh (p := 4) (by decide) (by decide) (bd_add (p2 _ _) (show bd 2 (2 : Int64) by unfold bd; decide) (by omega)).1 (by omega)) (by omega)
  · rw [am_10, show stF 1 0 = 2 from by decide]
    exact bd_le (bd_sh (p := 16) (by decide) (by decide) (bd_add (bd_sub (bd_m (C := 9) (by decide) (by omega) (p1 _ _) (by omega)) (p1 _ _) (by omega)).1 (show bd 8 (8 : Int64) by unfold bd; decide) (by omega)).1 (by omega)) (by omega)
  · rw [am_11, show stF 1 1 = 2 from by decide]
    exact bd_le (bd_sh (p := 4) (by decide) (by decide) (bd_add (p2 _ _) (show bd 2 (2 : Int64) by unfold bd; decide) (by omega)).1 (by omega)) (by omega)
  · rw [am_20, show stF 2 0 = 2 from by decide]
    exact bd_le (bd_sh (p := 16) (by decide) (by decide) (bd_add (bd_sub (bd_m (C := 9) (by decide) (by omega) (p1 _ _) (by omega)) (p1 _ _) (by omega)).1 (show bd 8 (8 : Int64) by unfold bd; decide) (by omega)).1 (by omega)) (by omega)
  · rw [am_21, show stF 2 1 = 2 from by decide]
    exact bd_le (bd_sh (p := 32) (by decide) (by decide) (bd_add (bd_sub (bd_m (C := 9) (by decide) (by omega) (p2 _ _) (by omega)) (p2 _ _) (by omega)).1 (show bd 16 (16 : Int64) by unfold bd; decide) (by omega)).1 (by omega)) (by omega)
  · rw [am_30, show stF 3 0 = 2 from by decide]
    rw [sh_0]; exact bd_le k1 (by omega)
  · rw [am_31, show stF 3 1 = 2 from by decide]
    exact bd_le (bd_sh (p := 2) (by decide) (by decide) (bd_add k2 o1 (by omega)).1 (by omega)) (by omega)
  · rw [am_40, show stF 4 0 = 2 from by decide]
    rw [sh_0]; exact bd_le k1 (by omega)
  · rw [am_41, show stF 4 1 = 2 from by decide]
    exact bd_le (bd_sh (p := 2) (by decide) (by decide) (bd_add k2 o1 (by omega)).1 (by omega)) (by omega)
  · rw [am_50, show stF 5 0 = 2 from by decide]
    exact bd_le (bd_sh (p := 256) (by decide) (by decide) (bd_add (bd_sub (bd_add (bd_sub (bd_m (C := 161) (by decide) (by omega) (p2 _ _) (by omega)) (bd_m (C := 46) (by decide) (by omega) (p2 _ _) (by omega)) (by omega)).1 (bd_m (C := 21) (by decide) (by omega) (p2 _ _) (by omega)) (by omega)).1 (bd_m (C := 8) (by decide) (by omega) (p2 _ _) (by omega)) (by omega)).1 (show bd 128 (128 : Int64) by unfold bd; decide) (by omega)).1 (by omega)) (by omega)
  · rw [am_51, show stF 5 1 = 2 from by decide]
    exact bd_le (bd_sh (p := 256) (by decide) (by decide) (bd_add (bd_sub (bd_add (bd_sub (bd_m (C := 81) (by decide) (by omega) (p1 _ _) (by omega)) (bd_m (C := 25) (by decide) (by omega) (p1 _ _) (by omega)) (by omega)).1 (bd_m (C := 10) (by decide) (by omega) (p1 _ _) (by omega)) (by omega)).1 (bd_m (C := 2) (by decide) (by omega) (p1 _ _) (by omega)) (by omega)).1 (show bd 128 (128 : Int64) by unfold bd; decide) (by omega)).1 (by omega)) (by omega)
  · rw [am_60, show stF 6 0 = 4 from by decide]
    exact bd_le (bd_sh (p := 4096) (by decide) (by decide) (bd_add (bd_m (C := 6497) (by decide) (by omega) (p1 _ _) (by omega)) (show bd 2048 (2048 : Int64) by unfold bd; decide) (by omega)).1 (by omega)) (by omega)
  · rw [am_61, show stF 6 1 = 2 from by decide]
    exact bd_le (bd_sh (p := 4096) (by decide) (by decide) (bd_add (bd_m (C := 217) (by decide) (by omega) (p2 _ _) (by omega)) (show bd 2048 (2048 : Int64) by unfold bd; decide) (by omega)).1 (by omega)) (by omega)
  · rw [am_62, show stF 6 2 = 2 from by decide]
    exact bd_le (bd_sh (p := 4096) (by decide) (by decide) (bd_add (bd_m (C := 3616) (by decide) (by omega) (p1 _ _) (by omega)) (show bd 2048 (2048 : Int64) by unfold bd; decide) (by omega)).1 (by omega)) (by omega)
  · rw [am_63, show stF 6 3 = 2 from by decide]
    exact bd_le (bd_sh (p := 4096) (by decide) (by decide) (bd_add (bd_m (C := 1817) (by decide) (by omega) (p2 _ _) (by omega)) (show bd 2048 (2048 : Int64) by unfold bd; decide) (by omega)).1 (by omega)) (by omega)
theorem amS_b {kd st un k n B : Int} {x : eo} (hs : kdst kd st) (hk : 0 ≤ k ∧ k < n) (hB : 128 ≤ B ∧ B ≤ 281474976710656) (h : bdE B n x) : bd (stF kd st * B) (amS kd st un x k n) := by
  have := am_b hs hk hB h
  have f : stF kd st ≤ 4 ∧ 0 ≤ stF kd st := by unfold stF; split <;> omega
  unfold amS
  split
  · exact this
  · refine (bd_neg this ?_).1
    have : stF kd st * B ≤ 4 * B := Int.mul_le_mul_of_nonneg_right f.1 (by omega)
    omega
theorem ds_b {kd st un n B : Int} {x : eo} (hs : kdst kd st) (hn : 0 ≤ n) (hB : 128 ≤ B ∧ B ≤ 281474976710656) (h : bdE B n x) : bdE ((1 + stF kd st) * B) n (dsK kd st un n x) := by
  have f : stF kd st ≤ 4 ∧ 0 ≤ stF kd st := by unfold stF; split <;> omega
  have f1 : stF kd st * B ≤ 4 * B := Int.mul_le_mul_of_nonneg_right f.1 (by omega)
  have f2 : 0 ≤ stF kd st * B := Int.mul_nonneg f.2 (by omega)
  have e : (1 + stF kd st) * B = B + stF kd st * B := by rw [Int.add_mul, Int.one_mul]
  intro k k0 k1
  rw [dsK_v hs hn, e]
  have hk := h k k0 k1
  have ha := amS_b (un := un) hs ⟨k0, k1⟩ hB h
  split
  · dsimp only; rw [if_pos ⟨k0, k1⟩]
    exact ⟨bd_le hk.1 (by omega), (bd_add hk.2 ha (by omega)).1⟩
  · dsimp only; rw [if_pos ⟨k0, k1⟩]
    exact ⟨(bd_add hk.1 ha (by omega)).1, bd_le hk.2 (by omega)⟩
/-- a line: 135 times at most -/
theorem tu_b {kd n B : Int} {x : eo} (hk : 0 ≤ kd ∧ kd ≤ 6) (hn : 0 ≤ n) (hB : 128 ≤ B ∧ B ≤ 6000000000000) (h : bdE B n x) : bdE (135 * B) n (tuE kd 0 n (stc kd) (stc kd) x) := by
  have st : ∀ {i C : Int} {y : eo}, 0 ≤ i → i < stc kd → 128 ≤ C ∧ C ≤ 281474976710656 → bdE C n y → bdE ((1 + stF kd i) * C) n (dsK kd (stI 0 (stc kd) i) 0 n y) := by
    intro i C y i0 i1 hC hy
    rw [show stI 0 (stc kd) i = i from if_pos rfl]
    exact ds_b ⟨hk, i0, i1⟩ hn hC hy
  have le : ∀ {C D : Int} {y : eo}, C ≤ D → bdE C n y → bdE D n y := fun q hy k k0 k1 => ⟨bd_le (hy k k0 k1).1 q, bd_le (hy k k0 k1).2 q⟩
  unfold tuE
  by_cases c : kd = 6
  · subst c
    rw [show stc 6 = 4 from by decide] at st ⊢
    rw [show (4 : Int) = 0 + 1 + 1 + 1 + 1 by decide, it_s _ _ (by omega), it_s _ _ (by omega), it_s _ _ (by omega), it_s _ _ (by omega), it_self]
    have a1 := st (i := 0) (by omega) (by omega) ⟨hB.1, by omega⟩ h
    rw [show stF 6 0 = 4 from by decide] at a1
    have a2 := st (i := 0 + 1) (by omega) (by omega) ⟨by omega, by omega⟩ a1
    rw [show stF 6 (0 + 1) = 2 from by decide] at a2
    have a3 := st (i := 0 + 1 + 1) (by omega) (by omega) ⟨by omega, by omega⟩ a2
    rw [show stF 6 (0 + 1 + 1) = 2 from by decide] at a3
    have a4 := st (i := 0 + 1 + 1 + 1) (by omega) (by omega) ⟨by omega, by omega⟩ a3
    rw [show stF 6 (0 + 1 + 1 + 1) = 2 from by decide] at a4
    exact le (by omega) a4
  · have f : ∀ i, stF kd i = 2 := fun i => if_neg (fun q => c q.1)
    rw [show stc kd = 2 from if_neg c] at st ⊢
    rw [show (2 : Int) = 0 + 1 + 1 by decide, it_s _ _ (by omega), it_s _ _ (by omega), it_self]
    have a1 := st (i := 0) (by omega) (by omega) ⟨hB.1, by omega⟩ h
    rw [f] at a1
    have a2 := st (i := 0 + 1) (by omega) (by omega) ⟨by omega, by omega⟩ a1
    rw [f] at a2
    exact le (by omega) a2
abbrev bdZ (Z : Int → Prop) (B : Int) (a : Int → Int64) : Prop := ∀ j, Z j → bd B (a j)
theorem tuL_b {Z : Int → Prop} {β γ : Int → Int} {s d n kd B : Int} {x : aeo} (hk : 0 ≤ kd ∧ kd ≤ 6) (hn : 0 ≤ n) (hB : 128 ≤ B ∧ B ≤ 6000000000000) (h : ∀ j, Z j → bd (β j) (x.1 j)) (hz : ∀ k, 0 ≤ k → k < 2 * n → Z (s + k * d) ∧ β (s + k * d) ≤ B ∧ 135 * B ≤ γ (s + k * d)) (hg : ∀ j, β j ≤ γ j) : ∀ j, Z j → bd (γ j) ((tuL s d n 0 kd x).1 j) := by
  unfold tuL
  rw [pe0, po0, qe0, qo0]
  have l : bdE B n (it (ldf x.1 (p2k s d) (p2o s d)) 0 n x.2) := by
    refine it_inv (f := ldf x.1 (p2k s d) (p2o s d)) (I := fun i (z : eo) => ∀ k, 0 ≤ k → k < i → bd B (z.1 k) ∧ bd B (z.2 k)) (fun k h1 h2 => by omega) ?_ hn
    intro i z h1 h2 hz2 k k0 k1
    show bd B (up z.1 i _ k) ∧ bd B (up z.2 i _ k)
    by_cases e : k = i
    · subst e; rw [up_self, up_self]
      have q1 := hz (2 * k) (by omega) (by omega)
      have q2 := hz (2 * k + 1) (by omega) (by omega)
      exact ⟨bd_le (h _ q1.1) q1.2.1, bd_le (h _ q2.1) q2.2.1⟩
    · rw [up_ne _ _ e, up_ne _ _ e]; exact hz2 k k0 (by omega)
  have t := tu_b hk hn hB l
  refine it_iv (I := fun (a : Int → Int64) => ∀ j, Z j → bd (γ j) (a j)) (fun j hj => bd_le (h j hj) (hg j)) (fun i a i0 i1 ha j hj => ?_)
  show bd _ (up (up a (p1k s d i) _) (p1n s d n i) _ j)
  have ti := t i i0 i1
  by_cases e1 : j = p1n s d n i
  · rw [e1, up_self]; exact bd_le ti.2 (hz (n + i) (by omega) (by omega)).2.2
  · rw [up_ne _ _ e1]
    by_cases e2 : j = p1k s d i
    · rw [e2, up_self]; exact bd_le ti.1 (hz i (by omega) (by omega)).2.2
    · rw [up_ne _ _ e2]; exact ha j hj
/-- a level of the reference: 270 * 135 times at most -/
theorem rgA_b {cP cQ w h kd ct B : Int} {x : aeo} (hk : 0 ≤ kd ∧ kd ≤ 6) (hw : 0 ≤ w ∧ w ≤ cP ∧ cP ≤ 16) (hh : 0 ≤ h ∧ h ≤ cQ ∧ cQ ≤ 16) (hB : 128 ≤ B ∧ B ≤ 274877906944) (hB2 : ct = 0 ∨ B ≤ 2147483648) (e : bdZ (inZ cP cQ) B x.1) : bdZ (inZ cP cQ) ((if ct = 0 then 270 else 36450) * B) (rgA kd w h ct 0 x).1 := by
  have s1 : bdZ (inZ cP cQ) (2 * B) (it (rg1 (gainT kd) w h 0) 0 256 x.1) := by
    have key : ∀ j, inZ cP cQ j → it (rg1 (gainT kd) w h 0) 0 256 x.1 j = x.1 j ∨ it (rg1 (gainT kd) w h 0) 0 256 x.1 j = 2 * x.1 j := by
      intro j hj
      by_cases g : gainT kd = 0
      · rw [it_id (fun i y => rg1_c (Or.inl g) i y)]; exact Or.inl rfl
      · have : rg1 (gainT kd) w h 0 = fun k t => up t k (if k % 16 < w ∧ k / 16 < h then 2 * t k else t k) := by
          funext k t
          unfold rg1
          rw [if_neg (by omega)]
          split <;> rfl
        rw [this, it_map (F := fun k (v : Int64) => if k % 16 < w ∧ k / 16 < h then 2 * v else v) (by omega) x.1 j]
        split
        · try dsimp only
          split
          · exact Or.inr rfl
          · exact Or.inl rfl
        · exact Or.inl rfl
    intro j hj
    rcases key j hj with q | q <;> rw [q]
    · exact bd_le (e j hj) (by omega)
    · exact bd_m (by decide) (by omega) (e j hj) (by omega)
  have s3 : bdZ (inZ cP cQ) (270 * B) (it (rg3 kd w 0) 0 h (it (rg1 (gainT kd) w h 0) 0 256 x.1, x.2)).1 := by
    have := it_inv (f := rg3 kd w 0) (a := 0) (b := h) (x := (it (rg1 (gainT kd) w h 0) 0 256 x.1, x.2)) (I := fun i (u : aeo) => ∀ j, inZ cP cQ j → bd (if j / 16 < i then 270 * B else 2 * B) (u.1 j)) (fun j hj => by rw [if_neg (by omega)]; exact s1 j hj) (fun i u i0 i1 hu => by
      show ∀ j, inZ cP cQ j → bd (if j / 16 < i + 1 then 270 * B else 2 * B) ((tuL (16 * i) 1 (w / 2) 0 kd u).1 j)
      refine tuL_b (B := 2 * B) (β := fun j => if j / 16 < i then 270 * B else 2 * B) (γ := fun j => if j / 16 < i + 1 then 270 * B else 2 * B) hk (by omega) ⟨by omega, by omega⟩ hu (fun k k0 k1 => ?_) (fun j => ?_)
      · try dsimp only
        rw [Int.mul_one, if_neg (by omega), if_pos (by omega)]
        omega
      · try dsimp only
        split <;> split <;> omega) hh.1
    intro j hj
    refine bd_le (this j hj) ?_
    split <;> omega
  unfold rgA
  try dsimp only
  rw [it_id (fun i y => rg5_c (Or.inr rfl) i y), it_id (f := rg2 kd h ct 0) (fun i y => rg2_c (Or.inr rfl) i y)]
  by_cases c : ct = 0
  · rw [if_pos c, it_id (f := rg4 kd h ct 0) (fun i y => rg4_c (Or.inl c) i y)]
    exact s3
  · rw [if_neg c]
    have := it_inv (f := rg4 kd h ct 0) (a := 0) (b := w) (x := it (rg3 kd w 0) 0 h (it (rg1 (gainT kd) w h 0) 0 256 x.1, x.2)) (I := fun i (u : aeo) => ∀ j, inZ cP cQ j → bd (if j % 16 < i then 36450 * B else 270 * B) (u.1 j)) (fun j hj => by rw [if_neg (by omega)]; exact s3 j hj) (fun i u i0 i1 hu => by
      show ∀ j, inZ cP cQ j → bd (if j % 16 < i + 1 then 36450 * B else 270 * B) ((rg4 kd h ct 0 i u).1 j)
      unfold rg4
      rw [if_neg (by omega)]
      refine tuL_b (B := 270 * B) (β := fun j => if j % 16 < i then 36450 * B else 270 * B) (γ := fun j => if j % 16 < i + 1 then 36450 * B else 270 * B) hk (by omega) ⟨by omega, by omega⟩ hu (fun k k0 k1 => ?_) (fun j => ?_)
      · try dsimp only
        rw [if_neg (by omega), if_pos (by omega)]
        omega
      · try dsimp only
        split <;> split <;> omega) hw.1
    intro j hj
    refine bd_le (this j hj) ?_
    split <;> omega
theorem it_01 {σ : Type} (f : Int → σ → σ) (x : σ) : it f 0 1 x = f 0 x := rfl
theorem it_02 {σ : Type} (f : Int → σ → σ) (x : σ) : it f 0 2 x = f 1 (f 0 x) := rfl
theorem it_12 {σ : Type} (f : Int → σ → σ) (x : σ) : it f 1 2 x = f 1 x := rfl
theorem it_13 {σ : Type} (f : Int → σ → σ) (x : σ) : it f 1 3 x = f 2 (f 1 x) := rfl
theorem it_23 {σ : Type} (f : Int → σ → σ) (x : σ) : it f 2 3 x = f 2 x := rfl
/-- all levels -/
theorem fm_b {cP cQ db ew kd : Int} {x : aeo} (hk : 0 ≤ kd ∧ kd ≤ 6) (hP : 0 ≤ cP ∧ cP ≤ 16) (hQ : 0 ≤ cQ ∧ cQ ≤ 16) (hd : 0 ≤ db ∧ db ≤ 2 ∧ 0 ≤ ew ∧ ew ≤ 2 ∧ db + ew ≤ 3) (e : bdZ (inZ cP cQ) 128 x.1) : bdZ (inZ cP cQ) 576460752303423488 (fmW cP cQ db ew kd x).1 := by
  have le : ∀ {C D : Int} {a : Int → Int64}, C ≤ D → bdZ (inZ cP cQ) C a → bdZ (inZ cP cQ) D a := fun q h j hj => bd_le (h j hj) q
  have l1 : ∀ {B l : Int} {y : aeo}, 128 ≤ B ∧ B ≤ 2147483648 → bdZ (inZ cP cQ) B y.1 → bdZ (inZ cP cQ) (36450 * B) (fmL1 cP cQ kd l y).1 := fun {B l y} hB h => by
    have := rgA_b (w := cP / 2 ^ l.toNat) (h := cQ / 2 ^ l.toNat) (ct := 1) hk ⟨(lv_le _ hP.1).1, (lv_le _ hP.1).2, hP.2⟩ ⟨(lv_le _ hQ.1).1, (lv_le _ hQ.1).2, hQ.2⟩ ⟨hB.1, by omega⟩ (Or.inr hB.2) h
    rw [if_neg (by decide)] at this
    exact this
  have l2 : ∀ {B l : Int} {y : aeo}, 128 ≤ B ∧ B ≤ 274877906944 → bdZ (inZ cP cQ) B y.1 → bdZ (inZ cP cQ) (270 * B) (fmL2 cP cQ db kd l y).1 := fun {B l y} hB h => by
    have := rgA_b (w := cP / 2 ^ l.toNat) (h := cQ / 2 ^ db.toNat) (ct := 0) hk ⟨(lv_le _ hP.1).1, (lv_le _ hP.1).2, hP.2⟩ ⟨(lv_le _ hQ.1).1, (lv_le _ hQ.1).2, hQ.2⟩ hB (Or.inl rfl) h
    rw [if_pos (by decide)] at this
    exact this
  unfold fmW
  rcases de_c hd with ⟨rfl, rfl⟩ | ⟨rfl, rfl⟩ | ⟨rfl, rfl⟩ | ⟨rfl, rfl⟩ | ⟨rfl, rfl⟩ | ⟨rfl, rfl⟩ | ⟨rfl, rfl⟩ | ⟨rfl, rfl⟩ <;> simp only [Int.reduceAdd, Int.add_zero, Int.zero_add, it_01, it_02, it_12, it_13, it_23, it_self]
  · exact le (by omega) e
  · exact le (by omega) (l2 (l := 0) (by omega) e)
  · exact le (by omega) (l2 (l := 1) (by omega) (l2 (l := 0) (by omega) e))
  · exact le (by omega) (l1 (l := 0) (by omega) e)
  · exact le (by omega) (l2 (l := 1) (by omega) (l1 (l := 0) (by omega) e))
  · exact le (by omega) (l2 (l := 2) (by omega) (l2 (l := 1) (by omega) (l1 (l := 0) (by omega) e)))
  · exact le (by omega) (l1 (l := 1) (by omega) (l1 (l := 0) (by omega) e))
  · exact le (by omega) (l2 (l := 2) (by omega) (l1 (l := 1) (by omega) (l1 (l := 0) (by omega) e)))

