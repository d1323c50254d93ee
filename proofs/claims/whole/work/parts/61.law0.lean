/-! THE CLAIM OUT OF ONE WALK OF THE LAW'S BODY. Your part is whole_start (and what it stands on); all else here is the same for every law, but numbers. -/
def R_law : String := "WaveletSlicesLaw"
def lw_P (b : Addr) (xs : List Int32) (args : Array Value) (s : State) : Prop := args = #[.ref b] ∧ s.IntsAt b xs ∧ xs.length ≤ 3074 ∧ (Jvm.Cond.and given_1 narrow_1).before args s = true
def lw_Q (_ : Array Value) (s : State) (o : Outcome) (t : State) : Prop := o = .returned (some (.int 1)) ∧ Framed s o t [] 39 9205
def lw_Z (below : List Frame) (a : Array Value) (s : State) : State → Prop := fun t => ∃ o, t.status = .running ∧ Ended t below o ∧ lw_Q a s o t
/-- the law's own end, with 1 on the stack, nothing written that was there before, its room as the claim has it -/
theorem lw_ret {p : Program} {l : Launch} {e : Env} {s : State} {m : MethodId} {below : List Frame} {meth : Method} {c : Code} {b : Nat} (hx : p.tables.exec = Jvm.exec) (hb : c.code = code) (hr : meth.sig.returnType = ret) (hlocks : meth.locks = false) {pc : Nat} {H : Heap} {ls : Array Slot} (hdg : decode code pc = .ok (.ireturn, 1)) : W p l e room_1 s m #[Value.ref b] below meth c H [] 39 9205 (lw_Z below #[Value.ref b] s) (F0 m pc ls [.int 1]) := by
  intro T hT X
  obtain ⟨fs, hret, hrun, hended, hW, hframe⟩ := X.leave (v := some (.int 1)) (hlocks := hlocks) (fun h => by rw [hr] at h; cases h)
  have hmeth' : T.vm.method? m = some meth := X.method'
  refine ⟨T.setFrames fs, ?_, .returned (some (.int 1)), hrun, hended, rfl, ⟨_, rfl⟩, hW, hframe⟩
  jvm_step X.here [X.here.top, hx, hb, hdg, hmeth', hr, ret, narrow_b1]
  (try refine ⟨rfl, ?_⟩); (try refine ⟨rfl, ?_⟩)
  first | (intro acts; rw [hret _ acts rfl rfl rfl]) | rw [hret _ _ rfl rfl rfl]
  exact Steps.refl _
/-- what holds at the law's entry: the machine, the code, the tables' words (any of lw_tbl by 'hts w (by decide +kernel)'), the script of L ints xs at the cell b, what the Statement gives of the start (any of its parts by flat_of_before) -/
def lw_At (p : Program) (s : State) (m : MethodId) (meth : Method) (c : Code) (b L : Nat) (xs : Nat → Int32) : Prop :=
  p.tables.exec = Jvm.exec ∧ c.code = code ∧ meth.sig.returnType = ret ∧ c.maxLocals = 4 ∧ s.vm.findClass R_law = some m.cls ∧ (∀ w ∈ lw_tbl, w.before #[Value.ref b] s = true) ∧ va_X b L xs s s.heap ∧ b < s.heap.size ∧ meth.locks = false ∧ (Jvm.Cond.and given_1 narrow_1).before #[Value.ref b] s = true

/-! the law's script, its own method cell, its start -/
def sc (xs : Nat → Int32) (z : Int) : Int := (xs z.toNat).toInt
theorem sc_r (xs : Nat → Int32) (z : Int) : -2147483648 ≤ sc xs z ∧ sc xs z < 2147483648 := ⟨Int32.le_toInt _, Int32.toInt_lt _⟩
theorem sc_v (xs : Nat → Int32) {z : Int} (h0 : 0 ≤ z) (h1 : z < 2147483648) : xs (iv z).toNatClampNeg = iv (sc xs z) := by
  rw [iv_clamp h0 h1]
  exact (Int32.ofInt_toInt _).symm
section KS
variable {p : Program} {l : Launch} {e : Env} {R : Room} {s : State} {m : MethodId} {args : Array Value} {below : List Frame} {meth : Method} {c : Code} {H : Heap} {locs : List Loc} {cells slots : Nat} {Q : State → Prop}
variable {cc : ByteArray} {pc : Nat} {ls : Array Slot} {rest : List Value} {A : Nat → Prop} {b L : Nat} {xs : Nat → Int32}
theorem k_sld (hx : p.tables.exec = Jvm.exec) (hb : c.code = cc) (hX : va_X b L xs s s.heap) (hbl : b < s.heap.size) (hbA : ¬ A b) (hS : va_S A s.heap H locs) (hL : L ≤ 3074) {z : Int} (hz : 0 ≤ z ∧ z < (L : Int)) (d : decode cc pc = .ok (.iaload, 1))
    (kk : W p l e R s m args below meth c H locs cells slots Q (F0 m (pc + 1) ls (.int (iv (sc xs z)) :: rest))) : W p l e R s m args below meth c H locs cells slots Q (F0 m pc ls (.int (iv z) :: .ref b :: rest)) := by
  refine va_sld hx hb hX hbl hbA hS (iv_in hz.1 hz.2 (by omega)) d ?_
  rw [sc_v xs hz.1 (by omega)]
  exact kk
theorem k_slen (hx : p.tables.exec = Jvm.exec) (hb : c.code = cc) (hX : va_X b L xs s s.heap) (hbl : b < s.heap.size) (hbA : ¬ A b) (hS : va_S A s.heap H locs) (d : decode cc pc = .ok (.arraylength, 1))
    (kk : W p l e R s m args below meth c H locs cells slots Q (F0 m (pc + 1) ls (.int (iv (L : Int)) :: rest))) : W p l e R s m args below meth c H locs cells slots Q (F0 m pc ls (.ref b :: rest)) := by
  refine va_slen hx hb hX hbl hbA hS d ?_
  rw [show Int32.ofNat L = iv (L : Int) from (iv_nat L).symm]
  exact kk
/-- two answers that are the same -/
theorem k_same (hx : p.tables.exec = Jvm.exec) (hb : c.code = cc) {a b : Int} {off : Int} {tgt : Nat} (d : decode cc pc = .ok (.if_icmp .eq off, 3)) (ht : (pc : Int) + off = (tgt : Int)) (h : a = b)
    (kt : W p l e R s m args below meth c H locs cells slots Q (F0 m tgt ls rest)) : W p l e R s m args below meth c H locs cells slots Q (F0 m pc ls (.int (iv b) :: .int (iv a) :: rest)) :=
  lv_icmp_eq hx hb d ht (fun _ => kt) (fun q => absurd (by rw [h]) q)
theorem k_samel (hx : p.tables.exec = Jvm.exec) (hb : c.code = cc) {x y : Int64} {off : Int} {tgt : Nat} (d1 : decode cc pc = .ok (.lcmp, 1)) (d : decode cc (pc + 1) = .ok (.ifCond .eq off, 3)) (ht : ((pc + 1 : Nat) : Int) + off = (tgt : Int)) (h : x = y)
    (kt : W p l e R s m args below meth c H locs cells slots Q (F0 m tgt ls rest)) : W p l e R s m args below meth c H locs cells slots Q (F0 m pc ls (.long y :: .long x :: rest)) :=
  k_leq hx hb d1 d ht (fun _ => kt) (fun q => absurd h q)
end KS
/-- six by six -/
theorem lo_6 {P : Int → Prop} {a b : Int} (h : ∀ i, a ≤ i → (i ≤ b + 6 ∨ i = a) → (i ≤ b → P (i + 6)) → P i) : P a := by
  have key : ∀ n : Nat, ∀ i, a ≤ i → (i ≤ b + 6 ∨ i = a) → (b + 7 - i).toNat ≤ n → P i := by
    intro n
    induction n with
    | zero => intro i hi hj hn; exact h i hi hj (fun q => by omega)
    | succ n ih => intro i hi hj hn; exact h i hi hj (fun q => ih (i + 6) (by omega) (by omega) (by omega))
  exact key _ a (Int.le_refl a) (Or.inr rfl) (Nat.le_refl _)
/-! words of the tables that the start alone needs -/
theorem lt_1 {w : Cond} (k : Nat) (h : tables_1_1[k]? = some w) : w ∈ lw_tbl := List.mem_append_right _ (List.mem_append_left _ (List.mem_of_getElem? h))
theorem lt_2 {w : Cond} (k : Nat) (h : tables_1_2[k]? = some w) : w ∈ lw_tbl := List.mem_append_right _ (List.mem_append_right _ (List.mem_append_left _ (List.mem_of_getElem? h)))
theorem wl_lt {w : Cond} (h : w ∈ wl) : w ∈ lw_tbl := (List.mem_filter.mp h).1
theorem arr_K {args : Array Value} {s : State} {ty : FieldType} (h : (Cond.arrayClass ty).before args s = true) : ∃ cA : ClassId, ArrOfT s cA ty ∧ s.vm.findClass ("[" ++ ty.toString) = some cA := by
  obtain ⟨cA, k, comp, h1, h2, h3⟩ := Cond.arrayClass_spec h
  exact ⟨cA, fun n z => ⟨fun k h => (by cases h), k, h2, comp, h3⟩, h1⟩

theorem m3_117 : Cond.code y_Law_cell method_2_code 2 (some .int) ∈ wl := wl_3 117 (by decide +kernel) (by decide +kernel)
theorem m1_14 : Cond.instantiable "WaveletSlices" 13 ∈ wl := wl_1 14 (by decide +kernel) (by decide +kernel)
theorem m3_119 : Cond.instantiable "WaveletSlicesModel" 34 ∈ wl := wl_3 119 (by decide +kernel) (by decide +kernel)
theorem law_K {args : Array Value} {s : State} (hw : ∀ w ∈ wl, w.before args s = true) : ∃ G : k_G, va_K (gD G) classes (gT G) s := by
  obtain ⟨c0, i0, k0⟩ := u_known (T := F_Bits) (N := 3) (C := R_Bits) hw in_Bits (hw _ m1_161)
  obtain ⟨c1, i1, k1⟩ := u_known (T := F_Layout) (N := 10) (C := R_Layout) hw in_Layout (hw _ m1_73)
  obtain ⟨c2, i2, k2⟩ := u_known (T := F_Quant) (N := 2) (C := R_Quant) hw in_Quant (hw _ m1_137)
  obtain ⟨c3, i3, k3⟩ := u_known (T := F_Setup) (N := 9) (C := R_Setup) hw in_Setup (hw _ m1_22)
  obtain ⟨c4, i4, k4⟩ := u_known (T := F_Coder) (N := 11) (C := R_Coder) hw in_Coder (hw _ m1_131)
  obtain ⟨c5, i5, k5⟩ := u_known (T := F_Trans) (N := 2) (C := R_Trans) hw in_Trans (hw _ m1_117)
  obtain ⟨c6, i6, k6⟩ := u_known (T := F_X) (N := 13) (C := R_X) hw in_X (hw _ m1_14)
  obtain ⟨c7, i7, k7⟩ := u_known (T := F_Mod) (N := 34) (C := R_Mod) hw in_Mod (hw _ m3_119)
  obtain ⟨aI, eI, fI⟩ := arr_K (hw _ m1_71)
  obtain ⟨aL, eL, fL⟩ := arr_K (hw _ m1_129)
  obtain ⟨aB, eB, fB⟩ := arr_K (hw _ m3_227)
  refine ⟨((fun k => match k with | 0 => c0 | 1 => c1 | 2 => c2 | 3 => c3 | 4 => c4 | 5 => c5 | 6 => c6 | _ => c7), (fun k => match k with | 0 => i0 | 1 => i1 | 2 => i2 | 3 => i3 | 4 => i4 | 5 => i5 | 6 => i6 | _ => i7), aI, aL, aB), fun c q hq => ?_, fun k q hq => ?_⟩
  · have hc : c < 8 := (List.getElem?_eq_some_iff.mp hq).1
    rcases (show c = 0 ∨ c = 1 ∨ c = 2 ∨ c = 3 ∨ c = 4 ∨ c = 5 ∨ c = 6 ∨ c = 7 by omega) with rfl | rfl | rfl | rfl | rfl | rfl | rfl | rfl <;> cases hq
    · exact k0
    · exact k1
    · exact k2
    · exact k3
    · exact k4
    · exact k5
    · exact k6
    · exact k7
  · have hc : k < 3 := (List.getElem?_eq_some_iff.mp hq).1
    rcases (show k = 0 ∨ k = 1 ∨ k = 2 by omega) with rfl | rfl | rfl <;> cases hq
    · exact ⟨eI, fI⟩
    · exact ⟨eL, fL⟩
    · exact ⟨eB, fB⟩
abbrev tm_ (n : String) : Term := .static "WaveletSlices$Transform" n "[I"
theorem te_GAIN : ∀ j : Nat, j < 7 → (flatC (Jvm.Cond.and given_1 narrow_1))[7 + j]? = some (Cond.eq (.elem (tm_ "GAIN") (.int (Int32.ofNat j))) (.int (iv (gainT (j : Int))))) := by decide +kernel
theorem te_FIRST_STEP : ∀ j : Nat, j < 7 → (flatC (Jvm.Cond.and given_1 narrow_1))[27 + j]? = some (Cond.eq (.elem (tm_ "FIRST_STEP") (.int (Int32.ofNat j))) (.int (iv (firstT (j : Int))))) := by decide +kernel
theorem te_STEP_COUNT : ∀ j : Nat, j < 7 → (flatC (Jvm.Cond.and given_1 narrow_1))[17 + j]? = some (Cond.eq (.elem (tm_ "STEP_COUNT") (.int (Int32.ofNat j))) (.int (iv (countT (j : Int))))) := by decide +kernel
theorem te_STEPS : ∀ j : Nat, j < 168 → (flatC (Jvm.Cond.and given_1 narrow_1))[37 + j]? = some (Cond.eq (.elem (tm_ "STEPS") (.int (Int32.ofNat j))) (.int (iv (stepsT (j : Int))))) := by decide +kernel
theorem law_T {args : Array Value} {s : State} {A : Nat → Prop} (hts : ∀ w ∈ lw_tbl, w.before args s = true) (hg : (Jvm.Cond.and given_1 narrow_1).before args s = true) (hA : ∀ a : Nat, a < s.heap.size → ¬ A a) : tb A s := by
  have hs := flat_of_before _ hg
  have hini : (Cond.initialized "WaveletSlices$Transform").before args s = true := hts _ (wl_lt m1_4)
  have h_GAIN : tb1 "GAIN" 7 gainT A s s.heap := by
    obtain ⟨t, h1, h2⟩ := va_Tof (tm := tm_ "GAIN") (ty := .int) (N := 7) (f := fun j : Nat => .int (iv (gainT (j : Int)))) (A := A) (by decide) (hs _ (List.mem_of_getElem? (i := 5) (by decide +kernel))) (va_eqt (hs _ (List.mem_of_getElem? (i := 6) (by decide +kernel)))) (fun j hj => va_eqt (hs _ (List.mem_of_getElem? (te_GAIN j hj)))) hA
    exact ⟨t, va_Zref (hts _ (lt_2 125 (by decide +kernel))) hini h1 hA, h2⟩
  have h_FIRST_STEP : tb1 "FIRST_STEP" 7 firstT A s s.heap := by
    obtain ⟨t, h1, h2⟩ := va_Tof (tm := tm_ "FIRST_STEP") (ty := .int) (N := 7) (f := fun j : Nat => .int (iv (firstT (j : Int)))) (A := A) (by decide) (hs _ (List.mem_of_getElem? (i := 25) (by decide +kernel))) (va_eqt (hs _ (List.mem_of_getElem? (i := 26) (by decide +kernel)))) (fun j hj => va_eqt (hs _ (List.mem_of_getElem? (te_FIRST_STEP j hj)))) hA
    exact ⟨t, va_Zref (hts _ (lt_2 136 (by decide +kernel))) hini h1 hA, h2⟩
  have h_STEP_COUNT : tb1 "STEP_COUNT" 7 countT A s s.heap := by
    obtain ⟨t, h1, h2⟩ := va_Tof (tm := tm_ "STEP_COUNT") (ty := .int) (N := 7) (f := fun j : Nat => .int (iv (countT (j : Int)))) (A := A) (by decide) (hs _ (List.mem_of_getElem? (i := 15) (by decide +kernel))) (va_eqt (hs _ (List.mem_of_getElem? (i := 16) (by decide +kernel)))) (fun j hj => va_eqt (hs _ (List.mem_of_getElem? (te_STEP_COUNT j hj)))) hA
    exact ⟨t, va_Zref (hts _ (lt_2 134 (by decide +kernel))) hini h1 hA, h2⟩
  have h_STEPS : tb1 "STEPS" 168 stepsT A s s.heap := by
    obtain ⟨t, h1, h2⟩ := va_Tof (tm := tm_ "STEPS") (ty := .int) (N := 168) (f := fun j : Nat => .int (iv (stepsT (j : Int)))) (A := A) (by decide) (hs _ (List.mem_of_getElem? (i := 35) (by decide +kernel))) (va_eqt (hs _ (List.mem_of_getElem? (i := 36) (by decide +kernel)))) (fun j hj => va_eqt (hs _ (List.mem_of_getElem? (te_STEPS j hj)))) hA
    exact ⟨t, va_Zref (hts _ (lt_2 142 (by decide +kernel))) hini h1 hA, h2⟩
  exact ⟨⟨h_GAIN, h_FIRST_STEP, h_STEP_COUNT, h_STEPS⟩, va_Nw.of (w := ne_1) rfl (hts _ (lt_1 23 (by decide +kernel))), va_Nw.of (w := ne_2) rfl (hts _ (lt_1 74 (by decide +kernel))), va_Nw.of (w := ne_3) rfl (hts _ (lt_1 118 (by decide +kernel))), va_Nw.of (w := ne_4) rfl (hts _ (lt_2 113 (by decide +kernel)))⟩
theorem d_Law_cell_0 : decode method_2_code 0 = .ok (.iload_n 1, 1) := by decide +kernel
theorem d_Law_cell_1 : decode method_2_code 1 = .ok (.aload_n 0, 1) := by decide +kernel
theorem d_Law_cell_2 : decode method_2_code 2 = .ok (.arraylength, 1) := by decide +kernel
theorem d_Law_cell_3 : decode method_2_code 3 = .ok (.if_icmp .ge 9, 3) := by decide +kernel
theorem d_Law_cell_6 : decode method_2_code 6 = .ok (.aload_n 0, 1) := by decide +kernel
theorem d_Law_cell_7 : decode method_2_code 7 = .ok (.iload_n 1, 1) := by decide +kernel
theorem d_Law_cell_8 : decode method_2_code 8 = .ok (.iaload, 1) := by decide +kernel
theorem d_Law_cell_9 : decode method_2_code 9 = .ok (.goto 4, 3) := by decide +kernel
theorem d_Law_cell_12 : decode method_2_code 12 = .ok (.iconst 0, 1) := by decide +kernel
theorem d_Law_cell_13 : decode method_2_code 13 = .ok (.ireturn, 1) := by decide +kernel
abbrev w_Law_cell : List Cond := Cond.code y_Law_cell method_2_code 2 (some .int) :: wl
abbrev r_Law_cell : Room := { frames := 0, cells := 0, slots := 0, locals := 0 }
/-- cell: an int of the script, or 0 behind its end -/
theorem c_Law_cell (l : Launch) (b L : Nat) (xs : Nat → Int32) (hL : L ≤ 3074) (k0 : Int) (hk : 0 ≤ k0 ∧ k0 ≤ 1) : Met l y_Law_cell w_Law_cell r_Law_cell (va_Pc [.ref b, .int (iv k0)] (fun U => va_X b L xs U U.heap ∧ b < U.heap.size)) (vp_Si (fun r : Int32 => r = iv (if k0 < (L : Int) then sc xs k0 else 0))) 0 0 (fun _ => False) := by
  refine Met.ofW (cc := method_2_code) (maxL := 2) (ret := some .int) (by decide) rfl ?_
  intro p e s m args below meth c s₁ B hml hv
  obtain ⟨rfl, hX, hbl⟩ := hv
  have hx := B.exec
  have hb := B.bytes
  have hr := B.returns
  have hlk := B.notSynchronized
  have body : ∀ ls : Array Slot, lv_has ls 2 [(0, .ref b), (1, .int (iv k0))] → W p l e r_Law_cell s m [Value.ref b, .int (iv k0)].toArray below meth c s.heap [] 0 0 (MQ below (vp_Si (fun r : Int32 => r = iv (if k0 < (L : Int) then sc xs k0 else 0))) [Value.ref b, .int (iv k0)].toArray s 0 0 (fun _ => False)) (F0 m 0 ls []) := by
    intro ls hl
    refine lv_iload_n hx hb d_Law_cell_0 rfl (lv_at hl 1 rfl) ?_
    refine lv_aload_n hx hb d_Law_cell_1 rfl (lv_at hl 0 rfl) ?_
    refine k_slen (A := fun _ => False) hx hb hX hbl (fun q => q) va_S.rf d_Law_cell_2 ?_
    refine k_icmp_ge (tgt := 12) hx hb d_Law_cell_3 (by decide) (by omega) (by omega) (fun h => ?_) (fun h => ?_)
    · refine lv_iconst (v := iv (0)) hx hb d_Law_cell_12 rfl ?_
      exact k_iretR hx hb hr hlk rfl (by rw [if_neg (by omega)]) d_Law_cell_13
    · refine lv_aload_n hx hb d_Law_cell_6 rfl (lv_at hl 0 rfl) ?_
      refine lv_iload_n hx hb d_Law_cell_7 rfl (lv_at hl 1 rfl) ?_
      refine k_sld (A := fun _ => False) hx hb hX hbl (fun q => q) va_S.rf hL (by omega) d_Law_cell_8 ?_
      refine lv_goto (tgt := 13) hx hb d_Law_cell_9 (by decide) ?_
      exact k_iretR hx hb hr hlk rfl (by rw [if_pos (by omega)]) d_Law_cell_13
  rw [lg_entry_eq]
  exact body _ (lv_entry [.ref b, .int (iv k0)] (n := 2) (Nat.le_of_ble_eq_true rfl))
theorem k_preX {s : State} {H : Heap} {locs : List Loc} {A : Nat → Prop} {b L : Nat} {xs : Nat → Int32} {av : List Value} (hX : va_X b L xs s s.heap) (hbl : b < s.heap.size) (hbA : ¬ A b) (hS : va_S A s.heap H locs) : PreS s H (va_Pc av (fun U => va_X b L xs U U.heap ∧ b < U.heap.size)) av :=
  ⟨fun a U g mk q => ⟨q.1, va_X.moved (u := U) (U := U.calling g mk a) (Vm.Alike.refl U.vm) q.2.1, q.2.2⟩, fun U hU hW => ⟨rfl, by rw [hU]; exact (hX.kept (hS.2.1 b hbl hbA)).moved hW.alike, by rw [hU]; exact Nat.lt_of_lt_of_le hbl hS.1⟩⟩
