/-! the static tables, and the words on nest mates: what every method's start has -/
def tabv (l : List Int) (z : Int) : Int := l.getD z.toNat 0
def gainT : Int → Int := tabv [1, 1, 1, 0, 1, 0, 1]
def firstT : Int → Int := tabv [0, 2, 4, 6, 6, 8, 10]
def countT : Int → Int := tabv [2, 2, 2, 2, 2, 2, 4]
def stepsT : Int → Int := tabv [1, -1, 1, 1, 0, 0, 0, 1, 1, 0, 0, 0, 0, 1, 2, 2, 0, 0, 0, 1, 1, 0, 0, 0, 1, -1, 8, 4, 0, 0, -1, 9, 9, -1, 0, 0, 0, 1, 2, 2, 0, 0, 0, 1, 1, 0, 0, 0, 1, -1, 8, 4, 0, 0, -1, 9, 9, -1, 0, 0, 0, 1, 16, 5, 0, 0, -1, 9, 9, -1, 0, 0, 1, -1, 0, 0, 0, 0, 0, 1, 0, 0, 0, 0, 0, 1, 1, 1, 0, 0, 0, 0, 1, 0, 0, 0, 0, 1, 128, 8, -8, 21, -46, 161, 161, -46, 21, -8, 1, -1, 128, 8, -2, 10, -25, 81, 81, -25, 10, -2, 1, -1, 2048, 12, 0, 0, 0, 6497, 6497, 0, 0, 0, 0, -1, 2048, 12, 0, 0, 0, 217, 217, 0, 0, 0, 1, 1, 2048, 12, 0, 0, 0, 3616, 3616, 0, 0, 0, 0, 1, 2048, 12, 0, 0, 0, 1817, 1817, 0, 0, 0]
def tb1 (n : String) (N : Nat) (f : Int → Int) (A : Nat → Prop) (U : State) (H : Heap) : Prop := ∃ t : Nat, va_Z "WaveletSlices$Transform" n "[I" (.ref t) A U H ∧ va_T .int t N (fun j : Nat => .int (iv (f (j : Int)))) A U H
theorem tb1_call {n : String} {N : Nat} {f : Int → Int} {A A' : Nat → Prop} {s U : State} {H : Heap} {locs : List Loc} (h : tb1 n N f A s s.heap) (hS : va_S A s.heap H locs) (hW : s.WarmedH U.vm) (hF : ∀ q, A' q → A q) : tb1 n N f A' U H := by
  obtain ⟨t, h1, h2⟩ := h
  exact ⟨t, ((h1.kept hS.2.1).narrow hF).moved hW.alike, ((h2.kept hS.2.1).narrow hF).moved hW.alike⟩
theorem tb1_blind {n : String} {N : Nat} {f : Int → Int} {A : Nat → Prop} {u U : State} {H : Heap} (h : tb1 n N f A u H) (hvm : u.vm.Alike U.vm) : tb1 n N f A U H := by
  obtain ⟨t, h1, h2⟩ := h
  exact ⟨t, h1.moved hvm, h2.moved hvm⟩
abbrev ne_1 : Cond := .methodLinkNest "WaveletSlices" 15 y_Setup_init "WaveletSlices"
abbrev ne_2 : Cond := .methodLinkNest "WaveletSlices" 22 y_Layout_init "WaveletSlices"
abbrev ne_3 : Cond := .methodLinkNest "WaveletSlices" 29 y_Trans_init "WaveletSlices"
abbrev ne_4 : Cond := .methodLinkNest "WaveletSlices$Layout" 43 y_X_within "WaveletSlices"
def tb (A : Nat → Prop) (U : State) : Prop := (tb1 "GAIN" 7 gainT A U U.heap ∧ tb1 "FIRST_STEP" 7 firstT A U U.heap ∧ tb1 "STEP_COUNT" 7 countT A U U.heap ∧ tb1 "STEPS" 168 stepsT A U U.heap) ∧ va_Nw ne_1 U ∧ va_Nw ne_2 U ∧ va_Nw ne_3 U ∧ va_Nw ne_4 U
theorem tb_call {A A' : Nat → Prop} {s U : State} {H : Heap} {locs : List Loc} (h : tb A s) (hS : va_S A s.heap H locs) (hU : U.heap = H) (hW : s.WarmedH U.vm) (hF : ∀ q, A' q → A q) : tb A' U := by
  subst hU
  obtain ⟨⟨h1, h2, h3, h4⟩, h5, h6, h7, h8⟩ := h
  exact ⟨⟨tb1_call h1 hS hW hF, tb1_call h2 hS hW hF, tb1_call h3 hS hW hF, tb1_call h4 hS hW hF⟩, va_Nw.warmM hW h5, va_Nw.warmM hW h6, va_Nw.warmM hW h7, va_Nw.warmM hW h8⟩
theorem tb_blind {A : Nat → Prop} {U : State} {g : JFrame} {mk : MethodId} {a : Array Value} (h : tb A U) : tb A (U.calling g mk a) := by
  obtain ⟨⟨h1, h2, h3, h4⟩, h5, h6, h7, h8⟩ := h
  have e : U.vm.Alike (U.calling g mk a).vm := Vm.Alike.refl U.vm
  exact ⟨⟨tb1_blind h1 e, tb1_blind h2 e, tb1_blind h3 e, tb1_blind h4 e⟩, va_Nw.same rfl rfl h5, va_Nw.same rfl rfl h6, va_Nw.same rfl rfl h7, va_Nw.same rfl rfl h8⟩
/-! contracts in one form: any start with the cells ws, of sz cells in all; G: the tables' numbers -/
abbrev k_G : Type := (Nat → ClassId) × (Nat → Nat → Nat) × ClassId × ClassId × ClassId
abbrev gD (G : k_G) : va_G := (G.1, G.2.1)
abbrev gI (G : k_G) : ClassId := G.2.2.1
abbrev gL (G : k_G) : ClassId := G.2.2.2.1
abbrev gB (G : k_G) : ClassId := G.2.2.2.2
abbrev gT (G : k_G) : List (ClassId × FieldType) := [(gI G, .int), (gL G, .long), (gB G, .byte)]
def k_P (G : k_G) (av : List Value) (ws : va_W) (sz : Nat) : Array Value → State → Prop := va_Pc av (fun U => U.heap.size = sz ∧ va_P (gD G) classes ws U.heap ∧ va_K (gD G) classes (gT G) U ∧ va_D (fun _ => True) ws ∧ tb (va_A ws sz) U)
theorem k_blind {G : k_G} {av : List Value} {ws : va_W} {sz : Nat} : FrameBlind (k_P G av ws sz) := fun a U g mk q => by
  obtain ⟨q0, q1, qP, qK, qD, qT⟩ := q
  exact ⟨q0, q1, qP, va_K.moved (u := U) (U := U.calling g mk a) (Vm.Alike.refl U.vm) qK, qD, tb_blind qT⟩
abbrev qv {S : Type} (G : k_G) (post : S → Prop) (wn : S → va_W) (A : Nat → Prop) : Array Value → State → Outcome → State → Prop := va_Qv post (fun u t => va_P (gD G) classes (wn u) t.heap ∧ va_D A (wn u)) A
abbrev qi {S : Type} (G : k_G) (post : Int32 → S → Prop) (wn : S → va_W) (A : Nat → Prop) : Array Value → State → Outcome → State → Prop := va_Qi post (fun u t => va_P (gD G) classes (wn u) t.heap ∧ va_D A (wn u)) A
abbrev ql {S : Type} (G : k_G) (post : Int64 → S → Prop) (wn : S → va_W) (A : Nat → Prop) : Array Value → State → Outcome → State → Prop := va_Ql post (fun u t => va_P (gD G) classes (wn u) t.heap ∧ va_D A (wn u)) A
theorem fm_of {α β : Type} {f : α → Option β} : ∀ {is : List α} {ws : List β}, is.map f = ws.map some → is.filterMap f = ws
  | [], [], _ => rfl
  | [], _ :: _, h => by cases h
  | _ :: _, [], h => by cases h
  | a :: is, b :: ws, h => by
    rw [List.map_cons, List.map_cons] at h
    obtain ⟨h1, h2⟩ := List.cons.inj h
    rw [List.filterMap_cons, h1, fm_of h2]
/-- a method, from its entry: the names that its walk uses -/
theorem k_met {l : Launch} {y : MethodName} {w w' : List Cond} {rm : Room} {G : k_G} {av : List Value} {ws : va_W} {sz : Nat} (Qc : (Nat → Prop) → Array Value → State → Outcome → State → Prop) (fr : (Nat → Prop) → Addr → Prop) {mc ms : Nat} {cc : ByteArray} {maxL : Nat} {ret : Option FieldType}
    (hy : plainName y.cls = true) (hw : w = Cond.code y cc maxL ret :: w') (hn : (lg_sl av).length ≤ maxL)
    (body : ∀ (p : Program) (e : Env) (s : State) (m : MethodId) (args : Array Value) (below : List Frame) (meth : Method) (c : Code) (ls : Array Slot) (A : Nat → Prop) (Q : State → Prop), CallFix p m c cc maxL s args w y.cls → meth.sig.returnType = ret → meth.locks = false → meth.name = y.name → lv_has ls maxL (lv_args 0 av) → s.heap.size = sz →
      va_P (gD G) classes ws s.heap → va_K (gD G) classes (gT G) s → va_D A ws → va_S A s.heap s.heap [] → (∀ q : Nat, s.heap.size ≤ q → A q) → tb A s → Q = MQ below (Qc A) args s mc ms (fr A) → W p l e rm s m args below meth c s.heap [] 0 0 Q (F0 m 0 ls [])) : Met l y w rm (k_P G av ws sz) (Qc (va_A ws sz)) mc ms (fr (va_A ws sz)) := by
  refine Met.ofW (cc := cc) (maxL := maxL) (ret := ret) hy hw ?_
  intro p e s m args below meth c s₁ B hml hv
  obtain ⟨rfl, hsz, hP, hK, hD0, hT⟩ := hv
  have hts := atoms_spec (ws := w) B.pre
  have hown : s.vm.findClass y.cls = some m.cls := findClass_of_methodNamed B.named
  rw [lg_entry_eq]
  exact body p e s m _ below meth c _ (va_A ws sz) _ ⟨B.exec, B.bytes, hml, hown, hts⟩ B.returns B.notSynchronized (name_of_methodNamed B.named B.method).1 (lv_entry av hn) hsz hP hK hD0.self va_S.rf (fun q h => Or.inr (by rw [← hsz]; exact h)) hT rfl
section KM
variable {p : Program} {l : Launch} {e : Env} {R : Room} {s : State} {m : MethodId} {args : Array Value} {below : List Frame} {meth : Method} {c : Code} {H : Heap} {locs : List Loc} {cells slots : Nat} {Q : State → Prop}
variable {cc : ByteArray} {pc : Nat} {ls : Array Slot} {rest st0 : List Value} {G : k_G} {ws : va_W} {A : Nat → Prop} {a : Array Value}
/-! ends -/
theorem k_vret (hx : p.tables.exec = Jvm.exec) (hb : c.code = cc) (hr : meth.sig.returnType = none) (hlk : meth.locks = false) {S : Type} {post : S → Prop} {wn : S → va_W} (hQ : Q = MQ below (qv G post wn A) args s cells slots A) (u : S) (hp : post u) (hP : va_P (gD G) classes (wn u) H) (hD : va_D A (wn u)) (hS : va_S A s.heap H locs) (d : decode cc pc = .ok (.return_, 1)) : W p l e R s m args below meth c H locs cells slots Q (F0 m pc ls []) := by
  subst hQ
  exact W.vret hx hb hr (fun t ht _ => ⟨⟨u, rfl, hp, by rw [ht]; exact hP, hD⟩, hS.F ht⟩) hS.2.2 d
theorem k_iret (hx : p.tables.exec = Jvm.exec) (hb : c.code = cc) (hr : meth.sig.returnType = some .int) (hlk : meth.locks = false) {S : Type} {post : Int32 → S → Prop} {wn : S → va_W} {r : Int32} (hQ : Q = MQ below (qi G post wn A) args s cells slots A) (u : S) (hp : post r u) (hP : va_P (gD G) classes (wn u) H) (hD : va_D A (wn u)) (hS : va_S A s.heap H locs) (d : decode cc pc = .ok (.ireturn, 1)) : W p l e R s m args below meth c H locs cells slots Q (F0 m pc ls [.int r]) := by
  subst hQ
  exact W.iret hx hb hr (fun t ht _ => ⟨⟨r, u, rfl, hp, by rw [ht]; exact hP, hD⟩, hS.F ht⟩) hS.2.2 d
theorem nar_z {z : Int} (h : z = 0 ∨ z = 1) : narrow .boolean (.int (iv z)) = .int (iv z) := by
  rcases h with rfl | rfl <;> decide +kernel
theorem k_zret (hx : p.tables.exec = Jvm.exec) (hb : c.code = cc) (hr : meth.sig.returnType = some .boolean) (hlk : meth.locks = false) {S : Type} {post : Int32 → S → Prop} {wn : S → va_W} {z : Int} (hz : z = 0 ∨ z = 1) (hQ : Q = MQ below (qi G post wn A) args s cells slots A) (u : S) (hp : post (iv z) u) (hP : va_P (gD G) classes (wn u) H) (hD : va_D A (wn u)) (hS : va_S A s.heap H locs) (d : decode cc pc = .ok (.ireturn, 1)) : W p l e R s m args below meth c H locs cells slots Q (F0 m pc ls [.int (iv z)]) := by
  subst hQ
  exact W.zret hx hb hr (nar_z hz) (fun t ht _ => ⟨⟨iv z, u, rfl, hp, by rw [ht]; exact hP, hD⟩, hS.F ht⟩) hS.2.2 d
theorem k_lret (hx : p.tables.exec = Jvm.exec) (hb : c.code = cc) (hr : meth.sig.returnType = some .long) (hlk : meth.locks = false) {S : Type} {post : Int64 → S → Prop} {wn : S → va_W} {r : Int64} (hQ : Q = MQ below (ql G post wn A) args s cells slots A) (u : S) (hp : post r u) (hP : va_P (gD G) classes (wn u) H) (hD : va_D A (wn u)) (hS : va_S A s.heap H locs) (d : decode cc pc = .ok (.lreturn, 1)) : W p l e R s m args below meth c H locs cells slots Q (F0 m pc ls [.long r]) := by
  subst hQ
  exact W.lret hx hb hr (fun t ht _ => ⟨⟨r, u, rfl, hp, by rw [ht]; exact hP, hD⟩, hS.F ht⟩) hS.2.2 d
/-! ends of methods that change nothing -/
theorem k_iretR (hx : p.tables.exec = Jvm.exec) (hb : c.code = cc) (hr : meth.sig.returnType = some .int) (hlk : meth.locks = false) {post : Int32 → Prop} {r : Int32} (hQ : Q = MQ below (vp_Si post) args s cells slots (fun _ => False)) (hp : post r) (d : decode cc pc = .ok (.ireturn, 1)) : W p l e R s m args below meth c s.heap [] cells slots Q (F0 m pc ls [.int r]) := by
  subst hQ
  exact W.iret hx hb hr (fun t ht _ => ⟨r, rfl, hp, ht⟩) (fun q h => by cases h) d
theorem k_zretR (hx : p.tables.exec = Jvm.exec) (hb : c.code = cc) (hr : meth.sig.returnType = some .boolean) (hlk : meth.locks = false) {post : Int32 → Prop} {z : Int} (hz : z = 0 ∨ z = 1) (hQ : Q = MQ below (vp_Si post) args s cells slots (fun _ => False)) (hp : post (iv z)) (d : decode cc pc = .ok (.ireturn, 1)) : W p l e R s m args below meth c s.heap [] cells slots Q (F0 m pc ls [.int (iv z)]) := by
  subst hQ
  exact W.zret hx hb hr (nar_z hz) (fun t ht _ => ⟨iv z, rfl, hp, ht⟩) (fun q h => by cases h) d
theorem k_lretR (hx : p.tables.exec = Jvm.exec) (hb : c.code = cc) (hr : meth.sig.returnType = some .long) (hlk : meth.locks = false) {post : Int64 → Prop} {r : Int64} (hQ : Q = MQ below (vp_Sl post) args s cells slots (fun _ => False)) (hp : post r) (d : decode cc pc = .ok (.lreturn, 1)) : W p l e R s m args below meth c s.heap [] cells slots Q (F0 m pc ls [.long r]) := by
  subst hQ
  exact W.lret hx hb hr (fun t ht _ => ⟨r, rfl, hp, ht⟩) (fun q h => by cases h) d
/-! a call's start -/
theorem k_preS {wc : va_W} {av : List Value} (hK : va_K (gD G) classes (gT G) s) (hP : va_P (gD G) classes ws H) (hD : va_D A ws) (hS : va_S A s.heap H locs) (hA : ∀ q : Nat, s.heap.size ≤ q → A q) (hT : tb A s) (isC : List Nat) (hn : va_nd isC = true) (hC : isC.map (fun i => ws[i]?) = wc.map some) : PreS s H (k_P G av wc H.size) av :=
  ⟨k_blind, fun U hU hW => ⟨rfl, by rw [hU], by rw [hU]; exact hP.sub isC (fm_of hC), va_K.moved hW.alike hK, (hD.sub isC hn hC).weaken (fun _ _ _ _ => trivial), tb_call hT hS hU hW (va_free hD hS hA isC hC)⟩⟩
theorem k_preV {wc : va_W} {b : Nat} {As : List Value} {ci q0 : Nat} {fs : List Value} {q : vw_C} (hK : va_K (gD G) classes (gT G) s) (hP : va_P (gD G) classes ws H) (hD : va_D A ws) (hS : va_S A s.heap H locs) (hA : ∀ q : Nat, s.heap.size ≤ q → A q) (hT : tb A s) (he : ws[q0]? = some (b, .inr (ci, fs))) (hc : classes[ci]? = some q) (isC : List Nat) (hn : va_nd isC = true) (hC : isC.map (fun i => ws[i]?) = wc.map some) : PreV s H q.1 b (k_P G (.ref b :: As) wc H.size) As :=
  ⟨k_blind, va_recv hK hP hc he, (k_preS hK hP hD hS hA hT isC hn hC).2⟩
/-! behind a call: void, int, long; and of a method that changes nothing -/
theorem k_cv {S : Type} {post : S → Prop} {wn wz : S → va_W} {wc wr : va_W} {mc ms : Nat} (hr : va_Run p l e R s m args below meth c H locs cells slots mc ms (F0 m pc ls st0) rest (qv G post wn (va_A wc H.size) a) (va_A wc H.size)) (hP : va_P (gD G) classes ws H) (hD : va_D A ws) (hS : va_S A s.heap H locs) (hA : ∀ q : Nat, s.heap.size ≤ q → A q) (isC isR isZ : List Nat) (hC : isC.map (fun i => ws[i]?) = wc.map some) (hR : isR.map (fun i => ws[i]?) = wr.map some) (hn : va_nd isR = true) (hdis : ∀ i ∈ isR, i ∉ isC) (hnz : va_nd isZ = true) (hz : ∀ u, isZ.map (fun i => (wr ++ wn u)[i]?) = (wz u).map some)
    (kk : ∀ (u : S) (H1 : Heap) (locs1 : List Loc), post u → va_P (gD G) classes (wz u) H1 → va_D A (wz u) → va_S A s.heap H1 locs1 → W p l e R s m args below meth c H1 locs1 (cells + mc) (slots + ms) Q (F0 m (pc + 3) ls rest)) : W p l e R s m args below meth c H locs cells slots Q (F0 m pc ls st0) := by
  have hF := va_free hD hS hA isC hC
  refine va_callv hr hS (fun q _ h => hF q h) hF (fun u t H1 locs1 ht hvm hpost hB hz1 hk hS1 => ?_)
  obtain ⟨hP1, hD1⟩ := hB
  rw [ht] at hP1
  obtain ⟨hP2, hD2⟩ := va_join (wr := wr) (w1 := wn u) hP hD isC isR hC hR hn hdis hk hF hP1 hD1
  exact kk u H1 locs1 hpost (hP2.sub isZ (fm_of (hz u))) (hD2.sub isZ hnz (hz u)) hS1
theorem k_ci {S : Type} {post : Int32 → S → Prop} {wn wz : S → va_W} {wc wr : va_W} {mc ms : Nat} (hr : va_Run p l e R s m args below meth c H locs cells slots mc ms (F0 m pc ls st0) rest (qi G post wn (va_A wc H.size) a) (va_A wc H.size)) (hP : va_P (gD G) classes ws H) (hD : va_D A ws) (hS : va_S A s.heap H locs) (hA : ∀ q : Nat, s.heap.size ≤ q → A q) (isC isR isZ : List Nat) (hC : isC.map (fun i => ws[i]?) = wc.map some) (hR : isR.map (fun i => ws[i]?) = wr.map some) (hn : va_nd isR = true) (hdis : ∀ i ∈ isR, i ∉ isC) (hnz : va_nd isZ = true) (hz : ∀ u, isZ.map (fun i => (wr ++ wn u)[i]?) = (wz u).map some)
    (kk : ∀ (r : Int32) (u : S) (H1 : Heap) (locs1 : List Loc), post r u → va_P (gD G) classes (wz u) H1 → va_D A (wz u) → va_S A s.heap H1 locs1 → W p l e R s m args below meth c H1 locs1 (cells + mc) (slots + ms) Q (F0 m (pc + 3) ls (.int r :: rest))) : W p l e R s m args below meth c H locs cells slots Q (F0 m pc ls st0) := by
  have hF := va_free hD hS hA isC hC
  refine va_calli hr hS (fun q _ h => hF q h) hF (fun r u t H1 locs1 ht hvm hpost hB hz1 hk hS1 => ?_)
  obtain ⟨hP1, hD1⟩ := hB
  rw [ht] at hP1
  obtain ⟨hP2, hD2⟩ := va_join (wr := wr) (w1 := wn u) hP hD isC isR hC hR hn hdis hk hF hP1 hD1
  exact kk r u H1 locs1 hpost (hP2.sub isZ (fm_of (hz u))) (hD2.sub isZ hnz (hz u)) hS1
theorem k_cl {S : Type} {post : Int64 → S → Prop} {wn wz : S → va_W} {wc wr : va_W} {mc ms : Nat} (hr : va_Run p l e R s m args below meth c H locs cells slots mc ms (F0 m pc ls st0) rest (ql G post wn (va_A wc H.size) a) (va_A wc H.size)) (hP : va_P (gD G) classes ws H) (hD : va_D A ws) (hS : va_S A s.heap H locs) (hA : ∀ q : Nat, s.heap.size ≤ q → A q) (isC isR isZ : List Nat) (hC : isC.map (fun i => ws[i]?) = wc.map some) (hR : isR.map (fun i => ws[i]?) = wr.map some) (hn : va_nd isR = true) (hdis : ∀ i ∈ isR, i ∉ isC) (hnz : va_nd isZ = true) (hz : ∀ u, isZ.map (fun i => (wr ++ wn u)[i]?) = (wz u).map some)
    (kk : ∀ (r : Int64) (u : S) (H1 : Heap) (locs1 : List Loc), post r u → va_P (gD G) classes (wz u) H1 → va_D A (wz u) → va_S A s.heap H1 locs1 → W p l e R s m args below meth c H1 locs1 (cells + mc) (slots + ms) Q (F0 m (pc + 3) ls (.long r :: rest))) : W p l e R s m args below meth c H locs cells slots Q (F0 m pc ls st0) := by
  have hF := va_free hD hS hA isC hC
  refine va_calll hr hS (fun q _ h => hF q h) hF (fun r u t H1 locs1 ht hvm hpost hB hz1 hk hS1 => ?_)
  obtain ⟨hP1, hD1⟩ := hB
  rw [ht] at hP1
  obtain ⟨hP2, hD2⟩ := va_join (wr := wr) (w1 := wn u) hP hD isC isR hC hR hn hdis hk hF hP1 hD1
  exact kk r u H1 locs1 hpost (hP2.sub isZ (fm_of (hz u))) (hD2.sub isZ hnz (hz u)) hS1
theorem k_ciR {post : Int32 → Prop} (hr : va_Run p l e R s m args below meth c H locs cells slots 0 0 (F0 m pc ls st0) rest (vp_Si post a) (fun _ => False))
    (kk : ∀ r : Int32, post r → W p l e R s m args below meth c H locs cells slots Q (F0 m (pc + 3) ls (.int r :: rest))) : W p l e R s m args below meth c H locs cells slots Q (F0 m pc ls st0) := vp_callSi hr.run kk
theorem k_clR {post : Int64 → Prop} (hr : va_Run p l e R s m args below meth c H locs cells slots 0 0 (F0 m pc ls st0) rest (vp_Sl post a) (fun _ => False))
    (kk : ∀ r : Int64, post r → W p l e R s m args below meth c H locs cells slots Q (F0 m (pc + 3) ls (.long r :: rest))) : W p l e R s m args below meth c H locs cells slots Q (F0 m pc ls st0) := vp_callSl hr.run kk
end KM
/-! calls, over the words wl -/
theorem g_in {c0 : Cond} {ys : List Cond} (h : ∀ w ∈ ys, w ∈ wl) : GoodIn (c0 :: wl) ys := fun w hw => ⟨List.mem_cons_of_mem _ (h w hw), good_of_word (List.mem_filter.mp (h w hw)).2⟩
theorem g_cl {c1 : Cond} (h0 : c1 ∈ wl) : ∀ w ∈ c1 :: wl, w ∈ wl := fun w hw => by
  rcases List.mem_cons.mp hw with rfl | h
  · exact h0
  · exact h
section KC
variable {p : Program} {l : Launch} {e : Env} {R : Room} {s : State} {m : MethodId} {args : Array Value} {below : List Frame} {meth : Method} {c : Code} {H : Heap} {locs : List Loc} {cells slots : Nat}
variable {cc bytes : ByteArray} {pc nL maxL mc ms n idx : Nat} {ls : Array Slot} {rest st0 As : List Value} {own : String} {c0 : Cond} {y : MethodName} {ret : Option FieldType} {rm : Room} {Pc : Array Value → State → Prop} {Qc : Array Value → State → Outcome → State → Prop} {free : Addr → Prop} {b : Nat}
theorem k_rv (S : CallFix p m c cc nL s args (c0 :: wl) own) (hM : Met l y (.code y bytes maxL ret :: wl) rm Pc Qc mc ms free) (n : Nat) (h0 : Cond.code y bytes maxL ret ∈ wl) (h1 : Cond.methodLink own idx y ∈ wl) (h2 : Cond.instanceMethod y ∈ wl) (h3 : Cond.selects y.cls y y ∈ wl) (h4 : Cond.initialized y.cls ∈ wl)
    (hd : y.cls ≠ "java/lang/invoke/MethodHandle" ∧ y.cls ≠ "java/lang/invoke/VarHandle" ∧ (parseMethodDescriptor y.desc).map (fun d => d.parameters.length) = some n) (hR : rm.frames + 1 ≤ R.frames ∧ 8 + (maxL + 11) + rm.locals ≤ R.locals) (hrc : rm.cells = mc) (hrs : rm.slots = ms) (hp : PreV s H y.cls b Pc As) (hn : As.length = n) (hsize : ls.size = nL) (hstack : st0 = As.reverse ++ .ref b :: rest) (hW : (rest.map fun v => v.category).sum ≤ 8) (d : decode cc pc = .ok (.invokevirtual idx, 3)) (hf : cells + mc ≤ R.cells ∧ slots + ms ≤ R.slots) :
    va_Run p l e R s m args below meth c H locs cells slots mc ms (F0 m pc ls st0) rest (Qc (Value.ref b :: As).toArray) free :=
  va_runV S hM (cwV n S.2.2.2.2 (g_in (fun w hw => by
    rcases List.mem_append.mp hw with h | h
    · simp only [List.mem_cons, List.not_mem_nil, or_false] at h
      rcases h with rfl | rfl | rfl | rfl
      · exact h1
      · exact h2
      · exact h3
      · exact h4
    · exact g_cl h0 w h)) rfl hrc hrs ⟨rfl, hd⟩ hR) hp rfl hn hsize hstack (lv_room hW) d hf
theorem k_rs (S : CallFix p m c cc nL s args (c0 :: wl) own) (hM : Met l y (.code y bytes maxL ret :: wl) rm Pc Qc mc ms free) (n : Nat) (h0 : Cond.code y bytes maxL ret ∈ wl) (h1 : Cond.methodLink own idx y ∈ wl) (h2 : Cond.static y ∈ wl) (h4 : Cond.initialized y.cls ∈ wl)
    (hd : y.cls ≠ "java/lang/invoke/MethodHandle" ∧ y.cls ≠ "java/lang/invoke/VarHandle" ∧ (parseMethodDescriptor y.desc).map (fun d => d.parameters.length) = some n) (hR : rm.frames + 1 ≤ R.frames ∧ 8 + (maxL + 11) + rm.locals ≤ R.locals) (hrc : rm.cells = mc) (hrs : rm.slots = ms) (hp : PreS s H Pc As) (hn : As.length = n) (hsize : ls.size = nL) (hstack : st0 = As.reverse ++ rest) (hW : (rest.map fun v => v.category).sum ≤ 8) (d : decode cc pc = .ok (.invokestatic idx, 3)) (hf : cells + mc ≤ R.cells ∧ slots + ms ≤ R.slots) :
    va_Run p l e R s m args below meth c H locs cells slots mc ms (F0 m pc ls st0) rest (Qc As.toArray) free :=
  va_runS S hM (va_cwS n S.2.2.2.2 (g_in (fun w hw => by
    rcases List.mem_append.mp hw with h | h
    · simp only [List.mem_cons, List.not_mem_nil, or_false] at h
      rcases h with rfl | rfl | rfl
      · exact h1
      · exact h2
      · exact h4
    · exact g_cl h0 w h)) rfl hrc hrs hd hR) hp rfl hn hsize hstack (lv_room hW) d hf
theorem k_ri (S : CallFix p m c cc nL s args (c0 :: wl) own) (hM : Met l y (.code y bytes maxL none :: wl) rm Pc Qc mc ms free) (n : Nat) (h0 : Cond.code y bytes maxL none ∈ wl) (h1 : Cond.methodLink own idx y ∈ wl) (h2 : Cond.instanceMethod y ∈ wl) (h4 : Cond.initialized y.cls ∈ wl) (hy : y.name = "<init>")
    (hd : y.cls ≠ "java/lang/invoke/MethodHandle" ∧ y.cls ≠ "java/lang/invoke/VarHandle" ∧ (parseMethodDescriptor y.desc).map (fun d => d.parameters.length) = some n) (hR : rm.frames + 1 ≤ R.frames ∧ 8 + (maxL + 11) + rm.locals ≤ R.locals) (hrc : rm.cells = mc) (hrs : rm.slots = ms) (hp : PreS s H Pc (.ref b :: As)) (hn : As.length = n) (hsize : ls.size = nL) (hstack : st0 = As.reverse ++ .ref b :: rest) (hW : (rest.map fun v => v.category).sum ≤ 8) (d : decode cc pc = .ok (.invokespecial idx, 3)) (hf : cells + mc ≤ R.cells ∧ slots + ms ≤ R.slots) :
    va_Run p l e R s m args below meth c H locs cells slots mc ms (F0 m pc ls st0) rest (Qc (Value.ref b :: As).toArray) free :=
  va_runI S hM (cwI n S.2.2.2.2 (g_in (g_cl h0)) rfl hrc hrs (S.2.2.2.2 _ (List.mem_cons_of_mem _ h4)) (S.2.2.2.2 _ (List.mem_cons_of_mem _ h1)) (S.2.2.2.2 _ (List.mem_cons_of_mem _ h2)) hy hd hR) hp rfl hn hsize hstack (lv_room hW) d hf
theorem k_rsn (S : CallFix p m c cc nL s args (c0 :: wl) own) (hM : Met l y (.code y bytes maxL ret :: wl) rm Pc Qc mc ms free) (n : Nat) (h0 : Cond.code y bytes maxL ret ∈ wl) {host : String} (h1 : va_Nw (.methodLinkNest own idx y host) s) (h2 : Cond.static y ∈ wl) (h4 : Cond.initialized y.cls ∈ wl)
    (hd : y.cls ≠ "java/lang/invoke/MethodHandle" ∧ y.cls ≠ "java/lang/invoke/VarHandle" ∧ (parseMethodDescriptor y.desc).map (fun d => d.parameters.length) = some n) (hR : rm.frames + 1 ≤ R.frames ∧ 8 + (maxL + 11) + rm.locals ≤ R.locals) (hrc : rm.cells = mc) (hrs : rm.slots = ms) (hp : PreS s H Pc As) (hn : As.length = n) (hsize : ls.size = nL) (hstack : st0 = As.reverse ++ rest) (hW : (rest.map fun v => v.category).sum ≤ 8) (d : decode cc pc = .ok (.invokestatic idx, 3)) (hf : cells + mc ≤ R.cells ∧ slots + ms ≤ R.slots) :
    va_Run p l e R s m args below meth c H locs cells slots mc ms (F0 m pc ls st0) rest (Qc As.toArray) free :=
  va_runSN S hM ⟨va_cnB n S.2.2.2.2 (g_in (g_cl h0)) rfl hrc hrs h1 (S.2.2.2.2 _ (List.mem_cons_of_mem _ h4)) hd hR, S.2.2.2.2 _ (List.mem_cons_of_mem _ h2), trivial⟩ hp rfl hn hsize hstack (lv_room hW) d hf
theorem k_rin (S : CallFix p m c cc nL s args (c0 :: wl) own) (hM : Met l y (.code y bytes maxL none :: wl) rm Pc Qc mc ms free) (n : Nat) (h0 : Cond.code y bytes maxL none ∈ wl) {host : String} (h1 : va_Nw (.methodLinkNest own idx y host) s) (h2 : Cond.instanceMethod y ∈ wl) (h4 : Cond.initialized y.cls ∈ wl) (hy : y.name = "<init>")
    (hd : y.cls ≠ "java/lang/invoke/MethodHandle" ∧ y.cls ≠ "java/lang/invoke/VarHandle" ∧ (parseMethodDescriptor y.desc).map (fun d => d.parameters.length) = some n) (hR : rm.frames + 1 ≤ R.frames ∧ 8 + (maxL + 11) + rm.locals ≤ R.locals) (hrc : rm.cells = mc) (hrs : rm.slots = ms) (hp : PreS s H Pc (.ref b :: As)) (hn : As.length = n) (hsize : ls.size = nL) (hstack : st0 = As.reverse ++ .ref b :: rest) (hW : (rest.map fun v => v.category).sum ≤ 8) (d : decode cc pc = .ok (.invokespecial idx, 3)) (hf : cells + mc ≤ R.cells ∧ slots + ms ≤ R.slots) :
    va_Run p l e R s m args below meth c H locs cells slots mc ms (F0 m pc ls st0) rest (Qc (Value.ref b :: As).toArray) free :=
  va_runIN S hM ⟨va_cnB n S.2.2.2.2 (g_in (g_cl h0)) rfl hrc hrs h1 (S.2.2.2.2 _ (List.mem_cons_of_mem _ h4)) hd hR, hy, S.2.2.2.2 _ (List.mem_cons_of_mem _ h2)⟩ hp rfl hn hsize hstack (lv_room hW) d hf
end KC
