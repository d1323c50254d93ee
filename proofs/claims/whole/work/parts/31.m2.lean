/-! the reference: lines, regions, levels -/
def dsf (kd st un n : Int) : Int → eo → eo := fun k x =>
  if cOd kd st then (up x.1 k (x.1 k), up x.2 k (x.2 k + (if bI (tAw kd st) = un then amL kd st x.1 x.2 k n else -amL kd st x.1 x.2 k n)))
  else (up x.1 k (x.1 k + (if bI (tAw kd st) = un then amL kd st x.1 x.2 k n else -amL kd st x.1 x.2 k n)), up x.2 k (x.2 k))
def dsK (kd st un n : Int) (x : eo) : eo := it (dsf kd st un n) 0 n x
def peI (un s d : Int) : Int → Int := fun k => if un = 0 then s + 2 * k * d else s + k * d
def poI (un s d n : Int) : Int → Int := fun k => if un = 0 then s + (2 * k + 1) * d else s + (n + k) * d
def qeI (un s d : Int) : Int → Int := fun k => if un = 0 then s + k * d else s + 2 * k * d
def qoI (un s d n : Int) : Int → Int := fun k => if un = 0 then s + (n + k) * d else s + (2 * k + 1) * d
def stc (kd : Int) : Int := if kd = 6 then 4 else 2
def stI (un c s : Int) : Int := if un = 0 then s else c - 1 - s
def tuE (kd un n c : Int) (i : Int) (x : eo) : eo := it (fun s y => dsK kd (stI un c s) un n y) 0 i x
def tuL (s d n un kd : Int) (x : aeo) : aeo :=
  (it (stf (tuE kd un n (stc kd) (stc kd) (it (ldf x.1 (peI un s d) (poI un s d n)) 0 n x.2)) (qeI un s d) (qoI un s d n)) 0 n x.1, tuE kd un n (stc kd) (stc kd) (it (ldf x.1 (peI un s d) (poI un s d n)) 0 n x.2))
theorem it_c {σ : Type} {f : Int → σ → σ} {a b : Int} {x : σ} (h : ∀ j y, f j y = y) : it f a b x = x := it_iv (I := fun y => y = x) rfl (fun i y _ _ hy => by rw [h, hy])
theorem gain_1 {kd : Int} (h : 0 ≤ kd ∧ kd ≤ 6) (h3 : ¬ kd = 3) (h5 : ¬ kd = 5) : gainT kd = 1 := by
  rcases (show kd = 0 ∨ kd = 1 ∨ kd = 2 ∨ kd = 4 ∨ kd = 6 by omega) with rfl | rfl | rfl | rfl | rfl <;> decide +kernel
theorem gain_0 {kd : Int} (h : kd = 3 ∨ kd = 5) : gainT kd = 0 := by
  rcases h with rfl | rfl <;> decide +kernel
def rg1 (gn w h un : Int) : Int → (Int → Int64) → (Int → Int64) := fun k a => if gn = 0 ∨ ¬ un = 0 then a else if k % 16 < w ∧ k / 16 < h then up a k (2 * a k) else up a k (a k)
def rg2 (kd h ct un : Int) : Int → aeo → aeo := fun c z => if ct = 0 ∨ un = 0 then z else tuL c 16 (h / 2) 1 kd z
def rg3 (kd w un : Int) : Int → aeo → aeo := fun y z => tuL (16 * y) 1 (w / 2) un kd z
def rg4 (kd h ct un : Int) : Int → aeo → aeo := fun c z => if ct = 0 ∨ ¬ un = 0 then z else tuL c 16 (h / 2) 0 kd z
def rg5 (gn w h un : Int) : Int → (Int → Int64) → (Int → Int64) := fun k a => if gn = 0 ∨ un = 0 then a else if k % 16 < w ∧ k / 16 < h then up a k (shR (a k + 1) 1) else up a k (a k)
def rgA (kd w h ct un : Int) (x : aeo) : aeo :=
  let x4 := it (rg4 kd h ct un) 0 w (it (rg3 kd w un) 0 h (it (rg2 kd h ct un) 0 w (it (rg1 (gainT kd) w h un) 0 256 x.1, x.2)))
  (it (rg5 (gainT kd) w h un) 0 256 x4.1, x4.2)
theorem rg1_c {gn w h un : Int} (q : gn = 0 ∨ ¬ un = 0) (j : Int) (y : Int → Int64) : rg1 gn w h un j y = y := if_pos q
theorem rg2_c {kd h ct un : Int} (q : ct = 0 ∨ un = 0) (j : Int) (y : aeo) : rg2 kd h ct un j y = y := if_pos q
theorem rg4_c {kd h ct un : Int} (q : ct = 0 ∨ ¬ un = 0) (j : Int) (y : aeo) : rg4 kd h ct un j y = y := if_pos q
theorem rg5_c {gn w h un : Int} (q : gn = 0 ∨ un = 0) (j : Int) (y : Int → Int64) : rg5 gn w h un j y = y := if_pos q
theorem lo_db {P : Int → Prop} {a b : Int} (h : ∀ i, i ≤ a → (b - 1 ≤ i ∨ i = a) → (b ≤ i → P (i + (-1))) → P i) : P a := by
  have key : ∀ n : Nat, ∀ i, i ≤ a → (b - 1 ≤ i ∨ i = a) → (i + 1 - b).toNat ≤ n → P i := by
    intro n
    induction n with
    | zero => intro i h1 h2 h3; exact h i h1 h2 (fun h4 => by omega)
    | succ n ih => intro i h1 h2 h3; exact h i h1 h2 (fun h4 => ih (i + (-1)) (by omega) (Or.inl (by omega)) (by omega))
  exact key _ a (Int.le_refl a) (Or.inr rfl) (Nat.le_refl _)
def fmA (wd ht w h : Int) (pic : Int → Int) (a : Int → Int64) : Int → Int64 := it (fun y f => it (fun x f => up f (16 * y + x) (lw (pic (min y (ht - 1) * 16 + min x (wd - 1))))) 0 w f) 0 h a
def fmL1 (cP cQ kd : Int) : Int → aeo → aeo := fun l z => rgA kd (cP / 2 ^ l.toNat) (cQ / 2 ^ l.toNat) 1 0 z
def fmL2 (cP cQ db kd : Int) : Int → aeo → aeo := fun l z => rgA kd (cP / 2 ^ l.toNat) (cQ / 2 ^ db.toNat) 0 0 z
def bmL1 (cP cQ db kd : Int) (l : Int) (z : aeo) : aeo := rgA kd (cP / 2 ^ l.toNat) (cQ / 2 ^ db.toNat) 0 1 z
def bmL2 (cP cQ kd : Int) (l : Int) (z : aeo) : aeo := rgA kd (cP / 2 ^ l.toNat) (cQ / 2 ^ l.toNat) 1 1 z
def fmW (cP cQ db ew kd : Int) (x : aeo) : aeo := it (fmL2 cP cQ db kd) db (db + ew) (it (fmL1 cP cQ kd) 0 db x)
def bmW (cP cQ db ew kd : Int) (x : aeo) : aeo := it (fun k y => bmL2 cP cQ kd (db - 1 - k) y) 0 db (it (fun k y => bmL1 cP cQ db kd (db + ew - 1 - k) y) 0 ew x)
theorem m4_78 : Cond.code y_Mod_amount prog_9_method_18_code 15 (some .long) ∈ wl := wl_4 78 (by decide +kernel) (by decide +kernel)
theorem m4_66 : Cond.code y_Mod_doStep prog_9_method_19_code 11 none ∈ wl := wl_4 66 (by decide +kernel) (by decide +kernel)
theorem m4_74 : Cond.code y_Mod_takesAway prog_9_method_17_code 2 (some .boolean) ∈ wl := wl_4 74 (by decide +kernel) (by decide +kernel)
theorem m4_62 : Cond.code y_Mod_turn prog_9_method_20_code 7 none ∈ wl := wl_4 62 (by decide +kernel) (by decide +kernel)
theorem m3_128 : Cond.fieldLink "WaveletSlicesModel" 16 "WaveletSlicesModel" "grid" "[J" ∈ wl := wl_3 128 (by decide +kernel) (by decide +kernel)
theorem m4_77 : Cond.instanceMethod y_Mod_amount ∈ wl := wl_4 77 (by decide +kernel) (by decide +kernel)
theorem m4_65 : Cond.instanceMethod y_Mod_doStep ∈ wl := wl_4 65 (by decide +kernel) (by decide +kernel)
theorem m4_73 : Cond.instanceMethod y_Mod_takesAway ∈ wl := wl_4 73 (by decide +kernel) (by decide +kernel)
theorem m4_61 : Cond.instanceMethod y_Mod_turn ∈ wl := wl_4 61 (by decide +kernel) (by decide +kernel)
theorem m4_75 : Cond.methodLink "WaveletSlicesModel" 148 y_Mod_amount ∈ wl := wl_4 75 (by decide +kernel) (by decide +kernel)
theorem m4_63 : Cond.methodLink "WaveletSlicesModel" 152 y_Mod_doStep ∈ wl := wl_4 63 (by decide +kernel) (by decide +kernel)
theorem m4_71 : Cond.methodLink "WaveletSlicesModel" 145 y_Mod_takesAway ∈ wl := wl_4 71 (by decide +kernel) (by decide +kernel)
theorem m4_59 : Cond.methodLink "WaveletSlicesModel" 156 y_Mod_turn ∈ wl := wl_4 59 (by decide +kernel) (by decide +kernel)
theorem mp_31 : Cond.selects "WaveletSlicesModel" y_Mod_amount y_Mod_amount ∈ wl := wl_p 31 (by decide +kernel) (by decide +kernel)
theorem mp_28 : Cond.selects "WaveletSlicesModel" y_Mod_doStep y_Mod_doStep ∈ wl := wl_p 28 (by decide +kernel) (by decide +kernel)
theorem mp_30 : Cond.selects "WaveletSlicesModel" y_Mod_takesAway y_Mod_takesAway ∈ wl := wl_p 30 (by decide +kernel) (by decide +kernel)
theorem mp_27 : Cond.selects "WaveletSlicesModel" y_Mod_turn y_Mod_turn ∈ wl := wl_p 27 (by decide +kernel) (by decide +kernel)
theorem d_Mod_doStep_0 : decode prog_9_method_19_code 0 = .ok (.aload_n 0, 1) := by decide +kernel
theorem d_Mod_doStep_1 : decode prog_9_method_19_code 1 = .ok (.iload_n 1, 1) := by decide +kernel
theorem d_Mod_doStep_2 : decode prog_9_method_19_code 2 = .ok (.invokevirtual 105, 3) := by decide +kernel
theorem d_Mod_doStep_5 : decode prog_9_method_19_code 5 = .ok (.istore 4, 2) := by decide +kernel
theorem d_Mod_doStep_7 : decode prog_9_method_19_code 7 = .ok (.aload_n 0, 1) := by decide +kernel
theorem d_Mod_doStep_8 : decode prog_9_method_19_code 8 = .ok (.iload_n 1, 1) := by decide +kernel
theorem d_Mod_doStep_9 : decode prog_9_method_19_code 9 = .ok (.invokevirtual 145, 3) := by decide +kernel
theorem d_Mod_doStep_12 : decode prog_9_method_19_code 12 = .ok (.iload_n 3, 1) := by decide +kernel
theorem d_Mod_doStep_13 : decode prog_9_method_19_code 13 = .ok (.if_icmp .eq 7, 3) := by decide +kernel
theorem d_Mod_doStep_16 : decode prog_9_method_19_code 16 = .ok (.iconst 1, 1) := by decide +kernel
theorem d_Mod_doStep_17 : decode prog_9_method_19_code 17 = .ok (.goto 4, 3) := by decide +kernel
theorem d_Mod_doStep_20 : decode prog_9_method_19_code 20 = .ok (.iconst 0, 1) := by decide +kernel
theorem d_Mod_doStep_21 : decode prog_9_method_19_code 21 = .ok (.istore 5, 2) := by decide +kernel
theorem d_Mod_doStep_23 : decode prog_9_method_19_code 23 = .ok (.iconst 0, 1) := by decide +kernel
theorem d_Mod_doStep_24 : decode prog_9_method_19_code 24 = .ok (.istore 6, 2) := by decide +kernel
theorem d_Mod_doStep_26 : decode prog_9_method_19_code 26 = .ok (.iload 6, 2) := by decide +kernel
theorem d_Mod_doStep_28 : decode prog_9_method_19_code 28 = .ok (.iload_n 2, 1) := by decide +kernel
theorem d_Mod_doStep_29 : decode prog_9_method_19_code 29 = .ok (.if_icmp .ge 98, 3) := by decide +kernel
theorem d_Mod_doStep_32 : decode prog_9_method_19_code 32 = .ok (.aload_n 0, 1) := by decide +kernel
theorem d_Mod_doStep_33 : decode prog_9_method_19_code 33 = .ok (.iload_n 1, 1) := by decide +kernel
theorem d_Mod_doStep_34 : decode prog_9_method_19_code 34 = .ok (.iload 6, 2) := by decide +kernel
theorem d_Mod_doStep_36 : decode prog_9_method_19_code 36 = .ok (.iload_n 2, 1) := by decide +kernel
theorem d_Mod_doStep_37 : decode prog_9_method_19_code 37 = .ok (.invokevirtual 148, 3) := by decide +kernel
theorem d_Mod_doStep_40 : decode prog_9_method_19_code 40 = .ok (.lstore 7, 2) := by decide +kernel
theorem d_Mod_doStep_42 : decode prog_9_method_19_code 42 = .ok (.iload 5, 2) := by decide +kernel
theorem d_Mod_doStep_44 : decode prog_9_method_19_code 44 = .ok (.ifCond .eq 9, 3) := by decide +kernel
theorem d_Mod_doStep_47 : decode prog_9_method_19_code 47 = .ok (.lload 7, 2) := by decide +kernel
theorem d_Mod_doStep_49 : decode prog_9_method_19_code 49 = .ok (.lneg, 1) := by decide +kernel
theorem d_Mod_doStep_50 : decode prog_9_method_19_code 50 = .ok (.goto 5, 3) := by decide +kernel
theorem d_Mod_doStep_53 : decode prog_9_method_19_code 53 = .ok (.lload 7, 2) := by decide +kernel
theorem d_Mod_doStep_55 : decode prog_9_method_19_code 55 = .ok (.lstore 9, 2) := by decide +kernel
theorem d_Mod_doStep_57 : decode prog_9_method_19_code 57 = .ok (.aload_n 0, 1) := by decide +kernel
theorem d_Mod_doStep_58 : decode prog_9_method_19_code 58 = .ok (.getfield 49, 3) := by decide +kernel
theorem d_Mod_doStep_61 : decode prog_9_method_19_code 61 = .ok (.iload 6, 2) := by decide +kernel
theorem d_Mod_doStep_63 : decode prog_9_method_19_code 63 = .ok (.iload 4, 2) := by decide +kernel
theorem d_Mod_doStep_65 : decode prog_9_method_19_code 65 = .ok (.ifCond .eq 13, 3) := by decide +kernel
theorem d_Mod_doStep_68 : decode prog_9_method_19_code 68 = .ok (.aload_n 0, 1) := by decide +kernel
theorem d_Mod_doStep_69 : decode prog_9_method_19_code 69 = .ok (.getfield 49, 3) := by decide +kernel
theorem d_Mod_doStep_72 : decode prog_9_method_19_code 72 = .ok (.iload 6, 2) := by decide +kernel
theorem d_Mod_doStep_74 : decode prog_9_method_19_code 74 = .ok (.laload, 1) := by decide +kernel
theorem d_Mod_doStep_75 : decode prog_9_method_19_code 75 = .ok (.goto 13, 3) := by decide +kernel
theorem d_Mod_doStep_78 : decode prog_9_method_19_code 78 = .ok (.aload_n 0, 1) := by decide +kernel
theorem d_Mod_doStep_79 : decode prog_9_method_19_code 79 = .ok (.getfield 49, 3) := by decide +kernel
theorem d_Mod_doStep_82 : decode prog_9_method_19_code 82 = .ok (.iload 6, 2) := by decide +kernel
theorem d_Mod_doStep_84 : decode prog_9_method_19_code 84 = .ok (.laload, 1) := by decide +kernel
theorem d_Mod_doStep_85 : decode prog_9_method_19_code 85 = .ok (.lload 9, 2) := by decide +kernel
theorem d_Mod_doStep_87 : decode prog_9_method_19_code 87 = .ok (.ladd, 1) := by decide +kernel
theorem d_Mod_doStep_88 : decode prog_9_method_19_code 88 = .ok (.lastore, 1) := by decide +kernel
theorem d_Mod_doStep_89 : decode prog_9_method_19_code 89 = .ok (.aload_n 0, 1) := by decide +kernel
theorem d_Mod_doStep_90 : decode prog_9_method_19_code 90 = .ok (.getfield 52, 3) := by decide +kernel
theorem d_Mod_doStep_93 : decode prog_9_method_19_code 93 = .ok (.iload 6, 2) := by decide +kernel
theorem d_Mod_doStep_95 : decode prog_9_method_19_code 95 = .ok (.iload 4, 2) := by decide +kernel
theorem d_Mod_doStep_97 : decode prog_9_method_19_code 97 = .ok (.ifCond .eq 16, 3) := by decide +kernel
theorem d_Mod_doStep_100 : decode prog_9_method_19_code 100 = .ok (.aload_n 0, 1) := by decide +kernel
theorem d_Mod_doStep_101 : decode prog_9_method_19_code 101 = .ok (.getfield 52, 3) := by decide +kernel
theorem d_Mod_doStep_104 : decode prog_9_method_19_code 104 = .ok (.iload 6, 2) := by decide +kernel
theorem d_Mod_doStep_106 : decode prog_9_method_19_code 106 = .ok (.laload, 1) := by decide +kernel
theorem d_Mod_doStep_107 : decode prog_9_method_19_code 107 = .ok (.lload 9, 2) := by decide +kernel
theorem d_Mod_doStep_109 : decode prog_9_method_19_code 109 = .ok (.ladd, 1) := by decide +kernel
theorem d_Mod_doStep_110 : decode prog_9_method_19_code 110 = .ok (.goto 10, 3) := by decide +kernel
theorem d_Mod_doStep_113 : decode prog_9_method_19_code 113 = .ok (.aload_n 0, 1) := by decide +kernel
theorem d_Mod_doStep_114 : decode prog_9_method_19_code 114 = .ok (.getfield 52, 3) := by decide +kernel
theorem d_Mod_doStep_117 : decode prog_9_method_19_code 117 = .ok (.iload 6, 2) := by decide +kernel
theorem d_Mod_doStep_119 : decode prog_9_method_19_code 119 = .ok (.laload, 1) := by decide +kernel
theorem d_Mod_doStep_120 : decode prog_9_method_19_code 120 = .ok (.lastore, 1) := by decide +kernel
theorem d_Mod_doStep_121 : decode prog_9_method_19_code 121 = .ok (.iinc 6 1, 3) := by decide +kernel
theorem d_Mod_doStep_124 : decode prog_9_method_19_code 124 = .ok (.goto (-98), 3) := by decide +kernel
theorem d_Mod_doStep_127 : decode prog_9_method_19_code 127 = .ok (.return_, 1) := by decide +kernel
theorem d_Mod_turn_0 : decode prog_9_method_20_code 0 = .ok (.iconst 0, 1) := by decide +kernel
theorem d_Mod_turn_1 : decode prog_9_method_20_code 1 = .ok (.istore 5, 2) := by decide +kernel
theorem d_Mod_turn_3 : decode prog_9_method_20_code 3 = .ok (.iload 5, 2) := by decide +kernel
theorem d_Mod_turn_5 : decode prog_9_method_20_code 5 = .ok (.iload_n 3, 1) := by decide +kernel
theorem d_Mod_turn_6 : decode prog_9_method_20_code 6 = .ok (.if_icmp .ge 73, 3) := by decide +kernel
theorem d_Mod_turn_9 : decode prog_9_method_20_code 9 = .ok (.aload_n 0, 1) := by decide +kernel
theorem d_Mod_turn_10 : decode prog_9_method_20_code 10 = .ok (.getfield 49, 3) := by decide +kernel
theorem d_Mod_turn_13 : decode prog_9_method_20_code 13 = .ok (.iload 5, 2) := by decide +kernel
theorem d_Mod_turn_15 : decode prog_9_method_20_code 15 = .ok (.aload_n 0, 1) := by decide +kernel
theorem d_Mod_turn_16 : decode prog_9_method_20_code 16 = .ok (.getfield 16, 3) := by decide +kernel
theorem d_Mod_turn_19 : decode prog_9_method_20_code 19 = .ok (.iload_n 1, 1) := by decide +kernel
theorem d_Mod_turn_20 : decode prog_9_method_20_code 20 = .ok (.iload 4, 2) := by decide +kernel
theorem d_Mod_turn_22 : decode prog_9_method_20_code 22 = .ok (.ifCond .eq 8, 3) := by decide +kernel
theorem d_Mod_turn_25 : decode prog_9_method_20_code 25 = .ok (.iload 5, 2) := by decide +kernel
theorem d_Mod_turn_27 : decode prog_9_method_20_code 27 = .ok (.goto 7, 3) := by decide +kernel
theorem d_Mod_turn_30 : decode prog_9_method_20_code 30 = .ok (.iconst 2, 1) := by decide +kernel
theorem d_Mod_turn_31 : decode prog_9_method_20_code 31 = .ok (.iload 5, 2) := by decide +kernel
theorem d_Mod_turn_33 : decode prog_9_method_20_code 33 = .ok (.imul, 1) := by decide +kernel
theorem d_Mod_turn_34 : decode prog_9_method_20_code 34 = .ok (.iload_n 2, 1) := by decide +kernel
theorem d_Mod_turn_35 : decode prog_9_method_20_code 35 = .ok (.imul, 1) := by decide +kernel
theorem d_Mod_turn_36 : decode prog_9_method_20_code 36 = .ok (.iadd, 1) := by decide +kernel
theorem d_Mod_turn_37 : decode prog_9_method_20_code 37 = .ok (.laload, 1) := by decide +kernel
theorem d_Mod_turn_38 : decode prog_9_method_20_code 38 = .ok (.lastore, 1) := by decide +kernel
theorem d_Mod_turn_39 : decode prog_9_method_20_code 39 = .ok (.aload_n 0, 1) := by decide +kernel
theorem d_Mod_turn_40 : decode prog_9_method_20_code 40 = .ok (.getfield 52, 3) := by decide +kernel
theorem d_Mod_turn_43 : decode prog_9_method_20_code 43 = .ok (.iload 5, 2) := by decide +kernel
theorem d_Mod_turn_45 : decode prog_9_method_20_code 45 = .ok (.aload_n 0, 1) := by decide +kernel
theorem d_Mod_turn_46 : decode prog_9_method_20_code 46 = .ok (.getfield 16, 3) := by decide +kernel
theorem d_Mod_turn_49 : decode prog_9_method_20_code 49 = .ok (.iload_n 1, 1) := by decide +kernel
theorem d_Mod_turn_50 : decode prog_9_method_20_code 50 = .ok (.iload 4, 2) := by decide +kernel
theorem d_Mod_turn_52 : decode prog_9_method_20_code 52 = .ok (.ifCond .eq 10, 3) := by decide +kernel
theorem d_Mod_turn_55 : decode prog_9_method_20_code 55 = .ok (.iload_n 3, 1) := by decide +kernel
theorem d_Mod_turn_56 : decode prog_9_method_20_code 56 = .ok (.iload 5, 2) := by decide +kernel
theorem d_Mod_turn_58 : decode prog_9_method_20_code 58 = .ok (.iadd, 1) := by decide +kernel
theorem d_Mod_turn_59 : decode prog_9_method_20_code 59 = .ok (.goto 9, 3) := by decide +kernel
theorem d_Mod_turn_62 : decode prog_9_method_20_code 62 = .ok (.iconst 2, 1) := by decide +kernel
theorem d_Mod_turn_63 : decode prog_9_method_20_code 63 = .ok (.iload 5, 2) := by decide +kernel
theorem d_Mod_turn_65 : decode prog_9_method_20_code 65 = .ok (.imul, 1) := by decide +kernel
theorem d_Mod_turn_66 : decode prog_9_method_20_code 66 = .ok (.iconst 1, 1) := by decide +kernel
theorem d_Mod_turn_67 : decode prog_9_method_20_code 67 = .ok (.iadd, 1) := by decide +kernel
theorem d_Mod_turn_68 : decode prog_9_method_20_code 68 = .ok (.iload_n 2, 1) := by decide +kernel
theorem d_Mod_turn_69 : decode prog_9_method_20_code 69 = .ok (.imul, 1) := by decide +kernel
theorem d_Mod_turn_70 : decode prog_9_method_20_code 70 = .ok (.iadd, 1) := by decide +kernel
theorem d_Mod_turn_71 : decode prog_9_method_20_code 71 = .ok (.laload, 1) := by decide +kernel
theorem d_Mod_turn_72 : decode prog_9_method_20_code 72 = .ok (.lastore, 1) := by decide +kernel
theorem d_Mod_turn_73 : decode prog_9_method_20_code 73 = .ok (.iinc 5 1, 3) := by decide +kernel
theorem d_Mod_turn_76 : decode prog_9_method_20_code 76 = .ok (.goto (-73), 3) := by decide +kernel
theorem d_Mod_turn_79 : decode prog_9_method_20_code 79 = .ok (.aload_n 0, 1) := by decide +kernel
theorem d_Mod_turn_80 : decode prog_9_method_20_code 80 = .ok (.getfield 89, 3) := by decide +kernel
theorem d_Mod_turn_83 : decode prog_9_method_20_code 83 = .ok (.bipush 6, 2) := by decide +kernel
theorem d_Mod_turn_85 : decode prog_9_method_20_code 85 = .ok (.if_icmp .ne 7, 3) := by decide +kernel
theorem d_Mod_turn_88 : decode prog_9_method_20_code 88 = .ok (.iconst 4, 1) := by decide +kernel
theorem d_Mod_turn_89 : decode prog_9_method_20_code 89 = .ok (.goto 4, 3) := by decide +kernel
theorem d_Mod_turn_92 : decode prog_9_method_20_code 92 = .ok (.iconst 2, 1) := by decide +kernel
theorem d_Mod_turn_93 : decode prog_9_method_20_code 93 = .ok (.istore 5, 2) := by decide +kernel
theorem d_Mod_turn_95 : decode prog_9_method_20_code 95 = .ok (.iconst 0, 1) := by decide +kernel
theorem d_Mod_turn_96 : decode prog_9_method_20_code 96 = .ok (.istore 6, 2) := by decide +kernel
theorem d_Mod_turn_98 : decode prog_9_method_20_code 98 = .ok (.iload 6, 2) := by decide +kernel
theorem d_Mod_turn_100 : decode prog_9_method_20_code 100 = .ok (.iload 5, 2) := by decide +kernel
theorem d_Mod_turn_102 : decode prog_9_method_20_code 102 = .ok (.if_icmp .ge 33, 3) := by decide +kernel
theorem d_Mod_turn_105 : decode prog_9_method_20_code 105 = .ok (.aload_n 0, 1) := by decide +kernel
theorem d_Mod_turn_106 : decode prog_9_method_20_code 106 = .ok (.iload 4, 2) := by decide +kernel
theorem d_Mod_turn_108 : decode prog_9_method_20_code 108 = .ok (.ifCond .eq 13, 3) := by decide +kernel
theorem d_Mod_turn_111 : decode prog_9_method_20_code 111 = .ok (.iload 5, 2) := by decide +kernel
theorem d_Mod_turn_113 : decode prog_9_method_20_code 113 = .ok (.iconst 1, 1) := by decide +kernel
theorem d_Mod_turn_114 : decode prog_9_method_20_code 114 = .ok (.isub, 1) := by decide +kernel
theorem d_Mod_turn_115 : decode prog_9_method_20_code 115 = .ok (.iload 6, 2) := by decide +kernel
theorem d_Mod_turn_117 : decode prog_9_method_20_code 117 = .ok (.isub, 1) := by decide +kernel
theorem d_Mod_turn_118 : decode prog_9_method_20_code 118 = .ok (.goto 5, 3) := by decide +kernel
theorem d_Mod_turn_121 : decode prog_9_method_20_code 121 = .ok (.iload 6, 2) := by decide +kernel
theorem d_Mod_turn_123 : decode prog_9_method_20_code 123 = .ok (.iload_n 3, 1) := by decide +kernel
theorem d_Mod_turn_124 : decode prog_9_method_20_code 124 = .ok (.iload 4, 2) := by decide +kernel
theorem d_Mod_turn_126 : decode prog_9_method_20_code 126 = .ok (.invokevirtual 152, 3) := by decide +kernel
theorem d_Mod_turn_129 : decode prog_9_method_20_code 129 = .ok (.iinc 6 1, 3) := by decide +kernel
theorem d_Mod_turn_132 : decode prog_9_method_20_code 132 = .ok (.goto (-34), 3) := by decide +kernel
theorem d_Mod_turn_135 : decode prog_9_method_20_code 135 = .ok (.iconst 0, 1) := by decide +kernel
theorem d_Mod_turn_136 : decode prog_9_method_20_code 136 = .ok (.istore 6, 2) := by decide +kernel
theorem d_Mod_turn_138 : decode prog_9_method_20_code 138 = .ok (.iload 6, 2) := by decide +kernel
theorem d_Mod_turn_140 : decode prog_9_method_20_code 140 = .ok (.iload_n 3, 1) := by decide +kernel
theorem d_Mod_turn_141 : decode prog_9_method_20_code 141 = .ok (.if_icmp .ge 73, 3) := by decide +kernel
theorem d_Mod_turn_144 : decode prog_9_method_20_code 144 = .ok (.aload_n 0, 1) := by decide +kernel
theorem d_Mod_turn_145 : decode prog_9_method_20_code 145 = .ok (.getfield 16, 3) := by decide +kernel
theorem d_Mod_turn_148 : decode prog_9_method_20_code 148 = .ok (.iload_n 1, 1) := by decide +kernel
theorem d_Mod_turn_149 : decode prog_9_method_20_code 149 = .ok (.iload 4, 2) := by decide +kernel
theorem d_Mod_turn_151 : decode prog_9_method_20_code 151 = .ok (.ifCond .eq 10, 3) := by decide +kernel
theorem d_Mod_turn_154 : decode prog_9_method_20_code 154 = .ok (.iconst 2, 1) := by decide +kernel
theorem d_Mod_turn_155 : decode prog_9_method_20_code 155 = .ok (.iload 6, 2) := by decide +kernel
theorem d_Mod_turn_157 : decode prog_9_method_20_code 157 = .ok (.imul, 1) := by decide +kernel
theorem d_Mod_turn_158 : decode prog_9_method_20_code 158 = .ok (.goto 5, 3) := by decide +kernel
theorem d_Mod_turn_161 : decode prog_9_method_20_code 161 = .ok (.iload 6, 2) := by decide +kernel
theorem d_Mod_turn_163 : decode prog_9_method_20_code 163 = .ok (.iload_n 2, 1) := by decide +kernel
theorem d_Mod_turn_164 : decode prog_9_method_20_code 164 = .ok (.imul, 1) := by decide +kernel
theorem d_Mod_turn_165 : decode prog_9_method_20_code 165 = .ok (.iadd, 1) := by decide +kernel
theorem d_Mod_turn_166 : decode prog_9_method_20_code 166 = .ok (.aload_n 0, 1) := by decide +kernel
theorem d_Mod_turn_167 : decode prog_9_method_20_code 167 = .ok (.getfield 49, 3) := by decide +kernel
theorem d_Mod_turn_170 : decode prog_9_method_20_code 170 = .ok (.iload 6, 2) := by decide +kernel
theorem d_Mod_turn_172 : decode prog_9_method_20_code 172 = .ok (.laload, 1) := by decide +kernel
theorem d_Mod_turn_173 : decode prog_9_method_20_code 173 = .ok (.lastore, 1) := by decide +kernel
theorem d_Mod_turn_174 : decode prog_9_method_20_code 174 = .ok (.aload_n 0, 1) := by decide +kernel
theorem d_Mod_turn_175 : decode prog_9_method_20_code 175 = .ok (.getfield 16, 3) := by decide +kernel
theorem d_Mod_turn_178 : decode prog_9_method_20_code 178 = .ok (.iload_n 1, 1) := by decide +kernel
theorem d_Mod_turn_179 : decode prog_9_method_20_code 179 = .ok (.iload 4, 2) := by decide +kernel
theorem d_Mod_turn_181 : decode prog_9_method_20_code 181 = .ok (.ifCond .eq 12, 3) := by decide +kernel
theorem d_Mod_turn_184 : decode prog_9_method_20_code 184 = .ok (.iconst 2, 1) := by decide +kernel
theorem d_Mod_turn_185 : decode prog_9_method_20_code 185 = .ok (.iload 6, 2) := by decide +kernel
theorem d_Mod_turn_187 : decode prog_9_method_20_code 187 = .ok (.imul, 1) := by decide +kernel
theorem d_Mod_turn_188 : decode prog_9_method_20_code 188 = .ok (.iconst 1, 1) := by decide +kernel
theorem d_Mod_turn_189 : decode prog_9_method_20_code 189 = .ok (.iadd, 1) := by decide +kernel
theorem d_Mod_turn_190 : decode prog_9_method_20_code 190 = .ok (.goto 7, 3) := by decide +kernel
theorem d_Mod_turn_193 : decode prog_9_method_20_code 193 = .ok (.iload_n 3, 1) := by decide +kernel
theorem d_Mod_turn_194 : decode prog_9_method_20_code 194 = .ok (.iload 6, 2) := by decide +kernel
theorem d_Mod_turn_196 : decode prog_9_method_20_code 196 = .ok (.iadd, 1) := by decide +kernel
theorem d_Mod_turn_197 : decode prog_9_method_20_code 197 = .ok (.iload_n 2, 1) := by decide +kernel
theorem d_Mod_turn_198 : decode prog_9_method_20_code 198 = .ok (.imul, 1) := by decide +kernel
theorem d_Mod_turn_199 : decode prog_9_method_20_code 199 = .ok (.iadd, 1) := by decide +kernel
theorem d_Mod_turn_200 : decode prog_9_method_20_code 200 = .ok (.aload_n 0, 1) := by decide +kernel
theorem d_Mod_turn_201 : decode prog_9_method_20_code 201 = .ok (.getfield 52, 3) := by decide +kernel
theorem d_Mod_turn_204 : decode prog_9_method_20_code 204 = .ok (.iload 6, 2) := by decide +kernel
theorem d_Mod_turn_206 : decode prog_9_method_20_code 206 = .ok (.laload, 1) := by decide +kernel
theorem d_Mod_turn_207 : decode prog_9_method_20_code 207 = .ok (.lastore, 1) := by decide +kernel
theorem d_Mod_turn_208 : decode prog_9_method_20_code 208 = .ok (.iinc 6 1, 3) := by decide +kernel
theorem d_Mod_turn_211 : decode prog_9_method_20_code 211 = .ok (.goto (-73), 3) := by decide +kernel
theorem d_Mod_turn_214 : decode prog_9_method_20_code 214 = .ok (.return_, 1) := by decide +kernel
theorem d_Mod_region_0 : decode prog_9_method_21_code 0 = .ok (.aload_n 0, 1) := by decide +kernel
theorem d_Mod_region_1 : decode prog_9_method_21_code 1 = .ok (.getfield 89, 3) := by decide +kernel
theorem d_Mod_region_4 : decode prog_9_method_21_code 4 = .ok (.iconst 3, 1) := by decide +kernel
theorem d_Mod_region_5 : decode prog_9_method_21_code 5 = .ok (.if_icmp .eq 15, 3) := by decide +kernel
theorem d_Mod_region_8 : decode prog_9_method_21_code 8 = .ok (.aload_n 0, 1) := by decide +kernel
theorem d_Mod_region_9 : decode prog_9_method_21_code 9 = .ok (.getfield 89, 3) := by decide +kernel
theorem d_Mod_region_12 : decode prog_9_method_21_code 12 = .ok (.iconst 5, 1) := by decide +kernel
theorem d_Mod_region_13 : decode prog_9_method_21_code 13 = .ok (.if_icmp .eq 7, 3) := by decide +kernel
theorem d_Mod_region_16 : decode prog_9_method_21_code 16 = .ok (.iconst 1, 1) := by decide +kernel
theorem d_Mod_region_17 : decode prog_9_method_21_code 17 = .ok (.goto 4, 3) := by decide +kernel
theorem d_Mod_region_20 : decode prog_9_method_21_code 20 = .ok (.iconst 0, 1) := by decide +kernel
theorem d_Mod_region_21 : decode prog_9_method_21_code 21 = .ok (.istore 5, 2) := by decide +kernel
theorem d_Mod_region_23 : decode prog_9_method_21_code 23 = .ok (.iconst 0, 1) := by decide +kernel
theorem d_Mod_region_24 : decode prog_9_method_21_code 24 = .ok (.istore 6, 2) := by decide +kernel
theorem d_Mod_region_26 : decode prog_9_method_21_code 26 = .ok (.iload 6, 2) := by decide +kernel
theorem d_Mod_region_28 : decode prog_9_method_21_code 28 = .ok (.sipush 256, 3) := by decide +kernel
theorem d_Mod_region_31 : decode prog_9_method_21_code 31 = .ok (.if_icmp .ge 65, 3) := by decide +kernel
theorem d_Mod_region_34 : decode prog_9_method_21_code 34 = .ok (.iload 5, 2) := by decide +kernel
theorem d_Mod_region_36 : decode prog_9_method_21_code 36 = .ok (.ifCond .eq 60, 3) := by decide +kernel
theorem d_Mod_region_39 : decode prog_9_method_21_code 39 = .ok (.iload 4, 2) := by decide +kernel
theorem d_Mod_region_41 : decode prog_9_method_21_code 41 = .ok (.ifCond .ne 55, 3) := by decide +kernel
theorem d_Mod_region_44 : decode prog_9_method_21_code 44 = .ok (.aload_n 0, 1) := by decide +kernel
theorem d_Mod_region_45 : decode prog_9_method_21_code 45 = .ok (.getfield 16, 3) := by decide +kernel
theorem d_Mod_region_48 : decode prog_9_method_21_code 48 = .ok (.iload 6, 2) := by decide +kernel
theorem d_Mod_region_50 : decode prog_9_method_21_code 50 = .ok (.iload 6, 2) := by decide +kernel
theorem d_Mod_region_52 : decode prog_9_method_21_code 52 = .ok (.bipush 16, 2) := by decide +kernel
theorem d_Mod_region_54 : decode prog_9_method_21_code 54 = .ok (.irem, 1) := by decide +kernel
theorem d_Mod_region_55 : decode prog_9_method_21_code 55 = .ok (.iload_n 1, 1) := by decide +kernel
theorem d_Mod_region_56 : decode prog_9_method_21_code 56 = .ok (.if_icmp .ge 26, 3) := by decide +kernel
theorem d_Mod_region_59 : decode prog_9_method_21_code 59 = .ok (.iload 6, 2) := by decide +kernel
theorem d_Mod_region_61 : decode prog_9_method_21_code 61 = .ok (.bipush 16, 2) := by decide +kernel
theorem d_Mod_region_63 : decode prog_9_method_21_code 63 = .ok (.idiv, 1) := by decide +kernel
theorem d_Mod_region_64 : decode prog_9_method_21_code 64 = .ok (.iload_n 2, 1) := by decide +kernel
theorem d_Mod_region_65 : decode prog_9_method_21_code 65 = .ok (.if_icmp .ge 17, 3) := by decide +kernel
theorem d_Mod_region_68 : decode prog_9_method_21_code 68 = .ok (.ldc2_w 139, 3) := by decide +kernel
theorem d_Mod_region_71 : decode prog_9_method_21_code 71 = .ok (.aload_n 0, 1) := by decide +kernel
theorem d_Mod_region_72 : decode prog_9_method_21_code 72 = .ok (.getfield 16, 3) := by decide +kernel
theorem d_Mod_region_75 : decode prog_9_method_21_code 75 = .ok (.iload 6, 2) := by decide +kernel
theorem d_Mod_region_77 : decode prog_9_method_21_code 77 = .ok (.laload, 1) := by decide +kernel
theorem d_Mod_region_78 : decode prog_9_method_21_code 78 = .ok (.lmul, 1) := by decide +kernel
theorem d_Mod_region_79 : decode prog_9_method_21_code 79 = .ok (.goto 10, 3) := by decide +kernel
theorem d_Mod_region_82 : decode prog_9_method_21_code 82 = .ok (.aload_n 0, 1) := by decide +kernel
theorem d_Mod_region_83 : decode prog_9_method_21_code 83 = .ok (.getfield 16, 3) := by decide +kernel
theorem d_Mod_region_86 : decode prog_9_method_21_code 86 = .ok (.iload 6, 2) := by decide +kernel
theorem d_Mod_region_88 : decode prog_9_method_21_code 88 = .ok (.laload, 1) := by decide +kernel
theorem d_Mod_region_89 : decode prog_9_method_21_code 89 = .ok (.lastore, 1) := by decide +kernel
theorem d_Mod_region_90 : decode prog_9_method_21_code 90 = .ok (.iinc 6 1, 3) := by decide +kernel
theorem d_Mod_region_93 : decode prog_9_method_21_code 93 = .ok (.goto (-67), 3) := by decide +kernel
theorem d_Mod_region_96 : decode prog_9_method_21_code 96 = .ok (.iconst 0, 1) := by decide +kernel
theorem d_Mod_region_97 : decode prog_9_method_21_code 97 = .ok (.istore 6, 2) := by decide +kernel
theorem d_Mod_region_99 : decode prog_9_method_21_code 99 = .ok (.iload 6, 2) := by decide +kernel
theorem d_Mod_region_101 : decode prog_9_method_21_code 101 = .ok (.iload_n 1, 1) := by decide +kernel
theorem d_Mod_region_102 : decode prog_9_method_21_code 102 = .ok (.if_icmp .ge 30, 3) := by decide +kernel
theorem d_Mod_region_105 : decode prog_9_method_21_code 105 = .ok (.iload_n 3, 1) := by decide +kernel
theorem d_Mod_region_106 : decode prog_9_method_21_code 106 = .ok (.ifCond .eq 26, 3) := by decide +kernel
theorem d_Mod_region_109 : decode prog_9_method_21_code 109 = .ok (.iload 4, 2) := by decide +kernel
theorem d_Mod_region_111 : decode prog_9_method_21_code 111 = .ok (.ifCond .eq 21, 3) := by decide +kernel
theorem d_Mod_region_114 : decode prog_9_method_21_code 114 = .ok (.aload_n 0, 1) := by decide +kernel
theorem d_Mod_region_115 : decode prog_9_method_21_code 115 = .ok (.iload 6, 2) := by decide +kernel
theorem d_Mod_region_117 : decode prog_9_method_21_code 117 = .ok (.bipush 16, 2) := by decide +kernel
theorem d_Mod_region_119 : decode prog_9_method_21_code 119 = .ok (.iload_n 2, 1) := by decide +kernel
theorem d_Mod_region_120 : decode prog_9_method_21_code 120 = .ok (.iconst 2, 1) := by decide +kernel
theorem d_Mod_region_121 : decode prog_9_method_21_code 121 = .ok (.idiv, 1) := by decide +kernel
theorem d_Mod_region_122 : decode prog_9_method_21_code 122 = .ok (.iconst 1, 1) := by decide +kernel
theorem d_Mod_region_123 : decode prog_9_method_21_code 123 = .ok (.invokevirtual 156, 3) := by decide +kernel
theorem d_Mod_region_126 : decode prog_9_method_21_code 126 = .ok (.iinc 6 1, 3) := by decide +kernel
theorem d_Mod_region_129 : decode prog_9_method_21_code 129 = .ok (.goto (-30), 3) := by decide +kernel
theorem d_Mod_region_132 : decode prog_9_method_21_code 132 = .ok (.iconst 0, 1) := by decide +kernel
theorem d_Mod_region_133 : decode prog_9_method_21_code 133 = .ok (.istore 6, 2) := by decide +kernel
theorem d_Mod_region_135 : decode prog_9_method_21_code 135 = .ok (.iload 6, 2) := by decide +kernel
theorem d_Mod_region_137 : decode prog_9_method_21_code 137 = .ok (.iload_n 2, 1) := by decide +kernel
theorem d_Mod_region_138 : decode prog_9_method_21_code 138 = .ok (.if_icmp .ge 24, 3) := by decide +kernel
theorem d_Mod_region_141 : decode prog_9_method_21_code 141 = .ok (.aload_n 0, 1) := by decide +kernel
theorem d_Mod_region_142 : decode prog_9_method_21_code 142 = .ok (.bipush 16, 2) := by decide +kernel
theorem d_Mod_region_144 : decode prog_9_method_21_code 144 = .ok (.iload 6, 2) := by decide +kernel
theorem d_Mod_region_146 : decode prog_9_method_21_code 146 = .ok (.imul, 1) := by decide +kernel
theorem d_Mod_region_147 : decode prog_9_method_21_code 147 = .ok (.iconst 1, 1) := by decide +kernel
theorem d_Mod_region_148 : decode prog_9_method_21_code 148 = .ok (.iload_n 1, 1) := by decide +kernel
theorem d_Mod_region_149 : decode prog_9_method_21_code 149 = .ok (.iconst 2, 1) := by decide +kernel
theorem d_Mod_region_150 : decode prog_9_method_21_code 150 = .ok (.idiv, 1) := by decide +kernel
theorem d_Mod_region_151 : decode prog_9_method_21_code 151 = .ok (.iload 4, 2) := by decide +kernel
theorem d_Mod_region_153 : decode prog_9_method_21_code 153 = .ok (.invokevirtual 156, 3) := by decide +kernel
theorem d_Mod_region_156 : decode prog_9_method_21_code 156 = .ok (.iinc 6 1, 3) := by decide +kernel
theorem d_Mod_region_159 : decode prog_9_method_21_code 159 = .ok (.goto (-24), 3) := by decide +kernel
theorem d_Mod_region_162 : decode prog_9_method_21_code 162 = .ok (.iconst 0, 1) := by decide +kernel
theorem d_Mod_region_163 : decode prog_9_method_21_code 163 = .ok (.istore 6, 2) := by decide +kernel
theorem d_Mod_region_165 : decode prog_9_method_21_code 165 = .ok (.iload 6, 2) := by decide +kernel
theorem d_Mod_region_167 : decode prog_9_method_21_code 167 = .ok (.iload_n 1, 1) := by decide +kernel
theorem d_Mod_region_168 : decode prog_9_method_21_code 168 = .ok (.if_icmp .ge 30, 3) := by decide +kernel
theorem d_Mod_region_171 : decode prog_9_method_21_code 171 = .ok (.iload_n 3, 1) := by decide +kernel
theorem d_Mod_region_172 : decode prog_9_method_21_code 172 = .ok (.ifCond .eq 26, 3) := by decide +kernel
theorem d_Mod_region_175 : decode prog_9_method_21_code 175 = .ok (.iload 4, 2) := by decide +kernel
theorem d_Mod_region_177 : decode prog_9_method_21_code 177 = .ok (.ifCond .ne 21, 3) := by decide +kernel
theorem d_Mod_region_180 : decode prog_9_method_21_code 180 = .ok (.aload_n 0, 1) := by decide +kernel
theorem d_Mod_region_181 : decode prog_9_method_21_code 181 = .ok (.iload 6, 2) := by decide +kernel
theorem d_Mod_region_183 : decode prog_9_method_21_code 183 = .ok (.bipush 16, 2) := by decide +kernel
theorem d_Mod_region_185 : decode prog_9_method_21_code 185 = .ok (.iload_n 2, 1) := by decide +kernel
theorem d_Mod_region_186 : decode prog_9_method_21_code 186 = .ok (.iconst 2, 1) := by decide +kernel
theorem d_Mod_region_187 : decode prog_9_method_21_code 187 = .ok (.idiv, 1) := by decide +kernel
theorem d_Mod_region_188 : decode prog_9_method_21_code 188 = .ok (.iconst 0, 1) := by decide +kernel
theorem d_Mod_region_189 : decode prog_9_method_21_code 189 = .ok (.invokevirtual 156, 3) := by decide +kernel
theorem d_Mod_region_192 : decode prog_9_method_21_code 192 = .ok (.iinc 6 1, 3) := by decide +kernel
theorem d_Mod_region_195 : decode prog_9_method_21_code 195 = .ok (.goto (-30), 3) := by decide +kernel
theorem d_Mod_region_198 : decode prog_9_method_21_code 198 = .ok (.iconst 0, 1) := by decide +kernel
theorem d_Mod_region_199 : decode prog_9_method_21_code 199 = .ok (.istore 6, 2) := by decide +kernel
theorem d_Mod_region_201 : decode prog_9_method_21_code 201 = .ok (.iload 6, 2) := by decide +kernel
theorem d_Mod_region_203 : decode prog_9_method_21_code 203 = .ok (.sipush 256, 3) := by decide +kernel
theorem d_Mod_region_206 : decode prog_9_method_21_code 206 = .ok (.if_icmp .ge 65, 3) := by decide +kernel
theorem d_Mod_region_209 : decode prog_9_method_21_code 209 = .ok (.iload 5, 2) := by decide +kernel
theorem d_Mod_region_211 : decode prog_9_method_21_code 211 = .ok (.ifCond .eq 60, 3) := by decide +kernel
theorem d_Mod_region_214 : decode prog_9_method_21_code 214 = .ok (.iload 4, 2) := by decide +kernel
theorem d_Mod_region_216 : decode prog_9_method_21_code 216 = .ok (.ifCond .eq 55, 3) := by decide +kernel
theorem d_Mod_region_219 : decode prog_9_method_21_code 219 = .ok (.aload_n 0, 1) := by decide +kernel
theorem d_Mod_region_220 : decode prog_9_method_21_code 220 = .ok (.getfield 16, 3) := by decide +kernel
theorem d_Mod_region_223 : decode prog_9_method_21_code 223 = .ok (.iload 6, 2) := by decide +kernel
theorem d_Mod_region_225 : decode prog_9_method_21_code 225 = .ok (.iload 6, 2) := by decide +kernel
theorem d_Mod_region_227 : decode prog_9_method_21_code 227 = .ok (.bipush 16, 2) := by decide +kernel
theorem d_Mod_region_229 : decode prog_9_method_21_code 229 = .ok (.irem, 1) := by decide +kernel
theorem d_Mod_region_230 : decode prog_9_method_21_code 230 = .ok (.iload_n 1, 1) := by decide +kernel
theorem d_Mod_region_231 : decode prog_9_method_21_code 231 = .ok (.if_icmp .ge 26, 3) := by decide +kernel
theorem d_Mod_region_234 : decode prog_9_method_21_code 234 = .ok (.iload 6, 2) := by decide +kernel
theorem d_Mod_region_236 : decode prog_9_method_21_code 236 = .ok (.bipush 16, 2) := by decide +kernel
theorem d_Mod_region_238 : decode prog_9_method_21_code 238 = .ok (.idiv, 1) := by decide +kernel
theorem d_Mod_region_239 : decode prog_9_method_21_code 239 = .ok (.iload_n 2, 1) := by decide +kernel
theorem d_Mod_region_240 : decode prog_9_method_21_code 240 = .ok (.if_icmp .ge 17, 3) := by decide +kernel
theorem d_Mod_region_243 : decode prog_9_method_21_code 243 = .ok (.aload_n 0, 1) := by decide +kernel
theorem d_Mod_region_244 : decode prog_9_method_21_code 244 = .ok (.getfield 16, 3) := by decide +kernel
theorem d_Mod_region_247 : decode prog_9_method_21_code 247 = .ok (.iload 6, 2) := by decide +kernel
theorem d_Mod_region_249 : decode prog_9_method_21_code 249 = .ok (.laload, 1) := by decide +kernel
theorem d_Mod_region_250 : decode prog_9_method_21_code 250 = .ok (.lconst 1, 1) := by decide +kernel
theorem d_Mod_region_251 : decode prog_9_method_21_code 251 = .ok (.ladd, 1) := by decide +kernel
theorem d_Mod_region_252 : decode prog_9_method_21_code 252 = .ok (.iconst 1, 1) := by decide +kernel
theorem d_Mod_region_253 : decode prog_9_method_21_code 253 = .ok (.lshr, 1) := by decide +kernel
theorem d_Mod_region_254 : decode prog_9_method_21_code 254 = .ok (.goto 10, 3) := by decide +kernel
theorem d_Mod_region_257 : decode prog_9_method_21_code 257 = .ok (.aload_n 0, 1) := by decide +kernel
theorem d_Mod_region_258 : decode prog_9_method_21_code 258 = .ok (.getfield 16, 3) := by decide +kernel
theorem d_Mod_region_261 : decode prog_9_method_21_code 261 = .ok (.iload 6, 2) := by decide +kernel
theorem d_Mod_region_263 : decode prog_9_method_21_code 263 = .ok (.laload, 1) := by decide +kernel
theorem d_Mod_region_264 : decode prog_9_method_21_code 264 = .ok (.lastore, 1) := by decide +kernel
theorem d_Mod_region_265 : decode prog_9_method_21_code 265 = .ok (.iinc 6 1, 3) := by decide +kernel
theorem d_Mod_region_268 : decode prog_9_method_21_code 268 = .ok (.goto (-67), 3) := by decide +kernel
theorem d_Mod_region_271 : decode prog_9_method_21_code 271 = .ok (.return_, 1) := by decide +kernel
abbrev w_Mod_doStep : List Cond := Cond.code y_Mod_doStep prog_9_method_19_code 11 none :: wl
abbrev r_Mod_doStep : Room := { frames := 2, cells := 0, slots := 0, locals := 60 }
set_option maxHeartbeats 4000000 in
set_option maxRecDepth 100000 in
theorem c_Mod_doStep (l : Launch) (G : k_G) (sz : Nat) (rM rP rk rG rW rK rE rst rev rod rp rb rbl : Nat) (st0 n0 un wd ht kd db ew ac dn pr nu de wr rd cn ba sz1 lb rm cu sp nz sl uz : Int) (ge go : Int → Int64) (hst : 0 ≤ st0 ∧ st0 ≤ 3) (hkd : 0 ≤ kd ∧ kd ≤ 6) (hn0 : 0 ≤ n0 ∧ n0 ≤ 8) (hun : un = 0 ∨ un = 1) : Met l y_Mod_doStep w_Mod_doStep r_Mod_doStep (k_P G [.ref rM, .int (iv (st0)), .int (iv (n0)), .int (iv (un))] [o_Mod rM wd ht rP rk rG rW rK kd db ew ac dn pr nu de rE rst wr rd rev rod cn rp rb ba sz1 lb rm cu sp nz rbl sl uz, (rev, al (gL G) 8 (ge)), (rod, al (gL G) 8 (go))] sz) (qv G (fun u : (Int → Int64) × (Int → Int64) => u = dsK kd st0 un n0 (ge, go)) (fun u : (Int → Int64) × (Int → Int64) => [o_Mod rM wd ht rP rk rG rW rK kd db ew ac dn pr nu de rE rst wr rd rev rod cn rp rb ba sz1 lb rm cu sp nz rbl sl uz, (rev, al (gL G) 8 (u.1)), (rod, al (gL G) 8 (u.2))]) (va_A [o_Mod rM wd ht rP rk rG rW rK kd db ew ac dn pr nu de rE rst wr rd rev rod cn rp rb ba sz1 lb rm cu sp nz rbl sl uz, (rev, al (gL G) 8 (ge)), (rod, al (gL G) 8 (go))] sz)) 0 0 (va_A [o_Mod rM wd ht rP rk rG rW rK kd db ew ac dn pr nu de rE rst wr rd rev rod cn rp rb ba sz1 lb rm cu sp nz rbl sl uz, (rev, al (gL G) 8 (ge)), (rod, al (gL G) 8 (go))] sz) := by
  refine k_met (fun A => qv G (fun u : (Int → Int64) × (Int → Int64) => u = dsK kd st0 un n0 (ge, go)) (fun u : (Int → Int64) × (Int → Int64) => [o_Mod rM wd ht rP rk rG rW rK kd db ew ac dn pr nu de rE rst wr rd rev rod cn rp rb ba sz1 lb rm cu sp nz rbl sl uz, (rev, al (gL G) 8 (u.1)), (rod, al (gL G) 8 (u.2))]) A) (fun A => A) (by decide) rfl (Nat.le_of_ble_eq_true rfl) (fun p e s m args below meth c ls A Q S hr hlk hnm hl hsz hP hK hD hS hA hT hQ => ?_)
  obtain ⟨hx, hb, hml, hown, hts⟩ := id S
  have hw : ∀ w ∈ wl, w.before args s = true := fun w h => hts w (List.mem_cons_of_mem _ h)
  have hl : lv_has ls 11 [(0, .ref rM), (1, .int (iv (st0))), (2, .int (iv (n0))), (3, .int (iv (un)))] := hl
  refine lv_aload_n hx hb d_Mod_doStep_0 rfl (lv_at hl 0 rfl) ?_
  refine lv_iload_n hx hb d_Mod_doStep_1 rfl (lv_at hl 1 rfl) ?_
  refine k_ciR (k_rv S (c_Mod_changesOdd l G _ rM rP rk rG rW rK rE rst rev rod rp rb rbl st0 wd ht kd db ew ac dn pr nu de wr rd cn ba sz1 lb rm cu sp nz sl uz (by omega) (by omega)) 1 m4_70 m4_67 m4_69 mp_29 m1_9 (by decide +kernel) (by decide) rfl rfl (k_preV (q0 := 0) hK hP hD hS hA hT rfl rfl [0] (by decide) rfl) rfl hl.1 rfl (Nat.le_of_ble_eq_true rfl) d_Mod_doStep_2 ⟨Nat.le_of_ble_eq_true rfl, Nat.le_of_ble_eq_true rfl⟩) (fun r2 h2 => ?_)
  subst h2
  refine lv_istore hx hb d_Mod_doStep_5 hl (by decide) rfl (fun ls hl => ?_)
  have hl : lv_has ls 11 [(4, .int (iv (bI (cOd kd st0)))), (0, .ref rM), (1, .int (iv (st0))), (2, .int (iv (n0))), (3, .int (iv (un)))] := hl
  refine lv_aload_n hx hb d_Mod_doStep_7 rfl (lv_at hl 1 rfl) ?_
  refine lv_iload_n hx hb d_Mod_doStep_8 rfl (lv_at hl 2 rfl) ?_
  refine k_ciR (k_rv S (c_Mod_takesAway l G _ rM rP rk rG rW rK rE rst rev rod rp rb rbl st0 wd ht kd db ew ac dn pr nu de wr rd cn ba sz1 lb rm cu sp nz sl uz (by omega) (by omega)) 1 m4_74 m4_71 m4_73 mp_30 m1_9 (by decide +kernel) (by decide) rfl rfl (k_preV (q0 := 0) hK hP hD hS hA hT rfl rfl [0] (by decide) rfl) rfl hl.1 rfl (Nat.le_of_ble_eq_true rfl) d_Mod_doStep_9 ⟨Nat.le_of_ble_eq_true rfl, Nat.le_of_ble_eq_true rfl⟩) (fun r9 h9 => ?_)
  subst h9
  refine lv_iload_n hx hb d_Mod_doStep_12 rfl (lv_at hl 4 rfl) ?_
  refine k_icmp_eq (tgt := 20) hx hb d_Mod_doStep_13 (by decide) (bI_r _) (by omega) (fun hc13 => ?_) (fun hc13 => ?_)
  · refine lv_iconst (v := iv (0)) hx hb d_Mod_doStep_20 rfl ?_
    refine lv_istore hx hb d_Mod_doStep_21 hl (by decide) rfl (fun ls hl => ?_)
    have hl : lv_has ls 11 [(5, .int (iv (0))), (4, .int (iv (bI (cOd kd st0)))), (0, .ref rM), (1, .int (iv (st0))), (2, .int (iv (n0))), (3, .int (iv (un)))] := hl
    refine lv_iconst (v := iv (0)) hx hb d_Mod_doStep_23 rfl ?_
    refine lv_istore hx hb d_Mod_doStep_24 hl (by decide) rfl (fun ls hl => ?_)
    have hl : lv_has ls 11 [(6, .int (iv (0))), (5, .int (iv (0))), (4, .int (iv (bI (cOd kd st0)))), (0, .ref rM), (1, .int (iv (st0))), (2, .int (iv (n0))), (3, .int (iv (un)))] := hl
    refine lo_up (P := fun i => ∀ (ls : Array Slot) (H : Heap) (locs : List Loc) (ge1 : Int → Int64) (go1 : Int → Int64), lv_has ls 11 [(0, .ref rM), (1, .int (iv (st0))), (2, .int (iv (n0))), (3, .int (iv (un))), (4, .int (iv (bI (cOd kd st0)))), (5, .int (iv (0))), (6, .int (iv (i)))] → va_P (gD G) classes [o_Mod rM wd ht rP rk rG rW rK kd db ew ac dn pr nu de rE rst wr rd rev rod cn rp rb ba sz1 lb rm cu sp nz rbl sl uz, (rev, al (gL G) 8 (ge1)), (rod, al (gL G) 8 (go1))] H → va_D A [o_Mod rM wd ht rP rk rG rW rK kd db ew ac dn pr nu de rE rst wr rd rev rod cn rp rb ba sz1 lb rm cu sp nz rbl sl uz, (rev, al (gL G) 8 (ge1)), (rod, al (gL G) 8 (go1))] → va_S A s.heap H locs → ((ge1, go1) = it (dsf kd st0 un n0) 0 i (ge, go)) → W p l e r_Mod_doStep s m args below meth c H locs 0 0 Q (F0 m 26 ls [])) (a := 0) (b := n0) (fun i hii hji ihi => ?_) _ _ _ ge go (lv_sub hl [3, 4, 5, 6, 2, 1, 0] rfl) hP hD hS (it_self _ _ _).symm
    intro ls H locs ge1 go1 hl hP hD hS hs
    refine lv_iload hx hb d_Mod_doStep_26 (lv_at hl 6 rfl) ?_
    refine lv_iload_n hx hb d_Mod_doStep_28 rfl (lv_at hl 2 rfl) ?_
    refine k_icmp_ge (tgt := 127) hx hb d_Mod_doStep_29 (by decide) (by omega) (by omega) (fun hc29 => ?_) (fun hc29 => ?_)
    · exact k_vret hx hb hr hlk hQ ((ge1, go1)) (by unfold dsK; rw [hs]; exact it_x _ _ hc29 hji) hP hD hS d_Mod_doStep_127
    · refine lv_aload_n hx hb d_Mod_doStep_32 rfl (lv_at hl 0 rfl) ?_
      refine lv_iload_n hx hb d_Mod_doStep_33 rfl (lv_at hl 1 rfl) ?_
      refine lv_iload hx hb d_Mod_doStep_34 (lv_at hl 6 rfl) ?_
      refine lv_iload_n hx hb d_Mod_doStep_36 rfl (lv_at hl 2 rfl) ?_
      refine k_clR (k_rv S (c_Mod_amount l G _ rM rP rk rG rW rK rE rst rev rod rp rb rbl st0 i n0 wd ht kd db ew ac dn pr nu de wr rd cn ba sz1 lb rm cu sp nz sl uz ge1 go1 (by omega) (by omega) (by omega) (by omega)) 3 m4_78 m4_75 m4_77 mp_31 m1_9 (by decide +kernel) (by decide) rfl rfl (k_preV (q0 := 0) hK hP hD hS hA hT rfl rfl [0, 1, 2] (by decide) rfl) rfl hl.1 rfl (Nat.le_of_ble_eq_true rfl) d_Mod_doStep_37 ⟨Nat.le_of_ble_eq_true rfl, Nat.le_of_ble_eq_true rfl⟩) (fun r37 h37 => ?_)
      subst h37
      refine lv_lstore hx hb d_Mod_doStep_40 hl (by decide) rfl (fun ls hl => ?_)
      have hl : lv_has ls 11 [(7, .long (amL kd st0 ge1 go1 i n0)), (0, .ref rM), (1, .int (iv (st0))), (2, .int (iv (n0))), (3, .int (iv (un))), (4, .int (iv (bI (cOd kd st0)))), (5, .int (iv (0))), (6, .int (iv (i)))] := hl
      refine lv_iload hx hb d_Mod_doStep_42 (lv_at hl 6 rfl) ?_
      refine k_if_eq (tgt := 53) hx hb d_Mod_doStep_44 (by decide) (by omega) (fun hc44 => ?_) (fun hc44 => absurd hc44 (by omega))
      refine lv_lload hx hb d_Mod_doStep_53 (lv_at hl 0 rfl) ?_
      refine lv_lstore hx hb d_Mod_doStep_55 hl (by decide) rfl (fun ls hl => ?_)
      have hl : lv_has ls 11 [(9, .long (amL kd st0 ge1 go1 i n0)), (7, .long (amL kd st0 ge1 go1 i n0)), (0, .ref rM), (1, .int (iv (st0))), (2, .int (iv (n0))), (3, .int (iv (un))), (4, .int (iv (bI (cOd kd st0)))), (5, .int (iv (0))), (6, .int (iv (i)))] := hl
      refine lv_aload_n hx hb d_Mod_doStep_57 rfl (lv_at hl 2 rfl) ?_
      refine va_get (D := gD G) (ci := 7) (v := .ref rev) (C := R_Mod) (T := F_Mod) (N := 34) hx hb hw in_Mod hown hK hP 0 rfl rfl 19 (by decide) (hw _ m3_143) (fun _ h => h) rfl d_Mod_doStep_58 ?_
      refine lv_iload hx hb d_Mod_doStep_61 (lv_at hl 8 rfl) ?_
      refine lv_iload hx hb d_Mod_doStep_63 (lv_at hl 6 rfl) ?_
      refine k_ifb_eq (tgt := 78) hx hb d_Mod_doStep_65 (by decide) (fun hc65 => ?_) (fun hc65 => ?_)
      · refine lv_aload_n hx hb d_Mod_doStep_78 rfl (lv_at hl 2 rfl) ?_
        refine va_get (D := gD G) (ci := 7) (v := .ref rev) (C := R_Mod) (T := F_Mod) (N := 34) hx hb hw in_Mod hown hK hP 0 rfl rfl 19 (by decide) (hw _ m3_143) (fun _ h => h) rfl d_Mod_doStep_79 ?_
        refine lv_iload hx hb d_Mod_doStep_82 (lv_at hl 8 rfl) ?_
        refine k_lal hx hb hK hP 1 1 rfl rfl (by decide) (by omega) d_Mod_doStep_84 ?_
        refine lv_lload hx hb d_Mod_doStep_85 (lv_at hl 0 rfl) ?_
        refine lv_ladd hx hb d_Mod_doStep_87 ?_
        refine k_las hx hb hK hP hD hS 1 1 rfl rfl (by decide) (by omega) d_Mod_doStep_88 (fun H locs hP hD hS => ?_)
        have hP : va_P (gD G) classes [o_Mod rM wd ht rP rk rG rW rK kd db ew ac dn pr nu de rE rst wr rd rev rod cn rp rb ba sz1 lb rm cu sp nz rbl sl uz, (rev, al (gL G) 8 (up ge1 i ((ge1 i) + (amL kd st0 ge1 go1 i n0)))), (rod, al (gL G) 8 (go1))] H := hP
        have hD : va_D A [o_Mod rM wd ht rP rk rG rW rK kd db ew ac dn pr nu de rE rst wr rd rev rod cn rp rb ba sz1 lb rm cu sp nz rbl sl uz, (rev, al (gL G) 8 (up ge1 i ((ge1 i) + (amL kd st0 ge1 go1 i n0)))), (rod, al (gL G) 8 (go1))] := hD
        refine lv_aload_n hx hb d_Mod_doStep_89 rfl (lv_at hl 2 rfl) ?_
        refine va_get (D := gD G) (ci := 7) (v := .ref rod) (C := R_Mod) (T := F_Mod) (N := 34) hx hb hw in_Mod hown hK hP 0 rfl rfl 20 (by decide) (hw _ m3_144) (fun _ h => h) rfl d_Mod_doStep_90 ?_
        refine lv_iload hx hb d_Mod_doStep_93 (lv_at hl 8 rfl) ?_
        refine lv_iload hx hb d_Mod_doStep_95 (lv_at hl 6 rfl) ?_
        refine k_ifb_eq (tgt := 113) hx hb d_Mod_doStep_97 (by decide) (fun hc97 => ?_) (fun hc97 => absurd hc97 hc65)
        refine lv_aload_n hx hb d_Mod_doStep_113 rfl (lv_at hl 2 rfl) ?_
        refine va_get (D := gD G) (ci := 7) (v := .ref rod) (C := R_Mod) (T := F_Mod) (N := 34) hx hb hw in_Mod hown hK hP 0 rfl rfl 20 (by decide) (hw _ m3_144) (fun _ h => h) rfl d_Mod_doStep_114 ?_
        refine lv_iload hx hb d_Mod_doStep_117 (lv_at hl 8 rfl) ?_
        refine k_lal hx hb hK hP 2 1 rfl rfl (by decide) (by omega) d_Mod_doStep_119 ?_
        refine k_las hx hb hK hP hD hS 2 1 rfl rfl (by decide) (by omega) d_Mod_doStep_120 (fun H locs hP hD hS => ?_)
        have hP : va_P (gD G) classes [o_Mod rM wd ht rP rk rG rW rK kd db ew ac dn pr nu de rE rst wr rd rev rod cn rp rb ba sz1 lb rm cu sp nz rbl sl uz, (rev, al (gL G) 8 (up ge1 i ((ge1 i) + (amL kd st0 ge1 go1 i n0)))), (rod, al (gL G) 8 (up go1 i (go1 i)))] H := hP
        have hD : va_D A [o_Mod rM wd ht rP rk rG rW rK kd db ew ac dn pr nu de rE rst wr rd rev rod cn rp rb ba sz1 lb rm cu sp nz rbl sl uz, (rev, al (gL G) 8 (up ge1 i ((ge1 i) + (amL kd st0 ge1 go1 i n0)))), (rod, al (gL G) 8 (up go1 i (go1 i)))] := hD
        refine lv_iinc (k := 8) (v := iv (i + 1)) hx hb d_Mod_doStep_121 hl rfl (iv_add _ _) (by decide) rfl (fun ls hl => ?_)
        have hl : lv_has ls 11 [(6, .int (iv (i + 1))), (9, .long (amL kd st0 ge1 go1 i n0)), (7, .long (amL kd st0 ge1 go1 i n0)), (0, .ref rM), (1, .int (iv (st0))), (2, .int (iv (n0))), (3, .int (iv (un))), (4, .int (iv (bI (cOd kd st0)))), (5, .int (iv (0)))] := hl
        refine lv_goto (tgt := 26) hx hb d_Mod_doStep_124 (by decide) ?_
        exact ihi (by omega) _ _ _ (up ge1 i ((ge1 i) + (amL kd st0 ge1 go1 i n0))) (up go1 i (go1 i)) (lv_sub hl [3, 4, 5, 6, 7, 8, 0] rfl) hP hD hS (by rw [it_s _ _ hii, ← hs]; unfold dsf; dsimp only; (first | rw [if_pos hc65] | rw [if_neg hc65]); (first | rw [if_pos hc13] | rw [if_neg hc13]))
      · refine lv_aload_n hx hb d_Mod_doStep_68 rfl (lv_at hl 2 rfl) ?_
        refine va_get (D := gD G) (ci := 7) (v := .ref rev) (C := R_Mod) (T := F_Mod) (N := 34) hx hb hw in_Mod hown hK hP 0 rfl rfl 19 (by decide) (hw _ m3_143) (fun _ h => h) rfl d_Mod_doStep_69 ?_
        refine lv_iload hx hb d_Mod_doStep_72 (lv_at hl 8 rfl) ?_
        refine k_lal hx hb hK hP 1 1 rfl rfl (by decide) (by omega) d_Mod_doStep_74 ?_
        refine lv_goto (tgt := 88) hx hb d_Mod_doStep_75 (by decide) ?_
        refine k_las hx hb hK hP hD hS 1 1 rfl rfl (by decide) (by omega) d_Mod_doStep_88 (fun H locs hP hD hS => ?_)
        have hP : va_P (gD G) classes [o_Mod rM wd ht rP rk rG rW rK kd db ew ac dn pr nu de rE rst wr rd rev rod cn rp rb ba sz1 lb rm cu sp nz rbl sl uz, (rev, al (gL G) 8 (up ge1 i (ge1 i))), (rod, al (gL G) 8 (go1))] H := hP
        have hD : va_D A [o_Mod rM wd ht rP rk rG rW rK kd db ew ac dn pr nu de rE rst wr rd rev rod cn rp rb ba sz1 lb rm cu sp nz rbl sl uz, (rev, al (gL G) 8 (up ge1 i (ge1 i))), (rod, al (gL G) 8 (go1))] := hD
        refine lv_aload_n hx hb d_Mod_doStep_89 rfl (lv_at hl 2 rfl) ?_
        refine va_get (D := gD G) (ci := 7) (v := .ref rod) (C := R_Mod) (T := F_Mod) (N := 34) hx hb hw in_Mod hown hK hP 0 rfl rfl 20 (by decide) (hw _ m3_144) (fun _ h => h) rfl d_Mod_doStep_90 ?_
        refine lv_iload hx hb d_Mod_doStep_93 (lv_at hl 8 rfl) ?_
        refine lv_iload hx hb d_Mod_doStep_95 (lv_at hl 6 rfl) ?_
        refine k_ifb_eq (tgt := 113) hx hb d_Mod_doStep_97 (by decide) (fun hc97 => absurd hc97 (fun q => q hc65)) (fun hc97 => ?_)
        refine lv_aload_n hx hb d_Mod_doStep_100 rfl (lv_at hl 2 rfl) ?_
        refine va_get (D := gD G) (ci := 7) (v := .ref rod) (C := R_Mod) (T := F_Mod) (N := 34) hx hb hw in_Mod hown hK hP 0 rfl rfl 20 (by decide) (hw _ m3_144) (fun _ h => h) rfl d_Mod_doStep_101 ?_
        refine lv_iload hx hb d_Mod_doStep_104 (lv_at hl 8 rfl) ?_
        refine k_lal hx hb hK hP 2 1 rfl rfl (by decide) (by omega) d_Mod_doStep_106 ?_
        refine lv_lload hx hb d_Mod_doStep_107 (lv_at hl 0 rfl) ?_
        refine lv_ladd hx hb d_Mod_doStep_109 ?_
        refine lv_goto (tgt := 120) hx hb d_Mod_doStep_110 (by decide) ?_
        refine k_las hx hb hK hP hD hS 2 1 rfl rfl (by decide) (by omega) d_Mod_doStep_120 (fun H locs hP hD hS => ?_)
        have hP : va_P (gD G) classes [o_Mod rM wd ht rP rk rG rW rK kd db ew ac dn pr nu de rE rst wr rd rev rod cn rp rb ba sz1 lb rm cu sp nz rbl sl uz, (rev, al (gL G) 8 (up ge1 i (ge1 i))), (rod, al (gL G) 8 (up go1 i ((go1 i) + (amL kd st0 ge1 go1 i n0))))] H := hP
        have hD : va_D A [o_Mod rM wd ht rP rk rG rW rK kd db ew ac dn pr nu de rE rst wr rd rev rod cn rp rb ba sz1 lb rm cu sp nz rbl sl uz, (rev, al (gL G) 8 (up ge1 i (ge1 i))), (rod, al (gL G) 8 (up go1 i ((go1 i) + (amL kd st0 ge1 go1 i n0))))] := hD
        refine lv_iinc (k := 8) (v := iv (i + 1)) hx hb d_Mod_doStep_121 hl rfl (iv_add _ _) (by decide) rfl (fun ls hl => ?_)
        have hl : lv_has ls 11 [(6, .int (iv (i + 1))), (9, .long (amL kd st0 ge1 go1 i n0)), (7, .long (amL kd st0 ge1 go1 i n0)), (0, .ref rM), (1, .int (iv (st0))), (2, .int (iv (n0))), (3, .int (iv (un))), (4, .int (iv (bI (cOd kd st0)))), (5, .int (iv (0)))] := hl
        refine lv_goto (tgt := 26) hx hb d_Mod_doStep_124 (by decide) ?_
        exact ihi (by omega) _ _ _ (up ge1 i (ge1 i)) (up go1 i ((go1 i) + (amL kd st0 ge1 go1 i n0))) (lv_sub hl [3, 4, 5, 6, 7, 8, 0] rfl) hP hD hS (by rw [it_s _ _ hii, ← hs]; unfold dsf; dsimp only; (first | rw [if_pos hc65] | rw [if_neg hc65]); (first | rw [if_pos hc13] | rw [if_neg hc13]))
  · refine lv_iconst (v := iv (1)) hx hb d_Mod_doStep_16 rfl ?_
    refine lv_goto (tgt := 21) hx hb d_Mod_doStep_17 (by decide) ?_
    refine lv_istore hx hb d_Mod_doStep_21 hl (by decide) rfl (fun ls hl => ?_)
    have hl : lv_has ls 11 [(5, .int (iv (1))), (4, .int (iv (bI (cOd kd st0)))), (0, .ref rM), (1, .int (iv (st0))), (2, .int (iv (n0))), (3, .int (iv (un)))] := hl
    refine lv_iconst (v := iv (0)) hx hb d_Mod_doStep_23 rfl ?_
    refine lv_istore hx hb d_Mod_doStep_24 hl (by decide) rfl (fun ls hl => ?_)
    have hl : lv_has ls 11 [(6, .int (iv (0))), (5, .int (iv (1))), (4, .int (iv (bI (cOd kd st0)))), (0, .ref rM), (1, .int (iv (st0))), (2, .int (iv (n0))), (3, .int (iv (un)))] := hl
    refine lo_up (P := fun i => ∀ (ls : Array Slot) (H : Heap) (locs : List Loc) (ge1 : Int → Int64) (go1 : Int → Int64), lv_has ls 11 [(0, .ref rM), (1, .int (iv (st0))), (2, .int (iv (n0))), (3, .int (iv (un))), (4, .int (iv (bI (cOd kd st0)))), (5, .int (iv (1))), (6, .int (iv (i)))] → va_P (gD G) classes [o_Mod rM wd ht rP rk rG rW rK kd db ew ac dn pr nu de rE rst wr rd rev rod cn rp rb ba sz1 lb rm cu sp nz rbl sl uz, (rev, al (gL G) 8 (ge1)), (rod, al (gL G) 8 (go1))] H → va_D A [o_Mod rM wd ht rP rk rG rW rK kd db ew ac dn pr nu de rE rst wr rd rev rod cn rp rb ba sz1 lb rm cu sp nz rbl sl uz, (rev, al (gL G) 8 (ge1)), (rod, al (gL G) 8 (go1))] → va_S A s.heap H locs → ((ge1, go1) = it (dsf kd st0 un n0) 0 i (ge, go)) → W p l e r_Mod_doStep s m args below meth c H locs 0 0 Q (F0 m 26 ls [])) (a := 0) (b := n0) (fun i hii hji ihi => ?_) _ _ _ ge go (lv_sub hl [3, 4, 5, 6, 2, 1, 0] rfl) hP hD hS (it_self _ _ _).symm
    intro ls H locs ge1 go1 hl hP hD hS hs
    refine lv_iload hx hb d_Mod_doStep_26 (lv_at hl 6 rfl) ?_
    refine lv_iload_n hx hb d_Mod_doStep_28 rfl (lv_at hl 2 rfl) ?_
    refine k_icmp_ge (tgt := 127) hx hb d_Mod_doStep_29 (by decide) (by omega) (by omega) (fun hc29 => ?_) (fun hc29 => ?_)
    · exact k_vret hx hb hr hlk hQ ((ge1, go1)) (by unfold dsK; rw [hs]; exact it_x _ _ hc29 hji) hP hD hS d_Mod_doStep_127
    · refine lv_aload_n hx hb d_Mod_doStep_32 rfl (lv_at hl 0 rfl) ?_
      refine lv_iload_n hx hb d_Mod_doStep_33 rfl (lv_at hl 1 rfl) ?_
      refine lv_iload hx hb d_Mod_doStep_34 (lv_at hl 6 rfl) ?_
      refine lv_iload_n hx hb d_Mod_doStep_36 rfl (lv_at hl 2 rfl) ?_
      refine k_clR (k_rv S (c_Mod_amount l G _ rM rP rk rG rW rK rE rst rev rod rp rb rbl st0 i n0 wd ht kd db ew ac dn pr nu de wr rd cn ba sz1 lb rm cu sp nz sl uz ge1 go1 (by omega) (by omega) (by omega) (by omega)) 3 m4_78 m4_75 m4_77 mp_31 m1_9 (by decide +kernel) (by decide) rfl rfl (k_preV (q0 := 0) hK hP hD hS hA hT rfl rfl [0, 1, 2] (by decide) rfl) rfl hl.1 rfl (Nat.le_of_ble_eq_true rfl) d_Mod_doStep_37 ⟨Nat.le_of_ble_eq_true rfl, Nat.le_of_ble_eq_true rfl⟩) (fun r37 h37 => ?_)
      subst h37
      refine lv_lstore hx hb d_Mod_doStep_40 hl (by decide) rfl (fun ls hl => ?_)
      have hl : lv_has ls 11 [(7, .long (amL kd st0 ge1 go1 i n0)), (0, .ref rM), (1, .int (iv (st0))), (2, .int (iv (n0))), (3, .int (iv (un))), (4, .int (iv (bI (cOd kd st0)))), (5, .int (iv (1))), (6, .int (iv (i)))] := hl
      refine lv_iload hx hb d_Mod_doStep_42 (lv_at hl 6 rfl) ?_
      refine k_if_eq (tgt := 53) hx hb d_Mod_doStep_44 (by decide) (by omega) (fun hc44 => absurd hc44 (by omega)) (fun hc44 => ?_)
      refine lv_lload hx hb d_Mod_doStep_47 (lv_at hl 0 rfl) ?_
      refine lv_lneg hx hb d_Mod_doStep_49 ?_
      refine lv_goto (tgt := 55) hx hb d_Mod_doStep_50 (by decide) ?_
      refine lv_lstore hx hb d_Mod_doStep_55 hl (by decide) rfl (fun ls hl => ?_)
      have hl : lv_has ls 11 [(9, .long (-(amL kd st0 ge1 go1 i n0))), (7, .long (amL kd st0 ge1 go1 i n0)), (0, .ref rM), (1, .int (iv (st0))), (2, .int (iv (n0))), (3, .int (iv (un))), (4, .int (iv (bI (cOd kd st0)))), (5, .int (iv (1))), (6, .int (iv (i)))] := hl
      refine lv_aload_n hx hb d_Mod_doStep_57 rfl (lv_at hl 2 rfl) ?_
      refine va_get (D := gD G) (ci := 7) (v := .ref rev) (C := R_Mod) (T := F_Mod) (N := 34) hx hb hw in_Mod hown hK hP 0 rfl rfl 19 (by decide) (hw _ m3_143) (fun _ h => h) rfl d_Mod_doStep_58 ?_
      refine lv_iload hx hb d_Mod_doStep_61 (lv_at hl 8 rfl) ?_
      refine lv_iload hx hb d_Mod_doStep_63 (lv_at hl 6 rfl) ?_
      refine k_ifb_eq (tgt := 78) hx hb d_Mod_doStep_65 (by decide) (fun hc65 => ?_) (fun hc65 => ?_)
      · refine lv_aload_n hx hb d_Mod_doStep_78 rfl (lv_at hl 2 rfl) ?_
        refine va_get (D := gD G) (ci := 7) (v := .ref rev) (C := R_Mod) (T := F_Mod) (N := 34) hx hb hw in_Mod hown hK hP 0 rfl rfl 19 (by decide) (hw _ m3_143) (fun _ h => h) rfl d_Mod_doStep_79 ?_
        refine lv_iload hx hb d_Mod_doStep_82 (lv_at hl 8 rfl) ?_
        refine k_lal hx hb hK hP 1 1 rfl rfl (by decide) (by omega) d_Mod_doStep_84 ?_
        refine lv_lload hx hb d_Mod_doStep_85 (lv_at hl 0 rfl) ?_
        refine lv_ladd hx hb d_Mod_doStep_87 ?_
        refine k_las hx hb hK hP hD hS 1 1 rfl rfl (by decide) (by omega) d_Mod_doStep_88 (fun H locs hP hD hS => ?_)
        have hP : va_P (gD G) classes [o_Mod rM wd ht rP rk rG rW rK kd db ew ac dn pr nu de rE rst wr rd rev rod cn rp rb ba sz1 lb rm cu sp nz rbl sl uz, (rev, al (gL G) 8 (up ge1 i ((ge1 i) + (-(amL kd st0 ge1 go1 i n0))))), (rod, al (gL G) 8 (go1))] H := hP
        have hD : va_D A [o_Mod rM wd ht rP rk rG rW rK kd db ew ac dn pr nu de rE rst wr rd rev rod cn rp rb ba sz1 lb rm cu sp nz rbl sl uz, (rev, al (gL G) 8 (up ge1 i ((ge1 i) + (-(amL kd st0 ge1 go1 i n0))))), (rod, al (gL G) 8 (go1))] := hD
        refine lv_aload_n hx hb d_Mod_doStep_89 rfl (lv_at hl 2 rfl) ?_
        refine va_get (D := gD G) (ci := 7) (v := .ref rod) (C := R_Mod) (T := F_Mod) (N := 34) hx hb hw in_Mod hown hK hP 0 rfl rfl 20 (by decide) (hw _ m3_144) (fun _ h => h) rfl d_Mod_doStep_90 ?_
        refine lv_iload hx hb d_Mod_doStep_93 (lv_at hl 8 rfl) ?_
        refine lv_iload hx hb d_Mod_doStep_95 (lv_at hl 6 rfl) ?_
        refine k_ifb_eq (tgt := 113) hx hb d_Mod_doStep_97 (by decide) (fun hc97 => ?_) (fun hc97 => absurd hc97 hc65)
        refine lv_aload_n hx hb d_Mod_doStep_113 rfl (lv_at hl 2 rfl) ?_
        refine va_get (D := gD G) (ci := 7) (v := .ref rod) (C := R_Mod) (T := F_Mod) (N := 34) hx hb hw in_Mod hown hK hP 0 rfl rfl 20 (by decide) (hw _ m3_144) (fun _ h => h) rfl d_Mod_doStep_114 ?_
        refine lv_iload hx hb d_Mod_doStep_117 (lv_at hl 8 rfl) ?_
        refine k_lal hx hb hK hP 2 1 rfl rfl (by decide) (by omega) d_Mod_doStep_119 ?_
        refine k_las hx hb hK hP hD hS 2 1 rfl rfl (by decide) (by omega) d_Mod_doStep_120 (fun H locs hP hD hS => ?_)
        have hP : va_P (gD G) classes [o_Mod rM wd ht rP rk rG rW rK kd db ew ac dn pr nu de rE rst wr rd rev rod cn rp rb ba sz1 lb rm cu sp nz rbl sl uz, (rev, al (gL G) 8 (up ge1 i ((ge1 i) + (-(amL kd st0 ge1 go1 i n0))))), (rod, al (gL G) 8 (up go1 i (go1 i)))] H := hP
        have hD : va_D A [o_Mod rM wd ht rP rk rG rW rK kd db ew ac dn pr nu de rE rst wr rd rev rod cn rp rb ba sz1 lb rm cu sp nz rbl sl uz, (rev, al (gL G) 8 (up ge1 i ((ge1 i) + (-(amL kd st0 ge1 go1 i n0))))), (rod, al (gL G) 8 (up go1 i (go1 i)))] := hD
        refine lv_iinc (k := 8) (v := iv (i + 1)) hx hb d_Mod_doStep_121 hl rfl (iv_add _ _) (by decide) rfl (fun ls hl => ?_)
        have hl : lv_has ls 11 [(6, .int (iv (i + 1))), (9, .long (-(amL kd st0 ge1 go1 i n0))), (7, .long (amL kd st0 ge1 go1 i n0)), (0, .ref rM), (1, .int (iv (st0))), (2, .int (iv (n0))), (3, .int (iv (un))), (4, .int (iv (bI (cOd kd st0)))), (5, .int (iv (1)))] := hl
        refine lv_goto (tgt := 26) hx hb d_Mod_doStep_124 (by decide) ?_
        exact ihi (by omega) _ _ _ (up ge1 i ((ge1 i) + (-(amL kd st0 ge1 go1 i n0)))) (up go1 i (go1 i)) (lv_sub hl [3, 4, 5, 6, 7, 8, 0] rfl) hP hD hS (by rw [it_s _ _ hii, ← hs]; unfold dsf; dsimp only; (first | rw [if_pos hc65] | rw [if_neg hc65]); (first | rw [if_pos hc13] | rw [if_neg hc13]))
      · refine lv_aload_n hx hb d_Mod_doStep_68 rfl (lv_at hl 2 rfl) ?_
        refine va_get (D := gD G) (ci := 7) (v := .ref rev) (C := R_Mod) (T := F_Mod) (N := 34) hx hb hw in_Mod hown hK hP 0 rfl rfl 19 (by decide) (hw _ m3_143) (fun _ h => h) rfl d_Mod_doStep_69 ?_
        refine lv_iload hx hb d_Mod_doStep_72 (lv_at hl 8 rfl) ?_
        refine k_lal hx hb hK hP 1 1 rfl rfl (by decide) (by omega) d_Mod_doStep_74 ?_
        refine lv_goto (tgt := 88) hx hb d_Mod_doStep_75 (by decide) ?_
        refine k_las hx hb hK hP hD hS 1 1 rfl rfl (by decide) (by omega) d_Mod_doStep_88 (fun H locs hP hD hS => ?_)
        have hP : va_P (gD G) classes [o_Mod rM wd ht rP rk rG rW rK kd db ew ac dn pr nu de rE rst wr rd rev rod cn rp rb ba sz1 lb rm cu sp nz rbl sl uz, (rev, al (gL G) 8 (up ge1 i (ge1 i))), (rod, al (gL G) 8 (go1))] H := hP
        have hD : va_D A [o_Mod rM wd ht rP rk rG rW rK kd db ew ac dn pr nu de rE rst wr rd rev rod cn rp rb ba sz1 lb rm cu sp nz rbl sl uz, (rev, al (gL G) 8 (up ge1 i (ge1 i))), (rod, al (gL G) 8 (go1))] := hD
        refine lv_aload_n hx hb d_Mod_doStep_89 rfl (lv_at hl 2 rfl) ?_
        refine va_get (D := gD G) (ci := 7) (v := .ref rod) (C := R_Mod) (T := F_Mod) (N := 34) hx hb hw in_Mod hown hK hP 0 rfl rfl 20 (by decide) (hw _ m3_144) (fun _ h => h) rfl d_Mod_doStep_90 ?_
        refine lv_iload hx hb d_Mod_doStep_93 (lv_at hl 8 rfl) ?_
        refine lv_iload hx hb d_Mod_doStep_95 (lv_at hl 6 rfl) ?_
        refine k_ifb_eq (tgt := 113) hx hb d_Mod_doStep_97 (by decide) (fun hc97 => absurd hc97 (fun q => q hc65)) (fun hc97 => ?_)
        refine lv_aload_n hx hb d_Mod_doStep_100 rfl (lv_at hl 2 rfl) ?_
        refine va_get (D := gD G) (ci := 7) (v := .ref rod) (C := R_Mod) (T := F_Mod) (N := 34) hx hb hw in_Mod hown hK hP 0 rfl rfl 20 (by decide) (hw _ m3_144) (fun _ h => h) rfl d_Mod_doStep_101 ?_
        refine lv_iload hx hb d_Mod_doStep_104 (lv_at hl 8 rfl) ?_
        refine k_lal hx hb hK hP 2 1 rfl rfl (by decide) (by omega) d_Mod_doStep_106 ?_
        refine lv_lload hx hb d_Mod_doStep_107 (lv_at hl 0 rfl) ?_
        refine lv_ladd hx hb d_Mod_doStep_109 ?_
        refine lv_goto (tgt := 120) hx hb d_Mod_doStep_110 (by decide) ?_
        refine k_las hx hb hK hP hD hS 2 1 rfl rfl (by decide) (by omega) d_Mod_doStep_120 (fun H locs hP hD hS => ?_)
        have hP : va_P (gD G) classes [o_Mod rM wd ht rP rk rG rW rK kd db ew ac dn pr nu de rE rst wr rd rev rod cn rp rb ba sz1 lb rm cu sp nz rbl sl uz, (rev, al (gL G) 8 (up ge1 i (ge1 i))), (rod, al (gL G) 8 (up go1 i ((go1 i) + (-(amL kd st0 ge1 go1 i n0)))))] H := hP
        have hD : va_D A [o_Mod rM wd ht rP rk rG rW rK kd db ew ac dn pr nu de rE rst wr rd rev rod cn rp rb ba sz1 lb rm cu sp nz rbl sl uz, (rev, al (gL G) 8 (up ge1 i (ge1 i))), (rod, al (gL G) 8 (up go1 i ((go1 i) + (-(amL kd st0 ge1 go1 i n0)))))] := hD
        refine lv_iinc (k := 8) (v := iv (i + 1)) hx hb d_Mod_doStep_121 hl rfl (iv_add _ _) (by decide) rfl (fun ls hl => ?_)
        have hl : lv_has ls 11 [(6, .int (iv (i + 1))), (9, .long (-(amL kd st0 ge1 go1 i n0))), (7, .long (amL kd st0 ge1 go1 i n0)), (0, .ref rM), (1, .int (iv (st0))), (2, .int (iv (n0))), (3, .int (iv (un))), (4, .int (iv (bI (cOd kd st0)))), (5, .int (iv (1)))] := hl
        refine lv_goto (tgt := 26) hx hb d_Mod_doStep_124 (by decide) ?_
        exact ihi (by omega) _ _ _ (up ge1 i (ge1 i)) (up go1 i ((go1 i) + (-(amL kd st0 ge1 go1 i n0)))) (lv_sub hl [3, 4, 5, 6, 7, 8, 0] rfl) hP hD hS (by rw [it_s _ _ hii, ← hs]; unfold dsf; dsimp only; (first | rw [if_pos hc65] | rw [if_neg hc65]); (first | rw [if_pos hc13] | rw [if_neg hc13]))
abbrev w_Mod_turn : List Cond := Cond.code y_Mod_turn prog_9_method_20_code 7 none :: wl
abbrev r_Mod_turn : Room := { frames := 3, cells := 0, slots := 0, locals := 90 }
set_option maxHeartbeats 4000000 in
set_option maxRecDepth 100000 in
theorem c_Mod_turn (l : Launch) (G : k_G) (sz : Nat) (rM rP rk rG rW rK rE rst rev rod rp rb rbl : Nat) (s0 sd n0 un wd ht kd db ew ac dn pr nu de wr rd cn ba sz1 lb rm cu sp nz sl uz : Int) (gg ge go : Int → Int64) (hn0 : 0 ≤ n0 ∧ n0 ≤ 8) (hkd : 0 ≤ kd ∧ kd ≤ 6) (hix : ∀ m, 0 ≤ m → m < 2 * n0 → 0 ≤ s0 + m * sd ∧ s0 + m * sd < 256) (hun : un = 0 ∨ un = 1) : Met l y_Mod_turn w_Mod_turn r_Mod_turn (k_P G [.ref rM, .int (iv (s0)), .int (iv (sd)), .int (iv (n0)), .int (iv (un))] [o_Mod rM wd ht rP rk rG rW rK kd db ew ac dn pr nu de rE rst wr rd rev rod cn rp rb ba sz1 lb rm cu sp nz rbl sl uz, (rG, al (gL G) 256 (gg)), (rev, al (gL G) 8 (ge)), (rod, al (gL G) 8 (go))] sz) (qv G (fun u : (Int → Int64) × (Int → Int64) × (Int → Int64) => u = tuL s0 sd n0 un kd (gg, ge, go)) (fun u : (Int → Int64) × (Int → Int64) × (Int → Int64) => [o_Mod rM wd ht rP rk rG rW rK kd db ew ac dn pr nu de rE rst wr rd rev rod cn rp rb ba sz1 lb rm cu sp nz rbl sl uz, (rG, al (gL G) 256 (u.1)), (rev, al (gL G) 8 (u.2.1)), (rod, al (gL G) 8 (u.2.2))]) (va_A [o_Mod rM wd ht rP rk rG rW rK kd db ew ac dn pr nu de rE rst wr rd rev rod cn rp rb ba sz1 lb rm cu sp nz rbl sl uz, (rG, al (gL G) 256 (gg)), (rev, al (gL G) 8 (ge)), (rod, al (gL G) 8 (go))] sz)) 0 0 (va_A [o_Mod rM wd ht rP rk rG rW rK kd db ew ac dn pr nu de rE rst wr rd rev rod cn rp rb ba sz1 lb rm cu sp nz rbl sl uz, (rG, al (gL G) 256 (gg)), (rev, al (gL G) 8 (ge)), (rod, al (gL G) 8 (go))] sz) := by
  refine k_met (fun A => qv G (fun u : (Int → Int64) × (Int → Int64) × (Int → Int64) => u = tuL s0 sd n0 un kd (gg, ge, go)) (fun u : (Int → Int64) × (Int → Int64) × (Int → Int64) => [o_Mod rM wd ht rP rk rG rW rK kd db ew ac dn pr nu de rE rst wr rd rev rod cn rp rb ba sz1 lb rm cu sp nz rbl sl uz, (rG, al (gL G) 256 (u.1)), (rev, al (gL G) 8 (u.2.1)), (rod, al (gL G) 8 (u.2.2))]) A) (fun A => A) (by decide) rfl (Nat.le_of_ble_eq_true rfl) (fun p e s m args below meth c ls A Q S hr hlk hnm hl hsz hP hK hD hS hA hT hQ => ?_)
  obtain ⟨hx, hb, hml, hown, hts⟩ := id S
  have hw : ∀ w ∈ wl, w.before args s = true := fun w h => hts w (List.mem_cons_of_mem _ h)
  have hl : lv_has ls 7 [(0, .ref rM), (1, .int (iv (s0))), (2, .int (iv (sd))), (3, .int (iv (n0))), (4, .int (iv (un)))] := hl
  refine lv_iconst (v := iv (0)) hx hb d_Mod_turn_0 rfl ?_
  refine lv_istore hx hb d_Mod_turn_1 hl (by decide) rfl (fun ls hl => ?_)
  have hl : lv_has ls 7 [(5, .int (iv (0))), (0, .ref rM), (1, .int (iv (s0))), (2, .int (iv (sd))), (3, .int (iv (n0))), (4, .int (iv (un)))] := hl
  refine lo_up (P := fun i => ∀ (ls : Array Slot) (H : Heap) (locs : List Loc) (ge1 : Int → Int64) (go1 : Int → Int64), lv_has ls 7 [(0, .ref rM), (1, .int (iv (s0))), (2, .int (iv (sd))), (3, .int (iv (n0))), (4, .int (iv (un))), (5, .int (iv (i)))] → va_P (gD G) classes [o_Mod rM wd ht rP rk rG rW rK kd db ew ac dn pr nu de rE rst wr rd rev rod cn rp rb ba sz1 lb rm cu sp nz rbl sl uz, (rG, al (gL G) 256 (gg)), (rev, al (gL G) 8 (ge1)), (rod, al (gL G) 8 (go1))] H → va_D A [o_Mod rM wd ht rP rk rG rW rK kd db ew ac dn pr nu de rE rst wr rd rev rod cn rp rb ba sz1 lb rm cu sp nz rbl sl uz, (rG, al (gL G) 256 (gg)), (rev, al (gL G) 8 (ge1)), (rod, al (gL G) 8 (go1))] → va_S A s.heap H locs → ((ge1, go1) = it (ldf gg (peI un s0 sd) (poI un s0 sd n0)) 0 i (ge, go)) → W p l e r_Mod_turn s m args below meth c H locs 0 0 Q (F0 m 3 ls [])) (a := 0) (b := n0) (fun i hii hji ihi => ?_) _ _ _ ge go (lv_sub hl [1, 2, 3, 4, 5, 0] rfl) hP hD hS (it_self _ _ _).symm
  intro ls H locs ge1 go1 hl hP hD hS hs
  refine lv_iload hx hb d_Mod_turn_3 (lv_at hl 5 rfl) ?_
  refine lv_iload_n hx hb d_Mod_turn_5 rfl (lv_at hl 3 rfl) ?_
  refine k_icmp_ge (tgt := 79) hx hb d_Mod_turn_6 (by decide) (by omega) (by omega) (fun hc6 => ?_) (fun hc6 => ?_)
  · have hm95 : ∀ (ls : Array Slot) (H : Heap) (locs : List Loc) (c5 : Int), lv_has ls 7 [(0, .ref rM), (1, .int (iv (s0))), (2, .int (iv (sd))), (3, .int (iv (n0))), (4, .int (iv (un))), (5, .int (iv (c5)))] → va_P (gD G) classes [o_Mod rM wd ht rP rk rG rW rK kd db ew ac dn pr nu de rE rst wr rd rev rod cn rp rb ba sz1 lb rm cu sp nz rbl sl uz, (rG, al (gL G) 256 (gg)), (rev, al (gL G) 8 (ge1)), (rod, al (gL G) 8 (go1))] H → va_D A [o_Mod rM wd ht rP rk rG rW rK kd db ew ac dn pr nu de rE rst wr rd rev rod cn rp rb ba sz1 lb rm cu sp nz rbl sl uz, (rG, al (gL G) 256 (gg)), (rev, al (gL G) 8 (ge1)), (rod, al (gL G) 8 (go1))] → va_S A s.heap H locs → (c5 = stc kd) → W p l e r_Mod_turn s m args below meth c H locs 0 0 Q (F0 m 95 ls []) := by
      intro ls H locs c5 hl hP hD hS hc5
      have e1 : (ge1, go1) = it (ldf gg (peI un s0 sd) (poI un s0 sd n0)) 0 n0 (ge, go) := by rw [hs]; exact it_x _ _ hc6 hji
      have hc4 : 2 ≤ c5 ∧ c5 ≤ 4 := by rw [hc5]; unfold stc; split <;> omega
      refine lv_iconst (v := iv (0)) hx hb d_Mod_turn_95 rfl ?_
      refine lv_istore hx hb d_Mod_turn_96 hl (by decide) rfl (fun ls hl => ?_)
      have hl : lv_has ls 7 [(6, .int (iv (0))), (0, .ref rM), (1, .int (iv (s0))), (2, .int (iv (sd))), (3, .int (iv (n0))), (4, .int (iv (un))), (5, .int (iv (c5)))] := hl
      refine lo_up (P := fun j => ∀ (ls : Array Slot) (H : Heap) (locs : List Loc) (ge2 : Int → Int64) (go2 : Int → Int64), lv_has ls 7 [(0, .ref rM), (1, .int (iv (s0))), (2, .int (iv (sd))), (3, .int (iv (n0))), (4, .int (iv (un))), (5, .int (iv (c5))), (6, .int (iv (j)))] → va_P (gD G) classes [o_Mod rM wd ht rP rk rG rW rK kd db ew ac dn pr nu de rE rst wr rd rev rod cn rp rb ba sz1 lb rm cu sp nz rbl sl uz, (rG, al (gL G) 256 (gg)), (rev, al (gL G) 8 (ge2)), (rod, al (gL G) 8 (go2))] H → va_D A [o_Mod rM wd ht rP rk rG rW rK kd db ew ac dn pr nu de rE rst wr rd rev rod cn rp rb ba sz1 lb rm cu sp nz rbl sl uz, (rG, al (gL G) 256 (gg)), (rev, al (gL G) 8 (ge2)), (rod, al (gL G) 8 (go2))] → va_S A s.heap H locs → ((ge2, go2) = tuE kd un n0 c5 j (ge1, go1)) → W p l e r_Mod_turn s m args below meth c H locs 0 0 Q (F0 m 98 ls [])) (a := 0) (b := c5) (fun j hij hjj ihj => ?_) _ _ _ ge1 go1 (lv_sub hl [1, 2, 3, 4, 5, 6, 0] rfl) hP hD hS (it_self _ _ _).symm
      intro ls H locs ge2 go2 hl hP hD hS hs2
      refine lv_iload hx hb d_Mod_turn_98 (lv_at hl 6 rfl) ?_
      refine lv_iload hx hb d_Mod_turn_100 (lv_at hl 5 rfl) ?_
      refine k_icmp_ge (tgt := 135) hx hb d_Mod_turn_102 (by decide) (by omega) (by omega) (fun hc102 => ?_) (fun hc102 => ?_)
      · have e2 : (ge2, go2) = tuE kd un n0 c5 c5 (ge1, go1) := by rw [hs2]; unfold tuE; exact it_x _ _ hc102 hjj
        refine lv_iconst (v := iv (0)) hx hb d_Mod_turn_135 rfl ?_
        refine lv_istore hx hb d_Mod_turn_136 hl (by decide) rfl (fun ls hl => ?_)
        have hl : lv_has ls 7 [(6, .int (iv (0))), (0, .ref rM), (1, .int (iv (s0))), (2, .int (iv (sd))), (3, .int (iv (n0))), (4, .int (iv (un))), (5, .int (iv (c5)))] := hl
        refine lo_up (P := fun k => ∀ (ls : Array Slot) (H : Heap) (locs : List Loc) (a1 : Int → Int64), lv_has ls 7 [(0, .ref rM), (1, .int (iv (s0))), (2, .int (iv (sd))), (3, .int (iv (n0))), (4, .int (iv (un))), (5, .int (iv (c5))), (6, .int (iv (k)))] → va_P (gD G) classes [o_Mod rM wd ht rP rk rG rW rK kd db ew ac dn pr nu de rE rst wr rd rev rod cn rp rb ba sz1 lb rm cu sp nz rbl sl uz, (rG, al (gL G) 256 (a1)), (rev, al (gL G) 8 (ge2)), (rod, al (gL G) 8 (go2))] H → va_D A [o_Mod rM wd ht rP rk rG rW rK kd db ew ac dn pr nu de rE rst wr rd rev rod cn rp rb ba sz1 lb rm cu sp nz rbl sl uz, (rG, al (gL G) 256 (a1)), (rev, al (gL G) 8 (ge2)), (rod, al (gL G) 8 (go2))] → va_S A s.heap H locs → (a1 = it (stf (ge2, go2) (qeI un s0 sd) (qoI un s0 sd n0)) 0 k gg) → W p l e r_Mod_turn s m args below meth c H locs 0 0 Q (F0 m 138 ls [])) (a := 0) (b := n0) (fun k hik hjk ihk => ?_) _ _ _ gg (lv_sub hl [1, 2, 3, 4, 5, 6, 0] rfl) hP hD hS (it_self _ _ _).symm
        intro ls H locs a1 hl hP hD hS hs3
        refine lv_iload hx hb d_Mod_turn_138 (lv_at hl 6 rfl) ?_
        refine lv_iload_n hx hb d_Mod_turn_140 rfl (lv_at hl 3 rfl) ?_
        refine k_icmp_ge (tgt := 214) hx hb d_Mod_turn_141 (by decide) (by omega) (by omega) (fun hc141 => ?_) (fun hc141 => ?_)
        · exact k_vret hx hb hr hlk hQ ((a1, ge2, go2)) (by unfold tuL; dsimp only; rw [← e1, ← hc5, ← e2, hs3]; exact congrArg (fun z => (z, (ge2, go2))) (it_x _ _ hc141 hjk)) hP hD hS d_Mod_turn_214
        · refine lv_aload_n hx hb d_Mod_turn_144 rfl (lv_at hl 0 rfl) ?_
          refine va_get (D := gD G) (ci := 7) (v := .ref rG) (C := R_Mod) (T := F_Mod) (N := 34) hx hb hw in_Mod hown hK hP 0 rfl rfl 4 (by decide) (hw _ m3_128) (fun _ h => h) rfl d_Mod_turn_145 ?_
          refine lv_iload_n hx hb d_Mod_turn_148 rfl (lv_at hl 1 rfl) ?_
          refine lv_iload hx hb d_Mod_turn_149 (lv_at hl 4 rfl) ?_
          refine k_if_eq (tgt := 161) hx hb d_Mod_turn_151 (by decide) (by omega) (fun hc151 => ?_) (fun hc151 => ?_)
          · refine lv_iload hx hb d_Mod_turn_161 (lv_at hl 6 rfl) ?_
            refine lv_iload_n hx hb d_Mod_turn_163 rfl (lv_at hl 2 rfl) ?_
            refine k_imul hx hb d_Mod_turn_164 ?_
            refine k_iadd hx hb d_Mod_turn_165 ?_
            refine lv_aload_n hx hb d_Mod_turn_166 rfl (lv_at hl 0 rfl) ?_
            refine va_get (D := gD G) (ci := 7) (v := .ref rev) (C := R_Mod) (T := F_Mod) (N := 34) hx hb hw in_Mod hown hK hP 0 rfl rfl 19 (by decide) (hw _ m3_143) (fun _ h => h) rfl d_Mod_turn_167 ?_
            refine lv_iload hx hb d_Mod_turn_170 (lv_at hl 6 rfl) ?_
            refine k_lal hx hb hK hP 2 1 rfl rfl (by decide) (by omega) d_Mod_turn_172 ?_
            refine k_las hx hb hK hP hD hS 1 1 rfl rfl (by decide) (by first | exact hix (2 * k) (by omega) (by omega) | exact hix k (by omega) (by omega)) d_Mod_turn_173 (fun H locs hP hD hS => ?_)
            have hP : va_P (gD G) classes [o_Mod rM wd ht rP rk rG rW rK kd db ew ac dn pr nu de rE rst wr rd rev rod cn rp rb ba sz1 lb rm cu sp nz rbl sl uz, (rG, al (gL G) 256 (up a1 (s0 + (k * sd)) (ge2 k))), (rev, al (gL G) 8 (ge2)), (rod, al (gL G) 8 (go2))] H := hP
            have hD : va_D A [o_Mod rM wd ht rP rk rG rW rK kd db ew ac dn pr nu de rE rst wr rd rev rod cn rp rb ba sz1 lb rm cu sp nz rbl sl uz, (rG, al (gL G) 256 (up a1 (s0 + (k * sd)) (ge2 k))), (rev, al (gL G) 8 (ge2)), (rod, al (gL G) 8 (go2))] := hD
            refine lv_aload_n hx hb d_Mod_turn_174 rfl (lv_at hl 0 rfl) ?_
            refine va_get (D := gD G) (ci := 7) (v := .ref rG) (C := R_Mod) (T := F_Mod) (N := 34) hx hb hw in_Mod hown hK hP 0 rfl rfl 4 (by decide) (hw _ m3_128) (fun _ h => h) rfl d_Mod_turn_175 ?_
            refine lv_iload_n hx hb d_Mod_turn_178 rfl (lv_at hl 1 rfl) ?_
            refine lv_iload hx hb d_Mod_turn_179 (lv_at hl 4 rfl) ?_
            refine k_if_eq (tgt := 193) hx hb d_Mod_turn_181 (by decide) (by omega) (fun hc181 => ?_) (fun hc181 => absurd hc181 (by omega))
            refine lv_iload_n hx hb d_Mod_turn_193 rfl (lv_at hl 3 rfl) ?_
            refine lv_iload hx hb d_Mod_turn_194 (lv_at hl 6 rfl) ?_
            refine k_iadd hx hb d_Mod_turn_196 ?_
            refine lv_iload_n hx hb d_Mod_turn_197 rfl (lv_at hl 2 rfl) ?_
            refine k_imul hx hb d_Mod_turn_198 ?_
            refine k_iadd hx hb d_Mod_turn_199 ?_
            refine lv_aload_n hx hb d_Mod_turn_200 rfl (lv_at hl 0 rfl) ?_
            refine va_get (D := gD G) (ci := 7) (v := .ref rod) (C := R_Mod) (T := F_Mod) (N := 34) hx hb hw in_Mod hown hK hP 0 rfl rfl 20 (by decide) (hw _ m3_144) (fun _ h => h) rfl d_Mod_turn_201 ?_
            refine lv_iload hx hb d_Mod_turn_204 (lv_at hl 6 rfl) ?_
            refine k_lal hx hb hK hP 3 1 rfl rfl (by decide) (by omega) d_Mod_turn_206 ?_
            refine k_las hx hb hK hP hD hS 1 1 rfl rfl (by decide) (by first | exact hix (2 * k + 1) (by omega) (by omega) | exact hix (n0 + k) (by omega) (by omega)) d_Mod_turn_207 (fun H locs hP hD hS => ?_)
            have hP : va_P (gD G) classes [o_Mod rM wd ht rP rk rG rW rK kd db ew ac dn pr nu de rE rst wr rd rev rod cn rp rb ba sz1 lb rm cu sp nz rbl sl uz, (rG, al (gL G) 256 (up (up a1 (s0 + (k * sd)) (ge2 k)) (s0 + ((n0 + k) * sd)) (go2 k))), (rev, al (gL G) 8 (ge2)), (rod, al (gL G) 8 (go2))] H := hP
            have hD : va_D A [o_Mod rM wd ht rP rk rG rW rK kd db ew ac dn pr nu de rE rst wr rd rev rod cn rp rb ba sz1 lb rm cu sp nz rbl sl uz, (rG, al (gL G) 256 (up (up a1 (s0 + (k * sd)) (ge2 k)) (s0 + ((n0 + k) * sd)) (go2 k))), (rev, al (gL G) 8 (ge2)), (rod, al (gL G) 8 (go2))] := hD
            refine lv_iinc (k := 6) (v := iv (k + 1)) hx hb d_Mod_turn_208 hl rfl (iv_add _ _) (by decide) rfl (fun ls hl => ?_)
            have hl : lv_has ls 7 [(6, .int (iv (k + 1))), (0, .ref rM), (1, .int (iv (s0))), (2, .int (iv (sd))), (3, .int (iv (n0))), (4, .int (iv (un))), (5, .int (iv (c5)))] := hl
            refine lv_goto (tgt := 138) hx hb d_Mod_turn_211 (by decide) ?_
            exact ihk (by omega) _ _ _ (up (up a1 (s0 + (k * sd)) (ge2 k)) (s0 + ((n0 + k) * sd)) (go2 k)) (lv_sub hl [1, 2, 3, 4, 5, 6, 0] rfl) hP hD hS (by rw [it_s _ _ hik, ← hs3]; show _ = up (up a1 (qeI un s0 sd k) (ge2 k)) (qoI un s0 sd n0 k) (go2 k); unfold qeI qoI; first | rw [if_pos hc151, if_pos hc151] | rw [if_neg hc151, if_neg hc151])
          · refine lv_iconst (v := iv (2)) hx hb d_Mod_turn_154 rfl ?_
            refine lv_iload hx hb d_Mod_turn_155 (lv_at hl 6 rfl) ?_
            refine k_imul hx hb d_Mod_turn_157 ?_
            refine lv_goto (tgt := 163) hx hb d_Mod_turn_158 (by decide) ?_
            refine lv_iload_n hx hb d_Mod_turn_163 rfl (lv_at hl 2 rfl) ?_
            refine k_imul hx hb d_Mod_turn_164 ?_
            refine k_iadd hx hb d_Mod_turn_165 ?_
            refine lv_aload_n hx hb d_Mod_turn_166 rfl (lv_at hl 0 rfl) ?_
            refine va_get (D := gD G) (ci := 7) (v := .ref rev) (C := R_Mod) (T := F_Mod) (N := 34) hx hb hw in_Mod hown hK hP 0 rfl rfl 19 (by decide) (hw _ m3_143) (fun _ h => h) rfl d_Mod_turn_167 ?_
            refine lv_iload hx hb d_Mod_turn_170 (lv_at hl 6 rfl) ?_
            refine k_lal hx hb hK hP 2 1 rfl rfl (by decide) (by omega) d_Mod_turn_172 ?_
            refine k_las hx hb hK hP hD hS 1 1 rfl rfl (by decide) (by first | exact hix (2 * k) (by omega) (by omega) | exact hix k (by omega) (by omega)) d_Mod_turn_173 (fun H locs hP hD hS => ?_)
            have hP : va_P (gD G) classes [o_Mod rM wd ht rP rk rG rW rK kd db ew ac dn pr nu de rE rst wr rd rev rod cn rp rb ba sz1 lb rm cu sp nz rbl sl uz, (rG, al (gL G) 256 (up a1 (s0 + ((2 * k) * sd)) (ge2 k))), (rev, al (gL G) 8 (ge2)), (rod, al (gL G) 8 (go2))] H := hP
            have hD : va_D A [o_Mod rM wd ht rP rk rG rW rK kd db ew ac dn pr nu de rE rst wr rd rev rod cn rp rb ba sz1 lb rm cu sp nz rbl sl uz, (rG, al (gL G) 256 (up a1 (s0 + ((2 * k) * sd)) (ge2 k))), (rev, al (gL G) 8 (ge2)), (rod, al (gL G) 8 (go2))] := hD
            refine lv_aload_n hx hb d_Mod_turn_174 rfl (lv_at hl 0 rfl) ?_
            refine va_get (D := gD G) (ci := 7) (v := .ref rG) (C := R_Mod) (T := F_Mod) (N := 34) hx hb hw in_Mod hown hK hP 0 rfl rfl 4 (by decide) (hw _ m3_128) (fun _ h => h) rfl d_Mod_turn_175 ?_
            refine lv_iload_n hx hb d_Mod_turn_178 rfl (lv_at hl 1 rfl) ?_
            refine lv_iload hx hb d_Mod_turn_179 (lv_at hl 4 rfl) ?_
            refine k_if_eq (tgt := 193) hx hb d_Mod_turn_181 (by decide) (by omega) (fun hc181 => absurd hc181 (by omega)) (fun hc181 => ?_)
            refine lv_iconst (v := iv (2)) hx hb d_Mod_turn_184 rfl ?_
            refine lv_iload hx hb d_Mod_turn_185 (lv_at hl 6 rfl) ?_
            refine k_imul hx hb d_Mod_turn_187 ?_
            refine lv_iconst (v := iv (1)) hx hb d_Mod_turn_188 rfl ?_
            refine k_iadd hx hb d_Mod_turn_189 ?_
            refine lv_goto (tgt := 197) hx hb d_Mod_turn_190 (by decide) ?_
            refine lv_iload_n hx hb d_Mod_turn_197 rfl (lv_at hl 2 rfl) ?_
            refine k_imul hx hb d_Mod_turn_198 ?_
            refine k_iadd hx hb d_Mod_turn_199 ?_
            refine lv_aload_n hx hb d_Mod_turn_200 rfl (lv_at hl 0 rfl) ?_
            refine va_get (D := gD G) (ci := 7) (v := .ref rod) (C := R_Mod) (T := F_Mod) (N := 34) hx hb hw in_Mod hown hK hP 0 rfl rfl 20 (by decide) (hw _ m3_144) (fun _ h => h) rfl d_Mod_turn_201 ?_
            refine lv_iload hx hb d_Mod_turn_204 (lv_at hl 6 rfl) ?_
            refine k_lal hx hb hK hP 3 1 rfl rfl (by decide) (by omega) d_Mod_turn_206 ?_
            refine k_las hx hb hK hP hD hS 1 1 rfl rfl (by decide) (by first | exact hix (2 * k + 1) (by omega) (by omega) | exact hix (n0 + k) (by omega) (by omega)) d_Mod_turn_207 (fun H locs hP hD hS => ?_)
            have hP : va_P (gD G) classes [o_Mod rM wd ht rP rk rG rW rK kd db ew ac dn pr nu de rE rst wr rd rev rod cn rp rb ba sz1 lb rm cu sp nz rbl sl uz, (rG, al (gL G) 256 (up (up a1 (s0 + ((2 * k) * sd)) (ge2 k)) (s0 + (((2 * k) + 1) * sd)) (go2 k))), (rev, al (gL G) 8 (ge2)), (rod, al (gL G) 8 (go2))] H := hP
            have hD : va_D A [o_Mod rM wd ht rP rk rG rW rK kd db ew ac dn pr nu de rE rst wr rd rev rod cn rp rb ba sz1 lb rm cu sp nz rbl sl uz, (rG, al (gL G) 256 (up (up a1 (s0 + ((2 * k) * sd)) (ge2 k)) (s0 + (((2 * k) + 1) * sd)) (go2 k))), (rev, al (gL G) 8 (ge2)), (rod, al (gL G) 8 (go2))] := hD
            refine lv_iinc (k := 6) (v := iv (k + 1)) hx hb d_Mod_turn_208 hl rfl (iv_add _ _) (by decide) rfl (fun ls hl => ?_)
            have hl : lv_has ls 7 [(6, .int (iv (k + 1))), (0, .ref rM), (1, .int (iv (s0))), (2, .int (iv (sd))), (3, .int (iv (n0))), (4, .int (iv (un))), (5, .int (iv (c5)))] := hl
            refine lv_goto (tgt := 138) hx hb d_Mod_turn_211 (by decide) ?_
            exact ihk (by omega) _ _ _ (up (up a1 (s0 + ((2 * k) * sd)) (ge2 k)) (s0 + (((2 * k) + 1) * sd)) (go2 k)) (lv_sub hl [1, 2, 3, 4, 5, 6, 0] rfl) hP hD hS (by rw [it_s _ _ hik, ← hs3]; show _ = up (up a1 (qeI un s0 sd k) (ge2 k)) (qoI un s0 sd n0 k) (go2 k); unfold qeI qoI; first | rw [if_pos hc151, if_pos hc151] | rw [if_neg hc151, if_neg hc151])
      · refine lv_aload_n hx hb d_Mod_turn_105 rfl (lv_at hl 0 rfl) ?_
        refine lv_iload hx hb d_Mod_turn_106 (lv_at hl 4 rfl) ?_
        refine k_if_eq (tgt := 121) hx hb d_Mod_turn_108 (by decide) (by omega) (fun hc108 => ?_) (fun hc108 => ?_)
        · refine lv_iload hx hb d_Mod_turn_121 (lv_at hl 6 rfl) ?_
          refine lv_iload_n hx hb d_Mod_turn_123 rfl (lv_at hl 3 rfl) ?_
          refine lv_iload hx hb d_Mod_turn_124 (lv_at hl 4 rfl) ?_
          refine k_cv (wz := fun u : (Int → Int64) × (Int → Int64) => [o_Mod rM wd ht rP rk rG rW rK kd db ew ac dn pr nu de rE rst wr rd rev rod cn rp rb ba sz1 lb rm cu sp nz rbl sl uz, (rG, al (gL G) 256 (gg)), (rev, al (gL G) 8 (u.1)), (rod, al (gL G) 8 (u.2))]) (wr := [(rG, al (gL G) 256 (gg))]) (k_rv S (c_Mod_doStep l G _ rM rP rk rG rW rK rE rst rev rod rp rb rbl j n0 un wd ht kd db ew ac dn pr nu de wr rd cn ba sz1 lb rm cu sp nz sl uz ge2 go2 (by omega) (by omega) (by omega) (by omega)) 3 m4_66 m4_63 m4_65 mp_28 m1_9 (by decide +kernel) (by decide) rfl rfl (k_preV (q0 := 0) hK hP hD hS hA hT rfl rfl [0, 2, 3] (by decide) rfl) rfl hl.1 rfl (Nat.le_of_ble_eq_true rfl) d_Mod_turn_126 ⟨Nat.le_of_ble_eq_true rfl, Nat.le_of_ble_eq_true rfl⟩) hP hD hS hA [0, 2, 3] [1] [1, 0, 2, 3] rfl rfl (by decide) (by decide) (by decide) (fun _ => rfl) (fun u126 H locs h126 hP hD hS => ?_)
          obtain ⟨ge126, go126⟩ := u126
          have hP : va_P (gD G) classes [o_Mod rM wd ht rP rk rG rW rK kd db ew ac dn pr nu de rE rst wr rd rev rod cn rp rb ba sz1 lb rm cu sp nz rbl sl uz, (rG, al (gL G) 256 (gg)), (rev, al (gL G) 8 (ge126)), (rod, al (gL G) 8 (go126))] H := hP
          have hD : va_D A [o_Mod rM wd ht rP rk rG rW rK kd db ew ac dn pr nu de rE rst wr rd rev rod cn rp rb ba sz1 lb rm cu sp nz rbl sl uz, (rG, al (gL G) 256 (gg)), (rev, al (gL G) 8 (ge126)), (rod, al (gL G) 8 (go126))] := hD
          try dsimp only at h126
          refine lv_iinc (k := 6) (v := iv (j + 1)) hx hb d_Mod_turn_129 hl rfl (iv_add _ _) (by decide) rfl (fun ls hl => ?_)
          have hl : lv_has ls 7 [(6, .int (iv (j + 1))), (0, .ref rM), (1, .int (iv (s0))), (2, .int (iv (sd))), (3, .int (iv (n0))), (4, .int (iv (un))), (5, .int (iv (c5)))] := hl
          refine lv_goto (tgt := 98) hx hb d_Mod_turn_132 (by decide) ?_
          exact ihj (by omega) _ _ _ ge126 go126 (lv_sub hl [1, 2, 3, 4, 5, 6, 0] rfl) hP hD hS (by unfold tuE; rw [it_s _ _ hij]; show _ = dsK kd (stI un c5 j) un n0 (tuE kd un n0 c5 j (ge1, go1)); rw [← hs2]; unfold stI; first | (rw [if_pos hc108]; exact h126) | (rw [if_neg hc108]; exact h126))
        · refine lv_iload hx hb d_Mod_turn_111 (lv_at hl 5 rfl) ?_
          refine lv_iconst (v := iv (1)) hx hb d_Mod_turn_113 rfl ?_
          refine k_isub hx hb d_Mod_turn_114 ?_
          refine lv_iload hx hb d_Mod_turn_115 (lv_at hl 6 rfl) ?_
          refine k_isub hx hb d_Mod_turn_117 ?_
          refine lv_goto (tgt := 123) hx hb d_Mod_turn_118 (by decide) ?_
          refine lv_iload_n hx hb d_Mod_turn_123 rfl (lv_at hl 3 rfl) ?_
          refine lv_iload hx hb d_Mod_turn_124 (lv_at hl 4 rfl) ?_
          refine k_cv (wz := fun u : (Int → Int64) × (Int → Int64) => [o_Mod rM wd ht rP rk rG rW rK kd db ew ac dn pr nu de rE rst wr rd rev rod cn rp rb ba sz1 lb rm cu sp nz rbl sl uz, (rG, al (gL G) 256 (gg)), (rev, al (gL G) 8 (u.1)), (rod, al (gL G) 8 (u.2))]) (wr := [(rG, al (gL G) 256 (gg))]) (k_rv S (c_Mod_doStep l G _ rM rP rk rG rW rK rE rst rev rod rp rb rbl ((c5 - 1) - j) n0 un wd ht kd db ew ac dn pr nu de wr rd cn ba sz1 lb rm cu sp nz sl uz ge2 go2 (by omega) (by omega) (by omega) (by omega)) 3 m4_66 m4_63 m4_65 mp_28 m1_9 (by decide +kernel) (by decide) rfl rfl (k_preV (q0 := 0) hK hP hD hS hA hT rfl rfl [0, 2, 3] (by decide) rfl) rfl hl.1 rfl (Nat.le_of_ble_eq_true rfl) d_Mod_turn_126 ⟨Nat.le_of_ble_eq_true rfl, Nat.le_of_ble_eq_true rfl⟩) hP hD hS hA [0, 2, 3] [1] [1, 0, 2, 3] rfl rfl (by decide) (by decide) (by decide) (fun _ => rfl) (fun u126 H locs h126 hP hD hS => ?_)
          obtain ⟨ge126, go126⟩ := u126
          have hP : va_P (gD G) classes [o_Mod rM wd ht rP rk rG rW rK kd db ew ac dn pr nu de rE rst wr rd rev rod cn rp rb ba sz1 lb rm cu sp nz rbl sl uz, (rG, al (gL G) 256 (gg)), (rev, al (gL G) 8 (ge126)), (rod, al (gL G) 8 (go126))] H := hP
          have hD : va_D A [o_Mod rM wd ht rP rk rG rW rK kd db ew ac dn pr nu de rE rst wr rd rev rod cn rp rb ba sz1 lb rm cu sp nz rbl sl uz, (rG, al (gL G) 256 (gg)), (rev, al (gL G) 8 (ge126)), (rod, al (gL G) 8 (go126))] := hD
          try dsimp only at h126
          refine lv_iinc (k := 6) (v := iv (j + 1)) hx hb d_Mod_turn_129 hl rfl (iv_add _ _) (by decide) rfl (fun ls hl => ?_)
          have hl : lv_has ls 7 [(6, .int (iv (j + 1))), (0, .ref rM), (1, .int (iv (s0))), (2, .int (iv (sd))), (3, .int (iv (n0))), (4, .int (iv (un))), (5, .int (iv (c5)))] := hl
          refine lv_goto (tgt := 98) hx hb d_Mod_turn_132 (by decide) ?_
          exact ihj (by omega) _ _ _ ge126 go126 (lv_sub hl [1, 2, 3, 4, 5, 6, 0] rfl) hP hD hS (by unfold tuE; rw [it_s _ _ hij]; show _ = dsK kd (stI un c5 j) un n0 (tuE kd un n0 c5 j (ge1, go1)); rw [← hs2]; unfold stI; first | (rw [if_pos hc108]; exact h126) | (rw [if_neg hc108]; exact h126))
    refine lv_aload_n hx hb d_Mod_turn_79 rfl (lv_at hl 0 rfl) ?_
    refine va_get (D := gD G) (ci := 7) (v := .int (iv (kd))) (C := R_Mod) (T := F_Mod) (N := 34) hx hb hw in_Mod hown hK hP 0 rfl rfl 7 (by decide) (hw _ m3_131) (fun _ h => h) rfl d_Mod_turn_80 ?_
    refine lv_bipush (v := iv (6)) hx hb d_Mod_turn_83 rfl ?_
    refine k_icmp_ne (tgt := 92) hx hb d_Mod_turn_85 (by decide) (by omega) (by omega) (fun hc85 => ?_) (fun hc85 => ?_)
    · refine lv_iconst (v := iv (2)) hx hb d_Mod_turn_92 rfl ?_
      refine lv_istore hx hb d_Mod_turn_93 hl (by decide) rfl (fun ls hl => ?_)
      have hl : lv_has ls 7 [(5, .int (iv (2))), (0, .ref rM), (1, .int (iv (s0))), (2, .int (iv (sd))), (3, .int (iv (n0))), (4, .int (iv (un)))] := hl
      exact hm95 _ _ _ 2 (lv_sub hl [1, 2, 3, 4, 5, 0] rfl) hP hD hS (by unfold stc; first | rw [if_pos (by omega)] | rw [if_neg (by omega)])
    · refine lv_iconst (v := iv (4)) hx hb d_Mod_turn_88 rfl ?_
      refine lv_goto (tgt := 93) hx hb d_Mod_turn_89 (by decide) ?_
      refine lv_istore hx hb d_Mod_turn_93 hl (by decide) rfl (fun ls hl => ?_)
      have hl : lv_has ls 7 [(5, .int (iv (4))), (0, .ref rM), (1, .int (iv (s0))), (2, .int (iv (sd))), (3, .int (iv (n0))), (4, .int (iv (un)))] := hl
      exact hm95 _ _ _ 4 (lv_sub hl [1, 2, 3, 4, 5, 0] rfl) hP hD hS (by unfold stc; first | rw [if_pos (by omega)] | rw [if_neg (by omega)])
  · refine lv_aload_n hx hb d_Mod_turn_9 rfl (lv_at hl 0 rfl) ?_
    refine va_get (D := gD G) (ci := 7) (v := .ref rev) (C := R_Mod) (T := F_Mod) (N := 34) hx hb hw in_Mod hown hK hP 0 rfl rfl 19 (by decide) (hw _ m3_143) (fun _ h => h) rfl d_Mod_turn_10 ?_
    refine lv_iload hx hb d_Mod_turn_13 (lv_at hl 5 rfl) ?_
    refine lv_aload_n hx hb d_Mod_turn_15 rfl (lv_at hl 0 rfl) ?_
    refine va_get (D := gD G) (ci := 7) (v := .ref rG) (C := R_Mod) (T := F_Mod) (N := 34) hx hb hw in_Mod hown hK hP 0 rfl rfl 4 (by decide) (hw _ m3_128) (fun _ h => h) rfl d_Mod_turn_16 ?_
    refine lv_iload_n hx hb d_Mod_turn_19 rfl (lv_at hl 1 rfl) ?_
    refine lv_iload hx hb d_Mod_turn_20 (lv_at hl 4 rfl) ?_
    refine k_if_eq (tgt := 30) hx hb d_Mod_turn_22 (by decide) (by omega) (fun hc22 => ?_) (fun hc22 => ?_)
    · refine lv_iconst (v := iv (2)) hx hb d_Mod_turn_30 rfl ?_
      refine lv_iload hx hb d_Mod_turn_31 (lv_at hl 5 rfl) ?_
      refine k_imul hx hb d_Mod_turn_33 ?_
      refine lv_iload_n hx hb d_Mod_turn_34 rfl (lv_at hl 2 rfl) ?_
      refine k_imul hx hb d_Mod_turn_35 ?_
      refine k_iadd hx hb d_Mod_turn_36 ?_
      refine k_lal hx hb hK hP 1 1 rfl rfl (by decide) (by first | exact hix (2 * i) (by omega) (by omega) | exact hix i (by omega) (by omega)) d_Mod_turn_37 ?_
      refine k_las hx hb hK hP hD hS 2 1 rfl rfl (by decide) (by omega) d_Mod_turn_38 (fun H locs hP hD hS => ?_)
      have hP : va_P (gD G) classes [o_Mod rM wd ht rP rk rG rW rK kd db ew ac dn pr nu de rE rst wr rd rev rod cn rp rb ba sz1 lb rm cu sp nz rbl sl uz, (rG, al (gL G) 256 (gg)), (rev, al (gL G) 8 (up ge1 i (gg (s0 + ((2 * i) * sd))))), (rod, al (gL G) 8 (go1))] H := hP
      have hD : va_D A [o_Mod rM wd ht rP rk rG rW rK kd db ew ac dn pr nu de rE rst wr rd rev rod cn rp rb ba sz1 lb rm cu sp nz rbl sl uz, (rG, al (gL G) 256 (gg)), (rev, al (gL G) 8 (up ge1 i (gg (s0 + ((2 * i) * sd))))), (rod, al (gL G) 8 (go1))] := hD
      refine lv_aload_n hx hb d_Mod_turn_39 rfl (lv_at hl 0 rfl) ?_
      refine va_get (D := gD G) (ci := 7) (v := .ref rod) (C := R_Mod) (T := F_Mod) (N := 34) hx hb hw in_Mod hown hK hP 0 rfl rfl 20 (by decide) (hw _ m3_144) (fun _ h => h) rfl d_Mod_turn_40 ?_
      refine lv_iload hx hb d_Mod_turn_43 (lv_at hl 5 rfl) ?_
      refine lv_aload_n hx hb d_Mod_turn_45 rfl (lv_at hl 0 rfl) ?_
      refine va_get (D := gD G) (ci := 7) (v := .ref rG) (C := R_Mod) (T := F_Mod) (N := 34) hx hb hw in_Mod hown hK hP 0 rfl rfl 4 (by decide) (hw _ m3_128) (fun _ h => h) rfl d_Mod_turn_46 ?_
      refine lv_iload_n hx hb d_Mod_turn_49 rfl (lv_at hl 1 rfl) ?_
      refine lv_iload hx hb d_Mod_turn_50 (lv_at hl 4 rfl) ?_
      refine k_if_eq (tgt := 62) hx hb d_Mod_turn_52 (by decide) (by omega) (fun hc52 => ?_) (fun hc52 => absurd hc52 (by omega))
      refine lv_iconst (v := iv (2)) hx hb d_Mod_turn_62 rfl ?_
      refine lv_iload hx hb d_Mod_turn_63 (lv_at hl 5 rfl) ?_
      refine k_imul hx hb d_Mod_turn_65 ?_
      refine lv_iconst (v := iv (1)) hx hb d_Mod_turn_66 rfl ?_
      refine k_iadd hx hb d_Mod_turn_67 ?_
      refine lv_iload_n hx hb d_Mod_turn_68 rfl (lv_at hl 2 rfl) ?_
      refine k_imul hx hb d_Mod_turn_69 ?_
      refine k_iadd hx hb d_Mod_turn_70 ?_
      refine k_lal hx hb hK hP 1 1 rfl rfl (by decide) (by first | exact hix (2 * i + 1) (by omega) (by omega) | exact hix (n0 + i) (by omega) (by omega)) d_Mod_turn_71 ?_
      refine k_las hx hb hK hP hD hS 3 1 rfl rfl (by decide) (by omega) d_Mod_turn_72 (fun H locs hP hD hS => ?_)
      have hP : va_P (gD G) classes [o_Mod rM wd ht rP rk rG rW rK kd db ew ac dn pr nu de rE rst wr rd rev rod cn rp rb ba sz1 lb rm cu sp nz rbl sl uz, (rG, al (gL G) 256 (gg)), (rev, al (gL G) 8 (up ge1 i (gg (s0 + ((2 * i) * sd))))), (rod, al (gL G) 8 (up go1 i (gg (s0 + (((2 * i) + 1) * sd)))))] H := hP
      have hD : va_D A [o_Mod rM wd ht rP rk rG rW rK kd db ew ac dn pr nu de rE rst wr rd rev rod cn rp rb ba sz1 lb rm cu sp nz rbl sl uz, (rG, al (gL G) 256 (gg)), (rev, al (gL G) 8 (up ge1 i (gg (s0 + ((2 * i) * sd))))), (rod, al (gL G) 8 (up go1 i (gg (s0 + (((2 * i) + 1) * sd)))))] := hD
      refine lv_iinc (k := 5) (v := iv (i + 1)) hx hb d_Mod_turn_73 hl rfl (iv_add _ _) (by decide) rfl (fun ls hl => ?_)
      have hl : lv_has ls 7 [(5, .int (iv (i + 1))), (0, .ref rM), (1, .int (iv (s0))), (2, .int (iv (sd))), (3, .int (iv (n0))), (4, .int (iv (un)))] := hl
      refine lv_goto (tgt := 3) hx hb d_Mod_turn_76 (by decide) ?_
      exact ihi (by omega) _ _ _ (up ge1 i (gg (s0 + ((2 * i) * sd)))) (up go1 i (gg (s0 + (((2 * i) + 1) * sd)))) (lv_sub hl [1, 2, 3, 4, 5, 0] rfl) hP hD hS (by rw [it_s _ _ hii, ← hs]; show _ = (up ge1 i (gg (peI un s0 sd i)), up go1 i (gg (poI un s0 sd n0 i))); unfold peI poI; first | rw [if_pos hc22, if_pos hc22] | rw [if_neg hc22, if_neg hc22])
    · refine lv_iload hx hb d_Mod_turn_25 (lv_at hl 5 rfl) ?_
      refine lv_goto (tgt := 34) hx hb d_Mod_turn_27 (by decide) ?_
      refine lv_iload_n hx hb d_Mod_turn_34 rfl (lv_at hl 2 rfl) ?_
      refine k_imul hx hb d_Mod_turn_35 ?_
      refine k_iadd hx hb d_Mod_turn_36 ?_
      refine k_lal hx hb hK hP 1 1 rfl rfl (by decide) (by first | exact hix (2 * i) (by omega) (by omega) | exact hix i (by omega) (by omega)) d_Mod_turn_37 ?_
      refine k_las hx hb hK hP hD hS 2 1 rfl rfl (by decide) (by omega) d_Mod_turn_38 (fun H locs hP hD hS => ?_)
      have hP : va_P (gD G) classes [o_Mod rM wd ht rP rk rG rW rK kd db ew ac dn pr nu de rE rst wr rd rev rod cn rp rb ba sz1 lb rm cu sp nz rbl sl uz, (rG, al (gL G) 256 (gg)), (rev, al (gL G) 8 (up ge1 i (gg (s0 + (i * sd))))), (rod, al (gL G) 8 (go1))] H := hP
      have hD : va_D A [o_Mod rM wd ht rP rk rG rW rK kd db ew ac dn pr nu de rE rst wr rd rev rod cn rp rb ba sz1 lb rm cu sp nz rbl sl uz, (rG, al (gL G) 256 (gg)), (rev, al (gL G) 8 (up ge1 i (gg (s0 + (i * sd))))), (rod, al (gL G) 8 (go1))] := hD
      refine lv_aload_n hx hb d_Mod_turn_39 rfl (lv_at hl 0 rfl) ?_
      refine va_get (D := gD G) (ci := 7) (v := .ref rod) (C := R_Mod) (T := F_Mod) (N := 34) hx hb hw in_Mod hown hK hP 0 rfl rfl 20 (by decide) (hw _ m3_144) (fun _ h => h) rfl d_Mod_turn_40 ?_
      refine lv_iload hx hb d_Mod_turn_43 (lv_at hl 5 rfl) ?_
      refine lv_aload_n hx hb d_Mod_turn_45 rfl (lv_at hl 0 rfl) ?_
      refine va_get (D := gD G) (ci := 7) (v := .ref rG) (C := R_Mod) (T := F_Mod) (N := 34) hx hb hw in_Mod hown hK hP 0 rfl rfl 4 (by decide) (hw _ m3_128) (fun _ h => h) rfl d_Mod_turn_46 ?_
      refine lv_iload_n hx hb d_Mod_turn_49 rfl (lv_at hl 1 rfl) ?_
      refine lv_iload hx hb d_Mod_turn_50 (lv_at hl 4 rfl) ?_
      refine k_if_eq (tgt := 62) hx hb d_Mod_turn_52 (by decide) (by omega) (fun hc52 => absurd hc52 (by omega)) (fun hc52 => ?_)
      refine lv_iload_n hx hb d_Mod_turn_55 rfl (lv_at hl 3 rfl) ?_
      refine lv_iload hx hb d_Mod_turn_56 (lv_at hl 5 rfl) ?_
      refine k_iadd hx hb d_Mod_turn_58 ?_
      refine lv_goto (tgt := 68) hx hb d_Mod_turn_59 (by decide) ?_
      refine lv_iload_n hx hb d_Mod_turn_68 rfl (lv_at hl 2 rfl) ?_
      refine k_imul hx hb d_Mod_turn_69 ?_
      refine k_iadd hx hb d_Mod_turn_70 ?_
      refine k_lal hx hb hK hP 1 1 rfl rfl (by decide) (by first | exact hix (2 * i + 1) (by omega) (by omega) | exact hix (n0 + i) (by omega) (by omega)) d_Mod_turn_71 ?_
      refine k_las hx hb hK hP hD hS 3 1 rfl rfl (by decide) (by omega) d_Mod_turn_72 (fun H locs hP hD hS => ?_)
      have hP : va_P (gD G) classes [o_Mod rM wd ht rP rk rG rW rK kd db ew ac dn pr nu de rE rst wr rd rev rod cn rp rb ba sz1 lb rm cu sp nz rbl sl uz, (rG, al (gL G) 256 (gg)), (rev, al (gL G) 8 (up ge1 i (gg (s0 + (i * sd))))), (rod, al (gL G) 8 (up go1 i (gg (s0 + ((n0 + i) * sd)))))] H := hP
      have hD : va_D A [o_Mod rM wd ht rP rk rG rW rK kd db ew ac dn pr nu de rE rst wr rd rev rod cn rp rb ba sz1 lb rm cu sp nz rbl sl uz, (rG, al (gL G) 256 (gg)), (rev, al (gL G) 8 (up ge1 i (gg (s0 + (i * sd))))), (rod, al (gL G) 8 (up go1 i (gg (s0 + ((n0 + i) * sd)))))] := hD
      refine lv_iinc (k := 5) (v := iv (i + 1)) hx hb d_Mod_turn_73 hl rfl (iv_add _ _) (by decide) rfl (fun ls hl => ?_)
      have hl : lv_has ls 7 [(5, .int (iv (i + 1))), (0, .ref rM), (1, .int (iv (s0))), (2, .int (iv (sd))), (3, .int (iv (n0))), (4, .int (iv (un)))] := hl
      refine lv_goto (tgt := 3) hx hb d_Mod_turn_76 (by decide) ?_
      exact ihi (by omega) _ _ _ (up ge1 i (gg (s0 + (i * sd)))) (up go1 i (gg (s0 + ((n0 + i) * sd)))) (lv_sub hl [1, 2, 3, 4, 5, 0] rfl) hP hD hS (by rw [it_s _ _ hii, ← hs]; show _ = (up ge1 i (gg (peI un s0 sd i)), up go1 i (gg (poI un s0 sd n0 i))); unfold peI poI; first | rw [if_pos hc22, if_pos hc22] | rw [if_neg hc22, if_neg hc22])
abbrev w_Mod_region : List Cond := Cond.code y_Mod_region prog_9_method_21_code 7 none :: wl
abbrev r_Mod_region : Room := { frames := 4, cells := 0, slots := 0, locals := 116 }
set_option maxHeartbeats 4000000 in
set_option maxRecDepth 100000 in
theorem c_Mod_region (l : Launch) (G : k_G) (sz : Nat) (rM rP rk rG rW rK rE rst rev rod rp rb rbl : Nat) (w0 h0 ct un wd ht kd db ew ac dn pr nu de wr rd cn ba sz1 lb rm cu sp nz sl uz : Int) (gg ge go : Int → Int64) (hw0 : 0 ≤ w0 ∧ w0 ≤ 16) (hh0 : 0 ≤ h0 ∧ h0 ≤ 16) (hct : ct = 0 ∨ ct = 1) (hun : un = 0 ∨ un = 1) (hkd : 0 ≤ kd ∧ kd ≤ 6) : Met l y_Mod_region w_Mod_region r_Mod_region (k_P G [.ref rM, .int (iv (w0)), .int (iv (h0)), .int (iv (ct)), .int (iv (un))] [o_Mod rM wd ht rP rk rG rW rK kd db ew ac dn pr nu de rE rst wr rd rev rod cn rp rb ba sz1 lb rm cu sp nz rbl sl uz, (rG, al (gL G) 256 (gg)), (rev, al (gL G) 8 (ge)), (rod, al (gL G) 8 (go))] sz) (qv G (fun u : (Int → Int64) × (Int → Int64) × (Int → Int64) => u = rgA kd w0 h0 ct un (gg, ge, go)) (fun u : (Int → Int64) × (Int → Int64) × (Int → Int64) => [o_Mod rM wd ht rP rk rG rW rK kd db ew ac dn pr nu de rE rst wr rd rev rod cn rp rb ba sz1 lb rm cu sp nz rbl sl uz, (rG, al (gL G) 256 (u.1)), (rev, al (gL G) 8 (u.2.1)), (rod, al (gL G) 8 (u.2.2))]) (va_A [o_Mod rM wd ht rP rk rG rW rK kd db ew ac dn pr nu de rE rst wr rd rev rod cn rp rb ba sz1 lb rm cu sp nz rbl sl uz, (rG, al (gL G) 256 (gg)), (rev, al (gL G) 8 (ge)), (rod, al (gL G) 8 (go))] sz)) 0 0 (va_A [o_Mod rM wd ht rP rk rG rW rK kd db ew ac dn pr nu de rE rst wr rd rev rod cn rp rb ba sz1 lb rm cu sp nz rbl sl uz, (rG, al (gL G) 256 (gg)), (rev, al (gL G) 8 (ge)), (rod, al (gL G) 8 (go))] sz) := by
  refine k_met (fun A => qv G (fun u : (Int → Int64) × (Int → Int64) × (Int → Int64) => u = rgA kd w0 h0 ct un (gg, ge, go)) (fun u : (Int → Int64) × (Int → Int64) × (Int → Int64) => [o_Mod rM wd ht rP rk rG rW rK kd db ew ac dn pr nu de rE rst wr rd rev rod cn rp rb ba sz1 lb rm cu sp nz rbl sl uz, (rG, al (gL G) 256 (u.1)), (rev, al (gL G) 8 (u.2.1)), (rod, al (gL G) 8 (u.2.2))]) A) (fun A => A) (by decide) rfl (Nat.le_of_ble_eq_true rfl) (fun p e s m args below meth c ls A Q S hr hlk hnm hl hsz hP hK hD hS hA hT hQ => ?_)
  obtain ⟨hx, hb, hml, hown, hts⟩ := id S
  have hw : ∀ w ∈ wl, w.before args s = true := fun w h => hts w (List.mem_cons_of_mem _ h)
  have hl : lv_has ls 7 [(0, .ref rM), (1, .int (iv (w0))), (2, .int (iv (h0))), (3, .int (iv (ct))), (4, .int (iv (un)))] := hl
  have hm23 : ∀ (ls : Array Slot) (H : Heap) (locs : List Loc) (gn0 : Int), lv_has ls 7 [(0, .ref rM), (1, .int (iv (w0))), (2, .int (iv (h0))), (3, .int (iv (ct))), (4, .int (iv (un))), (5, .int (iv (gn0)))] → va_P (gD G) classes [o_Mod rM wd ht rP rk rG rW rK kd db ew ac dn pr nu de rE rst wr rd rev rod cn rp rb ba sz1 lb rm cu sp nz rbl sl uz, (rG, al (gL G) 256 (gg)), (rev, al (gL G) 8 (ge)), (rod, al (gL G) 8 (go))] H → va_D A [o_Mod rM wd ht rP rk rG rW rK kd db ew ac dn pr nu de rE rst wr rd rev rod cn rp rb ba sz1 lb rm cu sp nz rbl sl uz, (rG, al (gL G) 256 (gg)), (rev, al (gL G) 8 (ge)), (rod, al (gL G) 8 (go))] → va_S A s.heap H locs → (gn0 = gainT kd) → W p l e r_Mod_region s m args below meth c H locs 0 0 Q (F0 m 23 ls []) := by
    intro ls H locs gn0 hl hP hD hS hgn
    have hg1 := gainT_r kd
    rw [← hgn] at hg1
    refine lv_iconst (v := iv (0)) hx hb d_Mod_region_23 rfl ?_
    refine lv_istore hx hb d_Mod_region_24 hl (by decide) rfl (fun ls hl => ?_)
    have hl : lv_has ls 7 [(6, .int (iv (0))), (0, .ref rM), (1, .int (iv (w0))), (2, .int (iv (h0))), (3, .int (iv (ct))), (4, .int (iv (un))), (5, .int (iv (gn0)))] := hl
    refine lo_up (P := fun i => ∀ (ls : Array Slot) (H : Heap) (locs : List Loc) (a1 : Int → Int64), lv_has ls 7 [(0, .ref rM), (1, .int (iv (w0))), (2, .int (iv (h0))), (3, .int (iv (ct))), (4, .int (iv (un))), (5, .int (iv (gn0))), (6, .int (iv (i)))] → va_P (gD G) classes [o_Mod rM wd ht rP rk rG rW rK kd db ew ac dn pr nu de rE rst wr rd rev rod cn rp rb ba sz1 lb rm cu sp nz rbl sl uz, (rG, al (gL G) 256 (a1)), (rev, al (gL G) 8 (ge)), (rod, al (gL G) 8 (go))] H → va_D A [o_Mod rM wd ht rP rk rG rW rK kd db ew ac dn pr nu de rE rst wr rd rev rod cn rp rb ba sz1 lb rm cu sp nz rbl sl uz, (rG, al (gL G) 256 (a1)), (rev, al (gL G) 8 (ge)), (rod, al (gL G) 8 (go))] → va_S A s.heap H locs → (a1 = it (rg1 gn0 w0 h0 un) 0 i gg) → W p l e r_Mod_region s m args below meth c H locs 0 0 Q (F0 m 26 ls [])) (a := 0) (b := 256) (fun i hii hji ihi => ?_) _ _ _ gg (lv_sub hl [1, 2, 3, 4, 5, 6, 0] rfl) hP hD hS (it_self _ _ _).symm
    intro ls H locs a1 hl hP hD hS hs1
    refine lv_iload hx hb d_Mod_region_26 (lv_at hl 6 rfl) ?_
    refine lv_sipush (v := iv (256)) hx hb d_Mod_region_28 rfl ?_
    refine k_icmp_ge (tgt := 96) hx hb d_Mod_region_31 (by decide) (by omega) (by omega) (fun hc31 => ?_) (fun hc31 => ?_)
    · have e1 : a1 = it (rg1 gn0 w0 h0 un) 0 256 gg := by first | (rw [hs1]; exact it_x _ _ hc31 hji) | (rw [hs1, it_c (rg1_c (Or.inl hc36)), it_c (rg1_c (Or.inl hc36))]) | (rw [hs1, it_c (rg1_c (Or.inr hc41)), it_c (rg1_c (Or.inr hc41))])
      refine lv_iconst (v := iv (0)) hx hb d_Mod_region_96 rfl ?_
      refine lv_istore hx hb d_Mod_region_97 hl (by decide) rfl (fun ls hl => ?_)
      have hl : lv_has ls 7 [(6, .int (iv (0))), (0, .ref rM), (1, .int (iv (w0))), (2, .int (iv (h0))), (3, .int (iv (ct))), (4, .int (iv (un))), (5, .int (iv (gn0)))] := hl
      refine lo_up (P := fun j => ∀ (ls : Array Slot) (H : Heap) (locs : List Loc) (a2 : Int → Int64) (ge2 : Int → Int64) (go2 : Int → Int64), lv_has ls 7 [(0, .ref rM), (1, .int (iv (w0))), (2, .int (iv (h0))), (3, .int (iv (ct))), (4, .int (iv (un))), (5, .int (iv (gn0))), (6, .int (iv (j)))] → va_P (gD G) classes [o_Mod rM wd ht rP rk rG rW rK kd db ew ac dn pr nu de rE rst wr rd rev rod cn rp rb ba sz1 lb rm cu sp nz rbl sl uz, (rG, al (gL G) 256 (a2)), (rev, al (gL G) 8 (ge2)), (rod, al (gL G) 8 (go2))] H → va_D A [o_Mod rM wd ht rP rk rG rW rK kd db ew ac dn pr nu de rE rst wr rd rev rod cn rp rb ba sz1 lb rm cu sp nz rbl sl uz, (rG, al (gL G) 256 (a2)), (rev, al (gL G) 8 (ge2)), (rod, al (gL G) 8 (go2))] → va_S A s.heap H locs → ((a2, ge2, go2) = it (rg2 kd h0 ct un) 0 j (a1, ge, go)) → W p l e r_Mod_region s m args below meth c H locs 0 0 Q (F0 m 99 ls [])) (a := 0) (b := w0) (fun j hij hjj ihj => ?_) _ _ _ a1 ge go (lv_sub hl [1, 2, 3, 4, 5, 6, 0] rfl) hP hD hS (it_self _ _ _).symm
      intro ls H locs a2 ge2 go2 hl hP hD hS hs2
      refine lv_iload hx hb d_Mod_region_99 (lv_at hl 6 rfl) ?_
      refine lv_iload_n hx hb d_Mod_region_101 rfl (lv_at hl 1 rfl) ?_
      refine k_icmp_ge (tgt := 132) hx hb d_Mod_region_102 (by decide) (by omega) (by omega) (fun hc102 => ?_) (fun hc102 => ?_)
      · have e2 : (a2, ge2, go2) = it (rg2 kd h0 ct un) 0 w0 (a1, ge, go) := by first | (rw [hs2]; exact it_x _ _ hc102 hjj) | (rw [hs2, it_c (rg2_c (Or.inl hc106)), it_c (rg2_c (Or.inl hc106))]) | (rw [hs2, it_c (rg2_c (Or.inr hc111)), it_c (rg2_c (Or.inr hc111))])
        refine lv_iconst (v := iv (0)) hx hb d_Mod_region_132 rfl ?_
        refine lv_istore hx hb d_Mod_region_133 hl (by decide) rfl (fun ls hl => ?_)
        have hl : lv_has ls 7 [(6, .int (iv (0))), (0, .ref rM), (1, .int (iv (w0))), (2, .int (iv (h0))), (3, .int (iv (ct))), (4, .int (iv (un))), (5, .int (iv (gn0)))] := hl
        refine lo_up (P := fun k => ∀ (ls : Array Slot) (H : Heap) (locs : List Loc) (a3 : Int → Int64) (ge3 : Int → Int64) (go3 : Int → Int64), lv_has ls 7 [(0, .ref rM), (1, .int (iv (w0))), (2, .int (iv (h0))), (3, .int (iv (ct))), (4, .int (iv (un))), (5, .int (iv (gn0))), (6, .int (iv (k)))] → va_P (gD G) classes [o_Mod rM wd ht rP rk rG rW rK kd db ew ac dn pr nu de rE rst wr rd rev rod cn rp rb ba sz1 lb rm cu sp nz rbl sl uz, (rG, al (gL G) 256 (a3)), (rev, al (gL G) 8 (ge3)), (rod, al (gL G) 8 (go3))] H → va_D A [o_Mod rM wd ht rP rk rG rW rK kd db ew ac dn pr nu de rE rst wr rd rev rod cn rp rb ba sz1 lb rm cu sp nz rbl sl uz, (rG, al (gL G) 256 (a3)), (rev, al (gL G) 8 (ge3)), (rod, al (gL G) 8 (go3))] → va_S A s.heap H locs → ((a3, ge3, go3) = it (rg3 kd w0 un) 0 k (a2, ge2, go2)) → W p l e r_Mod_region s m args below meth c H locs 0 0 Q (F0 m 135 ls [])) (a := 0) (b := h0) (fun k hik hjk ihk => ?_) _ _ _ a2 ge2 go2 (lv_sub hl [1, 2, 3, 4, 5, 6, 0] rfl) hP hD hS (it_self _ _ _).symm
        intro ls H locs a3 ge3 go3 hl hP hD hS hs3
        refine lv_iload hx hb d_Mod_region_135 (lv_at hl 6 rfl) ?_
        refine lv_iload_n hx hb d_Mod_region_137 rfl (lv_at hl 2 rfl) ?_
        refine k_icmp_ge (tgt := 162) hx hb d_Mod_region_138 (by decide) (by omega) (by omega) (fun hc138 => ?_) (fun hc138 => ?_)
        · have e3 : (a3, ge3, go3) = it (rg3 kd w0 un) 0 h0 (a2, ge2, go2) := by rw [hs3]; exact it_x _ _ hc138 hjk
          refine lv_iconst (v := iv (0)) hx hb d_Mod_region_162 rfl ?_
          refine lv_istore hx hb d_Mod_region_163 hl (by decide) rfl (fun ls hl => ?_)
          have hl : lv_has ls 7 [(6, .int (iv (0))), (0, .ref rM), (1, .int (iv (w0))), (2, .int (iv (h0))), (3, .int (iv (ct))), (4, .int (iv (un))), (5, .int (iv (gn0)))] := hl
          refine lo_up (P := fun x => ∀ (ls : Array Slot) (H : Heap) (locs : List Loc) (a4 : Int → Int64) (ge4 : Int → Int64) (go4 : Int → Int64), lv_has ls 7 [(0, .ref rM), (1, .int (iv (w0))), (2, .int (iv (h0))), (3, .int (iv (ct))), (4, .int (iv (un))), (5, .int (iv (gn0))), (6, .int (iv (x)))] → va_P (gD G) classes [o_Mod rM wd ht rP rk rG rW rK kd db ew ac dn pr nu de rE rst wr rd rev rod cn rp rb ba sz1 lb rm cu sp nz rbl sl uz, (rG, al (gL G) 256 (a4)), (rev, al (gL G) 8 (ge4)), (rod, al (gL G) 8 (go4))] H → va_D A [o_Mod rM wd ht rP rk rG rW rK kd db ew ac dn pr nu de rE rst wr rd rev rod cn rp rb ba sz1 lb rm cu sp nz rbl sl uz, (rG, al (gL G) 256 (a4)), (rev, al (gL G) 8 (ge4)), (rod, al (gL G) 8 (go4))] → va_S A s.heap H locs → ((a4, ge4, go4) = it (rg4 kd h0 ct un) 0 x (a3, ge3, go3)) → W p l e r_Mod_region s m args below meth c H locs 0 0 Q (F0 m 165 ls [])) (a := 0) (b := w0) (fun x hix hjx ihx => ?_) _ _ _ a3 ge3 go3 (lv_sub hl [1, 2, 3, 4, 5, 6, 0] rfl) hP hD hS (it_self _ _ _).symm
          intro ls H locs a4 ge4 go4 hl hP hD hS hs4
          refine lv_iload hx hb d_Mod_region_165 (lv_at hl 6 rfl) ?_
          refine lv_iload_n hx hb d_Mod_region_167 rfl (lv_at hl 1 rfl) ?_
          refine k_icmp_ge (tgt := 198) hx hb d_Mod_region_168 (by decide) (by omega) (by omega) (fun hc168 => ?_) (fun hc168 => ?_)
          · have e4 : (a4, ge4, go4) = it (rg4 kd h0 ct un) 0 w0 (a3, ge3, go3) := by first | (rw [hs4]; exact it_x _ _ hc168 hjx) | (rw [hs4, it_c (rg4_c (Or.inl hc172)), it_c (rg4_c (Or.inl hc172))]) | (rw [hs4, it_c (rg4_c (Or.inr hc177)), it_c (rg4_c (Or.inr hc177))])
            refine lv_iconst (v := iv (0)) hx hb d_Mod_region_198 rfl ?_
            refine lv_istore hx hb d_Mod_region_199 hl (by decide) rfl (fun ls hl => ?_)
            have hl : lv_has ls 7 [(6, .int (iv (0))), (0, .ref rM), (1, .int (iv (w0))), (2, .int (iv (h0))), (3, .int (iv (ct))), (4, .int (iv (un))), (5, .int (iv (gn0)))] := hl
            refine lo_up (P := fun y => ∀ (ls : Array Slot) (H : Heap) (locs : List Loc) (a5 : Int → Int64), lv_has ls 7 [(0, .ref rM), (1, .int (iv (w0))), (2, .int (iv (h0))), (3, .int (iv (ct))), (4, .int (iv (un))), (5, .int (iv (gn0))), (6, .int (iv (y)))] → va_P (gD G) classes [o_Mod rM wd ht rP rk rG rW rK kd db ew ac dn pr nu de rE rst wr rd rev rod cn rp rb ba sz1 lb rm cu sp nz rbl sl uz, (rG, al (gL G) 256 (a5)), (rev, al (gL G) 8 (ge4)), (rod, al (gL G) 8 (go4))] H → va_D A [o_Mod rM wd ht rP rk rG rW rK kd db ew ac dn pr nu de rE rst wr rd rev rod cn rp rb ba sz1 lb rm cu sp nz rbl sl uz, (rG, al (gL G) 256 (a5)), (rev, al (gL G) 8 (ge4)), (rod, al (gL G) 8 (go4))] → va_S A s.heap H locs → (a5 = it (rg5 gn0 w0 h0 un) 0 y a4) → W p l e r_Mod_region s m args below meth c H locs 0 0 Q (F0 m 201 ls [])) (a := 0) (b := 256) (fun y hiy hjy ihy => ?_) _ _ _ a4 (lv_sub hl [1, 2, 3, 4, 5, 6, 0] rfl) hP hD hS (it_self _ _ _).symm
            intro ls H locs a5 hl hP hD hS hs5
            refine lv_iload hx hb d_Mod_region_201 (lv_at hl 6 rfl) ?_
            refine lv_sipush (v := iv (256)) hx hb d_Mod_region_203 rfl ?_
            refine k_icmp_ge (tgt := 271) hx hb d_Mod_region_206 (by decide) (by omega) (by omega) (fun hc206 => ?_) (fun hc206 => ?_)
            · exact k_vret hx hb hr hlk hQ ((a5, ge4, go4)) (by unfold rgA; dsimp only; rw [← hgn, ← e1, ← e2, ← e3, ← e4, show it (rg5 gn0 w0 h0 un) 0 256 a4 = a5 from (by first | (rw [hs5]; exact (it_x _ _ hc206 hjy).symm) | (rw [hs5, it_c (rg5_c (Or.inl hc211)), it_c (rg5_c (Or.inl hc211))]) | (rw [hs5, it_c (rg5_c (Or.inr hc216)), it_c (rg5_c (Or.inr hc216))]))]) hP hD hS d_Mod_region_271
            · refine lv_iload hx hb d_Mod_region_209 (lv_at hl 5 rfl) ?_
              refine k_if_eq (tgt := 271) hx hb d_Mod_region_211 (by decide) (by omega) (fun hc211 => ?_) (fun hc211 => ?_)
              · exact k_vret hx hb hr hlk hQ ((a5, ge4, go4)) (by unfold rgA; dsimp only; rw [← hgn, ← e1, ← e2, ← e3, ← e4, show it (rg5 gn0 w0 h0 un) 0 256 a4 = a5 from (by first | (rw [hs5]; exact (it_x _ _ hc206 hjy).symm) | (rw [hs5, it_c (rg5_c (Or.inl hc211)), it_c (rg5_c (Or.inl hc211))]) | (rw [hs5, it_c (rg5_c (Or.inr hc216)), it_c (rg5_c (Or.inr hc216))]))]) hP hD hS d_Mod_region_271
              · refine lv_iload hx hb d_Mod_region_214 (lv_at hl 4 rfl) ?_
                refine k_if_eq (tgt := 271) hx hb d_Mod_region_216 (by decide) (by omega) (fun hc216 => ?_) (fun hc216 => ?_)
                · exact k_vret hx hb hr hlk hQ ((a5, ge4, go4)) (by unfold rgA; dsimp only; rw [← hgn, ← e1, ← e2, ← e3, ← e4, show it (rg5 gn0 w0 h0 un) 0 256 a4 = a5 from (by first | (rw [hs5]; exact (it_x _ _ hc206 hjy).symm) | (rw [hs5, it_c (rg5_c (Or.inl hc211)), it_c (rg5_c (Or.inl hc211))]) | (rw [hs5, it_c (rg5_c (Or.inr hc216)), it_c (rg5_c (Or.inr hc216))]))]) hP hD hS d_Mod_region_271
                · refine lv_aload_n hx hb d_Mod_region_219 rfl (lv_at hl 0 rfl) ?_
                  refine va_get (D := gD G) (ci := 7) (v := .ref rG) (C := R_Mod) (T := F_Mod) (N := 34) hx hb hw in_Mod hown hK hP 0 rfl rfl 4 (by decide) (hw _ m3_128) (fun _ h => h) rfl d_Mod_region_220 ?_
                  refine lv_iload hx hb d_Mod_region_223 (lv_at hl 6 rfl) ?_
                  refine lv_iload hx hb d_Mod_region_225 (lv_at hl 6 rfl) ?_
                  refine lv_bipush (v := iv (16)) hx hb d_Mod_region_227 rfl ?_
                  refine k_irem hx hb d_Mod_region_229 (by omega) (by omega) ?_
                  refine lv_iload_n hx hb d_Mod_region_230 rfl (lv_at hl 1 rfl) ?_
                  refine k_icmp_ge (tgt := 257) hx hb d_Mod_region_231 (by decide) (by omega) (by omega) (fun hc231 => ?_) (fun hc231 => ?_)
                  · refine lv_aload_n hx hb d_Mod_region_257 rfl (lv_at hl 0 rfl) ?_
                    refine va_get (D := gD G) (ci := 7) (v := .ref rG) (C := R_Mod) (T := F_Mod) (N := 34) hx hb hw in_Mod hown hK hP 0 rfl rfl 4 (by decide) (hw _ m3_128) (fun _ h => h) rfl d_Mod_region_258 ?_
                    refine lv_iload hx hb d_Mod_region_261 (lv_at hl 6 rfl) ?_
                    refine k_lal hx hb hK hP 1 1 rfl rfl (by decide) (by omega) d_Mod_region_263 ?_
                    refine k_las hx hb hK hP hD hS 1 1 rfl rfl (by decide) (by omega) d_Mod_region_264 (fun H locs hP hD hS => ?_)
                    have hP : va_P (gD G) classes [o_Mod rM wd ht rP rk rG rW rK kd db ew ac dn pr nu de rE rst wr rd rev rod cn rp rb ba sz1 lb rm cu sp nz rbl sl uz, (rG, al (gL G) 256 (up a5 y (a5 y))), (rev, al (gL G) 8 (ge4)), (rod, al (gL G) 8 (go4))] H := hP
                    have hD : va_D A [o_Mod rM wd ht rP rk rG rW rK kd db ew ac dn pr nu de rE rst wr rd rev rod cn rp rb ba sz1 lb rm cu sp nz rbl sl uz, (rG, al (gL G) 256 (up a5 y (a5 y))), (rev, al (gL G) 8 (ge4)), (rod, al (gL G) 8 (go4))] := hD
                    refine lv_iinc (k := 6) (v := iv (y + 1)) hx hb d_Mod_region_265 hl rfl (iv_add _ _) (by decide) rfl (fun ls hl => ?_)
                    have hl : lv_has ls 7 [(6, .int (iv (y + 1))), (0, .ref rM), (1, .int (iv (w0))), (2, .int (iv (h0))), (3, .int (iv (ct))), (4, .int (iv (un))), (5, .int (iv (gn0)))] := hl
                    refine lv_goto (tgt := 201) hx hb d_Mod_region_268 (by decide) ?_
                    exact ihy (by omega) _ _ _ (up a5 y (a5 y)) (lv_sub hl [1, 2, 3, 4, 5, 6, 0] rfl) hP hD hS (by rw [it_s _ _ hiy, ← hs5]; unfold rg5; rw [if_neg (by omega)]; first | rw [if_pos (by omega)] | rw [if_neg (by omega)])
                  · refine lv_iload hx hb d_Mod_region_234 (lv_at hl 6 rfl) ?_
                    refine lv_bipush (v := iv (16)) hx hb d_Mod_region_236 rfl ?_
                    refine k_idiv hx hb d_Mod_region_238 (by omega) (by omega) ?_
                    refine lv_iload_n hx hb d_Mod_region_239 rfl (lv_at hl 2 rfl) ?_
                    refine k_icmp_ge (tgt := 257) hx hb d_Mod_region_240 (by decide) (by omega) (by omega) (fun hc240 => ?_) (fun hc240 => ?_)
                    · refine lv_aload_n hx hb d_Mod_region_257 rfl (lv_at hl 0 rfl) ?_
                      refine va_get (D := gD G) (ci := 7) (v := .ref rG) (C := R_Mod) (T := F_Mod) (N := 34) hx hb hw in_Mod hown hK hP 0 rfl rfl 4 (by decide) (hw _ m3_128) (fun _ h => h) rfl d_Mod_region_258 ?_
                      refine lv_iload hx hb d_Mod_region_261 (lv_at hl 6 rfl) ?_
                      refine k_lal hx hb hK hP 1 1 rfl rfl (by decide) (by omega) d_Mod_region_263 ?_
                      refine k_las hx hb hK hP hD hS 1 1 rfl rfl (by decide) (by omega) d_Mod_region_264 (fun H locs hP hD hS => ?_)
                      have hP : va_P (gD G) classes [o_Mod rM wd ht rP rk rG rW rK kd db ew ac dn pr nu de rE rst wr rd rev rod cn rp rb ba sz1 lb rm cu sp nz rbl sl uz, (rG, al (gL G) 256 (up a5 y (a5 y))), (rev, al (gL G) 8 (ge4)), (rod, al (gL G) 8 (go4))] H := hP
                      have hD : va_D A [o_Mod rM wd ht rP rk rG rW rK kd db ew ac dn pr nu de rE rst wr rd rev rod cn rp rb ba sz1 lb rm cu sp nz rbl sl uz, (rG, al (gL G) 256 (up a5 y (a5 y))), (rev, al (gL G) 8 (ge4)), (rod, al (gL G) 8 (go4))] := hD
                      refine lv_iinc (k := 6) (v := iv (y + 1)) hx hb d_Mod_region_265 hl rfl (iv_add _ _) (by decide) rfl (fun ls hl => ?_)
                      have hl : lv_has ls 7 [(6, .int (iv (y + 1))), (0, .ref rM), (1, .int (iv (w0))), (2, .int (iv (h0))), (3, .int (iv (ct))), (4, .int (iv (un))), (5, .int (iv (gn0)))] := hl
                      refine lv_goto (tgt := 201) hx hb d_Mod_region_268 (by decide) ?_
                      exact ihy (by omega) _ _ _ (up a5 y (a5 y)) (lv_sub hl [1, 2, 3, 4, 5, 6, 0] rfl) hP hD hS (by rw [it_s _ _ hiy, ← hs5]; unfold rg5; rw [if_neg (by omega)]; first | rw [if_pos (by omega)] | rw [if_neg (by omega)])
                    · refine lv_aload_n hx hb d_Mod_region_243 rfl (lv_at hl 0 rfl) ?_
                      refine va_get (D := gD G) (ci := 7) (v := .ref rG) (C := R_Mod) (T := F_Mod) (N := 34) hx hb hw in_Mod hown hK hP 0 rfl rfl 4 (by decide) (hw _ m3_128) (fun _ h => h) rfl d_Mod_region_244 ?_
                      refine lv_iload hx hb d_Mod_region_247 (lv_at hl 6 rfl) ?_
                      refine k_lal hx hb hK hP 1 1 rfl rfl (by decide) (by omega) d_Mod_region_249 ?_
                      refine lv_lconst (v := 1) hx hb d_Mod_region_250 rfl ?_
                      refine lv_ladd hx hb d_Mod_region_251 ?_
                      refine lv_iconst (v := iv (1)) hx hb d_Mod_region_252 rfl ?_
                      refine k_lshr hx hb d_Mod_region_253 ?_
                      refine lv_goto (tgt := 264) hx hb d_Mod_region_254 (by decide) ?_
                      refine k_las hx hb hK hP hD hS 1 1 rfl rfl (by decide) (by omega) d_Mod_region_264 (fun H locs hP hD hS => ?_)
                      have hP : va_P (gD G) classes [o_Mod rM wd ht rP rk rG rW rK kd db ew ac dn pr nu de rE rst wr rd rev rod cn rp rb ba sz1 lb rm cu sp nz rbl sl uz, (rG, al (gL G) 256 (up a5 y (shR ((a5 y) + ((1 : Int64))) 1))), (rev, al (gL G) 8 (ge4)), (rod, al (gL G) 8 (go4))] H := hP
                      have hD : va_D A [o_Mod rM wd ht rP rk rG rW rK kd db ew ac dn pr nu de rE rst wr rd rev rod cn rp rb ba sz1 lb rm cu sp nz rbl sl uz, (rG, al (gL G) 256 (up a5 y (shR ((a5 y) + ((1 : Int64))) 1))), (rev, al (gL G) 8 (ge4)), (rod, al (gL G) 8 (go4))] := hD
                      refine lv_iinc (k := 6) (v := iv (y + 1)) hx hb d_Mod_region_265 hl rfl (iv_add _ _) (by decide) rfl (fun ls hl => ?_)
                      have hl : lv_has ls 7 [(6, .int (iv (y + 1))), (0, .ref rM), (1, .int (iv (w0))), (2, .int (iv (h0))), (3, .int (iv (ct))), (4, .int (iv (un))), (5, .int (iv (gn0)))] := hl
                      refine lv_goto (tgt := 201) hx hb d_Mod_region_268 (by decide) ?_
                      exact ihy (by omega) _ _ _ (up a5 y (shR ((a5 y) + ((1 : Int64))) 1)) (lv_sub hl [1, 2, 3, 4, 5, 6, 0] rfl) hP hD hS (by rw [it_s _ _ hiy, ← hs5]; unfold rg5; rw [if_neg (by omega)]; first | rw [if_pos (by omega)] | rw [if_neg (by omega)])
          · refine lv_iload_n hx hb d_Mod_region_171 rfl (lv_at hl 3 rfl) ?_
            refine k_if_eq (tgt := 198) hx hb d_Mod_region_172 (by decide) (by omega) (fun hc172 => ?_) (fun hc172 => ?_)
            · have e4 : (a4, ge4, go4) = it (rg4 kd h0 ct un) 0 w0 (a3, ge3, go3) := by first | (rw [hs4]; exact it_x _ _ hc168 hjx) | (rw [hs4, it_c (rg4_c (Or.inl hc172)), it_c (rg4_c (Or.inl hc172))]) | (rw [hs4, it_c (rg4_c (Or.inr hc177)), it_c (rg4_c (Or.inr hc177))])
              refine lv_iconst (v := iv (0)) hx hb d_Mod_region_198 rfl ?_
              refine lv_istore hx hb d_Mod_region_199 hl (by decide) rfl (fun ls hl => ?_)
              have hl : lv_has ls 7 [(6, .int (iv (0))), (0, .ref rM), (1, .int (iv (w0))), (2, .int (iv (h0))), (3, .int (iv (ct))), (4, .int (iv (un))), (5, .int (iv (gn0)))] := hl
              refine lo_up (P := fun y => ∀ (ls : Array Slot) (H : Heap) (locs : List Loc) (a5 : Int → Int64), lv_has ls 7 [(0, .ref rM), (1, .int (iv (w0))), (2, .int (iv (h0))), (3, .int (iv (ct))), (4, .int (iv (un))), (5, .int (iv (gn0))), (6, .int (iv (y)))] → va_P (gD G) classes [o_Mod rM wd ht rP rk rG rW rK kd db ew ac dn pr nu de rE rst wr rd rev rod cn rp rb ba sz1 lb rm cu sp nz rbl sl uz, (rG, al (gL G) 256 (a5)), (rev, al (gL G) 8 (ge4)), (rod, al (gL G) 8 (go4))] H → va_D A [o_Mod rM wd ht rP rk rG rW rK kd db ew ac dn pr nu de rE rst wr rd rev rod cn rp rb ba sz1 lb rm cu sp nz rbl sl uz, (rG, al (gL G) 256 (a5)), (rev, al (gL G) 8 (ge4)), (rod, al (gL G) 8 (go4))] → va_S A s.heap H locs → (a5 = it (rg5 gn0 w0 h0 un) 0 y a4) → W p l e r_Mod_region s m args below meth c H locs 0 0 Q (F0 m 201 ls [])) (a := 0) (b := 256) (fun y hiy hjy ihy => ?_) _ _ _ a4 (lv_sub hl [1, 2, 3, 4, 5, 6, 0] rfl) hP hD hS (it_self _ _ _).symm
              intro ls H locs a5 hl hP hD hS hs5
              refine lv_iload hx hb d_Mod_region_201 (lv_at hl 6 rfl) ?_
              refine lv_sipush (v := iv (256)) hx hb d_Mod_region_203 rfl ?_
              refine k_icmp_ge (tgt := 271) hx hb d_Mod_region_206 (by decide) (by omega) (by omega) (fun hc206 => ?_) (fun hc206 => ?_)
              · exact k_vret hx hb hr hlk hQ ((a5, ge4, go4)) (by unfold rgA; dsimp only; rw [← hgn, ← e1, ← e2, ← e3, ← e4, show it (rg5 gn0 w0 h0 un) 0 256 a4 = a5 from (by first | (rw [hs5]; exact (it_x _ _ hc206 hjy).symm) | (rw [hs5, it_c (rg5_c (Or.inl hc211)), it_c (rg5_c (Or.inl hc211))]) | (rw [hs5, it_c (rg5_c (Or.inr hc216)), it_c (rg5_c (Or.inr hc216))]))]) hP hD hS d_Mod_region_271
              · refine lv_iload hx hb d_Mod_region_209 (lv_at hl 5 rfl) ?_
                refine k_if_eq (tgt := 271) hx hb d_Mod_region_211 (by decide) (by omega) (fun hc211 => ?_) (fun hc211 => ?_)
                · exact k_vret hx hb hr hlk hQ ((a5, ge4, go4)) (by unfold rgA; dsimp only; rw [← hgn, ← e1, ← e2, ← e3, ← e4, show it (rg5 gn0 w0 h0 un) 0 256 a4 = a5 from (by first | (rw [hs5]; exact (it_x _ _ hc206 hjy).symm) | (rw [hs5, it_c (rg5_c (Or.inl hc211)), it_c (rg5_c (Or.inl hc211))]) | (rw [hs5, it_c (rg5_c (Or.inr hc216)), it_c (rg5_c (Or.inr hc216))]))]) hP hD hS d_Mod_region_271
                · refine lv_iload hx hb d_Mod_region_214 (lv_at hl 4 rfl) ?_
                  refine k_if_eq (tgt := 271) hx hb d_Mod_region_216 (by decide) (by omega) (fun hc216 => ?_) (fun hc216 => ?_)
                  · exact k_vret hx hb hr hlk hQ ((a5, ge4, go4)) (by unfold rgA; dsimp only; rw [← hgn, ← e1, ← e2, ← e3, ← e4, show it (rg5 gn0 w0 h0 un) 0 256 a4 = a5 from (by first | (rw [hs5]; exact (it_x _ _ hc206 hjy).symm) | (rw [hs5, it_c (rg5_c (Or.inl hc211)), it_c (rg5_c (Or.inl hc211))]) | (rw [hs5, it_c (rg5_c (Or.inr hc216)), it_c (rg5_c (Or.inr hc216))]))]) hP hD hS d_Mod_region_271
                  · refine lv_aload_n hx hb d_Mod_region_219 rfl (lv_at hl 0 rfl) ?_
                    refine va_get (D := gD G) (ci := 7) (v := .ref rG) (C := R_Mod) (T := F_Mod) (N := 34) hx hb hw in_Mod hown hK hP 0 rfl rfl 4 (by decide) (hw _ m3_128) (fun _ h => h) rfl d_Mod_region_220 ?_
                    refine lv_iload hx hb d_Mod_region_223 (lv_at hl 6 rfl) ?_
                    refine lv_iload hx hb d_Mod_region_225 (lv_at hl 6 rfl) ?_
                    refine lv_bipush (v := iv (16)) hx hb d_Mod_region_227 rfl ?_
                    refine k_irem hx hb d_Mod_region_229 (by omega) (by omega) ?_
                    refine lv_iload_n hx hb d_Mod_region_230 rfl (lv_at hl 1 rfl) ?_
                    refine k_icmp_ge (tgt := 257) hx hb d_Mod_region_231 (by decide) (by omega) (by omega) (fun hc231 => ?_) (fun hc231 => ?_)
                    · refine lv_aload_n hx hb d_Mod_region_257 rfl (lv_at hl 0 rfl) ?_
                      refine va_get (D := gD G) (ci := 7) (v := .ref rG) (C := R_Mod) (T := F_Mod) (N := 34) hx hb hw in_Mod hown hK hP 0 rfl rfl 4 (by decide) (hw _ m3_128) (fun _ h => h) rfl d_Mod_region_258 ?_
                      refine lv_iload hx hb d_Mod_region_261 (lv_at hl 6 rfl) ?_
                      refine k_lal hx hb hK hP 1 1 rfl rfl (by decide) (by omega) d_Mod_region_263 ?_
                      refine k_las hx hb hK hP hD hS 1 1 rfl rfl (by decide) (by omega) d_Mod_region_264 (fun H locs hP hD hS => ?_)
                      have hP : va_P (gD G) classes [o_Mod rM wd ht rP rk rG rW rK kd db ew ac dn pr nu de rE rst wr rd rev rod cn rp rb ba sz1 lb rm cu sp nz rbl sl uz, (rG, al (gL G) 256 (up a5 y (a5 y))), (rev, al (gL G) 8 (ge4)), (rod, al (gL G) 8 (go4))] H := hP
                      have hD : va_D A [o_Mod rM wd ht rP rk rG rW rK kd db ew ac dn pr nu de rE rst wr rd rev rod cn rp rb ba sz1 lb rm cu sp nz rbl sl uz, (rG, al (gL G) 256 (up a5 y (a5 y))), (rev, al (gL G) 8 (ge4)), (rod, al (gL G) 8 (go4))] := hD
                      refine lv_iinc (k := 6) (v := iv (y + 1)) hx hb d_Mod_region_265 hl rfl (iv_add _ _) (by decide) rfl (fun ls hl => ?_)
                      have hl : lv_has ls 7 [(6, .int (iv (y + 1))), (0, .ref rM), (1, .int (iv (w0))), (2, .int (iv (h0))), (3, .int (iv (ct))), (4, .int (iv (un))), (5, .int (iv (gn0)))] := hl
                      refine lv_goto (tgt := 201) hx hb d_Mod_region_268 (by decide) ?_
                      exact ihy (by omega) _ _ _ (up a5 y (a5 y)) (lv_sub hl [1, 2, 3, 4, 5, 6, 0] rfl) hP hD hS (by rw [it_s _ _ hiy, ← hs5]; unfold rg5; rw [if_neg (by omega)]; first | rw [if_pos (by omega)] | rw [if_neg (by omega)])
                    · refine lv_iload hx hb d_Mod_region_234 (lv_at hl 6 rfl) ?_
                      refine lv_bipush (v := iv (16)) hx hb d_Mod_region_236 rfl ?_
                      refine k_idiv hx hb d_Mod_region_238 (by omega) (by omega) ?_
                      refine lv_iload_n hx hb d_Mod_region_239 rfl (lv_at hl 2 rfl) ?_
                      refine k_icmp_ge (tgt := 257) hx hb d_Mod_region_240 (by decide) (by omega) (by omega) (fun hc240 => ?_) (fun hc240 => ?_)
                      · refine lv_aload_n hx hb d_Mod_region_257 rfl (lv_at hl 0 rfl) ?_
                        refine va_get (D := gD G) (ci := 7) (v := .ref rG) (C := R_Mod) (T := F_Mod) (N := 34) hx hb hw in_Mod hown hK hP 0 rfl rfl 4 (by decide) (hw _ m3_128) (fun _ h => h) rfl d_Mod_region_258 ?_
                        refine lv_iload hx hb d_Mod_region_261 (lv_at hl 6 rfl) ?_
                        refine k_lal hx hb hK hP 1 1 rfl rfl (by decide) (by omega) d_Mod_region_263 ?_
                        refine k_las hx hb hK hP hD hS 1 1 rfl rfl (by decide) (by omega) d_Mod_region_264 (fun H locs hP hD hS => ?_)
                        have hP : va_P (gD G) classes [o_Mod rM wd ht rP rk rG rW rK kd db ew ac dn pr nu de rE rst wr rd rev rod cn rp rb ba sz1 lb rm cu sp nz rbl sl uz, (rG, al (gL G) 256 (up a5 y (a5 y))), (rev, al (gL G) 8 (ge4)), (rod, al (gL G) 8 (go4))] H := hP
                        have hD : va_D A [o_Mod rM wd ht rP rk rG rW rK kd db ew ac dn pr nu de rE rst wr rd rev rod cn rp rb ba sz1 lb rm cu sp nz rbl sl uz, (rG, al (gL G) 256 (up a5 y (a5 y))), (rev, al (gL G) 8 (ge4)), (rod, al (gL G) 8 (go4))] := hD
                        refine lv_iinc (k := 6) (v := iv (y + 1)) hx hb d_Mod_region_265 hl rfl (iv_add _ _) (by decide) rfl (fun ls hl => ?_)
                        have hl : lv_has ls 7 [(6, .int (iv (y + 1))), (0, .ref rM), (1, .int (iv (w0))), (2, .int (iv (h0))), (3, .int (iv (ct))), (4, .int (iv (un))), (5, .int (iv (gn0)))] := hl
                        refine lv_goto (tgt := 201) hx hb d_Mod_region_268 (by decide) ?_
                        exact ihy (by omega) _ _ _ (up a5 y (a5 y)) (lv_sub hl [1, 2, 3, 4, 5, 6, 0] rfl) hP hD hS (by rw [it_s _ _ hiy, ← hs5]; unfold rg5; rw [if_neg (by omega)]; first | rw [if_pos (by omega)] | rw [if_neg (by omega)])
                      · refine lv_aload_n hx hb d_Mod_region_243 rfl (lv_at hl 0 rfl) ?_
                        refine va_get (D := gD G) (ci := 7) (v := .ref rG) (C := R_Mod) (T := F_Mod) (N := 34) hx hb hw in_Mod hown hK hP 0 rfl rfl 4 (by decide) (hw _ m3_128) (fun _ h => h) rfl d_Mod_region_244 ?_
                        refine lv_iload hx hb d_Mod_region_247 (lv_at hl 6 rfl) ?_
                        refine k_lal hx hb hK hP 1 1 rfl rfl (by decide) (by omega) d_Mod_region_249 ?_
                        refine lv_lconst (v := 1) hx hb d_Mod_region_250 rfl ?_
                        refine lv_ladd hx hb d_Mod_region_251 ?_
                        refine lv_iconst (v := iv (1)) hx hb d_Mod_region_252 rfl ?_
                        refine k_lshr hx hb d_Mod_region_253 ?_
                        refine lv_goto (tgt := 264) hx hb d_Mod_region_254 (by decide) ?_
                        refine k_las hx hb hK hP hD hS 1 1 rfl rfl (by decide) (by omega) d_Mod_region_264 (fun H locs hP hD hS => ?_)
                        have hP : va_P (gD G) classes [o_Mod rM wd ht rP rk rG rW rK kd db ew ac dn pr nu de rE rst wr rd rev rod cn rp rb ba sz1 lb rm cu sp nz rbl sl uz, (rG, al (gL G) 256 (up a5 y (shR ((a5 y) + ((1 : Int64))) 1))), (rev, al (gL G) 8 (ge4)), (rod, al (gL G) 8 (go4))] H := hP
                        have hD : va_D A [o_Mod rM wd ht rP rk rG rW rK kd db ew ac dn pr nu de rE rst wr rd rev rod cn rp rb ba sz1 lb rm cu sp nz rbl sl uz, (rG, al (gL G) 256 (up a5 y (shR ((a5 y) + ((1 : Int64))) 1))), (rev, al (gL G) 8 (ge4)), (rod, al (gL G) 8 (go4))] := hD
                        refine lv_iinc (k := 6) (v := iv (y + 1)) hx hb d_Mod_region_265 hl rfl (iv_add _ _) (by decide) rfl (fun ls hl => ?_)
                        have hl : lv_has ls 7 [(6, .int (iv (y + 1))), (0, .ref rM), (1, .int (iv (w0))), (2, .int (iv (h0))), (3, .int (iv (ct))), (4, .int (iv (un))), (5, .int (iv (gn0)))] := hl
                        refine lv_goto (tgt := 201) hx hb d_Mod_region_268 (by decide) ?_
                        exact ihy (by omega) _ _ _ (up a5 y (shR ((a5 y) + ((1 : Int64))) 1)) (lv_sub hl [1, 2, 3, 4, 5, 6, 0] rfl) hP hD hS (by rw [it_s _ _ hiy, ← hs5]; unfold rg5; rw [if_neg (by omega)]; first | rw [if_pos (by omega)] | rw [if_neg (by omega)])
            · refine lv_iload hx hb d_Mod_region_175 (lv_at hl 4 rfl) ?_
              refine k_if_ne (tgt := 198) hx hb d_Mod_region_177 (by decide) (by omega) (fun hc177 => ?_) (fun hc177 => ?_)
              · have e4 : (a4, ge4, go4) = it (rg4 kd h0 ct un) 0 w0 (a3, ge3, go3) := by first | (rw [hs4]; exact it_x _ _ hc168 hjx) | (rw [hs4, it_c (rg4_c (Or.inl hc172)), it_c (rg4_c (Or.inl hc172))]) | (rw [hs4, it_c (rg4_c (Or.inr hc177)), it_c (rg4_c (Or.inr hc177))])
                refine lv_iconst (v := iv (0)) hx hb d_Mod_region_198 rfl ?_
                refine lv_istore hx hb d_Mod_region_199 hl (by decide) rfl (fun ls hl => ?_)
                have hl : lv_has ls 7 [(6, .int (iv (0))), (0, .ref rM), (1, .int (iv (w0))), (2, .int (iv (h0))), (3, .int (iv (ct))), (4, .int (iv (un))), (5, .int (iv (gn0)))] := hl
                refine lo_up (P := fun y => ∀ (ls : Array Slot) (H : Heap) (locs : List Loc) (a5 : Int → Int64), lv_has ls 7 [(0, .ref rM), (1, .int (iv (w0))), (2, .int (iv (h0))), (3, .int (iv (ct))), (4, .int (iv (un))), (5, .int (iv (gn0))), (6, .int (iv (y)))] → va_P (gD G) classes [o_Mod rM wd ht rP rk rG rW rK kd db ew ac dn pr nu de rE rst wr rd rev rod cn rp rb ba sz1 lb rm cu sp nz rbl sl uz, (rG, al (gL G) 256 (a5)), (rev, al (gL G) 8 (ge4)), (rod, al (gL G) 8 (go4))] H → va_D A [o_Mod rM wd ht rP rk rG rW rK kd db ew ac dn pr nu de rE rst wr rd rev rod cn rp rb ba sz1 lb rm cu sp nz rbl sl uz, (rG, al (gL G) 256 (a5)), (rev, al (gL G) 8 (ge4)), (rod, al (gL G) 8 (go4))] → va_S A s.heap H locs → (a5 = it (rg5 gn0 w0 h0 un) 0 y a4) → W p l e r_Mod_region s m args below meth c H locs 0 0 Q (F0 m 201 ls [])) (a := 0) (b := 256) (fun y hiy hjy ihy => ?_) _ _ _ a4 (lv_sub hl [1, 2, 3, 4, 5, 6, 0] rfl) hP hD hS (it_self _ _ _).symm
                intro ls H locs a5 hl hP hD hS hs5
                refine lv_iload hx hb d_Mod_region_201 (lv_at hl 6 rfl) ?_
                refine lv_sipush (v := iv (256)) hx hb d_Mod_region_203 rfl ?_
                refine k_icmp_ge (tgt := 271) hx hb d_Mod_region_206 (by decide) (by omega) (by omega) (fun hc206 => ?_) (fun hc206 => ?_)
                · exact k_vret hx hb hr hlk hQ ((a5, ge4, go4)) (by unfold rgA; dsimp only; rw [← hgn, ← e1, ← e2, ← e3, ← e4, show it (rg5 gn0 w0 h0 un) 0 256 a4 = a5 from (by first | (rw [hs5]; exact (it_x _ _ hc206 hjy).symm) | (rw [hs5, it_c (rg5_c (Or.inl hc211)), it_c (rg5_c (Or.inl hc211))]) | (rw [hs5, it_c (rg5_c (Or.inr hc216)), it_c (rg5_c (Or.inr hc216))]))]) hP hD hS d_Mod_region_271
                · refine lv_iload hx hb d_Mod_region_209 (lv_at hl 5 rfl) ?_
                  refine k_if_eq (tgt := 271) hx hb d_Mod_region_211 (by decide) (by omega) (fun hc211 => ?_) (fun hc211 => ?_)
                  · exact k_vret hx hb hr hlk hQ ((a5, ge4, go4)) (by unfold rgA; dsimp only; rw [← hgn, ← e1, ← e2, ← e3, ← e4, show it (rg5 gn0 w0 h0 un) 0 256 a4 = a5 from (by first | (rw [hs5]; exact (it_x _ _ hc206 hjy).symm) | (rw [hs5, it_c (rg5_c (Or.inl hc211)), it_c (rg5_c (Or.inl hc211))]) | (rw [hs5, it_c (rg5_c (Or.inr hc216)), it_c (rg5_c (Or.inr hc216))]))]) hP hD hS d_Mod_region_271
                  · refine lv_iload hx hb d_Mod_region_214 (lv_at hl 4 rfl) ?_
                    refine k_if_eq (tgt := 271) hx hb d_Mod_region_216 (by decide) (by omega) (fun hc216 => absurd hc216 (by omega)) (fun hc216 => ?_)
                    refine lv_aload_n hx hb d_Mod_region_219 rfl (lv_at hl 0 rfl) ?_
                    refine va_get (D := gD G) (ci := 7) (v := .ref rG) (C := R_Mod) (T := F_Mod) (N := 34) hx hb hw in_Mod hown hK hP 0 rfl rfl 4 (by decide) (hw _ m3_128) (fun _ h => h) rfl d_Mod_region_220 ?_
                    refine lv_iload hx hb d_Mod_region_223 (lv_at hl 6 rfl) ?_
                    refine lv_iload hx hb d_Mod_region_225 (lv_at hl 6 rfl) ?_
                    refine lv_bipush (v := iv (16)) hx hb d_Mod_region_227 rfl ?_
                    refine k_irem hx hb d_Mod_region_229 (by omega) (by omega) ?_
                    refine lv_iload_n hx hb d_Mod_region_230 rfl (lv_at hl 1 rfl) ?_
                    refine k_icmp_ge (tgt := 257) hx hb d_Mod_region_231 (by decide) (by omega) (by omega) (fun hc231 => ?_) (fun hc231 => ?_)
                    · refine lv_aload_n hx hb d_Mod_region_257 rfl (lv_at hl 0 rfl) ?_
                      refine va_get (D := gD G) (ci := 7) (v := .ref rG) (C := R_Mod) (T := F_Mod) (N := 34) hx hb hw in_Mod hown hK hP 0 rfl rfl 4 (by decide) (hw _ m3_128) (fun _ h => h) rfl d_Mod_region_258 ?_
                      refine lv_iload hx hb d_Mod_region_261 (lv_at hl 6 rfl) ?_
                      refine k_lal hx hb hK hP 1 1 rfl rfl (by decide) (by omega) d_Mod_region_263 ?_
                      refine k_las hx hb hK hP hD hS 1 1 rfl rfl (by decide) (by omega) d_Mod_region_264 (fun H locs hP hD hS => ?_)
                      have hP : va_P (gD G) classes [o_Mod rM wd ht rP rk rG rW rK kd db ew ac dn pr nu de rE rst wr rd rev rod cn rp rb ba sz1 lb rm cu sp nz rbl sl uz, (rG, al (gL G) 256 (up a5 y (a5 y))), (rev, al (gL G) 8 (ge4)), (rod, al (gL G) 8 (go4))] H := hP
                      have hD : va_D A [o_Mod rM wd ht rP rk rG rW rK kd db ew ac dn pr nu de rE rst wr rd rev rod cn rp rb ba sz1 lb rm cu sp nz rbl sl uz, (rG, al (gL G) 256 (up a5 y (a5 y))), (rev, al (gL G) 8 (ge4)), (rod, al (gL G) 8 (go4))] := hD
                      refine lv_iinc (k := 6) (v := iv (y + 1)) hx hb d_Mod_region_265 hl rfl (iv_add _ _) (by decide) rfl (fun ls hl => ?_)
                      have hl : lv_has ls 7 [(6, .int (iv (y + 1))), (0, .ref rM), (1, .int (iv (w0))), (2, .int (iv (h0))), (3, .int (iv (ct))), (4, .int (iv (un))), (5, .int (iv (gn0)))] := hl
                      refine lv_goto (tgt := 201) hx hb d_Mod_region_268 (by decide) ?_
                      exact ihy (by omega) _ _ _ (up a5 y (a5 y)) (lv_sub hl [1, 2, 3, 4, 5, 6, 0] rfl) hP hD hS (by rw [it_s _ _ hiy, ← hs5]; unfold rg5; rw [if_neg (by omega)]; first | rw [if_pos (by omega)] | rw [if_neg (by omega)])
                    · refine lv_iload hx hb d_Mod_region_234 (lv_at hl 6 rfl) ?_
                      refine lv_bipush (v := iv (16)) hx hb d_Mod_region_236 rfl ?_
                      refine k_idiv hx hb d_Mod_region_238 (by omega) (by omega) ?_
                      refine lv_iload_n hx hb d_Mod_region_239 rfl (lv_at hl 2 rfl) ?_
                      refine k_icmp_ge (tgt := 257) hx hb d_Mod_region_240 (by decide) (by omega) (by omega) (fun hc240 => ?_) (fun hc240 => ?_)
                      · refine lv_aload_n hx hb d_Mod_region_257 rfl (lv_at hl 0 rfl) ?_
                        refine va_get (D := gD G) (ci := 7) (v := .ref rG) (C := R_Mod) (T := F_Mod) (N := 34) hx hb hw in_Mod hown hK hP 0 rfl rfl 4 (by decide) (hw _ m3_128) (fun _ h => h) rfl d_Mod_region_258 ?_
                        refine lv_iload hx hb d_Mod_region_261 (lv_at hl 6 rfl) ?_
                        refine k_lal hx hb hK hP 1 1 rfl rfl (by decide) (by omega) d_Mod_region_263 ?_
                        refine k_las hx hb hK hP hD hS 1 1 rfl rfl (by decide) (by omega) d_Mod_region_264 (fun H locs hP hD hS => ?_)
                        have hP : va_P (gD G) classes [o_Mod rM wd ht rP rk rG rW rK kd db ew ac dn pr nu de rE rst wr rd rev rod cn rp rb ba sz1 lb rm cu sp nz rbl sl uz, (rG, al (gL G) 256 (up a5 y (a5 y))), (rev, al (gL G) 8 (ge4)), (rod, al (gL G) 8 (go4))] H := hP
                        have hD : va_D A [o_Mod rM wd ht rP rk rG rW rK kd db ew ac dn pr nu de rE rst wr rd rev rod cn rp rb ba sz1 lb rm cu sp nz rbl sl uz, (rG, al (gL G) 256 (up a5 y (a5 y))), (rev, al (gL G) 8 (ge4)), (rod, al (gL G) 8 (go4))] := hD
                        refine lv_iinc (k := 6) (v := iv (y + 1)) hx hb d_Mod_region_265 hl rfl (iv_add _ _) (by decide) rfl (fun ls hl => ?_)
                        have hl : lv_has ls 7 [(6, .int (iv (y + 1))), (0, .ref rM), (1, .int (iv (w0))), (2, .int (iv (h0))), (3, .int (iv (ct))), (4, .int (iv (un))), (5, .int (iv (gn0)))] := hl
                        refine lv_goto (tgt := 201) hx hb d_Mod_region_268 (by decide) ?_
                        exact ihy (by omega) _ _ _ (up a5 y (a5 y)) (lv_sub hl [1, 2, 3, 4, 5, 6, 0] rfl) hP hD hS (by rw [it_s _ _ hiy, ← hs5]; unfold rg5; rw [if_neg (by omega)]; first | rw [if_pos (by omega)] | rw [if_neg (by omega)])
                      · refine lv_aload_n hx hb d_Mod_region_243 rfl (lv_at hl 0 rfl) ?_
                        refine va_get (D := gD G) (ci := 7) (v := .ref rG) (C := R_Mod) (T := F_Mod) (N := 34) hx hb hw in_Mod hown hK hP 0 rfl rfl 4 (by decide) (hw _ m3_128) (fun _ h => h) rfl d_Mod_region_244 ?_
                        refine lv_iload hx hb d_Mod_region_247 (lv_at hl 6 rfl) ?_
                        refine k_lal hx hb hK hP 1 1 rfl rfl (by decide) (by omega) d_Mod_region_249 ?_
                        refine lv_lconst (v := 1) hx hb d_Mod_region_250 rfl ?_
                        refine lv_ladd hx hb d_Mod_region_251 ?_
                        refine lv_iconst (v := iv (1)) hx hb d_Mod_region_252 rfl ?_
                        refine k_lshr hx hb d_Mod_region_253 ?_
                        refine lv_goto (tgt := 264) hx hb d_Mod_region_254 (by decide) ?_
                        refine k_las hx hb hK hP hD hS 1 1 rfl rfl (by decide) (by omega) d_Mod_region_264 (fun H locs hP hD hS => ?_)
                        have hP : va_P (gD G) classes [o_Mod rM wd ht rP rk rG rW rK kd db ew ac dn pr nu de rE rst wr rd rev rod cn rp rb ba sz1 lb rm cu sp nz rbl sl uz, (rG, al (gL G) 256 (up a5 y (shR ((a5 y) + ((1 : Int64))) 1))), (rev, al (gL G) 8 (ge4)), (rod, al (gL G) 8 (go4))] H := hP
                        have hD : va_D A [o_Mod rM wd ht rP rk rG rW rK kd db ew ac dn pr nu de rE rst wr rd rev rod cn rp rb ba sz1 lb rm cu sp nz rbl sl uz, (rG, al (gL G) 256 (up a5 y (shR ((a5 y) + ((1 : Int64))) 1))), (rev, al (gL G) 8 (ge4)), (rod, al (gL G) 8 (go4))] := hD
                        refine lv_iinc (k := 6) (v := iv (y + 1)) hx hb d_Mod_region_265 hl rfl (iv_add _ _) (by decide) rfl (fun ls hl => ?_)
                        have hl : lv_has ls 7 [(6, .int (iv (y + 1))), (0, .ref rM), (1, .int (iv (w0))), (2, .int (iv (h0))), (3, .int (iv (ct))), (4, .int (iv (un))), (5, .int (iv (gn0)))] := hl
                        refine lv_goto (tgt := 201) hx hb d_Mod_region_268 (by decide) ?_
                        exact ihy (by omega) _ _ _ (up a5 y (shR ((a5 y) + ((1 : Int64))) 1)) (lv_sub hl [1, 2, 3, 4, 5, 6, 0] rfl) hP hD hS (by rw [it_s _ _ hiy, ← hs5]; unfold rg5; rw [if_neg (by omega)]; first | rw [if_pos (by omega)] | rw [if_neg (by omega)])
              · refine lv_aload_n hx hb d_Mod_region_180 rfl (lv_at hl 0 rfl) ?_
                refine lv_iload hx hb d_Mod_region_181 (lv_at hl 6 rfl) ?_
                refine lv_bipush (v := iv (16)) hx hb d_Mod_region_183 rfl ?_
                refine lv_iload_n hx hb d_Mod_region_185 rfl (lv_at hl 2 rfl) ?_
                refine lv_iconst (v := iv (2)) hx hb d_Mod_region_186 rfl ?_
                refine k_idiv hx hb d_Mod_region_187 (by omega) (by omega) ?_
                refine lv_iconst (v := iv (0)) hx hb d_Mod_region_188 rfl ?_
                refine k_cv (wz := fun u : (Int → Int64) × (Int → Int64) × (Int → Int64) => [o_Mod rM wd ht rP rk rG rW rK kd db ew ac dn pr nu de rE rst wr rd rev rod cn rp rb ba sz1 lb rm cu sp nz rbl sl uz, (rG, al (gL G) 256 (u.1)), (rev, al (gL G) 8 (u.2.1)), (rod, al (gL G) 8 (u.2.2))]) (wr := []) (k_rv S (c_Mod_turn l G _ rM rP rk rG rW rK rE rst rev rod rp rb rbl x 16 (h0 / 2) 0 wd ht kd db ew ac dn pr nu de wr rd cn ba sz1 lb rm cu sp nz sl uz a4 ge4 go4 (by omega) (by omega) (fun m a b => by omega) (by omega)) 4 m4_62 m4_59 m4_61 mp_27 m1_9 (by decide +kernel) (by decide) rfl rfl (k_preV (q0 := 0) hK hP hD hS hA hT rfl rfl [0, 1, 2, 3] (by decide) rfl) rfl hl.1 rfl (Nat.le_of_ble_eq_true rfl) d_Mod_region_189 ⟨Nat.le_of_ble_eq_true rfl, Nat.le_of_ble_eq_true rfl⟩) hP hD hS hA [0, 1, 2, 3] [] [0, 1, 2, 3] rfl rfl (by decide) (by decide) (by decide) (fun _ => rfl) (fun u189 H locs h189 hP hD hS => ?_)
                obtain ⟨a189, ge189, go189⟩ := u189
                have hP : va_P (gD G) classes [o_Mod rM wd ht rP rk rG rW rK kd db ew ac dn pr nu de rE rst wr rd rev rod cn rp rb ba sz1 lb rm cu sp nz rbl sl uz, (rG, al (gL G) 256 (a189)), (rev, al (gL G) 8 (ge189)), (rod, al (gL G) 8 (go189))] H := hP
                have hD : va_D A [o_Mod rM wd ht rP rk rG rW rK kd db ew ac dn pr nu de rE rst wr rd rev rod cn rp rb ba sz1 lb rm cu sp nz rbl sl uz, (rG, al (gL G) 256 (a189)), (rev, al (gL G) 8 (ge189)), (rod, al (gL G) 8 (go189))] := hD
                try dsimp only at h189
                refine lv_iinc (k := 6) (v := iv (x + 1)) hx hb d_Mod_region_192 hl rfl (iv_add _ _) (by decide) rfl (fun ls hl => ?_)
                have hl : lv_has ls 7 [(6, .int (iv (x + 1))), (0, .ref rM), (1, .int (iv (w0))), (2, .int (iv (h0))), (3, .int (iv (ct))), (4, .int (iv (un))), (5, .int (iv (gn0)))] := hl
                refine lv_goto (tgt := 165) hx hb d_Mod_region_195 (by decide) ?_
                exact ihx (by omega) _ _ _ a189 ge189 go189 (lv_sub hl [1, 2, 3, 4, 5, 6, 0] rfl) hP hD hS (by rw [it_s _ _ hix, ← hs4]; unfold rg4; rw [if_neg (by omega)]; exact h189)
        · refine lv_aload_n hx hb d_Mod_region_141 rfl (lv_at hl 0 rfl) ?_
          refine lv_bipush (v := iv (16)) hx hb d_Mod_region_142 rfl ?_
          refine lv_iload hx hb d_Mod_region_144 (lv_at hl 6 rfl) ?_
          refine k_imul hx hb d_Mod_region_146 ?_
          refine lv_iconst (v := iv (1)) hx hb d_Mod_region_147 rfl ?_
          refine lv_iload_n hx hb d_Mod_region_148 rfl (lv_at hl 1 rfl) ?_
          refine lv_iconst (v := iv (2)) hx hb d_Mod_region_149 rfl ?_
          refine k_idiv hx hb d_Mod_region_150 (by omega) (by omega) ?_
          refine lv_iload hx hb d_Mod_region_151 (lv_at hl 4 rfl) ?_
          refine k_cv (wz := fun u : (Int → Int64) × (Int → Int64) × (Int → Int64) => [o_Mod rM wd ht rP rk rG rW rK kd db ew ac dn pr nu de rE rst wr rd rev rod cn rp rb ba sz1 lb rm cu sp nz rbl sl uz, (rG, al (gL G) 256 (u.1)), (rev, al (gL G) 8 (u.2.1)), (rod, al (gL G) 8 (u.2.2))]) (wr := []) (k_rv S (c_Mod_turn l G _ rM rP rk rG rW rK rE rst rev rod rp rb rbl (16 * k) 1 (w0 / 2) un wd ht kd db ew ac dn pr nu de wr rd cn ba sz1 lb rm cu sp nz sl uz a3 ge3 go3 (by omega) (by omega) (fun m a b => by omega) (by omega)) 4 m4_62 m4_59 m4_61 mp_27 m1_9 (by decide +kernel) (by decide) rfl rfl (k_preV (q0 := 0) hK hP hD hS hA hT rfl rfl [0, 1, 2, 3] (by decide) rfl) rfl hl.1 rfl (Nat.le_of_ble_eq_true rfl) d_Mod_region_153 ⟨Nat.le_of_ble_eq_true rfl, Nat.le_of_ble_eq_true rfl⟩) hP hD hS hA [0, 1, 2, 3] [] [0, 1, 2, 3] rfl rfl (by decide) (by decide) (by decide) (fun _ => rfl) (fun u153 H locs h153 hP hD hS => ?_)
          obtain ⟨a153, ge153, go153⟩ := u153
          have hP : va_P (gD G) classes [o_Mod rM wd ht rP rk rG rW rK kd db ew ac dn pr nu de rE rst wr rd rev rod cn rp rb ba sz1 lb rm cu sp nz rbl sl uz, (rG, al (gL G) 256 (a153)), (rev, al (gL G) 8 (ge153)), (rod, al (gL G) 8 (go153))] H := hP
          have hD : va_D A [o_Mod rM wd ht rP rk rG rW rK kd db ew ac dn pr nu de rE rst wr rd rev rod cn rp rb ba sz1 lb rm cu sp nz rbl sl uz, (rG, al (gL G) 256 (a153)), (rev, al (gL G) 8 (ge153)), (rod, al (gL G) 8 (go153))] := hD
          try dsimp only at h153
          refine lv_iinc (k := 6) (v := iv (k + 1)) hx hb d_Mod_region_156 hl rfl (iv_add _ _) (by decide) rfl (fun ls hl => ?_)
          have hl : lv_has ls 7 [(6, .int (iv (k + 1))), (0, .ref rM), (1, .int (iv (w0))), (2, .int (iv (h0))), (3, .int (iv (ct))), (4, .int (iv (un))), (5, .int (iv (gn0)))] := hl
          refine lv_goto (tgt := 135) hx hb d_Mod_region_159 (by decide) ?_
          exact ihk (by omega) _ _ _ a153 ge153 go153 (lv_sub hl [1, 2, 3, 4, 5, 6, 0] rfl) hP hD hS (by rw [it_s _ _ hik, ← hs3]; exact h153)
      · refine lv_iload_n hx hb d_Mod_region_105 rfl (lv_at hl 3 rfl) ?_
        refine k_if_eq (tgt := 132) hx hb d_Mod_region_106 (by decide) (by omega) (fun hc106 => ?_) (fun hc106 => ?_)
        · have e2 : (a2, ge2, go2) = it (rg2 kd h0 ct un) 0 w0 (a1, ge, go) := by first | (rw [hs2]; exact it_x _ _ hc102 hjj) | (rw [hs2, it_c (rg2_c (Or.inl hc106)), it_c (rg2_c (Or.inl hc106))]) | (rw [hs2, it_c (rg2_c (Or.inr hc111)), it_c (rg2_c (Or.inr hc111))])
          refine lv_iconst (v := iv (0)) hx hb d_Mod_region_132 rfl ?_
          refine lv_istore hx hb d_Mod_region_133 hl (by decide) rfl (fun ls hl => ?_)
          have hl : lv_has ls 7 [(6, .int (iv (0))), (0, .ref rM), (1, .int (iv (w0))), (2, .int (iv (h0))), (3, .int (iv (ct))), (4, .int (iv (un))), (5, .int (iv (gn0)))] := hl
          refine lo_up (P := fun k => ∀ (ls : Array Slot) (H : Heap) (locs : List Loc) (a3 : Int → Int64) (ge3 : Int → Int64) (go3 : Int → Int64), lv_has ls 7 [(0, .ref rM), (1, .int (iv (w0))), (2, .int (iv (h0))), (3, .int (iv (ct))), (4, .int (iv (un))), (5, .int (iv (gn0))), (6, .int (iv (k)))] → va_P (gD G) classes [o_Mod rM wd ht rP rk rG rW rK kd db ew ac dn pr nu de rE rst wr rd rev rod cn rp rb ba sz1 lb rm cu sp nz rbl sl uz, (rG, al (gL G) 256 (a3)), (rev, al (gL G) 8 (ge3)), (rod, al (gL G) 8 (go3))] H → va_D A [o_Mod rM wd ht rP rk rG rW rK kd db ew ac dn pr nu de rE rst wr rd rev rod cn rp rb ba sz1 lb rm cu sp nz rbl sl uz, (rG, al (gL G) 256 (a3)), (rev, al (gL G) 8 (ge3)), (rod, al (gL G) 8 (go3))] → va_S A s.heap H locs → ((a3, ge3, go3) = it (rg3 kd w0 un) 0 k (a2, ge2, go2)) → W p l e r_Mod_region s m args below meth c H locs 0 0 Q (F0 m 135 ls [])) (a := 0) (b := h0) (fun k hik hjk ihk => ?_) _ _ _ a2 ge2 go2 (lv_sub hl [1, 2, 3, 4, 5, 6, 0] rfl) hP hD hS (it_self _ _ _).symm
          intro ls H locs a3 ge3 go3 hl hP hD hS hs3
          refine lv_iload hx hb d_Mod_region_135 (lv_at hl 6 rfl) ?_
          refine lv_iload_n hx hb d_Mod_region_137 rfl (lv_at hl 2 rfl) ?_
          refine k_icmp_ge (tgt := 162) hx hb d_Mod_region_138 (by decide) (by omega) (by omega) (fun hc138 => ?_) (fun hc138 => ?_)
          · have e3 : (a3, ge3, go3) = it (rg3 kd w0 un) 0 h0 (a2, ge2, go2) := by rw [hs3]; exact it_x _ _ hc138 hjk
            refine lv_iconst (v := iv (0)) hx hb d_Mod_region_162 rfl ?_
            refine lv_istore hx hb d_Mod_region_163 hl (by decide) rfl (fun ls hl => ?_)
            have hl : lv_has ls 7 [(6, .int (iv (0))), (0, .ref rM), (1, .int (iv (w0))), (2, .int (iv (h0))), (3, .int (iv (ct))), (4, .int (iv (un))), (5, .int (iv (gn0)))] := hl
            refine lo_up (P := fun x => ∀ (ls : Array Slot) (H : Heap) (locs : List Loc) (a4 : Int → Int64) (ge4 : Int → Int64) (go4 : Int → Int64), lv_has ls 7 [(0, .ref rM), (1, .int (iv (w0))), (2, .int (iv (h0))), (3, .int (iv (ct))), (4, .int (iv (un))), (5, .int (iv (gn0))), (6, .int (iv (x)))] → va_P (gD G) classes [o_Mod rM wd ht rP rk rG rW rK kd db ew ac dn pr nu de rE rst wr rd rev rod cn rp rb ba sz1 lb rm cu sp nz rbl sl uz, (rG, al (gL G) 256 (a4)), (rev, al (gL G) 8 (ge4)), (rod, al (gL G) 8 (go4))] H → va_D A [o_Mod rM wd ht rP rk rG rW rK kd db ew ac dn pr nu de rE rst wr rd rev rod cn rp rb ba sz1 lb rm cu sp nz rbl sl uz, (rG, al (gL G) 256 (a4)), (rev, al (gL G) 8 (ge4)), (rod, al (gL G) 8 (go4))] → va_S A s.heap H locs → ((a4, ge4, go4) = it (rg4 kd h0 ct un) 0 x (a3, ge3, go3)) → W p l e r_Mod_region s m args below meth c H locs 0 0 Q (F0 m 165 ls [])) (a := 0) (b := w0) (fun x hix hjx ihx => ?_) _ _ _ a3 ge3 go3 (lv_sub hl [1, 2, 3, 4, 5, 6, 0] rfl) hP hD hS (it_self _ _ _).symm
            intro ls H locs a4 ge4 go4 hl hP hD hS hs4
            refine lv_iload hx hb d_Mod_region_165 (lv_at hl 6 rfl) ?_
            refine lv_iload_n hx hb d_Mod_region_167 rfl (lv_at hl 1 rfl) ?_
            refine k_icmp_ge (tgt := 198) hx hb d_Mod_region_168 (by decide) (by omega) (by omega) (fun hc168 => ?_) (fun hc168 => ?_)
            · have e4 : (a4, ge4, go4) = it (rg4 kd h0 ct un) 0 w0 (a3, ge3, go3) := by first | (rw [hs4]; exact it_x _ _ hc168 hjx) | (rw [hs4, it_c (rg4_c (Or.inl hc172)), it_c (rg4_c (Or.inl hc172))]) | (rw [hs4, it_c (rg4_c (Or.inr hc177)), it_c (rg4_c (Or.inr hc177))])
              refine lv_iconst (v := iv (0)) hx hb d_Mod_region_198 rfl ?_
              refine lv_istore hx hb d_Mod_region_199 hl (by decide) rfl (fun ls hl => ?_)
              have hl : lv_has ls 7 [(6, .int (iv (0))), (0, .ref rM), (1, .int (iv (w0))), (2, .int (iv (h0))), (3, .int (iv (ct))), (4, .int (iv (un))), (5, .int (iv (gn0)))] := hl
              refine lo_up (P := fun y => ∀ (ls : Array Slot) (H : Heap) (locs : List Loc) (a5 : Int → Int64), lv_has ls 7 [(0, .ref rM), (1, .int (iv (w0))), (2, .int (iv (h0))), (3, .int (iv (ct))), (4, .int (iv (un))), (5, .int (iv (gn0))), (6, .int (iv (y)))] → va_P (gD G) classes [o_Mod rM wd ht rP rk rG rW rK kd db ew ac dn pr nu de rE rst wr rd rev rod cn rp rb ba sz1 lb rm cu sp nz rbl sl uz, (rG, al (gL G) 256 (a5)), (rev, al (gL G) 8 (ge4)), (rod, al (gL G) 8 (go4))] H → va_D A [o_Mod rM wd ht rP rk rG rW rK kd db ew ac dn pr nu de rE rst wr rd rev rod cn rp rb ba sz1 lb rm cu sp nz rbl sl uz, (rG, al (gL G) 256 (a5)), (rev, al (gL G) 8 (ge4)), (rod, al (gL G) 8 (go4))] → va_S A s.heap H locs → (a5 = it (rg5 gn0 w0 h0 un) 0 y a4) → W p l e r_Mod_region s m args below meth c H locs 0 0 Q (F0 m 201 ls [])) (a := 0) (b := 256) (fun y hiy hjy ihy => ?_) _ _ _ a4 (lv_sub hl [1, 2, 3, 4, 5, 6, 0] rfl) hP hD hS (it_self _ _ _).symm
              intro ls H locs a5 hl hP hD hS hs5
              refine lv_iload hx hb d_Mod_region_201 (lv_at hl 6 rfl) ?_
              refine lv_sipush (v := iv (256)) hx hb d_Mod_region_203 rfl ?_
              refine k_icmp_ge (tgt := 271) hx hb d_Mod_region_206 (by decide) (by omega) (by omega) (fun hc206 => ?_) (fun hc206 => ?_)
              · exact k_vret hx hb hr hlk hQ ((a5, ge4, go4)) (by unfold rgA; dsimp only; rw [← hgn, ← e1, ← e2, ← e3, ← e4, show it (rg5 gn0 w0 h0 un) 0 256 a4 = a5 from (by first | (rw [hs5]; exact (it_x _ _ hc206 hjy).symm) | (rw [hs5, it_c (rg5_c (Or.inl hc211)), it_c (rg5_c (Or.inl hc211))]) | (rw [hs5, it_c (rg5_c (Or.inr hc216)), it_c (rg5_c (Or.inr hc216))]))]) hP hD hS d_Mod_region_271
              · refine lv_iload hx hb d_Mod_region_209 (lv_at hl 5 rfl) ?_
                refine k_if_eq (tgt := 271) hx hb d_Mod_region_211 (by decide) (by omega) (fun hc211 => ?_) (fun hc211 => ?_)
                · exact k_vret hx hb hr hlk hQ ((a5, ge4, go4)) (by unfold rgA; dsimp only; rw [← hgn, ← e1, ← e2, ← e3, ← e4, show it (rg5 gn0 w0 h0 un) 0 256 a4 = a5 from (by first | (rw [hs5]; exact (it_x _ _ hc206 hjy).symm) | (rw [hs5, it_c (rg5_c (Or.inl hc211)), it_c (rg5_c (Or.inl hc211))]) | (rw [hs5, it_c (rg5_c (Or.inr hc216)), it_c (rg5_c (Or.inr hc216))]))]) hP hD hS d_Mod_region_271
                · refine lv_iload hx hb d_Mod_region_214 (lv_at hl 4 rfl) ?_
                  refine k_if_eq (tgt := 271) hx hb d_Mod_region_216 (by decide) (by omega) (fun hc216 => ?_) (fun hc216 => ?_)
                  · exact k_vret hx hb hr hlk hQ ((a5, ge4, go4)) (by unfold rgA; dsimp only; rw [← hgn, ← e1, ← e2, ← e3, ← e4, show it (rg5 gn0 w0 h0 un) 0 256 a4 = a5 from (by first | (rw [hs5]; exact (it_x _ _ hc206 hjy).symm) | (rw [hs5, it_c (rg5_c (Or.inl hc211)), it_c (rg5_c (Or.inl hc211))]) | (rw [hs5, it_c (rg5_c (Or.inr hc216)), it_c (rg5_c (Or.inr hc216))]))]) hP hD hS d_Mod_region_271
                  · refine lv_aload_n hx hb d_Mod_region_219 rfl (lv_at hl 0 rfl) ?_
                    refine va_get (D := gD G) (ci := 7) (v := .ref rG) (C := R_Mod) (T := F_Mod) (N := 34) hx hb hw in_Mod hown hK hP 0 rfl rfl 4 (by decide) (hw _ m3_128) (fun _ h => h) rfl d_Mod_region_220 ?_
                    refine lv_iload hx hb d_Mod_region_223 (lv_at hl 6 rfl) ?_
                    refine lv_iload hx hb d_Mod_region_225 (lv_at hl 6 rfl) ?_
                    refine lv_bipush (v := iv (16)) hx hb d_Mod_region_227 rfl ?_
                    refine k_irem hx hb d_Mod_region_229 (by omega) (by omega) ?_
                    refine lv_iload_n hx hb d_Mod_region_230 rfl (lv_at hl 1 rfl) ?_
                    refine k_icmp_ge (tgt := 257) hx hb d_Mod_region_231 (by decide) (by omega) (by omega) (fun hc231 => ?_) (fun hc231 => ?_)
                    · refine lv_aload_n hx hb d_Mod_region_257 rfl (lv_at hl 0 rfl) ?_
                      refine va_get (D := gD G) (ci := 7) (v := .ref rG) (C := R_Mod) (T := F_Mod) (N := 34) hx hb hw in_Mod hown hK hP 0 rfl rfl 4 (by decide) (hw _ m3_128) (fun _ h => h) rfl d_Mod_region_258 ?_
                      refine lv_iload hx hb d_Mod_region_261 (lv_at hl 6 rfl) ?_
                      refine k_lal hx hb hK hP 1 1 rfl rfl (by decide) (by omega) d_Mod_region_263 ?_
                      refine k_las hx hb hK hP hD hS 1 1 rfl rfl (by decide) (by omega) d_Mod_region_264 (fun H locs hP hD hS => ?_)
                      have hP : va_P (gD G) classes [o_Mod rM wd ht rP rk rG rW rK kd db ew ac dn pr nu de rE rst wr rd rev rod cn rp rb ba sz1 lb rm cu sp nz rbl sl uz, (rG, al (gL G) 256 (up a5 y (a5 y))), (rev, al (gL G) 8 (ge4)), (rod, al (gL G) 8 (go4))] H := hP
                      have hD : va_D A [o_Mod rM wd ht rP rk rG rW rK kd db ew ac dn pr nu de rE rst wr rd rev rod cn rp rb ba sz1 lb rm cu sp nz rbl sl uz, (rG, al (gL G) 256 (up a5 y (a5 y))), (rev, al (gL G) 8 (ge4)), (rod, al (gL G) 8 (go4))] := hD
                      refine lv_iinc (k := 6) (v := iv (y + 1)) hx hb d_Mod_region_265 hl rfl (iv_add _ _) (by decide) rfl (fun ls hl => ?_)
                      have hl : lv_has ls 7 [(6, .int (iv (y + 1))), (0, .ref rM), (1, .int (iv (w0))), (2, .int (iv (h0))), (3, .int (iv (ct))), (4, .int (iv (un))), (5, .int (iv (gn0)))] := hl
                      refine lv_goto (tgt := 201) hx hb d_Mod_region_268 (by decide) ?_
                      exact ihy (by omega) _ _ _ (up a5 y (a5 y)) (lv_sub hl [1, 2, 3, 4, 5, 6, 0] rfl) hP hD hS (by rw [it_s _ _ hiy, ← hs5]; unfold rg5; rw [if_neg (by omega)]; first | rw [if_pos (by omega)] | rw [if_neg (by omega)])
                    · refine lv_iload hx hb d_Mod_region_234 (lv_at hl 6 rfl) ?_
                      refine lv_bipush (v := iv (16)) hx hb d_Mod_region_236 rfl ?_
                      refine k_idiv hx hb d_Mod_region_238 (by omega) (by omega) ?_
                      refine lv_iload_n hx hb d_Mod_region_239 rfl (lv_at hl 2 rfl) ?_
                      refine k_icmp_ge (tgt := 257) hx hb d_Mod_region_240 (by decide) (by omega) (by omega) (fun hc240 => ?_) (fun hc240 => ?_)
                      · refine lv_aload_n hx hb d_Mod_region_257 rfl (lv_at hl 0 rfl) ?_
                        refine va_get (D := gD G) (ci := 7) (v := .ref rG) (C := R_Mod) (T := F_Mod) (N := 34) hx hb hw in_Mod hown hK hP 0 rfl rfl 4 (by decide) (hw _ m3_128) (fun _ h => h) rfl d_Mod_region_258 ?_
                        refine lv_iload hx hb d_Mod_region_261 (lv_at hl 6 rfl) ?_
                        refine k_lal hx hb hK hP 1 1 rfl rfl (by decide) (by omega) d_Mod_region_263 ?_
                        refine k_las hx hb hK hP hD hS 1 1 rfl rfl (by decide) (by omega) d_Mod_region_264 (fun H locs hP hD hS => ?_)
                        have hP : va_P (gD G) classes [o_Mod rM wd ht rP rk rG rW rK kd db ew ac dn pr nu de rE rst wr rd rev rod cn rp rb ba sz1 lb rm cu sp nz rbl sl uz, (rG, al (gL G) 256 (up a5 y (a5 y))), (rev, al (gL G) 8 (ge4)), (rod, al (gL G) 8 (go4))] H := hP
                        have hD : va_D A [o_Mod rM wd ht rP rk rG rW rK kd db ew ac dn pr nu de rE rst wr rd rev rod cn rp rb ba sz1 lb rm cu sp nz rbl sl uz, (rG, al (gL G) 256 (up a5 y (a5 y))), (rev, al (gL G) 8 (ge4)), (rod, al (gL G) 8 (go4))] := hD
                        refine lv_iinc (k := 6) (v := iv (y + 1)) hx hb d_Mod_region_265 hl rfl (iv_add _ _) (by decide) rfl (fun ls hl => ?_)
                        have hl : lv_has ls 7 [(6, .int (iv (y + 1))), (0, .ref rM), (1, .int (iv (w0))), (2, .int (iv (h0))), (3, .int (iv (ct))), (4, .int (iv (un))), (5, .int (iv (gn0)))] := hl
                        refine lv_goto (tgt := 201) hx hb d_Mod_region_268 (by decide) ?_
                        exact ihy (by omega) _ _ _ (up a5 y (a5 y)) (lv_sub hl [1, 2, 3, 4, 5, 6, 0] rfl) hP hD hS (by rw [it_s _ _ hiy, ← hs5]; unfold rg5; rw [if_neg (by omega)]; first | rw [if_pos (by omega)] | rw [if_neg (by omega)])
                      · refine lv_aload_n hx hb d_Mod_region_243 rfl (lv_at hl 0 rfl) ?_
                        refine va_get (D := gD G) (ci := 7) (v := .ref rG) (C := R_Mod) (T := F_Mod) (N := 34) hx hb hw in_Mod hown hK hP 0 rfl rfl 4 (by decide) (hw _ m3_128) (fun _ h => h) rfl d_Mod_region_244 ?_
                        refine lv_iload hx hb d_Mod_region_247 (lv_at hl 6 rfl) ?_
                        refine k_lal hx hb hK hP 1 1 rfl rfl (by decide) (by omega) d_Mod_region_249 ?_
                        refine lv_lconst (v := 1) hx hb d_Mod_region_250 rfl ?_
                        refine lv_ladd hx hb d_Mod_region_251 ?_
                        refine lv_iconst (v := iv (1)) hx hb d_Mod_region_252 rfl ?_
                        refine k_lshr hx hb d_Mod_region_253 ?_
                        refine lv_goto (tgt := 264) hx hb d_Mod_region_254 (by decide) ?_
                        refine k_las hx hb hK hP hD hS 1 1 rfl rfl (by decide) (by omega) d_Mod_region_264 (fun H locs hP hD hS => ?_)
                        have hP : va_P (gD G) classes [o_Mod rM wd ht rP rk rG rW rK kd db ew ac dn pr nu de rE rst wr rd rev rod cn rp rb ba sz1 lb rm cu sp nz rbl sl uz, (rG, al (gL G) 256 (up a5 y (shR ((a5 y) + ((1 : Int64))) 1))), (rev, al (gL G) 8 (ge4)), (rod, al (gL G) 8 (go4))] H := hP
                        have hD : va_D A [o_Mod rM wd ht rP rk rG rW rK kd db ew ac dn pr nu de rE rst wr rd rev rod cn rp rb ba sz1 lb rm cu sp nz rbl sl uz, (rG, al (gL G) 256 (up a5 y (shR ((a5 y) + ((1 : Int64))) 1))), (rev, al (gL G) 8 (ge4)), (rod, al (gL G) 8 (go4))] := hD
                        refine lv_iinc (k := 6) (v := iv (y + 1)) hx hb d_Mod_region_265 hl rfl (iv_add _ _) (by decide) rfl (fun ls hl => ?_)
                        have hl : lv_has ls 7 [(6, .int (iv (y + 1))), (0, .ref rM), (1, .int (iv (w0))), (2, .int (iv (h0))), (3, .int (iv (ct))), (4, .int (iv (un))), (5, .int (iv (gn0)))] := hl
                        refine lv_goto (tgt := 201) hx hb d_Mod_region_268 (by decide) ?_
                        exact ihy (by omega) _ _ _ (up a5 y (shR ((a5 y) + ((1 : Int64))) 1)) (lv_sub hl [1, 2, 3, 4, 5, 6, 0] rfl) hP hD hS (by rw [it_s _ _ hiy, ← hs5]; unfold rg5; rw [if_neg (by omega)]; first | rw [if_pos (by omega)] | rw [if_neg (by omega)])
            · refine lv_iload_n hx hb d_Mod_region_171 rfl (lv_at hl 3 rfl) ?_
              refine k_if_eq (tgt := 198) hx hb d_Mod_region_172 (by decide) (by omega) (fun hc172 => ?_) (fun hc172 => absurd hc172 (by omega))
              have e4 : (a4, ge4, go4) = it (rg4 kd h0 ct un) 0 w0 (a3, ge3, go3) := by first | (rw [hs4]; exact it_x _ _ hc168 hjx) | (rw [hs4, it_c (rg4_c (Or.inl hc172)), it_c (rg4_c (Or.inl hc172))]) | (rw [hs4, it_c (rg4_c (Or.inr hc177)), it_c (rg4_c (Or.inr hc177))])
              refine lv_iconst (v := iv (0)) hx hb d_Mod_region_198 rfl ?_
              refine lv_istore hx hb d_Mod_region_199 hl (by decide) rfl (fun ls hl => ?_)
              have hl : lv_has ls 7 [(6, .int (iv (0))), (0, .ref rM), (1, .int (iv (w0))), (2, .int (iv (h0))), (3, .int (iv (ct))), (4, .int (iv (un))), (5, .int (iv (gn0)))] := hl
              refine lo_up (P := fun y => ∀ (ls : Array Slot) (H : Heap) (locs : List Loc) (a5 : Int → Int64), lv_has ls 7 [(0, .ref rM), (1, .int (iv (w0))), (2, .int (iv (h0))), (3, .int (iv (ct))), (4, .int (iv (un))), (5, .int (iv (gn0))), (6, .int (iv (y)))] → va_P (gD G) classes [o_Mod rM wd ht rP rk rG rW rK kd db ew ac dn pr nu de rE rst wr rd rev rod cn rp rb ba sz1 lb rm cu sp nz rbl sl uz, (rG, al (gL G) 256 (a5)), (rev, al (gL G) 8 (ge4)), (rod, al (gL G) 8 (go4))] H → va_D A [o_Mod rM wd ht rP rk rG rW rK kd db ew ac dn pr nu de rE rst wr rd rev rod cn rp rb ba sz1 lb rm cu sp nz rbl sl uz, (rG, al (gL G) 256 (a5)), (rev, al (gL G) 8 (ge4)), (rod, al (gL G) 8 (go4))] → va_S A s.heap H locs → (a5 = it (rg5 gn0 w0 h0 un) 0 y a4) → W p l e r_Mod_region s m args below meth c H locs 0 0 Q (F0 m 201 ls [])) (a := 0) (b := 256) (fun y hiy hjy ihy => ?_) _ _ _ a4 (lv_sub hl [1, 2, 3, 4, 5, 6, 0] rfl) hP hD hS (it_self _ _ _).symm
              intro ls H locs a5 hl hP hD hS hs5
              refine lv_iload hx hb d_Mod_region_201 (lv_at hl 6 rfl) ?_
              refine lv_sipush (v := iv (256)) hx hb d_Mod_region_203 rfl ?_
              refine k_icmp_ge (tgt := 271) hx hb d_Mod_region_206 (by decide) (by omega) (by omega) (fun hc206 => ?_) (fun hc206 => ?_)
              · exact k_vret hx hb hr hlk hQ ((a5, ge4, go4)) (by unfold rgA; dsimp only; rw [← hgn, ← e1, ← e2, ← e3, ← e4, show it (rg5 gn0 w0 h0 un) 0 256 a4 = a5 from (by first | (rw [hs5]; exact (it_x _ _ hc206 hjy).symm) | (rw [hs5, it_c (rg5_c (Or.inl hc211)), it_c (rg5_c (Or.inl hc211))]) | (rw [hs5, it_c (rg5_c (Or.inr hc216)), it_c (rg5_c (Or.inr hc216))]))]) hP hD hS d_Mod_region_271
              · refine lv_iload hx hb d_Mod_region_209 (lv_at hl 5 rfl) ?_
                refine k_if_eq (tgt := 271) hx hb d_Mod_region_211 (by decide) (by omega) (fun hc211 => ?_) (fun hc211 => ?_)
                · exact k_vret hx hb hr hlk hQ ((a5, ge4, go4)) (by unfold rgA; dsimp only; rw [← hgn, ← e1, ← e2, ← e3, ← e4, show it (rg5 gn0 w0 h0 un) 0 256 a4 = a5 from (by first | (rw [hs5]; exact (it_x _ _ hc206 hjy).symm) | (rw [hs5, it_c (rg5_c (Or.inl hc211)), it_c (rg5_c (Or.inl hc211))]) | (rw [hs5, it_c (rg5_c (Or.inr hc216)), it_c (rg5_c (Or.inr hc216))]))]) hP hD hS d_Mod_region_271
                · refine lv_iload hx hb d_Mod_region_214 (lv_at hl 4 rfl) ?_
                  refine k_if_eq (tgt := 271) hx hb d_Mod_region_216 (by decide) (by omega) (fun hc216 => ?_) (fun hc216 => ?_)
                  · exact k_vret hx hb hr hlk hQ ((a5, ge4, go4)) (by unfold rgA; dsimp only; rw [← hgn, ← e1, ← e2, ← e3, ← e4, show it (rg5 gn0 w0 h0 un) 0 256 a4 = a5 from (by first | (rw [hs5]; exact (it_x _ _ hc206 hjy).symm) | (rw [hs5, it_c (rg5_c (Or.inl hc211)), it_c (rg5_c (Or.inl hc211))]) | (rw [hs5, it_c (rg5_c (Or.inr hc216)), it_c (rg5_c (Or.inr hc216))]))]) hP hD hS d_Mod_region_271
                  · refine lv_aload_n hx hb d_Mod_region_219 rfl (lv_at hl 0 rfl) ?_
                    refine va_get (D := gD G) (ci := 7) (v := .ref rG) (C := R_Mod) (T := F_Mod) (N := 34) hx hb hw in_Mod hown hK hP 0 rfl rfl 4 (by decide) (hw _ m3_128) (fun _ h => h) rfl d_Mod_region_220 ?_
                    refine lv_iload hx hb d_Mod_region_223 (lv_at hl 6 rfl) ?_
                    refine lv_iload hx hb d_Mod_region_225 (lv_at hl 6 rfl) ?_
                    refine lv_bipush (v := iv (16)) hx hb d_Mod_region_227 rfl ?_
                    refine k_irem hx hb d_Mod_region_229 (by omega) (by omega) ?_
                    refine lv_iload_n hx hb d_Mod_region_230 rfl (lv_at hl 1 rfl) ?_
                    refine k_icmp_ge (tgt := 257) hx hb d_Mod_region_231 (by decide) (by omega) (by omega) (fun hc231 => ?_) (fun hc231 => ?_)
                    · refine lv_aload_n hx hb d_Mod_region_257 rfl (lv_at hl 0 rfl) ?_
                      refine va_get (D := gD G) (ci := 7) (v := .ref rG) (C := R_Mod) (T := F_Mod) (N := 34) hx hb hw in_Mod hown hK hP 0 rfl rfl 4 (by decide) (hw _ m3_128) (fun _ h => h) rfl d_Mod_region_258 ?_
                      refine lv_iload hx hb d_Mod_region_261 (lv_at hl 6 rfl) ?_
                      refine k_lal hx hb hK hP 1 1 rfl rfl (by decide) (by omega) d_Mod_region_263 ?_
                      refine k_las hx hb hK hP hD hS 1 1 rfl rfl (by decide) (by omega) d_Mod_region_264 (fun H locs hP hD hS => ?_)
                      have hP : va_P (gD G) classes [o_Mod rM wd ht rP rk rG rW rK kd db ew ac dn pr nu de rE rst wr rd rev rod cn rp rb ba sz1 lb rm cu sp nz rbl sl uz, (rG, al (gL G) 256 (up a5 y (a5 y))), (rev, al (gL G) 8 (ge4)), (rod, al (gL G) 8 (go4))] H := hP
                      have hD : va_D A [o_Mod rM wd ht rP rk rG rW rK kd db ew ac dn pr nu de rE rst wr rd rev rod cn rp rb ba sz1 lb rm cu sp nz rbl sl uz, (rG, al (gL G) 256 (up a5 y (a5 y))), (rev, al (gL G) 8 (ge4)), (rod, al (gL G) 8 (go4))] := hD
                      refine lv_iinc (k := 6) (v := iv (y + 1)) hx hb d_Mod_region_265 hl rfl (iv_add _ _) (by decide) rfl (fun ls hl => ?_)
                      have hl : lv_has ls 7 [(6, .int (iv (y + 1))), (0, .ref rM), (1, .int (iv (w0))), (2, .int (iv (h0))), (3, .int (iv (ct))), (4, .int (iv (un))), (5, .int (iv (gn0)))] := hl
                      refine lv_goto (tgt := 201) hx hb d_Mod_region_268 (by decide) ?_
                      exact ihy (by omega) _ _ _ (up a5 y (a5 y)) (lv_sub hl [1, 2, 3, 4, 5, 6, 0] rfl) hP hD hS (by rw [it_s _ _ hiy, ← hs5]; unfold rg5; rw [if_neg (by omega)]; first | rw [if_pos (by omega)] | rw [if_neg (by omega)])
                    · refine lv_iload hx hb d_Mod_region_234 (lv_at hl 6 rfl) ?_
                      refine lv_bipush (v := iv (16)) hx hb d_Mod_region_236 rfl ?_
                      refine k_idiv hx hb d_Mod_region_238 (by omega) (by omega) ?_
                      refine lv_iload_n hx hb d_Mod_region_239 rfl (lv_at hl 2 rfl) ?_
                      refine k_icmp_ge (tgt := 257) hx hb d_Mod_region_240 (by decide) (by omega) (by omega) (fun hc240 => ?_) (fun hc240 => ?_)
                      · refine lv_aload_n hx hb d_Mod_region_257 rfl (lv_at hl 0 rfl) ?_
                        refine va_get (D := gD G) (ci := 7) (v := .ref rG) (C := R_Mod) (T := F_Mod) (N := 34) hx hb hw in_Mod hown hK hP 0 rfl rfl 4 (by decide) (hw _ m3_128) (fun _ h => h) rfl d_Mod_region_258 ?_
                        refine lv_iload hx hb d_Mod_region_261 (lv_at hl 6 rfl) ?_
                        refine k_lal hx hb hK hP 1 1 rfl rfl (by decide) (by omega) d_Mod_region_263 ?_
                        refine k_las hx hb hK hP hD hS 1 1 rfl rfl (by decide) (by omega) d_Mod_region_264 (fun H locs hP hD hS => ?_)
                        have hP : va_P (gD G) classes [o_Mod rM wd ht rP rk rG rW rK kd db ew ac dn pr nu de rE rst wr rd rev rod cn rp rb ba sz1 lb rm cu sp nz rbl sl uz, (rG, al (gL G) 256 (up a5 y (a5 y))), (rev, al (gL G) 8 (ge4)), (rod, al (gL G) 8 (go4))] H := hP
                        have hD : va_D A [o_Mod rM wd ht rP rk rG rW rK kd db ew ac dn pr nu de rE rst wr rd rev rod cn rp rb ba sz1 lb rm cu sp nz rbl sl uz, (rG, al (gL G) 256 (up a5 y (a5 y))), (rev, al (gL G) 8 (ge4)), (rod, al (gL G) 8 (go4))] := hD
                        refine lv_iinc (k := 6) (v := iv (y + 1)) hx hb d_Mod_region_265 hl rfl (iv_add _ _) (by decide) rfl (fun ls hl => ?_)
                        have hl : lv_has ls 7 [(6, .int (iv (y + 1))), (0, .ref rM), (1, .int (iv (w0))), (2, .int (iv (h0))), (3, .int (iv (ct))), (4, .int (iv (un))), (5, .int (iv (gn0)))] := hl
                        refine lv_goto (tgt := 201) hx hb d_Mod_region_268 (by decide) ?_
                        exact ihy (by omega) _ _ _ (up a5 y (a5 y)) (lv_sub hl [1, 2, 3, 4, 5, 6, 0] rfl) hP hD hS (by rw [it_s _ _ hiy, ← hs5]; unfold rg5; rw [if_neg (by omega)]; first | rw [if_pos (by omega)] | rw [if_neg (by omega)])
                      · refine lv_aload_n hx hb d_Mod_region_243 rfl (lv_at hl 0 rfl) ?_
                        refine va_get (D := gD G) (ci := 7) (v := .ref rG) (C := R_Mod) (T := F_Mod) (N := 34) hx hb hw in_Mod hown hK hP 0 rfl rfl 4 (by decide) (hw _ m3_128) (fun _ h => h) rfl d_Mod_region_244 ?_
                        refine lv_iload hx hb d_Mod_region_247 (lv_at hl 6 rfl) ?_
                        refine k_lal hx hb hK hP 1 1 rfl rfl (by decide) (by omega) d_Mod_region_249 ?_
                        refine lv_lconst (v := 1) hx hb d_Mod_region_250 rfl ?_
                        refine lv_ladd hx hb d_Mod_region_251 ?_
                        refine lv_iconst (v := iv (1)) hx hb d_Mod_region_252 rfl ?_
                        refine k_lshr hx hb d_Mod_region_253 ?_
                        refine lv_goto (tgt := 264) hx hb d_Mod_region_254 (by decide) ?_
                        refine k_las hx hb hK hP hD hS 1 1 rfl rfl (by decide) (by omega) d_Mod_region_264 (fun H locs hP hD hS => ?_)
                        have hP : va_P (gD G) classes [o_Mod rM wd ht rP rk rG rW rK kd db ew ac dn pr nu de rE rst wr rd rev rod cn rp rb ba sz1 lb rm cu sp nz rbl sl uz, (rG, al (gL G) 256 (up a5 y (shR ((a5 y) + ((1 : Int64))) 1))), (rev, al (gL G) 8 (ge4)), (rod, al (gL G) 8 (go4))] H := hP
                        have hD : va_D A [o_Mod rM wd ht rP rk rG rW rK kd db ew ac dn pr nu de rE rst wr rd rev rod cn rp rb ba sz1 lb rm cu sp nz rbl sl uz, (rG, al (gL G) 256 (up a5 y (shR ((a5 y) + ((1 : Int64))) 1))), (rev, al (gL G) 8 (ge4)), (rod, al (gL G) 8 (go4))] := hD
                        refine lv_iinc (k := 6) (v := iv (y + 1)) hx hb d_Mod_region_265 hl rfl (iv_add _ _) (by decide) rfl (fun ls hl => ?_)
                        have hl : lv_has ls 7 [(6, .int (iv (y + 1))), (0, .ref rM), (1, .int (iv (w0))), (2, .int (iv (h0))), (3, .int (iv (ct))), (4, .int (iv (un))), (5, .int (iv (gn0)))] := hl
                        refine lv_goto (tgt := 201) hx hb d_Mod_region_268 (by decide) ?_
                        exact ihy (by omega) _ _ _ (up a5 y (shR ((a5 y) + ((1 : Int64))) 1)) (lv_sub hl [1, 2, 3, 4, 5, 6, 0] rfl) hP hD hS (by rw [it_s _ _ hiy, ← hs5]; unfold rg5; rw [if_neg (by omega)]; first | rw [if_pos (by omega)] | rw [if_neg (by omega)])
          · refine lv_aload_n hx hb d_Mod_region_141 rfl (lv_at hl 0 rfl) ?_
            refine lv_bipush (v := iv (16)) hx hb d_Mod_region_142 rfl ?_
            refine lv_iload hx hb d_Mod_region_144 (lv_at hl 6 rfl) ?_
            refine k_imul hx hb d_Mod_region_146 ?_
            refine lv_iconst (v := iv (1)) hx hb d_Mod_region_147 rfl ?_
            refine lv_iload_n hx hb d_Mod_region_148 rfl (lv_at hl 1 rfl) ?_
            refine lv_iconst (v := iv (2)) hx hb d_Mod_region_149 rfl ?_
            refine k_idiv hx hb d_Mod_region_150 (by omega) (by omega) ?_
            refine lv_iload hx hb d_Mod_region_151 (lv_at hl 4 rfl) ?_
            refine k_cv (wz := fun u : (Int → Int64) × (Int → Int64) × (Int → Int64) => [o_Mod rM wd ht rP rk rG rW rK kd db ew ac dn pr nu de rE rst wr rd rev rod cn rp rb ba sz1 lb rm cu sp nz rbl sl uz, (rG, al (gL G) 256 (u.1)), (rev, al (gL G) 8 (u.2.1)), (rod, al (gL G) 8 (u.2.2))]) (wr := []) (k_rv S (c_Mod_turn l G _ rM rP rk rG rW rK rE rst rev rod rp rb rbl (16 * k) 1 (w0 / 2) un wd ht kd db ew ac dn pr nu de wr rd cn ba sz1 lb rm cu sp nz sl uz a3 ge3 go3 (by omega) (by omega) (fun m a b => by omega) (by omega)) 4 m4_62 m4_59 m4_61 mp_27 m1_9 (by decide +kernel) (by decide) rfl rfl (k_preV (q0 := 0) hK hP hD hS hA hT rfl rfl [0, 1, 2, 3] (by decide) rfl) rfl hl.1 rfl (Nat.le_of_ble_eq_true rfl) d_Mod_region_153 ⟨Nat.le_of_ble_eq_true rfl, Nat.le_of_ble_eq_true rfl⟩) hP hD hS hA [0, 1, 2, 3] [] [0, 1, 2, 3] rfl rfl (by decide) (by decide) (by decide) (fun _ => rfl) (fun u153 H locs h153 hP hD hS => ?_)
            obtain ⟨a153, ge153, go153⟩ := u153
            have hP : va_P (gD G) classes [o_Mod rM wd ht rP rk rG rW rK kd db ew ac dn pr nu de rE rst wr rd rev rod cn rp rb ba sz1 lb rm cu sp nz rbl sl uz, (rG, al (gL G) 256 (a153)), (rev, al (gL G) 8 (ge153)), (rod, al (gL G) 8 (go153))] H := hP
            have hD : va_D A [o_Mod rM wd ht rP rk rG rW rK kd db ew ac dn pr nu de rE rst wr rd rev rod cn rp rb ba sz1 lb rm cu sp nz rbl sl uz, (rG, al (gL G) 256 (a153)), (rev, al (gL G) 8 (ge153)), (rod, al (gL G) 8 (go153))] := hD
            try dsimp only at h153
            refine lv_iinc (k := 6) (v := iv (k + 1)) hx hb d_Mod_region_156 hl rfl (iv_add _ _) (by decide) rfl (fun ls hl => ?_)
            have hl : lv_has ls 7 [(6, .int (iv (k + 1))), (0, .ref rM), (1, .int (iv (w0))), (2, .int (iv (h0))), (3, .int (iv (ct))), (4, .int (iv (un))), (5, .int (iv (gn0)))] := hl
            refine lv_goto (tgt := 135) hx hb d_Mod_region_159 (by decide) ?_
            exact ihk (by omega) _ _ _ a153 ge153 go153 (lv_sub hl [1, 2, 3, 4, 5, 6, 0] rfl) hP hD hS (by rw [it_s _ _ hik, ← hs3]; exact h153)
        · refine lv_iload hx hb d_Mod_region_109 (lv_at hl 4 rfl) ?_
          refine k_if_eq (tgt := 132) hx hb d_Mod_region_111 (by decide) (by omega) (fun hc111 => ?_) (fun hc111 => ?_)
          · have e2 : (a2, ge2, go2) = it (rg2 kd h0 ct un) 0 w0 (a1, ge, go) := by first | (rw [hs2]; exact it_x _ _ hc102 hjj) | (rw [hs2, it_c (rg2_c (Or.inl hc106)), it_c (rg2_c (Or.inl hc106))]) | (rw [hs2, it_c (rg2_c (Or.inr hc111)), it_c (rg2_c (Or.inr hc111))])
            refine lv_iconst (v := iv (0)) hx hb d_Mod_region_132 rfl ?_
            refine lv_istore hx hb d_Mod_region_133 hl (by decide) rfl (fun ls hl => ?_)
            have hl : lv_has ls 7 [(6, .int (iv (0))), (0, .ref rM), (1, .int (iv (w0))), (2, .int (iv (h0))), (3, .int (iv (ct))), (4, .int (iv (un))), (5, .int (iv (gn0)))] := hl
            refine lo_up (P := fun k => ∀ (ls : Array Slot) (H : Heap) (locs : List Loc) (a3 : Int → Int64) (ge3 : Int → Int64) (go3 : Int → Int64), lv_has ls 7 [(0, .ref rM), (1, .int (iv (w0))), (2, .int (iv (h0))), (3, .int (iv (ct))), (4, .int (iv (un))), (5, .int (iv (gn0))), (6, .int (iv (k)))] → va_P (gD G) classes [o_Mod rM wd ht rP rk rG rW rK kd db ew ac dn pr nu de rE rst wr rd rev rod cn rp rb ba sz1 lb rm cu sp nz rbl sl uz, (rG, al (gL G) 256 (a3)), (rev, al (gL G) 8 (ge3)), (rod, al (gL G) 8 (go3))] H → va_D A [o_Mod rM wd ht rP rk rG rW rK kd db ew ac dn pr nu de rE rst wr rd rev rod cn rp rb ba sz1 lb rm cu sp nz rbl sl uz, (rG, al (gL G) 256 (a3)), (rev, al (gL G) 8 (ge3)), (rod, al (gL G) 8 (go3))] → va_S A s.heap H locs → ((a3, ge3, go3) = it (rg3 kd w0 un) 0 k (a2, ge2, go2)) → W p l e r_Mod_region s m args below meth c H locs 0 0 Q (F0 m 135 ls [])) (a := 0) (b := h0) (fun k hik hjk ihk => ?_) _ _ _ a2 ge2 go2 (lv_sub hl [1, 2, 3, 4, 5, 6, 0] rfl) hP hD hS (it_self _ _ _).symm
            intro ls H locs a3 ge3 go3 hl hP hD hS hs3
            refine lv_iload hx hb d_Mod_region_135 (lv_at hl 6 rfl) ?_
            refine lv_iload_n hx hb d_Mod_region_137 rfl (lv_at hl 2 rfl) ?_
            refine k_icmp_ge (tgt := 162) hx hb d_Mod_region_138 (by decide) (by omega) (by omega) (fun hc138 => ?_) (fun hc138 => ?_)
            · have e3 : (a3, ge3, go3) = it (rg3 kd w0 un) 0 h0 (a2, ge2, go2) := by rw [hs3]; exact it_x _ _ hc138 hjk
              refine lv_iconst (v := iv (0)) hx hb d_Mod_region_162 rfl ?_
              refine lv_istore hx hb d_Mod_region_163 hl (by decide) rfl (fun ls hl => ?_)
              have hl : lv_has ls 7 [(6, .int (iv (0))), (0, .ref rM), (1, .int (iv (w0))), (2, .int (iv (h0))), (3, .int (iv (ct))), (4, .int (iv (un))), (5, .int (iv (gn0)))] := hl
              refine lo_up (P := fun x => ∀ (ls : Array Slot) (H : Heap) (locs : List Loc) (a4 : Int → Int64) (ge4 : Int → Int64) (go4 : Int → Int64), lv_has ls 7 [(0, .ref rM), (1, .int (iv (w0))), (2, .int (iv (h0))), (3, .int (iv (ct))), (4, .int (iv (un))), (5, .int (iv (gn0))), (6, .int (iv (x)))] → va_P (gD G) classes [o_Mod rM wd ht rP rk rG rW rK kd db ew ac dn pr nu de rE rst wr rd rev rod cn rp rb ba sz1 lb rm cu sp nz rbl sl uz, (rG, al (gL G) 256 (a4)), (rev, al (gL G) 8 (ge4)), (rod, al (gL G) 8 (go4))] H → va_D A [o_Mod rM wd ht rP rk rG rW rK kd db ew ac dn pr nu de rE rst wr rd rev rod cn rp rb ba sz1 lb rm cu sp nz rbl sl uz, (rG, al (gL G) 256 (a4)), (rev, al (gL G) 8 (ge4)), (rod, al (gL G) 8 (go4))] → va_S A s.heap H locs → ((a4, ge4, go4) = it (rg4 kd h0 ct un) 0 x (a3, ge3, go3)) → W p l e r_Mod_region s m args below meth c H locs 0 0 Q (F0 m 165 ls [])) (a := 0) (b := w0) (fun x hix hjx ihx => ?_) _ _ _ a3 ge3 go3 (lv_sub hl [1, 2, 3, 4, 5, 6, 0] rfl) hP hD hS (it_self _ _ _).symm
              intro ls H locs a4 ge4 go4 hl hP hD hS hs4
              refine lv_iload hx hb d_Mod_region_165 (lv_at hl 6 rfl) ?_
              refine lv_iload_n hx hb d_Mod_region_167 rfl (lv_at hl 1 rfl) ?_
              refine k_icmp_ge (tgt := 198) hx hb d_Mod_region_168 (by decide) (by omega) (by omega) (fun hc168 => ?_) (fun hc168 => ?_)
              · have e4 : (a4, ge4, go4) = it (rg4 kd h0 ct un) 0 w0 (a3, ge3, go3) := by first | (rw [hs4]; exact it_x _ _ hc168 hjx) | (rw [hs4, it_c (rg4_c (Or.inl hc172)), it_c (rg4_c (Or.inl hc172))]) | (rw [hs4, it_c (rg4_c (Or.inr hc177)), it_c (rg4_c (Or.inr hc177))])
                refine lv_iconst (v := iv (0)) hx hb d_Mod_region_198 rfl ?_
                refine lv_istore hx hb d_Mod_region_199 hl (by decide) rfl (fun ls hl => ?_)
                have hl : lv_has ls 7 [(6, .int (iv (0))), (0, .ref rM), (1, .int (iv (w0))), (2, .int (iv (h0))), (3, .int (iv (ct))), (4, .int (iv (un))), (5, .int (iv (gn0)))] := hl
                refine lo_up (P := fun y => ∀ (ls : Array Slot) (H : Heap) (locs : List Loc) (a5 : Int → Int64), lv_has ls 7 [(0, .ref rM), (1, .int (iv (w0))), (2, .int (iv (h0))), (3, .int (iv (ct))), (4, .int (iv (un))), (5, .int (iv (gn0))), (6, .int (iv (y)))] → va_P (gD G) classes [o_Mod rM wd ht rP rk rG rW rK kd db ew ac dn pr nu de rE rst wr rd rev rod cn rp rb ba sz1 lb rm cu sp nz rbl sl uz, (rG, al (gL G) 256 (a5)), (rev, al (gL G) 8 (ge4)), (rod, al (gL G) 8 (go4))] H → va_D A [o_Mod rM wd ht rP rk rG rW rK kd db ew ac dn pr nu de rE rst wr rd rev rod cn rp rb ba sz1 lb rm cu sp nz rbl sl uz, (rG, al (gL G) 256 (a5)), (rev, al (gL G) 8 (ge4)), (rod, al (gL G) 8 (go4))] → va_S A s.heap H locs → (a5 = it (rg5 gn0 w0 h0 un) 0 y a4) → W p l e r_Mod_region s m args below meth c H locs 0 0 Q (F0 m 201 ls [])) (a := 0) (b := 256) (fun y hiy hjy ihy => ?_) _ _ _ a4 (lv_sub hl [1, 2, 3, 4, 5, 6, 0] rfl) hP hD hS (it_self _ _ _).symm
                intro ls H locs a5 hl hP hD hS hs5
                refine lv_iload hx hb d_Mod_region_201 (lv_at hl 6 rfl) ?_
                refine lv_sipush (v := iv (256)) hx hb d_Mod_region_203 rfl ?_
                refine k_icmp_ge (tgt := 271) hx hb d_Mod_region_206 (by decide) (by omega) (by omega) (fun hc206 => ?_) (fun hc206 => ?_)
                · exact k_vret hx hb hr hlk hQ ((a5, ge4, go4)) (by unfold rgA; dsimp only; rw [← hgn, ← e1, ← e2, ← e3, ← e4, show it (rg5 gn0 w0 h0 un) 0 256 a4 = a5 from (by first | (rw [hs5]; exact (it_x _ _ hc206 hjy).symm) | (rw [hs5, it_c (rg5_c (Or.inl hc211)), it_c (rg5_c (Or.inl hc211))]) | (rw [hs5, it_c (rg5_c (Or.inr hc216)), it_c (rg5_c (Or.inr hc216))]))]) hP hD hS d_Mod_region_271
                · refine lv_iload hx hb d_Mod_region_209 (lv_at hl 5 rfl) ?_
                  refine k_if_eq (tgt := 271) hx hb d_Mod_region_211 (by decide) (by omega) (fun hc211 => ?_) (fun hc211 => ?_)
                  · exact k_vret hx hb hr hlk hQ ((a5, ge4, go4)) (by unfold rgA; dsimp only; rw [← hgn, ← e1, ← e2, ← e3, ← e4, show it (rg5 gn0 w0 h0 un) 0 256 a4 = a5 from (by first | (rw [hs5]; exact (it_x _ _ hc206 hjy).symm) | (rw [hs5, it_c (rg5_c (Or.inl hc211)), it_c (rg5_c (Or.inl hc211))]) | (rw [hs5, it_c (rg5_c (Or.inr hc216)), it_c (rg5_c (Or.inr hc216))]))]) hP hD hS d_Mod_region_271
                  · refine lv_iload hx hb d_Mod_region_214 (lv_at hl 4 rfl) ?_
                    refine k_if_eq (tgt := 271) hx hb d_Mod_region_216 (by decide) (by omega) (fun hc216 => ?_) (fun hc216 => absurd hc216 (by omega))
                    exact k_vret hx hb hr hlk hQ ((a5, ge4, go4)) (by unfold rgA; dsimp only; rw [← hgn, ← e1, ← e2, ← e3, ← e4, show it (rg5 gn0 w0 h0 un) 0 256 a4 = a5 from (by first | (rw [hs5]; exact (it_x _ _ hc206 hjy).symm) | (rw [hs5, it_c (rg5_c (Or.inl hc211)), it_c (rg5_c (Or.inl hc211))]) | (rw [hs5, it_c (rg5_c (Or.inr hc216)), it_c (rg5_c (Or.inr hc216))]))]) hP hD hS d_Mod_region_271
              · refine lv_iload_n hx hb d_Mod_region_171 rfl (lv_at hl 3 rfl) ?_
                refine k_if_eq (tgt := 198) hx hb d_Mod_region_172 (by decide) (by omega) (fun hc172 => absurd hc172 (by omega)) (fun hc172 => ?_)
                refine lv_iload hx hb d_Mod_region_175 (lv_at hl 4 rfl) ?_
                refine k_if_ne (tgt := 198) hx hb d_Mod_region_177 (by decide) (by omega) (fun hc177 => absurd hc177 (by omega)) (fun hc177 => ?_)
                refine lv_aload_n hx hb d_Mod_region_180 rfl (lv_at hl 0 rfl) ?_
                refine lv_iload hx hb d_Mod_region_181 (lv_at hl 6 rfl) ?_
                refine lv_bipush (v := iv (16)) hx hb d_Mod_region_183 rfl ?_
                refine lv_iload_n hx hb d_Mod_region_185 rfl (lv_at hl 2 rfl) ?_
                refine lv_iconst (v := iv (2)) hx hb d_Mod_region_186 rfl ?_
                refine k_idiv hx hb d_Mod_region_187 (by omega) (by omega) ?_
                refine lv_iconst (v := iv (0)) hx hb d_Mod_region_188 rfl ?_
                refine k_cv (wz := fun u : (Int → Int64) × (Int → Int64) × (Int → Int64) => [o_Mod rM wd ht rP rk rG rW rK kd db ew ac dn pr nu de rE rst wr rd rev rod cn rp rb ba sz1 lb rm cu sp nz rbl sl uz, (rG, al (gL G) 256 (u.1)), (rev, al (gL G) 8 (u.2.1)), (rod, al (gL G) 8 (u.2.2))]) (wr := []) (k_rv S (c_Mod_turn l G _ rM rP rk rG rW rK rE rst rev rod rp rb rbl x 16 (h0 / 2) 0 wd ht kd db ew ac dn pr nu de wr rd cn ba sz1 lb rm cu sp nz sl uz a4 ge4 go4 (by omega) (by omega) (fun m a b => by omega) (by omega)) 4 m4_62 m4_59 m4_61 mp_27 m1_9 (by decide +kernel) (by decide) rfl rfl (k_preV (q0 := 0) hK hP hD hS hA hT rfl rfl [0, 1, 2, 3] (by decide) rfl) rfl hl.1 rfl (Nat.le_of_ble_eq_true rfl) d_Mod_region_189 ⟨Nat.le_of_ble_eq_true rfl, Nat.le_of_ble_eq_true rfl⟩) hP hD hS hA [0, 1, 2, 3] [] [0, 1, 2, 3] rfl rfl (by decide) (by decide) (by decide) (fun _ => rfl) (fun u189 H locs h189 hP hD hS => ?_)
                obtain ⟨a189, ge189, go189⟩ := u189
                have hP : va_P (gD G) classes [o_Mod rM wd ht rP rk rG rW rK kd db ew ac dn pr nu de rE rst wr rd rev rod cn rp rb ba sz1 lb rm cu sp nz rbl sl uz, (rG, al (gL G) 256 (a189)), (rev, al (gL G) 8 (ge189)), (rod, al (gL G) 8 (go189))] H := hP
                have hD : va_D A [o_Mod rM wd ht rP rk rG rW rK kd db ew ac dn pr nu de rE rst wr rd rev rod cn rp rb ba sz1 lb rm cu sp nz rbl sl uz, (rG, al (gL G) 256 (a189)), (rev, al (gL G) 8 (ge189)), (rod, al (gL G) 8 (go189))] := hD
                try dsimp only at h189
                refine lv_iinc (k := 6) (v := iv (x + 1)) hx hb d_Mod_region_192 hl rfl (iv_add _ _) (by decide) rfl (fun ls hl => ?_)
                have hl : lv_has ls 7 [(6, .int (iv (x + 1))), (0, .ref rM), (1, .int (iv (w0))), (2, .int (iv (h0))), (3, .int (iv (ct))), (4, .int (iv (un))), (5, .int (iv (gn0)))] := hl
                refine lv_goto (tgt := 165) hx hb d_Mod_region_195 (by decide) ?_
                exact ihx (by omega) _ _ _ a189 ge189 go189 (lv_sub hl [1, 2, 3, 4, 5, 6, 0] rfl) hP hD hS (by rw [it_s _ _ hix, ← hs4]; unfold rg4; rw [if_neg (by omega)]; exact h189)
            · refine lv_aload_n hx hb d_Mod_region_141 rfl (lv_at hl 0 rfl) ?_
              refine lv_bipush (v := iv (16)) hx hb d_Mod_region_142 rfl ?_
              refine lv_iload hx hb d_Mod_region_144 (lv_at hl 6 rfl) ?_
              refine k_imul hx hb d_Mod_region_146 ?_
              refine lv_iconst (v := iv (1)) hx hb d_Mod_region_147 rfl ?_
              refine lv_iload_n hx hb d_Mod_region_148 rfl (lv_at hl 1 rfl) ?_
              refine lv_iconst (v := iv (2)) hx hb d_Mod_region_149 rfl ?_
              refine k_idiv hx hb d_Mod_region_150 (by omega) (by omega) ?_
              refine lv_iload hx hb d_Mod_region_151 (lv_at hl 4 rfl) ?_
              refine k_cv (wz := fun u : (Int → Int64) × (Int → Int64) × (Int → Int64) => [o_Mod rM wd ht rP rk rG rW rK kd db ew ac dn pr nu de rE rst wr rd rev rod cn rp rb ba sz1 lb rm cu sp nz rbl sl uz, (rG, al (gL G) 256 (u.1)), (rev, al (gL G) 8 (u.2.1)), (rod, al (gL G) 8 (u.2.2))]) (wr := []) (k_rv S (c_Mod_turn l G _ rM rP rk rG rW rK rE rst rev rod rp rb rbl (16 * k) 1 (w0 / 2) un wd ht kd db ew ac dn pr nu de wr rd cn ba sz1 lb rm cu sp nz sl uz a3 ge3 go3 (by omega) (by omega) (fun m a b => by omega) (by omega)) 4 m4_62 m4_59 m4_61 mp_27 m1_9 (by decide +kernel) (by decide) rfl rfl (k_preV (q0 := 0) hK hP hD hS hA hT rfl rfl [0, 1, 2, 3] (by decide) rfl) rfl hl.1 rfl (Nat.le_of_ble_eq_true rfl) d_Mod_region_153 ⟨Nat.le_of_ble_eq_true rfl, Nat.le_of_ble_eq_true rfl⟩) hP hD hS hA [0, 1, 2, 3] [] [0, 1, 2, 3] rfl rfl (by decide) (by decide) (by decide) (fun _ => rfl) (fun u153 H locs h153 hP hD hS => ?_)
              obtain ⟨a153, ge153, go153⟩ := u153
              have hP : va_P (gD G) classes [o_Mod rM wd ht rP rk rG rW rK kd db ew ac dn pr nu de rE rst wr rd rev rod cn rp rb ba sz1 lb rm cu sp nz rbl sl uz, (rG, al (gL G) 256 (a153)), (rev, al (gL G) 8 (ge153)), (rod, al (gL G) 8 (go153))] H := hP
              have hD : va_D A [o_Mod rM wd ht rP rk rG rW rK kd db ew ac dn pr nu de rE rst wr rd rev rod cn rp rb ba sz1 lb rm cu sp nz rbl sl uz, (rG, al (gL G) 256 (a153)), (rev, al (gL G) 8 (ge153)), (rod, al (gL G) 8 (go153))] := hD
              try dsimp only at h153
              refine lv_iinc (k := 6) (v := iv (k + 1)) hx hb d_Mod_region_156 hl rfl (iv_add _ _) (by decide) rfl (fun ls hl => ?_)
              have hl : lv_has ls 7 [(6, .int (iv (k + 1))), (0, .ref rM), (1, .int (iv (w0))), (2, .int (iv (h0))), (3, .int (iv (ct))), (4, .int (iv (un))), (5, .int (iv (gn0)))] := hl
              refine lv_goto (tgt := 135) hx hb d_Mod_region_159 (by decide) ?_
              exact ihk (by omega) _ _ _ a153 ge153 go153 (lv_sub hl [1, 2, 3, 4, 5, 6, 0] rfl) hP hD hS (by rw [it_s _ _ hik, ← hs3]; exact h153)
          · refine lv_aload_n hx hb d_Mod_region_114 rfl (lv_at hl 0 rfl) ?_
            refine lv_iload hx hb d_Mod_region_115 (lv_at hl 6 rfl) ?_
            refine lv_bipush (v := iv (16)) hx hb d_Mod_region_117 rfl ?_
            refine lv_iload_n hx hb d_Mod_region_119 rfl (lv_at hl 2 rfl) ?_
            refine lv_iconst (v := iv (2)) hx hb d_Mod_region_120 rfl ?_
            refine k_idiv hx hb d_Mod_region_121 (by omega) (by omega) ?_
            refine lv_iconst (v := iv (1)) hx hb d_Mod_region_122 rfl ?_
            refine k_cv (wz := fun u : (Int → Int64) × (Int → Int64) × (Int → Int64) => [o_Mod rM wd ht rP rk rG rW rK kd db ew ac dn pr nu de rE rst wr rd rev rod cn rp rb ba sz1 lb rm cu sp nz rbl sl uz, (rG, al (gL G) 256 (u.1)), (rev, al (gL G) 8 (u.2.1)), (rod, al (gL G) 8 (u.2.2))]) (wr := []) (k_rv S (c_Mod_turn l G _ rM rP rk rG rW rK rE rst rev rod rp rb rbl j 16 (h0 / 2) 1 wd ht kd db ew ac dn pr nu de wr rd cn ba sz1 lb rm cu sp nz sl uz a2 ge2 go2 (by omega) (by omega) (fun m a b => by omega) (by omega)) 4 m4_62 m4_59 m4_61 mp_27 m1_9 (by decide +kernel) (by decide) rfl rfl (k_preV (q0 := 0) hK hP hD hS hA hT rfl rfl [0, 1, 2, 3] (by decide) rfl) rfl hl.1 rfl (Nat.le_of_ble_eq_true rfl) d_Mod_region_123 ⟨Nat.le_of_ble_eq_true rfl, Nat.le_of_ble_eq_true rfl⟩) hP hD hS hA [0, 1, 2, 3] [] [0, 1, 2, 3] rfl rfl (by decide) (by decide) (by decide) (fun _ => rfl) (fun u123 H locs h123 hP hD hS => ?_)
            obtain ⟨a123, ge123, go123⟩ := u123
            have hP : va_P (gD G) classes [o_Mod rM wd ht rP rk rG rW rK kd db ew ac dn pr nu de rE rst wr rd rev rod cn rp rb ba sz1 lb rm cu sp nz rbl sl uz, (rG, al (gL G) 256 (a123)), (rev, al (gL G) 8 (ge123)), (rod, al (gL G) 8 (go123))] H := hP
            have hD : va_D A [o_Mod rM wd ht rP rk rG rW rK kd db ew ac dn pr nu de rE rst wr rd rev rod cn rp rb ba sz1 lb rm cu sp nz rbl sl uz, (rG, al (gL G) 256 (a123)), (rev, al (gL G) 8 (ge123)), (rod, al (gL G) 8 (go123))] := hD
            try dsimp only at h123
            refine lv_iinc (k := 6) (v := iv (j + 1)) hx hb d_Mod_region_126 hl rfl (iv_add _ _) (by decide) rfl (fun ls hl => ?_)
            have hl : lv_has ls 7 [(6, .int (iv (j + 1))), (0, .ref rM), (1, .int (iv (w0))), (2, .int (iv (h0))), (3, .int (iv (ct))), (4, .int (iv (un))), (5, .int (iv (gn0)))] := hl
            refine lv_goto (tgt := 99) hx hb d_Mod_region_129 (by decide) ?_
            exact ihj (by omega) _ _ _ a123 ge123 go123 (lv_sub hl [1, 2, 3, 4, 5, 6, 0] rfl) hP hD hS (by rw [it_s _ _ hij, ← hs2]; unfold rg2; rw [if_neg (by omega)]; exact h123)
    · refine lv_iload hx hb d_Mod_region_34 (lv_at hl 5 rfl) ?_
      refine k_if_eq (tgt := 96) hx hb d_Mod_region_36 (by decide) (by omega) (fun hc36 => ?_) (fun hc36 => ?_)
      · have e1 : a1 = it (rg1 gn0 w0 h0 un) 0 256 gg := by first | (rw [hs1]; exact it_x _ _ hc31 hji) | (rw [hs1, it_c (rg1_c (Or.inl hc36)), it_c (rg1_c (Or.inl hc36))]) | (rw [hs1, it_c (rg1_c (Or.inr hc41)), it_c (rg1_c (Or.inr hc41))])
        refine lv_iconst (v := iv (0)) hx hb d_Mod_region_96 rfl ?_
        refine lv_istore hx hb d_Mod_region_97 hl (by decide) rfl (fun ls hl => ?_)
        have hl : lv_has ls 7 [(6, .int (iv (0))), (0, .ref rM), (1, .int (iv (w0))), (2, .int (iv (h0))), (3, .int (iv (ct))), (4, .int (iv (un))), (5, .int (iv (gn0)))] := hl
        refine lo_up (P := fun j => ∀ (ls : Array Slot) (H : Heap) (locs : List Loc) (a2 : Int → Int64) (ge2 : Int → Int64) (go2 : Int → Int64), lv_has ls 7 [(0, .ref rM), (1, .int (iv (w0))), (2, .int (iv (h0))), (3, .int (iv (ct))), (4, .int (iv (un))), (5, .int (iv (gn0))), (6, .int (iv (j)))] → va_P (gD G) classes [o_Mod rM wd ht rP rk rG rW rK kd db ew ac dn pr nu de rE rst wr rd rev rod cn rp rb ba sz1 lb rm cu sp nz rbl sl uz, (rG, al (gL G) 256 (a2)), (rev, al (gL G) 8 (ge2)), (rod, al (gL G) 8 (go2))] H → va_D A [o_Mod rM wd ht rP rk rG rW rK kd db ew ac dn pr nu de rE rst wr rd rev rod cn rp rb ba sz1 lb rm cu sp nz rbl sl uz, (rG, al (gL G) 256 (a2)), (rev, al (gL G) 8 (ge2)), (rod, al (gL G) 8 (go2))] → va_S A s.heap H locs → ((a2, ge2, go2) = it (rg2 kd h0 ct un) 0 j (a1, ge, go)) → W p l e r_Mod_region s m args below meth c H locs 0 0 Q (F0 m 99 ls [])) (a := 0) (b := w0) (fun j hij hjj ihj => ?_) _ _ _ a1 ge go (lv_sub hl [1, 2, 3, 4, 5, 6, 0] rfl) hP hD hS (it_self _ _ _).symm
        intro ls H locs a2 ge2 go2 hl hP hD hS hs2
        refine lv_iload hx hb d_Mod_region_99 (lv_at hl 6 rfl) ?_
        refine lv_iload_n hx hb d_Mod_region_101 rfl (lv_at hl 1 rfl) ?_
        refine k_icmp_ge (tgt := 132) hx hb d_Mod_region_102 (by decide) (by omega) (by omega) (fun hc102 => ?_) (fun hc102 => ?_)
        · have e2 : (a2, ge2, go2) = it (rg2 kd h0 ct un) 0 w0 (a1, ge, go) := by first | (rw [hs2]; exact it_x _ _ hc102 hjj) | (rw [hs2, it_c (rg2_c (Or.inl hc106)), it_c (rg2_c (Or.inl hc106))]) | (rw [hs2, it_c (rg2_c (Or.inr hc111)), it_c (rg2_c (Or.inr hc111))])
          refine lv_iconst (v := iv (0)) hx hb d_Mod_region_132 rfl ?_
          refine lv_istore hx hb d_Mod_region_133 hl (by decide) rfl (fun ls hl => ?_)
          have hl : lv_has ls 7 [(6, .int (iv (0))), (0, .ref rM), (1, .int (iv (w0))), (2, .int (iv (h0))), (3, .int (iv (ct))), (4, .int (iv (un))), (5, .int (iv (gn0)))] := hl
          refine lo_up (P := fun k => ∀ (ls : Array Slot) (H : Heap) (locs : List Loc) (a3 : Int → Int64) (ge3 : Int → Int64) (go3 : Int → Int64), lv_has ls 7 [(0, .ref rM), (1, .int (iv (w0))), (2, .int (iv (h0))), (3, .int (iv (ct))), (4, .int (iv (un))), (5, .int (iv (gn0))), (6, .int (iv (k)))] → va_P (gD G) classes [o_Mod rM wd ht rP rk rG rW rK kd db ew ac dn pr nu de rE rst wr rd rev rod cn rp rb ba sz1 lb rm cu sp nz rbl sl uz, (rG, al (gL G) 256 (a3)), (rev, al (gL G) 8 (ge3)), (rod, al (gL G) 8 (go3))] H → va_D A [o_Mod rM wd ht rP rk rG rW rK kd db ew ac dn pr nu de rE rst wr rd rev rod cn rp rb ba sz1 lb rm cu sp nz rbl sl uz, (rG, al (gL G) 256 (a3)), (rev, al (gL G) 8 (ge3)), (rod, al (gL G) 8 (go3))] → va_S A s.heap H locs → ((a3, ge3, go3) = it (rg3 kd w0 un) 0 k (a2, ge2, go2)) → W p l e r_Mod_region s m args below meth c H locs 0 0 Q (F0 m 135 ls [])) (a := 0) (b := h0) (fun k hik hjk ihk => ?_) _ _ _ a2 ge2 go2 (lv_sub hl [1, 2, 3, 4, 5, 6, 0] rfl) hP hD hS (it_self _ _ _).symm
          intro ls H locs a3 ge3 go3 hl hP hD hS hs3
          refine lv_iload hx hb d_Mod_region_135 (lv_at hl 6 rfl) ?_
          refine lv_iload_n hx hb d_Mod_region_137 rfl (lv_at hl 2 rfl) ?_
          refine k_icmp_ge (tgt := 162) hx hb d_Mod_region_138 (by decide) (by omega) (by omega) (fun hc138 => ?_) (fun hc138 => ?_)
          · have e3 : (a3, ge3, go3) = it (rg3 kd w0 un) 0 h0 (a2, ge2, go2) := by rw [hs3]; exact it_x _ _ hc138 hjk
            refine lv_iconst (v := iv (0)) hx hb d_Mod_region_162 rfl ?_
            refine lv_istore hx hb d_Mod_region_163 hl (by decide) rfl (fun ls hl => ?_)
            have hl : lv_has ls 7 [(6, .int (iv (0))), (0, .ref rM), (1, .int (iv (w0))), (2, .int (iv (h0))), (3, .int (iv (ct))), (4, .int (iv (un))), (5, .int (iv (gn0)))] := hl
            refine lo_up (P := fun x => ∀ (ls : Array Slot) (H : Heap) (locs : List Loc) (a4 : Int → Int64) (ge4 : Int → Int64) (go4 : Int → Int64), lv_has ls 7 [(0, .ref rM), (1, .int (iv (w0))), (2, .int (iv (h0))), (3, .int (iv (ct))), (4, .int (iv (un))), (5, .int (iv (gn0))), (6, .int (iv (x)))] → va_P (gD G) classes [o_Mod rM wd ht rP rk rG rW rK kd db ew ac dn pr nu de rE rst wr rd rev rod cn rp rb ba sz1 lb rm cu sp nz rbl sl uz, (rG, al (gL G) 256 (a4)), (rev, al (gL G) 8 (ge4)), (rod, al (gL G) 8 (go4))] H → va_D A [o_Mod rM wd ht rP rk rG rW rK kd db ew ac dn pr nu de rE rst wr rd rev rod cn rp rb ba sz1 lb rm cu sp nz rbl sl uz, (rG, al (gL G) 256 (a4)), (rev, al (gL G) 8 (ge4)), (rod, al (gL G) 8 (go4))] → va_S A s.heap H locs → ((a4, ge4, go4) = it (rg4 kd h0 ct un) 0 x (a3, ge3, go3)) → W p l e r_Mod_region s m args below meth c H locs 0 0 Q (F0 m 165 ls [])) (a := 0) (b := w0) (fun x hix hjx ihx => ?_) _ _ _ a3 ge3 go3 (lv_sub hl [1, 2, 3, 4, 5, 6, 0] rfl) hP hD hS (it_self _ _ _).symm
            intro ls H locs a4 ge4 go4 hl hP hD hS hs4
            refine lv_iload hx hb d_Mod_region_165 (lv_at hl 6 rfl) ?_
            refine lv_iload_n hx hb d_Mod_region_167 rfl (lv_at hl 1 rfl) ?_
            refine k_icmp_ge (tgt := 198) hx hb d_Mod_region_168 (by decide) (by omega) (by omega) (fun hc168 => ?_) (fun hc168 => ?_)
            · have e4 : (a4, ge4, go4) = it (rg4 kd h0 ct un) 0 w0 (a3, ge3, go3) := by first | (rw [hs4]; exact it_x _ _ hc168 hjx) | (rw [hs4, it_c (rg4_c (Or.inl hc172)), it_c (rg4_c (Or.inl hc172))]) | (rw [hs4, it_c (rg4_c (Or.inr hc177)), it_c (rg4_c (Or.inr hc177))])
              refine lv_iconst (v := iv (0)) hx hb d_Mod_region_198 rfl ?_
              refine lv_istore hx hb d_Mod_region_199 hl (by decide) rfl (fun ls hl => ?_)
              have hl : lv_has ls 7 [(6, .int (iv (0))), (0, .ref rM), (1, .int (iv (w0))), (2, .int (iv (h0))), (3, .int (iv (ct))), (4, .int (iv (un))), (5, .int (iv (gn0)))] := hl
              refine lo_up (P := fun y => ∀ (ls : Array Slot) (H : Heap) (locs : List Loc) (a5 : Int → Int64), lv_has ls 7 [(0, .ref rM), (1, .int (iv (w0))), (2, .int (iv (h0))), (3, .int (iv (ct))), (4, .int (iv (un))), (5, .int (iv (gn0))), (6, .int (iv (y)))] → va_P (gD G) classes [o_Mod rM wd ht rP rk rG rW rK kd db ew ac dn pr nu de rE rst wr rd rev rod cn rp rb ba sz1 lb rm cu sp nz rbl sl uz, (rG, al (gL G) 256 (a5)), (rev, al (gL G) 8 (ge4)), (rod, al (gL G) 8 (go4))] H → va_D A [o_Mod rM wd ht rP rk rG rW rK kd db ew ac dn pr nu de rE rst wr rd rev rod cn rp rb ba sz1 lb rm cu sp nz rbl sl uz, (rG, al (gL G) 256 (a5)), (rev, al (gL G) 8 (ge4)), (rod, al (gL G) 8 (go4))] → va_S A s.heap H locs → (a5 = it (rg5 gn0 w0 h0 un) 0 y a4) → W p l e r_Mod_region s m args below meth c H locs 0 0 Q (F0 m 201 ls [])) (a := 0) (b := 256) (fun y hiy hjy ihy => ?_) _ _ _ a4 (lv_sub hl [1, 2, 3, 4, 5, 6, 0] rfl) hP hD hS (it_self _ _ _).symm
              intro ls H locs a5 hl hP hD hS hs5
              refine lv_iload hx hb d_Mod_region_201 (lv_at hl 6 rfl) ?_
              refine lv_sipush (v := iv (256)) hx hb d_Mod_region_203 rfl ?_
              refine k_icmp_ge (tgt := 271) hx hb d_Mod_region_206 (by decide) (by omega) (by omega) (fun hc206 => ?_) (fun hc206 => ?_)
              · exact k_vret hx hb hr hlk hQ ((a5, ge4, go4)) (by unfold rgA; dsimp only; rw [← hgn, ← e1, ← e2, ← e3, ← e4, show it (rg5 gn0 w0 h0 un) 0 256 a4 = a5 from (by first | (rw [hs5]; exact (it_x _ _ hc206 hjy).symm) | (rw [hs5, it_c (rg5_c (Or.inl hc211)), it_c (rg5_c (Or.inl hc211))]) | (rw [hs5, it_c (rg5_c (Or.inr hc216)), it_c (rg5_c (Or.inr hc216))]))]) hP hD hS d_Mod_region_271
              · refine lv_iload hx hb d_Mod_region_209 (lv_at hl 5 rfl) ?_
                refine k_if_eq (tgt := 271) hx hb d_Mod_region_211 (by decide) (by omega) (fun hc211 => ?_) (fun hc211 => absurd hc211 (by omega))
                exact k_vret hx hb hr hlk hQ ((a5, ge4, go4)) (by unfold rgA; dsimp only; rw [← hgn, ← e1, ← e2, ← e3, ← e4, show it (rg5 gn0 w0 h0 un) 0 256 a4 = a5 from (by first | (rw [hs5]; exact (it_x _ _ hc206 hjy).symm) | (rw [hs5, it_c (rg5_c (Or.inl hc211)), it_c (rg5_c (Or.inl hc211))]) | (rw [hs5, it_c (rg5_c (Or.inr hc216)), it_c (rg5_c (Or.inr hc216))]))]) hP hD hS d_Mod_region_271
            · refine lv_iload_n hx hb d_Mod_region_171 rfl (lv_at hl 3 rfl) ?_
              refine k_if_eq (tgt := 198) hx hb d_Mod_region_172 (by decide) (by omega) (fun hc172 => ?_) (fun hc172 => ?_)
              · have e4 : (a4, ge4, go4) = it (rg4 kd h0 ct un) 0 w0 (a3, ge3, go3) := by first | (rw [hs4]; exact it_x _ _ hc168 hjx) | (rw [hs4, it_c (rg4_c (Or.inl hc172)), it_c (rg4_c (Or.inl hc172))]) | (rw [hs4, it_c (rg4_c (Or.inr hc177)), it_c (rg4_c (Or.inr hc177))])
                refine lv_iconst (v := iv (0)) hx hb d_Mod_region_198 rfl ?_
                refine lv_istore hx hb d_Mod_region_199 hl (by decide) rfl (fun ls hl => ?_)
                have hl : lv_has ls 7 [(6, .int (iv (0))), (0, .ref rM), (1, .int (iv (w0))), (2, .int (iv (h0))), (3, .int (iv (ct))), (4, .int (iv (un))), (5, .int (iv (gn0)))] := hl
                refine lo_up (P := fun y => ∀ (ls : Array Slot) (H : Heap) (locs : List Loc) (a5 : Int → Int64), lv_has ls 7 [(0, .ref rM), (1, .int (iv (w0))), (2, .int (iv (h0))), (3, .int (iv (ct))), (4, .int (iv (un))), (5, .int (iv (gn0))), (6, .int (iv (y)))] → va_P (gD G) classes [o_Mod rM wd ht rP rk rG rW rK kd db ew ac dn pr nu de rE rst wr rd rev rod cn rp rb ba sz1 lb rm cu sp nz rbl sl uz, (rG, al (gL G) 256 (a5)), (rev, al (gL G) 8 (ge4)), (rod, al (gL G) 8 (go4))] H → va_D A [o_Mod rM wd ht rP rk rG rW rK kd db ew ac dn pr nu de rE rst wr rd rev rod cn rp rb ba sz1 lb rm cu sp nz rbl sl uz, (rG, al (gL G) 256 (a5)), (rev, al (gL G) 8 (ge4)), (rod, al (gL G) 8 (go4))] → va_S A s.heap H locs → (a5 = it (rg5 gn0 w0 h0 un) 0 y a4) → W p l e r_Mod_region s m args below meth c H locs 0 0 Q (F0 m 201 ls [])) (a := 0) (b := 256) (fun y hiy hjy ihy => ?_) _ _ _ a4 (lv_sub hl [1, 2, 3, 4, 5, 6, 0] rfl) hP hD hS (it_self _ _ _).symm
                intro ls H locs a5 hl hP hD hS hs5
                refine lv_iload hx hb d_Mod_region_201 (lv_at hl 6 rfl) ?_
                refine lv_sipush (v := iv (256)) hx hb d_Mod_region_203 rfl ?_
                refine k_icmp_ge (tgt := 271) hx hb d_Mod_region_206 (by decide) (by omega) (by omega) (fun hc206 => ?_) (fun hc206 => ?_)
                · exact k_vret hx hb hr hlk hQ ((a5, ge4, go4)) (by unfold rgA; dsimp only; rw [← hgn, ← e1, ← e2, ← e3, ← e4, show it (rg5 gn0 w0 h0 un) 0 256 a4 = a5 from (by first | (rw [hs5]; exact (it_x _ _ hc206 hjy).symm) | (rw [hs5, it_c (rg5_c (Or.inl hc211)), it_c (rg5_c (Or.inl hc211))]) | (rw [hs5, it_c (rg5_c (Or.inr hc216)), it_c (rg5_c (Or.inr hc216))]))]) hP hD hS d_Mod_region_271
                · refine lv_iload hx hb d_Mod_region_209 (lv_at hl 5 rfl) ?_
                  refine k_if_eq (tgt := 271) hx hb d_Mod_region_211 (by decide) (by omega) (fun hc211 => ?_) (fun hc211 => absurd hc211 (by omega))
                  exact k_vret hx hb hr hlk hQ ((a5, ge4, go4)) (by unfold rgA; dsimp only; rw [← hgn, ← e1, ← e2, ← e3, ← e4, show it (rg5 gn0 w0 h0 un) 0 256 a4 = a5 from (by first | (rw [hs5]; exact (it_x _ _ hc206 hjy).symm) | (rw [hs5, it_c (rg5_c (Or.inl hc211)), it_c (rg5_c (Or.inl hc211))]) | (rw [hs5, it_c (rg5_c (Or.inr hc216)), it_c (rg5_c (Or.inr hc216))]))]) hP hD hS d_Mod_region_271
              · refine lv_iload hx hb d_Mod_region_175 (lv_at hl 4 rfl) ?_
                refine k_if_ne (tgt := 198) hx hb d_Mod_region_177 (by decide) (by omega) (fun hc177 => ?_) (fun hc177 => ?_)
                · have e4 : (a4, ge4, go4) = it (rg4 kd h0 ct un) 0 w0 (a3, ge3, go3) := by first | (rw [hs4]; exact it_x _ _ hc168 hjx) | (rw [hs4, it_c (rg4_c (Or.inl hc172)), it_c (rg4_c (Or.inl hc172))]) | (rw [hs4, it_c (rg4_c (Or.inr hc177)), it_c (rg4_c (Or.inr hc177))])
                  refine lv_iconst (v := iv (0)) hx hb d_Mod_region_198 rfl ?_
                  refine lv_istore hx hb d_Mod_region_199 hl (by decide) rfl (fun ls hl => ?_)
                  have hl : lv_has ls 7 [(6, .int (iv (0))), (0, .ref rM), (1, .int (iv (w0))), (2, .int (iv (h0))), (3, .int (iv (ct))), (4, .int (iv (un))), (5, .int (iv (gn0)))] := hl
                  refine lo_up (P := fun y => ∀ (ls : Array Slot) (H : Heap) (locs : List Loc) (a5 : Int → Int64), lv_has ls 7 [(0, .ref rM), (1, .int (iv (w0))), (2, .int (iv (h0))), (3, .int (iv (ct))), (4, .int (iv (un))), (5, .int (iv (gn0))), (6, .int (iv (y)))] → va_P (gD G) classes [o_Mod rM wd ht rP rk rG rW rK kd db ew ac dn pr nu de rE rst wr rd rev rod cn rp rb ba sz1 lb rm cu sp nz rbl sl uz, (rG, al (gL G) 256 (a5)), (rev, al (gL G) 8 (ge4)), (rod, al (gL G) 8 (go4))] H → va_D A [o_Mod rM wd ht rP rk rG rW rK kd db ew ac dn pr nu de rE rst wr rd rev rod cn rp rb ba sz1 lb rm cu sp nz rbl sl uz, (rG, al (gL G) 256 (a5)), (rev, al (gL G) 8 (ge4)), (rod, al (gL G) 8 (go4))] → va_S A s.heap H locs → (a5 = it (rg5 gn0 w0 h0 un) 0 y a4) → W p l e r_Mod_region s m args below meth c H locs 0 0 Q (F0 m 201 ls [])) (a := 0) (b := 256) (fun y hiy hjy ihy => ?_) _ _ _ a4 (lv_sub hl [1, 2, 3, 4, 5, 6, 0] rfl) hP hD hS (it_self _ _ _).symm
                  intro ls H locs a5 hl hP hD hS hs5
                  refine lv_iload hx hb d_Mod_region_201 (lv_at hl 6 rfl) ?_
                  refine lv_sipush (v := iv (256)) hx hb d_Mod_region_203 rfl ?_
                  refine k_icmp_ge (tgt := 271) hx hb d_Mod_region_206 (by decide) (by omega) (by omega) (fun hc206 => ?_) (fun hc206 => ?_)
                  · exact k_vret hx hb hr hlk hQ ((a5, ge4, go4)) (by unfold rgA; dsimp only; rw [← hgn, ← e1, ← e2, ← e3, ← e4, show it (rg5 gn0 w0 h0 un) 0 256 a4 = a5 from (by first | (rw [hs5]; exact (it_x _ _ hc206 hjy).symm) | (rw [hs5, it_c (rg5_c (Or.inl hc211)), it_c (rg5_c (Or.inl hc211))]) | (rw [hs5, it_c (rg5_c (Or.inr hc216)), it_c (rg5_c (Or.inr hc216))]))]) hP hD hS d_Mod_region_271
                  · refine lv_iload hx hb d_Mod_region_209 (lv_at hl 5 rfl) ?_
                    refine k_if_eq (tgt := 271) hx hb d_Mod_region_211 (by decide) (by omega) (fun hc211 => ?_) (fun hc211 => absurd hc211 (by omega))
                    exact k_vret hx hb hr hlk hQ ((a5, ge4, go4)) (by unfold rgA; dsimp only; rw [← hgn, ← e1, ← e2, ← e3, ← e4, show it (rg5 gn0 w0 h0 un) 0 256 a4 = a5 from (by first | (rw [hs5]; exact (it_x _ _ hc206 hjy).symm) | (rw [hs5, it_c (rg5_c (Or.inl hc211)), it_c (rg5_c (Or.inl hc211))]) | (rw [hs5, it_c (rg5_c (Or.inr hc216)), it_c (rg5_c (Or.inr hc216))]))]) hP hD hS d_Mod_region_271
                · refine lv_aload_n hx hb d_Mod_region_180 rfl (lv_at hl 0 rfl) ?_
                  refine lv_iload hx hb d_Mod_region_181 (lv_at hl 6 rfl) ?_
                  refine lv_bipush (v := iv (16)) hx hb d_Mod_region_183 rfl ?_
                  refine lv_iload_n hx hb d_Mod_region_185 rfl (lv_at hl 2 rfl) ?_
                  refine lv_iconst (v := iv (2)) hx hb d_Mod_region_186 rfl ?_
                  refine k_idiv hx hb d_Mod_region_187 (by omega) (by omega) ?_
                  refine lv_iconst (v := iv (0)) hx hb d_Mod_region_188 rfl ?_
                  refine k_cv (wz := fun u : (Int → Int64) × (Int → Int64) × (Int → Int64) => [o_Mod rM wd ht rP rk rG rW rK kd db ew ac dn pr nu de rE rst wr rd rev rod cn rp rb ba sz1 lb rm cu sp nz rbl sl uz, (rG, al (gL G) 256 (u.1)), (rev, al (gL G) 8 (u.2.1)), (rod, al (gL G) 8 (u.2.2))]) (wr := []) (k_rv S (c_Mod_turn l G _ rM rP rk rG rW rK rE rst rev rod rp rb rbl x 16 (h0 / 2) 0 wd ht kd db ew ac dn pr nu de wr rd cn ba sz1 lb rm cu sp nz sl uz a4 ge4 go4 (by omega) (by omega) (fun m a b => by omega) (by omega)) 4 m4_62 m4_59 m4_61 mp_27 m1_9 (by decide +kernel) (by decide) rfl rfl (k_preV (q0 := 0) hK hP hD hS hA hT rfl rfl [0, 1, 2, 3] (by decide) rfl) rfl hl.1 rfl (Nat.le_of_ble_eq_true rfl) d_Mod_region_189 ⟨Nat.le_of_ble_eq_true rfl, Nat.le_of_ble_eq_true rfl⟩) hP hD hS hA [0, 1, 2, 3] [] [0, 1, 2, 3] rfl rfl (by decide) (by decide) (by decide) (fun _ => rfl) (fun u189 H locs h189 hP hD hS => ?_)
                  obtain ⟨a189, ge189, go189⟩ := u189
                  have hP : va_P (gD G) classes [o_Mod rM wd ht rP rk rG rW rK kd db ew ac dn pr nu de rE rst wr rd rev rod cn rp rb ba sz1 lb rm cu sp nz rbl sl uz, (rG, al (gL G) 256 (a189)), (rev, al (gL G) 8 (ge189)), (rod, al (gL G) 8 (go189))] H := hP
                  have hD : va_D A [o_Mod rM wd ht rP rk rG rW rK kd db ew ac dn pr nu de rE rst wr rd rev rod cn rp rb ba sz1 lb rm cu sp nz rbl sl uz, (rG, al (gL G) 256 (a189)), (rev, al (gL G) 8 (ge189)), (rod, al (gL G) 8 (go189))] := hD
                  try dsimp only at h189
                  refine lv_iinc (k := 6) (v := iv (x + 1)) hx hb d_Mod_region_192 hl rfl (iv_add _ _) (by decide) rfl (fun ls hl => ?_)
                  have hl : lv_has ls 7 [(6, .int (iv (x + 1))), (0, .ref rM), (1, .int (iv (w0))), (2, .int (iv (h0))), (3, .int (iv (ct))), (4, .int (iv (un))), (5, .int (iv (gn0)))] := hl
                  refine lv_goto (tgt := 165) hx hb d_Mod_region_195 (by decide) ?_
                  exact ihx (by omega) _ _ _ a189 ge189 go189 (lv_sub hl [1, 2, 3, 4, 5, 6, 0] rfl) hP hD hS (by rw [it_s _ _ hix, ← hs4]; unfold rg4; rw [if_neg (by omega)]; exact h189)
          · refine lv_aload_n hx hb d_Mod_region_141 rfl (lv_at hl 0 rfl) ?_
            refine lv_bipush (v := iv (16)) hx hb d_Mod_region_142 rfl ?_
            refine lv_iload hx hb d_Mod_region_144 (lv_at hl 6 rfl) ?_
            refine k_imul hx hb d_Mod_region_146 ?_
            refine lv_iconst (v := iv (1)) hx hb d_Mod_region_147 rfl ?_
            refine lv_iload_n hx hb d_Mod_region_148 rfl (lv_at hl 1 rfl) ?_
            refine lv_iconst (v := iv (2)) hx hb d_Mod_region_149 rfl ?_
            refine k_idiv hx hb d_Mod_region_150 (by omega) (by omega) ?_
            refine lv_iload hx hb d_Mod_region_151 (lv_at hl 4 rfl) ?_
            refine k_cv (wz := fun u : (Int → Int64) × (Int → Int64) × (Int → Int64) => [o_Mod rM wd ht rP rk rG rW rK kd db ew ac dn pr nu de rE rst wr rd rev rod cn rp rb ba sz1 lb rm cu sp nz rbl sl uz, (rG, al (gL G) 256 (u.1)), (rev, al (gL G) 8 (u.2.1)), (rod, al (gL G) 8 (u.2.2))]) (wr := []) (k_rv S (c_Mod_turn l G _ rM rP rk rG rW rK rE rst rev rod rp rb rbl (16 * k) 1 (w0 / 2) un wd ht kd db ew ac dn pr nu de wr rd cn ba sz1 lb rm cu sp nz sl uz a3 ge3 go3 (by omega) (by omega) (fun m a b => by omega) (by omega)) 4 m4_62 m4_59 m4_61 mp_27 m1_9 (by decide +kernel) (by decide) rfl rfl (k_preV (q0 := 0) hK hP hD hS hA hT rfl rfl [0, 1, 2, 3] (by decide) rfl) rfl hl.1 rfl (Nat.le_of_ble_eq_true rfl) d_Mod_region_153 ⟨Nat.le_of_ble_eq_true rfl, Nat.le_of_ble_eq_true rfl⟩) hP hD hS hA [0, 1, 2, 3] [] [0, 1, 2, 3] rfl rfl (by decide) (by decide) (by decide) (fun _ => rfl) (fun u153 H locs h153 hP hD hS => ?_)
            obtain ⟨a153, ge153, go153⟩ := u153
            have hP : va_P (gD G) classes [o_Mod rM wd ht rP rk rG rW rK kd db ew ac dn pr nu de rE rst wr rd rev rod cn rp rb ba sz1 lb rm cu sp nz rbl sl uz, (rG, al (gL G) 256 (a153)), (rev, al (gL G) 8 (ge153)), (rod, al (gL G) 8 (go153))] H := hP
            have hD : va_D A [o_Mod rM wd ht rP rk rG rW rK kd db ew ac dn pr nu de rE rst wr rd rev rod cn rp rb ba sz1 lb rm cu sp nz rbl sl uz, (rG, al (gL G) 256 (a153)), (rev, al (gL G) 8 (ge153)), (rod, al (gL G) 8 (go153))] := hD
            try dsimp only at h153
            refine lv_iinc (k := 6) (v := iv (k + 1)) hx hb d_Mod_region_156 hl rfl (iv_add _ _) (by decide) rfl (fun ls hl => ?_)
            have hl : lv_has ls 7 [(6, .int (iv (k + 1))), (0, .ref rM), (1, .int (iv (w0))), (2, .int (iv (h0))), (3, .int (iv (ct))), (4, .int (iv (un))), (5, .int (iv (gn0)))] := hl
            refine lv_goto (tgt := 135) hx hb d_Mod_region_159 (by decide) ?_
            exact ihk (by omega) _ _ _ a153 ge153 go153 (lv_sub hl [1, 2, 3, 4, 5, 6, 0] rfl) hP hD hS (by rw [it_s _ _ hik, ← hs3]; exact h153)
        · refine lv_iload_n hx hb d_Mod_region_105 rfl (lv_at hl 3 rfl) ?_
          refine k_if_eq (tgt := 132) hx hb d_Mod_region_106 (by decide) (by omega) (fun hc106 => ?_) (fun hc106 => ?_)
          · have e2 : (a2, ge2, go2) = it (rg2 kd h0 ct un) 0 w0 (a1, ge, go) := by first | (rw [hs2]; exact it_x _ _ hc102 hjj) | (rw [hs2, it_c (rg2_c (Or.inl hc106)), it_c (rg2_c (Or.inl hc106))]) | (rw [hs2, it_c (rg2_c (Or.inr hc111)), it_c (rg2_c (Or.inr hc111))])
            refine lv_iconst (v := iv (0)) hx hb d_Mod_region_132 rfl ?_
            refine lv_istore hx hb d_Mod_region_133 hl (by decide) rfl (fun ls hl => ?_)
            have hl : lv_has ls 7 [(6, .int (iv (0))), (0, .ref rM), (1, .int (iv (w0))), (2, .int (iv (h0))), (3, .int (iv (ct))), (4, .int (iv (un))), (5, .int (iv (gn0)))] := hl
            refine lo_up (P := fun k => ∀ (ls : Array Slot) (H : Heap) (locs : List Loc) (a3 : Int → Int64) (ge3 : Int → Int64) (go3 : Int → Int64), lv_has ls 7 [(0, .ref rM), (1, .int (iv (w0))), (2, .int (iv (h0))), (3, .int (iv (ct))), (4, .int (iv (un))), (5, .int (iv (gn0))), (6, .int (iv (k)))] → va_P (gD G) classes [o_Mod rM wd ht rP rk rG rW rK kd db ew ac dn pr nu de rE rst wr rd rev rod cn rp rb ba sz1 lb rm cu sp nz rbl sl uz, (rG, al (gL G) 256 (a3)), (rev, al (gL G) 8 (ge3)), (rod, al (gL G) 8 (go3))] H → va_D A [o_Mod rM wd ht rP rk rG rW rK kd db ew ac dn pr nu de rE rst wr rd rev rod cn rp rb ba sz1 lb rm cu sp nz rbl sl uz, (rG, al (gL G) 256 (a3)), (rev, al (gL G) 8 (ge3)), (rod, al (gL G) 8 (go3))] → va_S A s.heap H locs → ((a3, ge3, go3) = it (rg3 kd w0 un) 0 k (a2, ge2, go2)) → W p l e r_Mod_region s m args below meth c H locs 0 0 Q (F0 m 135 ls [])) (a := 0) (b := h0) (fun k hik hjk ihk => ?_) _ _ _ a2 ge2 go2 (lv_sub hl [1, 2, 3, 4, 5, 6, 0] rfl) hP hD hS (it_self _ _ _).symm
            intro ls H locs a3 ge3 go3 hl hP hD hS hs3
            refine lv_iload hx hb d_Mod_region_135 (lv_at hl 6 rfl) ?_
            refine lv_iload_n hx hb d_Mod_region_137 rfl (lv_at hl 2 rfl) ?_
            refine k_icmp_ge (tgt := 162) hx hb d_Mod_region_138 (by decide) (by omega) (by omega) (fun hc138 => ?_) (fun hc138 => ?_)
            · have e3 : (a3, ge3, go3) = it (rg3 kd w0 un) 0 h0 (a2, ge2, go2) := by rw [hs3]; exact it_x _ _ hc138 hjk
              refine lv_iconst (v := iv (0)) hx hb d_Mod_region_162 rfl ?_
              refine lv_istore hx hb d_Mod_region_163 hl (by decide) rfl (fun ls hl => ?_)
              have hl : lv_has ls 7 [(6, .int (iv (0))), (0, .ref rM), (1, .int (iv (w0))), (2, .int (iv (h0))), (3, .int (iv (ct))), (4, .int (iv (un))), (5, .int (iv (gn0)))] := hl
              refine lo_up (P := fun x => ∀ (ls : Array Slot) (H : Heap) (locs : List Loc) (a4 : Int → Int64) (ge4 : Int → Int64) (go4 : Int → Int64), lv_has ls 7 [(0, .ref rM), (1, .int (iv (w0))), (2, .int (iv (h0))), (3, .int (iv (ct))), (4, .int (iv (un))), (5, .int (iv (gn0))), (6, .int (iv (x)))] → va_P (gD G) classes [o_Mod rM wd ht rP rk rG rW rK kd db ew ac dn pr nu de rE rst wr rd rev rod cn rp rb ba sz1 lb rm cu sp nz rbl sl uz, (rG, al (gL G) 256 (a4)), (rev, al (gL G) 8 (ge4)), (rod, al (gL G) 8 (go4))] H → va_D A [o_Mod rM wd ht rP rk rG rW rK kd db ew ac dn pr nu de rE rst wr rd rev rod cn rp rb ba sz1 lb rm cu sp nz rbl sl uz, (rG, al (gL G) 256 (a4)), (rev, al (gL G) 8 (ge4)), (rod, al (gL G) 8 (go4))] → va_S A s.heap H locs → ((a4, ge4, go4) = it (rg4 kd h0 ct un) 0 x (a3, ge3, go3)) → W p l e r_Mod_region s m args below meth c H locs 0 0 Q (F0 m 165 ls [])) (a := 0) (b := w0) (fun x hix hjx ihx => ?_) _ _ _ a3 ge3 go3 (lv_sub hl [1, 2, 3, 4, 5, 6, 0] rfl) hP hD hS (it_self _ _ _).symm
              intro ls H locs a4 ge4 go4 hl hP hD hS hs4
              refine lv_iload hx hb d_Mod_region_165 (lv_at hl 6 rfl) ?_
              refine lv_iload_n hx hb d_Mod_region_167 rfl (lv_at hl 1 rfl) ?_
              refine k_icmp_ge (tgt := 198) hx hb d_Mod_region_168 (by decide) (by omega) (by omega) (fun hc168 => ?_) (fun hc168 => ?_)
              · have e4 : (a4, ge4, go4) = it (rg4 kd h0 ct un) 0 w0 (a3, ge3, go3) := by first | (rw [hs4]; exact it_x _ _ hc168 hjx) | (rw [hs4, it_c (rg4_c (Or.inl hc172)), it_c (rg4_c (Or.inl hc172))]) | (rw [hs4, it_c (rg4_c (Or.inr hc177)), it_c (rg4_c (Or.inr hc177))])
                refine lv_iconst (v := iv (0)) hx hb d_Mod_region_198 rfl ?_
                refine lv_istore hx hb d_Mod_region_199 hl (by decide) rfl (fun ls hl => ?_)
                have hl : lv_has ls 7 [(6, .int (iv (0))), (0, .ref rM), (1, .int (iv (w0))), (2, .int (iv (h0))), (3, .int (iv (ct))), (4, .int (iv (un))), (5, .int (iv (gn0)))] := hl
                refine lo_up (P := fun y => ∀ (ls : Array Slot) (H : Heap) (locs : List Loc) (a5 : Int → Int64), lv_has ls 7 [(0, .ref rM), (1, .int (iv (w0))), (2, .int (iv (h0))), (3, .int (iv (ct))), (4, .int (iv (un))), (5, .int (iv (gn0))), (6, .int (iv (y)))] → va_P (gD G) classes [o_Mod rM wd ht rP rk rG rW rK kd db ew ac dn pr nu de rE rst wr rd rev rod cn rp rb ba sz1 lb rm cu sp nz rbl sl uz, (rG, al (gL G) 256 (a5)), (rev, al (gL G) 8 (ge4)), (rod, al (gL G) 8 (go4))] H → va_D A [o_Mod rM wd ht rP rk rG rW rK kd db ew ac dn pr nu de rE rst wr rd rev rod cn rp rb ba sz1 lb rm cu sp nz rbl sl uz, (rG, al (gL G) 256 (a5)), (rev, al (gL G) 8 (ge4)), (rod, al (gL G) 8 (go4))] → va_S A s.heap H locs → (a5 = it (rg5 gn0 w0 h0 un) 0 y a4) → W p l e r_Mod_region s m args below meth c H locs 0 0 Q (F0 m 201 ls [])) (a := 0) (b := 256) (fun y hiy hjy ihy => ?_) _ _ _ a4 (lv_sub hl [1, 2, 3, 4, 5, 6, 0] rfl) hP hD hS (it_self _ _ _).symm
                intro ls H locs a5 hl hP hD hS hs5
                refine lv_iload hx hb d_Mod_region_201 (lv_at hl 6 rfl) ?_
                refine lv_sipush (v := iv (256)) hx hb d_Mod_region_203 rfl ?_
                refine k_icmp_ge (tgt := 271) hx hb d_Mod_region_206 (by decide) (by omega) (by omega) (fun hc206 => ?_) (fun hc206 => ?_)
                · exact k_vret hx hb hr hlk hQ ((a5, ge4, go4)) (by unfold rgA; dsimp only; rw [← hgn, ← e1, ← e2, ← e3, ← e4, show it (rg5 gn0 w0 h0 un) 0 256 a4 = a5 from (by first | (rw [hs5]; exact (it_x _ _ hc206 hjy).symm) | (rw [hs5, it_c (rg5_c (Or.inl hc211)), it_c (rg5_c (Or.inl hc211))]) | (rw [hs5, it_c (rg5_c (Or.inr hc216)), it_c (rg5_c (Or.inr hc216))]))]) hP hD hS d_Mod_region_271
                · refine lv_iload hx hb d_Mod_region_209 (lv_at hl 5 rfl) ?_
                  refine k_if_eq (tgt := 271) hx hb d_Mod_region_211 (by decide) (by omega) (fun hc211 => ?_) (fun hc211 => absurd hc211 (by omega))
                  exact k_vret hx hb hr hlk hQ ((a5, ge4, go4)) (by unfold rgA; dsimp only; rw [← hgn, ← e1, ← e2, ← e3, ← e4, show it (rg5 gn0 w0 h0 un) 0 256 a4 = a5 from (by first | (rw [hs5]; exact (it_x _ _ hc206 hjy).symm) | (rw [hs5, it_c (rg5_c (Or.inl hc211)), it_c (rg5_c (Or.inl hc211))]) | (rw [hs5, it_c (rg5_c (Or.inr hc216)), it_c (rg5_c (Or.inr hc216))]))]) hP hD hS d_Mod_region_271
              · refine lv_iload_n hx hb d_Mod_region_171 rfl (lv_at hl 3 rfl) ?_
                refine k_if_eq (tgt := 198) hx hb d_Mod_region_172 (by decide) (by omega) (fun hc172 => ?_) (fun hc172 => absurd hc172 (by omega))
                have e4 : (a4, ge4, go4) = it (rg4 kd h0 ct un) 0 w0 (a3, ge3, go3) := by first | (rw [hs4]; exact it_x _ _ hc168 hjx) | (rw [hs4, it_c (rg4_c (Or.inl hc172)), it_c (rg4_c (Or.inl hc172))]) | (rw [hs4, it_c (rg4_c (Or.inr hc177)), it_c (rg4_c (Or.inr hc177))])
                refine lv_iconst (v := iv (0)) hx hb d_Mod_region_198 rfl ?_
                refine lv_istore hx hb d_Mod_region_199 hl (by decide) rfl (fun ls hl => ?_)
                have hl : lv_has ls 7 [(6, .int (iv (0))), (0, .ref rM), (1, .int (iv (w0))), (2, .int (iv (h0))), (3, .int (iv (ct))), (4, .int (iv (un))), (5, .int (iv (gn0)))] := hl
                refine lo_up (P := fun y => ∀ (ls : Array Slot) (H : Heap) (locs : List Loc) (a5 : Int → Int64), lv_has ls 7 [(0, .ref rM), (1, .int (iv (w0))), (2, .int (iv (h0))), (3, .int (iv (ct))), (4, .int (iv (un))), (5, .int (iv (gn0))), (6, .int (iv (y)))] → va_P (gD G) classes [o_Mod rM wd ht rP rk rG rW rK kd db ew ac dn pr nu de rE rst wr rd rev rod cn rp rb ba sz1 lb rm cu sp nz rbl sl uz, (rG, al (gL G) 256 (a5)), (rev, al (gL G) 8 (ge4)), (rod, al (gL G) 8 (go4))] H → va_D A [o_Mod rM wd ht rP rk rG rW rK kd db ew ac dn pr nu de rE rst wr rd rev rod cn rp rb ba sz1 lb rm cu sp nz rbl sl uz, (rG, al (gL G) 256 (a5)), (rev, al (gL G) 8 (ge4)), (rod, al (gL G) 8 (go4))] → va_S A s.heap H locs → (a5 = it (rg5 gn0 w0 h0 un) 0 y a4) → W p l e r_Mod_region s m args below meth c H locs 0 0 Q (F0 m 201 ls [])) (a := 0) (b := 256) (fun y hiy hjy ihy => ?_) _ _ _ a4 (lv_sub hl [1, 2, 3, 4, 5, 6, 0] rfl) hP hD hS (it_self _ _ _).symm
                intro ls H locs a5 hl hP hD hS hs5
                refine lv_iload hx hb d_Mod_region_201 (lv_at hl 6 rfl) ?_
                refine lv_sipush (v := iv (256)) hx hb d_Mod_region_203 rfl ?_
                refine k_icmp_ge (tgt := 271) hx hb d_Mod_region_206 (by decide) (by omega) (by omega) (fun hc206 => ?_) (fun hc206 => ?_)
                · exact k_vret hx hb hr hlk hQ ((a5, ge4, go4)) (by unfold rgA; dsimp only; rw [← hgn, ← e1, ← e2, ← e3, ← e4, show it (rg5 gn0 w0 h0 un) 0 256 a4 = a5 from (by first | (rw [hs5]; exact (it_x _ _ hc206 hjy).symm) | (rw [hs5, it_c (rg5_c (Or.inl hc211)), it_c (rg5_c (Or.inl hc211))]) | (rw [hs5, it_c (rg5_c (Or.inr hc216)), it_c (rg5_c (Or.inr hc216))]))]) hP hD hS d_Mod_region_271
                · refine lv_iload hx hb d_Mod_region_209 (lv_at hl 5 rfl) ?_
                  refine k_if_eq (tgt := 271) hx hb d_Mod_region_211 (by decide) (by omega) (fun hc211 => ?_) (fun hc211 => absurd hc211 (by omega))
                  exact k_vret hx hb hr hlk hQ ((a5, ge4, go4)) (by unfold rgA; dsimp only; rw [← hgn, ← e1, ← e2, ← e3, ← e4, show it (rg5 gn0 w0 h0 un) 0 256 a4 = a5 from (by first | (rw [hs5]; exact (it_x _ _ hc206 hjy).symm) | (rw [hs5, it_c (rg5_c (Or.inl hc211)), it_c (rg5_c (Or.inl hc211))]) | (rw [hs5, it_c (rg5_c (Or.inr hc216)), it_c (rg5_c (Or.inr hc216))]))]) hP hD hS d_Mod_region_271
            · refine lv_aload_n hx hb d_Mod_region_141 rfl (lv_at hl 0 rfl) ?_
              refine lv_bipush (v := iv (16)) hx hb d_Mod_region_142 rfl ?_
              refine lv_iload hx hb d_Mod_region_144 (lv_at hl 6 rfl) ?_
              refine k_imul hx hb d_Mod_region_146 ?_
              refine lv_iconst (v := iv (1)) hx hb d_Mod_region_147 rfl ?_
              refine lv_iload_n hx hb d_Mod_region_148 rfl (lv_at hl 1 rfl) ?_
              refine lv_iconst (v := iv (2)) hx hb d_Mod_region_149 rfl ?_
              refine k_idiv hx hb d_Mod_region_150 (by omega) (by omega) ?_
              refine lv_iload hx hb d_Mod_region_151 (lv_at hl 4 rfl) ?_
              refine k_cv (wz := fun u : (Int → Int64) × (Int → Int64) × (Int → Int64) => [o_Mod rM wd ht rP rk rG rW rK kd db ew ac dn pr nu de rE rst wr rd rev rod cn rp rb ba sz1 lb rm cu sp nz rbl sl uz, (rG, al (gL G) 256 (u.1)), (rev, al (gL G) 8 (u.2.1)), (rod, al (gL G) 8 (u.2.2))]) (wr := []) (k_rv S (c_Mod_turn l G _ rM rP rk rG rW rK rE rst rev rod rp rb rbl (16 * k) 1 (w0 / 2) un wd ht kd db ew ac dn pr nu de wr rd cn ba sz1 lb rm cu sp nz sl uz a3 ge3 go3 (by omega) (by omega) (fun m a b => by omega) (by omega)) 4 m4_62 m4_59 m4_61 mp_27 m1_9 (by decide +kernel) (by decide) rfl rfl (k_preV (q0 := 0) hK hP hD hS hA hT rfl rfl [0, 1, 2, 3] (by decide) rfl) rfl hl.1 rfl (Nat.le_of_ble_eq_true rfl) d_Mod_region_153 ⟨Nat.le_of_ble_eq_true rfl, Nat.le_of_ble_eq_true rfl⟩) hP hD hS hA [0, 1, 2, 3] [] [0, 1, 2, 3] rfl rfl (by decide) (by decide) (by decide) (fun _ => rfl) (fun u153 H locs h153 hP hD hS => ?_)
              obtain ⟨a153, ge153, go153⟩ := u153
              have hP : va_P (gD G) classes [o_Mod rM wd ht rP rk rG rW rK kd db ew ac dn pr nu de rE rst wr rd rev rod cn rp rb ba sz1 lb rm cu sp nz rbl sl uz, (rG, al (gL G) 256 (a153)), (rev, al (gL G) 8 (ge153)), (rod, al (gL G) 8 (go153))] H := hP
              have hD : va_D A [o_Mod rM wd ht rP rk rG rW rK kd db ew ac dn pr nu de rE rst wr rd rev rod cn rp rb ba sz1 lb rm cu sp nz rbl sl uz, (rG, al (gL G) 256 (a153)), (rev, al (gL G) 8 (ge153)), (rod, al (gL G) 8 (go153))] := hD
              try dsimp only at h153
              refine lv_iinc (k := 6) (v := iv (k + 1)) hx hb d_Mod_region_156 hl rfl (iv_add _ _) (by decide) rfl (fun ls hl => ?_)
              have hl : lv_has ls 7 [(6, .int (iv (k + 1))), (0, .ref rM), (1, .int (iv (w0))), (2, .int (iv (h0))), (3, .int (iv (ct))), (4, .int (iv (un))), (5, .int (iv (gn0)))] := hl
              refine lv_goto (tgt := 135) hx hb d_Mod_region_159 (by decide) ?_
              exact ihk (by omega) _ _ _ a153 ge153 go153 (lv_sub hl [1, 2, 3, 4, 5, 6, 0] rfl) hP hD hS (by rw [it_s _ _ hik, ← hs3]; exact h153)
          · refine lv_iload hx hb d_Mod_region_109 (lv_at hl 4 rfl) ?_
            refine k_if_eq (tgt := 132) hx hb d_Mod_region_111 (by decide) (by omega) (fun hc111 => ?_) (fun hc111 => ?_)
            · have e2 : (a2, ge2, go2) = it (rg2 kd h0 ct un) 0 w0 (a1, ge, go) := by first | (rw [hs2]; exact it_x _ _ hc102 hjj) | (rw [hs2, it_c (rg2_c (Or.inl hc106)), it_c (rg2_c (Or.inl hc106))]) | (rw [hs2, it_c (rg2_c (Or.inr hc111)), it_c (rg2_c (Or.inr hc111))])
              refine lv_iconst (v := iv (0)) hx hb d_Mod_region_132 rfl ?_
              refine lv_istore hx hb d_Mod_region_133 hl (by decide) rfl (fun ls hl => ?_)
              have hl : lv_has ls 7 [(6, .int (iv (0))), (0, .ref rM), (1, .int (iv (w0))), (2, .int (iv (h0))), (3, .int (iv (ct))), (4, .int (iv (un))), (5, .int (iv (gn0)))] := hl
              refine lo_up (P := fun k => ∀ (ls : Array Slot) (H : Heap) (locs : List Loc) (a3 : Int → Int64) (ge3 : Int → Int64) (go3 : Int → Int64), lv_has ls 7 [(0, .ref rM), (1, .int (iv (w0))), (2, .int (iv (h0))), (3, .int (iv (ct))), (4, .int (iv (un))), (5, .int (iv (gn0))), (6, .int (iv (k)))] → va_P (gD G) classes [o_Mod rM wd ht rP rk rG rW rK kd db ew ac dn pr nu de rE rst wr rd rev rod cn rp rb ba sz1 lb rm cu sp nz rbl sl uz, (rG, al (gL G) 256 (a3)), (rev, al (gL G) 8 (ge3)), (rod, al (gL G) 8 (go3))] H → va_D A [o_Mod rM wd ht rP rk rG rW rK kd db ew ac dn pr nu de rE rst wr rd rev rod cn rp rb ba sz1 lb rm cu sp nz rbl sl uz, (rG, al (gL G) 256 (a3)), (rev, al (gL G) 8 (ge3)), (rod, al (gL G) 8 (go3))] → va_S A s.heap H locs → ((a3, ge3, go3) = it (rg3 kd w0 un) 0 k (a2, ge2, go2)) → W p l e r_Mod_region s m args below meth c H locs 0 0 Q (F0 m 135 ls [])) (a := 0) (b := h0) (fun k hik hjk ihk => ?_) _ _ _ a2 ge2 go2 (lv_sub hl [1, 2, 3, 4, 5, 6, 0] rfl) hP hD hS (it_self _ _ _).symm
              intro ls H locs a3 ge3 go3 hl hP hD hS hs3
              refine lv_iload hx hb d_Mod_region_135 (lv_at hl 6 rfl) ?_
              refine lv_iload_n hx hb d_Mod_region_137 rfl (lv_at hl 2 rfl) ?_
              refine k_icmp_ge (tgt := 162) hx hb d_Mod_region_138 (by decide) (by omega) (by omega) (fun hc138 => ?_) (fun hc138 => ?_)
              · have e3 : (a3, ge3, go3) = it (rg3 kd w0 un) 0 h0 (a2, ge2, go2) := by rw [hs3]; exact it_x _ _ hc138 hjk
                refine lv_iconst (v := iv (0)) hx hb d_Mod_region_162 rfl ?_
                refine lv_istore hx hb d_Mod_region_163 hl (by decide) rfl (fun ls hl => ?_)
                have hl : lv_has ls 7 [(6, .int (iv (0))), (0, .ref rM), (1, .int (iv (w0))), (2, .int (iv (h0))), (3, .int (iv (ct))), (4, .int (iv (un))), (5, .int (iv (gn0)))] := hl
                refine lo_up (P := fun x => ∀ (ls : Array Slot) (H : Heap) (locs : List Loc) (a4 : Int → Int64) (ge4 : Int → Int64) (go4 : Int → Int64), lv_has ls 7 [(0, .ref rM), (1, .int (iv (w0))), (2, .int (iv (h0))), (3, .int (iv (ct))), (4, .int (iv (un))), (5, .int (iv (gn0))), (6, .int (iv (x)))] → va_P (gD G) classes [o_Mod rM wd ht rP rk rG rW rK kd db ew ac dn pr nu de rE rst wr rd rev rod cn rp rb ba sz1 lb rm cu sp nz rbl sl uz, (rG, al (gL G) 256 (a4)), (rev, al (gL G) 8 (ge4)), (rod, al (gL G) 8 (go4))] H → va_D A [o_Mod rM wd ht rP rk rG rW rK kd db ew ac dn pr nu de rE rst wr rd rev rod cn rp rb ba sz1 lb rm cu sp nz rbl sl uz, (rG, al (gL G) 256 (a4)), (rev, al (gL G) 8 (ge4)), (rod, al (gL G) 8 (go4))] → va_S A s.heap H locs → ((a4, ge4, go4) = it (rg4 kd h0 ct un) 0 x (a3, ge3, go3)) → W p l e r_Mod_region s m args below meth c H locs 0 0 Q (F0 m 165 ls [])) (a := 0) (b := w0) (fun x hix hjx ihx => ?_) _ _ _ a3 ge3 go3 (lv_sub hl [1, 2, 3, 4, 5, 6, 0] rfl) hP hD hS (it_self _ _ _).symm
                intro ls H locs a4 ge4 go4 hl hP hD hS hs4
                refine lv_iload hx hb d_Mod_region_165 (lv_at hl 6 rfl) ?_
                refine lv_iload_n hx hb d_Mod_region_167 rfl (lv_at hl 1 rfl) ?_
                refine k_icmp_ge (tgt := 198) hx hb d_Mod_region_168 (by decide) (by omega) (by omega) (fun hc168 => ?_) (fun hc168 => ?_)
                · have e4 : (a4, ge4, go4) = it (rg4 kd h0 ct un) 0 w0 (a3, ge3, go3) := by first | (rw [hs4]; exact it_x _ _ hc168 hjx) | (rw [hs4, it_c (rg4_c (Or.inl hc172)), it_c (rg4_c (Or.inl hc172))]) | (rw [hs4, it_c (rg4_c (Or.inr hc177)), it_c (rg4_c (Or.inr hc177))])
                  refine lv_iconst (v := iv (0)) hx hb d_Mod_region_198 rfl ?_
                  refine lv_istore hx hb d_Mod_region_199 hl (by decide) rfl (fun ls hl => ?_)
                  have hl : lv_has ls 7 [(6, .int (iv (0))), (0, .ref rM), (1, .int (iv (w0))), (2, .int (iv (h0))), (3, .int (iv (ct))), (4, .int (iv (un))), (5, .int (iv (gn0)))] := hl
                  refine lo_up (P := fun y => ∀ (ls : Array Slot) (H : Heap) (locs : List Loc) (a5 : Int → Int64), lv_has ls 7 [(0, .ref rM), (1, .int (iv (w0))), (2, .int (iv (h0))), (3, .int (iv (ct))), (4, .int (iv (un))), (5, .int (iv (gn0))), (6, .int (iv (y)))] → va_P (gD G) classes [o_Mod rM wd ht rP rk rG rW rK kd db ew ac dn pr nu de rE rst wr rd rev rod cn rp rb ba sz1 lb rm cu sp nz rbl sl uz, (rG, al (gL G) 256 (a5)), (rev, al (gL G) 8 (ge4)), (rod, al (gL G) 8 (go4))] H → va_D A [o_Mod rM wd ht rP rk rG rW rK kd db ew ac dn pr nu de rE rst wr rd rev rod cn rp rb ba sz1 lb rm cu sp nz rbl sl uz, (rG, al (gL G) 256 (a5)), (rev, al (gL G) 8 (ge4)), (rod, al (gL G) 8 (go4))] → va_S A s.heap H locs → (a5 = it (rg5 gn0 w0 h0 un) 0 y a4) → W p l e r_Mod_region s m args below meth c H locs 0 0 Q (F0 m 201 ls [])) (a := 0) (b := 256) (fun y hiy hjy ihy => ?_) _ _ _ a4 (lv_sub hl [1, 2, 3, 4, 5, 6, 0] rfl) hP hD hS (it_self _ _ _).symm
                  intro ls H locs a5 hl hP hD hS hs5
                  refine lv_iload hx hb d_Mod_region_201 (lv_at hl 6 rfl) ?_
                  refine lv_sipush (v := iv (256)) hx hb d_Mod_region_203 rfl ?_
                  refine k_icmp_ge (tgt := 271) hx hb d_Mod_region_206 (by decide) (by omega) (by omega) (fun hc206 => ?_) (fun hc206 => ?_)
                  · exact k_vret hx hb hr hlk hQ ((a5, ge4, go4)) (by unfold rgA; dsimp only; rw [← hgn, ← e1, ← e2, ← e3, ← e4, show it (rg5 gn0 w0 h0 un) 0 256 a4 = a5 from (by first | (rw [hs5]; exact (it_x _ _ hc206 hjy).symm) | (rw [hs5, it_c (rg5_c (Or.inl hc211)), it_c (rg5_c (Or.inl hc211))]) | (rw [hs5, it_c (rg5_c (Or.inr hc216)), it_c (rg5_c (Or.inr hc216))]))]) hP hD hS d_Mod_region_271
                  · refine lv_iload hx hb d_Mod_region_209 (lv_at hl 5 rfl) ?_
                    refine k_if_eq (tgt := 271) hx hb d_Mod_region_211 (by decide) (by omega) (fun hc211 => ?_) (fun hc211 => absurd hc211 (by omega))
                    exact k_vret hx hb hr hlk hQ ((a5, ge4, go4)) (by unfold rgA; dsimp only; rw [← hgn, ← e1, ← e2, ← e3, ← e4, show it (rg5 gn0 w0 h0 un) 0 256 a4 = a5 from (by first | (rw [hs5]; exact (it_x _ _ hc206 hjy).symm) | (rw [hs5, it_c (rg5_c (Or.inl hc211)), it_c (rg5_c (Or.inl hc211))]) | (rw [hs5, it_c (rg5_c (Or.inr hc216)), it_c (rg5_c (Or.inr hc216))]))]) hP hD hS d_Mod_region_271
                · refine lv_iload_n hx hb d_Mod_region_171 rfl (lv_at hl 3 rfl) ?_
                  refine k_if_eq (tgt := 198) hx hb d_Mod_region_172 (by decide) (by omega) (fun hc172 => absurd hc172 (by omega)) (fun hc172 => ?_)
                  refine lv_iload hx hb d_Mod_region_175 (lv_at hl 4 rfl) ?_
                  refine k_if_ne (tgt := 198) hx hb d_Mod_region_177 (by decide) (by omega) (fun hc177 => absurd hc177 (by omega)) (fun hc177 => ?_)
                  refine lv_aload_n hx hb d_Mod_region_180 rfl (lv_at hl 0 rfl) ?_
                  refine lv_iload hx hb d_Mod_region_181 (lv_at hl 6 rfl) ?_
                  refine lv_bipush (v := iv (16)) hx hb d_Mod_region_183 rfl ?_
                  refine lv_iload_n hx hb d_Mod_region_185 rfl (lv_at hl 2 rfl) ?_
                  refine lv_iconst (v := iv (2)) hx hb d_Mod_region_186 rfl ?_
                  refine k_idiv hx hb d_Mod_region_187 (by omega) (by omega) ?_
                  refine lv_iconst (v := iv (0)) hx hb d_Mod_region_188 rfl ?_
                  refine k_cv (wz := fun u : (Int → Int64) × (Int → Int64) × (Int → Int64) => [o_Mod rM wd ht rP rk rG rW rK kd db ew ac dn pr nu de rE rst wr rd rev rod cn rp rb ba sz1 lb rm cu sp nz rbl sl uz, (rG, al (gL G) 256 (u.1)), (rev, al (gL G) 8 (u.2.1)), (rod, al (gL G) 8 (u.2.2))]) (wr := []) (k_rv S (c_Mod_turn l G _ rM rP rk rG rW rK rE rst rev rod rp rb rbl x 16 (h0 / 2) 0 wd ht kd db ew ac dn pr nu de wr rd cn ba sz1 lb rm cu sp nz sl uz a4 ge4 go4 (by omega) (by omega) (fun m a b => by omega) (by omega)) 4 m4_62 m4_59 m4_61 mp_27 m1_9 (by decide +kernel) (by decide) rfl rfl (k_preV (q0 := 0) hK hP hD hS hA hT rfl rfl [0, 1, 2, 3] (by decide) rfl) rfl hl.1 rfl (Nat.le_of_ble_eq_true rfl) d_Mod_region_189 ⟨Nat.le_of_ble_eq_true rfl, Nat.le_of_ble_eq_true rfl⟩) hP hD hS hA [0, 1, 2, 3] [] [0, 1, 2, 3] rfl rfl (by decide) (by decide) (by decide) (fun _ => rfl) (fun u189 H locs h189 hP hD hS => ?_)
                  obtain ⟨a189, ge189, go189⟩ := u189
                  have hP : va_P (gD G) classes [o_Mod rM wd ht rP rk rG rW rK kd db ew ac dn pr nu de rE rst wr rd rev rod cn rp rb ba sz1 lb rm cu sp nz rbl sl uz, (rG, al (gL G) 256 (a189)), (rev, al (gL G) 8 (ge189)), (rod, al (gL G) 8 (go189))] H := hP
                  have hD : va_D A [o_Mod rM wd ht rP rk rG rW rK kd db ew ac dn pr nu de rE rst wr rd rev rod cn rp rb ba sz1 lb rm cu sp nz rbl sl uz, (rG, al (gL G) 256 (a189)), (rev, al (gL G) 8 (ge189)), (rod, al (gL G) 8 (go189))] := hD
                  try dsimp only at h189
                  refine lv_iinc (k := 6) (v := iv (x + 1)) hx hb d_Mod_region_192 hl rfl (iv_add _ _) (by decide) rfl (fun ls hl => ?_)
                  have hl : lv_has ls 7 [(6, .int (iv (x + 1))), (0, .ref rM), (1, .int (iv (w0))), (2, .int (iv (h0))), (3, .int (iv (ct))), (4, .int (iv (un))), (5, .int (iv (gn0)))] := hl
                  refine lv_goto (tgt := 165) hx hb d_Mod_region_195 (by decide) ?_
                  exact ihx (by omega) _ _ _ a189 ge189 go189 (lv_sub hl [1, 2, 3, 4, 5, 6, 0] rfl) hP hD hS (by rw [it_s _ _ hix, ← hs4]; unfold rg4; rw [if_neg (by omega)]; exact h189)
              · refine lv_aload_n hx hb d_Mod_region_141 rfl (lv_at hl 0 rfl) ?_
                refine lv_bipush (v := iv (16)) hx hb d_Mod_region_142 rfl ?_
                refine lv_iload hx hb d_Mod_region_144 (lv_at hl 6 rfl) ?_
                refine k_imul hx hb d_Mod_region_146 ?_
                refine lv_iconst (v := iv (1)) hx hb d_Mod_region_147 rfl ?_
                refine lv_iload_n hx hb d_Mod_region_148 rfl (lv_at hl 1 rfl) ?_
                refine lv_iconst (v := iv (2)) hx hb d_Mod_region_149 rfl ?_
                refine k_idiv hx hb d_Mod_region_150 (by omega) (by omega) ?_
                refine lv_iload hx hb d_Mod_region_151 (lv_at hl 4 rfl) ?_
                refine k_cv (wz := fun u : (Int → Int64) × (Int → Int64) × (Int → Int64) => [o_Mod rM wd ht rP rk rG rW rK kd db ew ac dn pr nu de rE rst wr rd rev rod cn rp rb ba sz1 lb rm cu sp nz rbl sl uz, (rG, al (gL G) 256 (u.1)), (rev, al (gL G) 8 (u.2.1)), (rod, al (gL G) 8 (u.2.2))]) (wr := []) (k_rv S (c_Mod_turn l G _ rM rP rk rG rW rK rE rst rev rod rp rb rbl (16 * k) 1 (w0 / 2) un wd ht kd db ew ac dn pr nu de wr rd cn ba sz1 lb rm cu sp nz sl uz a3 ge3 go3 (by omega) (by omega) (fun m a b => by omega) (by omega)) 4 m4_62 m4_59 m4_61 mp_27 m1_9 (by decide +kernel) (by decide) rfl rfl (k_preV (q0 := 0) hK hP hD hS hA hT rfl rfl [0, 1, 2, 3] (by decide) rfl) rfl hl.1 rfl (Nat.le_of_ble_eq_true rfl) d_Mod_region_153 ⟨Nat.le_of_ble_eq_true rfl, Nat.le_of_ble_eq_true rfl⟩) hP hD hS hA [0, 1, 2, 3] [] [0, 1, 2, 3] rfl rfl (by decide) (by decide) (by decide) (fun _ => rfl) (fun u153 H locs h153 hP hD hS => ?_)
                obtain ⟨a153, ge153, go153⟩ := u153
                have hP : va_P (gD G) classes [o_Mod rM wd ht rP rk rG rW rK kd db ew ac dn pr nu de rE rst wr rd rev rod cn rp rb ba sz1 lb rm cu sp nz rbl sl uz, (rG, al (gL G) 256 (a153)), (rev, al (gL G) 8 (ge153)), (rod, al (gL G) 8 (go153))] H := hP
                have hD : va_D A [o_Mod rM wd ht rP rk rG rW rK kd db ew ac dn pr nu de rE rst wr rd rev rod cn rp rb ba sz1 lb rm cu sp nz rbl sl uz, (rG, al (gL G) 256 (a153)), (rev, al (gL G) 8 (ge153)), (rod, al (gL G) 8 (go153))] := hD
                try dsimp only at h153
                refine lv_iinc (k := 6) (v := iv (k + 1)) hx hb d_Mod_region_156 hl rfl (iv_add _ _) (by decide) rfl (fun ls hl => ?_)
                have hl : lv_has ls 7 [(6, .int (iv (k + 1))), (0, .ref rM), (1, .int (iv (w0))), (2, .int (iv (h0))), (3, .int (iv (ct))), (4, .int (iv (un))), (5, .int (iv (gn0)))] := hl
                refine lv_goto (tgt := 135) hx hb d_Mod_region_159 (by decide) ?_
                exact ihk (by omega) _ _ _ a153 ge153 go153 (lv_sub hl [1, 2, 3, 4, 5, 6, 0] rfl) hP hD hS (by rw [it_s _ _ hik, ← hs3]; exact h153)
            · refine lv_aload_n hx hb d_Mod_region_114 rfl (lv_at hl 0 rfl) ?_
              refine lv_iload hx hb d_Mod_region_115 (lv_at hl 6 rfl) ?_
              refine lv_bipush (v := iv (16)) hx hb d_Mod_region_117 rfl ?_
              refine lv_iload_n hx hb d_Mod_region_119 rfl (lv_at hl 2 rfl) ?_
              refine lv_iconst (v := iv (2)) hx hb d_Mod_region_120 rfl ?_
              refine k_idiv hx hb d_Mod_region_121 (by omega) (by omega) ?_
              refine lv_iconst (v := iv (1)) hx hb d_Mod_region_122 rfl ?_
              refine k_cv (wz := fun u : (Int → Int64) × (Int → Int64) × (Int → Int64) => [o_Mod rM wd ht rP rk rG rW rK kd db ew ac dn pr nu de rE rst wr rd rev rod cn rp rb ba sz1 lb rm cu sp nz rbl sl uz, (rG, al (gL G) 256 (u.1)), (rev, al (gL G) 8 (u.2.1)), (rod, al (gL G) 8 (u.2.2))]) (wr := []) (k_rv S (c_Mod_turn l G _ rM rP rk rG rW rK rE rst rev rod rp rb rbl j 16 (h0 / 2) 1 wd ht kd db ew ac dn pr nu de wr rd cn ba sz1 lb rm cu sp nz sl uz a2 ge2 go2 (by omega) (by omega) (fun m a b => by omega) (by omega)) 4 m4_62 m4_59 m4_61 mp_27 m1_9 (by decide +kernel) (by decide) rfl rfl (k_preV (q0 := 0) hK hP hD hS hA hT rfl rfl [0, 1, 2, 3] (by decide) rfl) rfl hl.1 rfl (Nat.le_of_ble_eq_true rfl) d_Mod_region_123 ⟨Nat.le_of_ble_eq_true rfl, Nat.le_of_ble_eq_true rfl⟩) hP hD hS hA [0, 1, 2, 3] [] [0, 1, 2, 3] rfl rfl (by decide) (by decide) (by decide) (fun _ => rfl) (fun u123 H locs h123 hP hD hS => ?_)
              obtain ⟨a123, ge123, go123⟩ := u123
              have hP : va_P (gD G) classes [o_Mod rM wd ht rP rk rG rW rK kd db ew ac dn pr nu de rE rst wr rd rev rod cn rp rb ba sz1 lb rm cu sp nz rbl sl uz, (rG, al (gL G) 256 (a123)), (rev, al (gL G) 8 (ge123)), (rod, al (gL G) 8 (go123))] H := hP
              have hD : va_D A [o_Mod rM wd ht rP rk rG rW rK kd db ew ac dn pr nu de rE rst wr rd rev rod cn rp rb ba sz1 lb rm cu sp nz rbl sl uz, (rG, al (gL G) 256 (a123)), (rev, al (gL G) 8 (ge123)), (rod, al (gL G) 8 (go123))] := hD
              try dsimp only at h123
              refine lv_iinc (k := 6) (v := iv (j + 1)) hx hb d_Mod_region_126 hl rfl (iv_add _ _) (by decide) rfl (fun ls hl => ?_)
              have hl : lv_has ls 7 [(6, .int (iv (j + 1))), (0, .ref rM), (1, .int (iv (w0))), (2, .int (iv (h0))), (3, .int (iv (ct))), (4, .int (iv (un))), (5, .int (iv (gn0)))] := hl
              refine lv_goto (tgt := 99) hx hb d_Mod_region_129 (by decide) ?_
              exact ihj (by omega) _ _ _ a123 ge123 go123 (lv_sub hl [1, 2, 3, 4, 5, 6, 0] rfl) hP hD hS (by rw [it_s _ _ hij, ← hs2]; unfold rg2; rw [if_neg (by omega)]; exact h123)
      · refine lv_iload hx hb d_Mod_region_39 (lv_at hl 4 rfl) ?_
        refine k_if_ne (tgt := 96) hx hb d_Mod_region_41 (by decide) (by omega) (fun hc41 => ?_) (fun hc41 => ?_)
        · have e1 : a1 = it (rg1 gn0 w0 h0 un) 0 256 gg := by first | (rw [hs1]; exact it_x _ _ hc31 hji) | (rw [hs1, it_c (rg1_c (Or.inl hc36)), it_c (rg1_c (Or.inl hc36))]) | (rw [hs1, it_c (rg1_c (Or.inr hc41)), it_c (rg1_c (Or.inr hc41))])
          refine lv_iconst (v := iv (0)) hx hb d_Mod_region_96 rfl ?_
          refine lv_istore hx hb d_Mod_region_97 hl (by decide) rfl (fun ls hl => ?_)
          have hl : lv_has ls 7 [(6, .int (iv (0))), (0, .ref rM), (1, .int (iv (w0))), (2, .int (iv (h0))), (3, .int (iv (ct))), (4, .int (iv (un))), (5, .int (iv (gn0)))] := hl
          refine lo_up (P := fun j => ∀ (ls : Array Slot) (H : Heap) (locs : List Loc) (a2 : Int → Int64) (ge2 : Int → Int64) (go2 : Int → Int64), lv_has ls 7 [(0, .ref rM), (1, .int (iv (w0))), (2, .int (iv (h0))), (3, .int (iv (ct))), (4, .int (iv (un))), (5, .int (iv (gn0))), (6, .int (iv (j)))] → va_P (gD G) classes [o_Mod rM wd ht rP rk rG rW rK kd db ew ac dn pr nu de rE rst wr rd rev rod cn rp rb ba sz1 lb rm cu sp nz rbl sl uz, (rG, al (gL G) 256 (a2)), (rev, al (gL G) 8 (ge2)), (rod, al (gL G) 8 (go2))] H → va_D A [o_Mod rM wd ht rP rk rG rW rK kd db ew ac dn pr nu de rE rst wr rd rev rod cn rp rb ba sz1 lb rm cu sp nz rbl sl uz, (rG, al (gL G) 256 (a2)), (rev, al (gL G) 8 (ge2)), (rod, al (gL G) 8 (go2))] → va_S A s.heap H locs → ((a2, ge2, go2) = it (rg2 kd h0 ct un) 0 j (a1, ge, go)) → W p l e r_Mod_region s m args below meth c H locs 0 0 Q (F0 m 99 ls [])) (a := 0) (b := w0) (fun j hij hjj ihj => ?_) _ _ _ a1 ge go (lv_sub hl [1, 2, 3, 4, 5, 6, 0] rfl) hP hD hS (it_self _ _ _).symm
          intro ls H locs a2 ge2 go2 hl hP hD hS hs2
          refine lv_iload hx hb d_Mod_region_99 (lv_at hl 6 rfl) ?_
          refine lv_iload_n hx hb d_Mod_region_101 rfl (lv_at hl 1 rfl) ?_
          refine k_icmp_ge (tgt := 132) hx hb d_Mod_region_102 (by decide) (by omega) (by omega) (fun hc102 => ?_) (fun hc102 => ?_)
          · have e2 : (a2, ge2, go2) = it (rg2 kd h0 ct un) 0 w0 (a1, ge, go) := by first | (rw [hs2]; exact it_x _ _ hc102 hjj) | (rw [hs2, it_c (rg2_c (Or.inl hc106)), it_c (rg2_c (Or.inl hc106))]) | (rw [hs2, it_c (rg2_c (Or.inr hc111)), it_c (rg2_c (Or.inr hc111))])
            refine lv_iconst (v := iv (0)) hx hb d_Mod_region_132 rfl ?_
            refine lv_istore hx hb d_Mod_region_133 hl (by decide) rfl (fun ls hl => ?_)
            have hl : lv_has ls 7 [(6, .int (iv (0))), (0, .ref rM), (1, .int (iv (w0))), (2, .int (iv (h0))), (3, .int (iv (ct))), (4, .int (iv (un))), (5, .int (iv (gn0)))] := hl
            refine lo_up (P := fun k => ∀ (ls : Array Slot) (H : Heap) (locs : List Loc) (a3 : Int → Int64) (ge3 : Int → Int64) (go3 : Int → Int64), lv_has ls 7 [(0, .ref rM), (1, .int (iv (w0))), (2, .int (iv (h0))), (3, .int (iv (ct))), (4, .int (iv (un))), (5, .int (iv (gn0))), (6, .int (iv (k)))] → va_P (gD G) classes [o_Mod rM wd ht rP rk rG rW rK kd db ew ac dn pr nu de rE rst wr rd rev rod cn rp rb ba sz1 lb rm cu sp nz rbl sl uz, (rG, al (gL G) 256 (a3)), (rev, al (gL G) 8 (ge3)), (rod, al (gL G) 8 (go3))] H → va_D A [o_Mod rM wd ht rP rk rG rW rK kd db ew ac dn pr nu de rE rst wr rd rev rod cn rp rb ba sz1 lb rm cu sp nz rbl sl uz, (rG, al (gL G) 256 (a3)), (rev, al (gL G) 8 (ge3)), (rod, al (gL G) 8 (go3))] → va_S A s.heap H locs → ((a3, ge3, go3) = it (rg3 kd w0 un) 0 k (a2, ge2, go2)) → W p l e r_Mod_region s m args below meth c H locs 0 0 Q (F0 m 135 ls [])) (a := 0) (b := h0) (fun k hik hjk ihk => ?_) _ _ _ a2 ge2 go2 (lv_sub hl [1, 2, 3, 4, 5, 6, 0] rfl) hP hD hS (it_self _ _ _).symm
            intro ls H locs a3 ge3 go3 hl hP hD hS hs3
            refine lv_iload hx hb d_Mod_region_135 (lv_at hl 6 rfl) ?_
            refine lv_iload_n hx hb d_Mod_region_137 rfl (lv_at hl 2 rfl) ?_
            refine k_icmp_ge (tgt := 162) hx hb d_Mod_region_138 (by decide) (by omega) (by omega) (fun hc138 => ?_) (fun hc138 => ?_)
            · have e3 : (a3, ge3, go3) = it (rg3 kd w0 un) 0 h0 (a2, ge2, go2) := by rw [hs3]; exact it_x _ _ hc138 hjk
              refine lv_iconst (v := iv (0)) hx hb d_Mod_region_162 rfl ?_
              refine lv_istore hx hb d_Mod_region_163 hl (by decide) rfl (fun ls hl => ?_)
              have hl : lv_has ls 7 [(6, .int (iv (0))), (0, .ref rM), (1, .int (iv (w0))), (2, .int (iv (h0))), (3, .int (iv (ct))), (4, .int (iv (un))), (5, .int (iv (gn0)))] := hl
              refine lo_up (P := fun x => ∀ (ls : Array Slot) (H : Heap) (locs : List Loc) (a4 : Int → Int64) (ge4 : Int → Int64) (go4 : Int → Int64), lv_has ls 7 [(0, .ref rM), (1, .int (iv (w0))), (2, .int (iv (h0))), (3, .int (iv (ct))), (4, .int (iv (un))), (5, .int (iv (gn0))), (6, .int (iv (x)))] → va_P (gD G) classes [o_Mod rM wd ht rP rk rG rW rK kd db ew ac dn pr nu de rE rst wr rd rev rod cn rp rb ba sz1 lb rm cu sp nz rbl sl uz, (rG, al (gL G) 256 (a4)), (rev, al (gL G) 8 (ge4)), (rod, al (gL G) 8 (go4))] H → va_D A [o_Mod rM wd ht rP rk rG rW rK kd db ew ac dn pr nu de rE rst wr rd rev rod cn rp rb ba sz1 lb rm cu sp nz rbl sl uz, (rG, al (gL G) 256 (a4)), (rev, al (gL G) 8 (ge4)), (rod, al (gL G) 8 (go4))] → va_S A s.heap H locs → ((a4, ge4, go4) = it (rg4 kd h0 ct un) 0 x (a3, ge3, go3)) → W p l e r_Mod_region s m args below meth c H locs 0 0 Q (F0 m 165 ls [])) (a := 0) (b := w0) (fun x hix hjx ihx => ?_) _ _ _ a3 ge3 go3 (lv_sub hl [1, 2, 3, 4, 5, 6, 0] rfl) hP hD hS (it_self _ _ _).symm
              intro ls H locs a4 ge4 go4 hl hP hD hS hs4
              refine lv_iload hx hb d_Mod_region_165 (lv_at hl 6 rfl) ?_
              refine lv_iload_n hx hb d_Mod_region_167 rfl (lv_at hl 1 rfl) ?_
              refine k_icmp_ge (tgt := 198) hx hb d_Mod_region_168 (by decide) (by omega) (by omega) (fun hc168 => ?_) (fun hc168 => ?_)
              · have e4 : (a4, ge4, go4) = it (rg4 kd h0 ct un) 0 w0 (a3, ge3, go3) := by first | (rw [hs4]; exact it_x _ _ hc168 hjx) | (rw [hs4, it_c (rg4_c (Or.inl hc172)), it_c (rg4_c (Or.inl hc172))]) | (rw [hs4, it_c (rg4_c (Or.inr hc177)), it_c (rg4_c (Or.inr hc177))])
                refine lv_iconst (v := iv (0)) hx hb d_Mod_region_198 rfl ?_
                refine lv_istore hx hb d_Mod_region_199 hl (by decide) rfl (fun ls hl => ?_)
                have hl : lv_has ls 7 [(6, .int (iv (0))), (0, .ref rM), (1, .int (iv (w0))), (2, .int (iv (h0))), (3, .int (iv (ct))), (4, .int (iv (un))), (5, .int (iv (gn0)))] := hl
                refine lo_up (P := fun y => ∀ (ls : Array Slot) (H : Heap) (locs : List Loc) (a5 : Int → Int64), lv_has ls 7 [(0, .ref rM), (1, .int (iv (w0))), (2, .int (iv (h0))), (3, .int (iv (ct))), (4, .int (iv (un))), (5, .int (iv (gn0))), (6, .int (iv (y)))] → va_P (gD G) classes [o_Mod rM wd ht rP rk rG rW rK kd db ew ac dn pr nu de rE rst wr rd rev rod cn rp rb ba sz1 lb rm cu sp nz rbl sl uz, (rG, al (gL G) 256 (a5)), (rev, al (gL G) 8 (ge4)), (rod, al (gL G) 8 (go4))] H → va_D A [o_Mod rM wd ht rP rk rG rW rK kd db ew ac dn pr nu de rE rst wr rd rev rod cn rp rb ba sz1 lb rm cu sp nz rbl sl uz, (rG, al (gL G) 256 (a5)), (rev, al (gL G) 8 (ge4)), (rod, al (gL G) 8 (go4))] → va_S A s.heap H locs → (a5 = it (rg5 gn0 w0 h0 un) 0 y a4) → W p l e r_Mod_region s m args below meth c H locs 0 0 Q (F0 m 201 ls [])) (a := 0) (b := 256) (fun y hiy hjy ihy => ?_) _ _ _ a4 (lv_sub hl [1, 2, 3, 4, 5, 6, 0] rfl) hP hD hS (it_self _ _ _).symm
                intro ls H locs a5 hl hP hD hS hs5
                refine lv_iload hx hb d_Mod_region_201 (lv_at hl 6 rfl) ?_
                refine lv_sipush (v := iv (256)) hx hb d_Mod_region_203 rfl ?_
                refine k_icmp_ge (tgt := 271) hx hb d_Mod_region_206 (by decide) (by omega) (by omega) (fun hc206 => ?_) (fun hc206 => ?_)
                · exact k_vret hx hb hr hlk hQ ((a5, ge4, go4)) (by unfold rgA; dsimp only; rw [← hgn, ← e1, ← e2, ← e3, ← e4, show it (rg5 gn0 w0 h0 un) 0 256 a4 = a5 from (by first | (rw [hs5]; exact (it_x _ _ hc206 hjy).symm) | (rw [hs5, it_c (rg5_c (Or.inl hc211)), it_c (rg5_c (Or.inl hc211))]) | (rw [hs5, it_c (rg5_c (Or.inr hc216)), it_c (rg5_c (Or.inr hc216))]))]) hP hD hS d_Mod_region_271
                · refine lv_iload hx hb d_Mod_region_209 (lv_at hl 5 rfl) ?_
                  refine k_if_eq (tgt := 271) hx hb d_Mod_region_211 (by decide) (by omega) (fun hc211 => absurd hc211 (by omega)) (fun hc211 => ?_)
                  refine lv_iload hx hb d_Mod_region_214 (lv_at hl 4 rfl) ?_
                  refine k_if_eq (tgt := 271) hx hb d_Mod_region_216 (by decide) (by omega) (fun hc216 => absurd hc216 (by omega)) (fun hc216 => ?_)
                  refine lv_aload_n hx hb d_Mod_region_219 rfl (lv_at hl 0 rfl) ?_
                  refine va_get (D := gD G) (ci := 7) (v := .ref rG) (C := R_Mod) (T := F_Mod) (N := 34) hx hb hw in_Mod hown hK hP 0 rfl rfl 4 (by decide) (hw _ m3_128) (fun _ h => h) rfl d_Mod_region_220 ?_
                  refine lv_iload hx hb d_Mod_region_223 (lv_at hl 6 rfl) ?_
                  refine lv_iload hx hb d_Mod_region_225 (lv_at hl 6 rfl) ?_
                  refine lv_bipush (v := iv (16)) hx hb d_Mod_region_227 rfl ?_
                  refine k_irem hx hb d_Mod_region_229 (by omega) (by omega) ?_
                  refine lv_iload_n hx hb d_Mod_region_230 rfl (lv_at hl 1 rfl) ?_
                  refine k_icmp_ge (tgt := 257) hx hb d_Mod_region_231 (by decide) (by omega) (by omega) (fun hc231 => ?_) (fun hc231 => ?_)
                  · refine lv_aload_n hx hb d_Mod_region_257 rfl (lv_at hl 0 rfl) ?_
                    refine va_get (D := gD G) (ci := 7) (v := .ref rG) (C := R_Mod) (T := F_Mod) (N := 34) hx hb hw in_Mod hown hK hP 0 rfl rfl 4 (by decide) (hw _ m3_128) (fun _ h => h) rfl d_Mod_region_258 ?_
                    refine lv_iload hx hb d_Mod_region_261 (lv_at hl 6 rfl) ?_
                    refine k_lal hx hb hK hP 1 1 rfl rfl (by decide) (by omega) d_Mod_region_263 ?_
                    refine k_las hx hb hK hP hD hS 1 1 rfl rfl (by decide) (by omega) d_Mod_region_264 (fun H locs hP hD hS => ?_)
                    have hP : va_P (gD G) classes [o_Mod rM wd ht rP rk rG rW rK kd db ew ac dn pr nu de rE rst wr rd rev rod cn rp rb ba sz1 lb rm cu sp nz rbl sl uz, (rG, al (gL G) 256 (up a5 y (a5 y))), (rev, al (gL G) 8 (ge4)), (rod, al (gL G) 8 (go4))] H := hP
                    have hD : va_D A [o_Mod rM wd ht rP rk rG rW rK kd db ew ac dn pr nu de rE rst wr rd rev rod cn rp rb ba sz1 lb rm cu sp nz rbl sl uz, (rG, al (gL G) 256 (up a5 y (a5 y))), (rev, al (gL G) 8 (ge4)), (rod, al (gL G) 8 (go4))] := hD
                    refine lv_iinc (k := 6) (v := iv (y + 1)) hx hb d_Mod_region_265 hl rfl (iv_add _ _) (by decide) rfl (fun ls hl => ?_)
                    have hl : lv_has ls 7 [(6, .int (iv (y + 1))), (0, .ref rM), (1, .int (iv (w0))), (2, .int (iv (h0))), (3, .int (iv (ct))), (4, .int (iv (un))), (5, .int (iv (gn0)))] := hl
                    refine lv_goto (tgt := 201) hx hb d_Mod_region_268 (by decide) ?_
                    exact ihy (by omega) _ _ _ (up a5 y (a5 y)) (lv_sub hl [1, 2, 3, 4, 5, 6, 0] rfl) hP hD hS (by rw [it_s _ _ hiy, ← hs5]; unfold rg5; rw [if_neg (by omega)]; first | rw [if_pos (by omega)] | rw [if_neg (by omega)])
                  · refine lv_iload hx hb d_Mod_region_234 (lv_at hl 6 rfl) ?_
                    refine lv_bipush (v := iv (16)) hx hb d_Mod_region_236 rfl ?_
                    refine k_idiv hx hb d_Mod_region_238 (by omega) (by omega) ?_
                    refine lv_iload_n hx hb d_Mod_region_239 rfl (lv_at hl 2 rfl) ?_
                    refine k_icmp_ge (tgt := 257) hx hb d_Mod_region_240 (by decide) (by omega) (by omega) (fun hc240 => ?_) (fun hc240 => ?_)
                    · refine lv_aload_n hx hb d_Mod_region_257 rfl (lv_at hl 0 rfl) ?_
                      refine va_get (D := gD G) (ci := 7) (v := .ref rG) (C := R_Mod) (T := F_Mod) (N := 34) hx hb hw in_Mod hown hK hP 0 rfl rfl 4 (by decide) (hw _ m3_128) (fun _ h => h) rfl d_Mod_region_258 ?_
                      refine lv_iload hx hb d_Mod_region_261 (lv_at hl 6 rfl) ?_
                      refine k_lal hx hb hK hP 1 1 rfl rfl (by decide) (by omega) d_Mod_region_263 ?_
                      refine k_las hx hb hK hP hD hS 1 1 rfl rfl (by decide) (by omega) d_Mod_region_264 (fun H locs hP hD hS => ?_)
                      have hP : va_P (gD G) classes [o_Mod rM wd ht rP rk rG rW rK kd db ew ac dn pr nu de rE rst wr rd rev rod cn rp rb ba sz1 lb rm cu sp nz rbl sl uz, (rG, al (gL G) 256 (up a5 y (a5 y))), (rev, al (gL G) 8 (ge4)), (rod, al (gL G) 8 (go4))] H := hP
                      have hD : va_D A [o_Mod rM wd ht rP rk rG rW rK kd db ew ac dn pr nu de rE rst wr rd rev rod cn rp rb ba sz1 lb rm cu sp nz rbl sl uz, (rG, al (gL G) 256 (up a5 y (a5 y))), (rev, al (gL G) 8 (ge4)), (rod, al (gL G) 8 (go4))] := hD
                      refine lv_iinc (k := 6) (v := iv (y + 1)) hx hb d_Mod_region_265 hl rfl (iv_add _ _) (by decide) rfl (fun ls hl => ?_)
                      have hl : lv_has ls 7 [(6, .int (iv (y + 1))), (0, .ref rM), (1, .int (iv (w0))), (2, .int (iv (h0))), (3, .int (iv (ct))), (4, .int (iv (un))), (5, .int (iv (gn0)))] := hl
                      refine lv_goto (tgt := 201) hx hb d_Mod_region_268 (by decide) ?_
                      exact ihy (by omega) _ _ _ (up a5 y (a5 y)) (lv_sub hl [1, 2, 3, 4, 5, 6, 0] rfl) hP hD hS (by rw [it_s _ _ hiy, ← hs5]; unfold rg5; rw [if_neg (by omega)]; first | rw [if_pos (by omega)] | rw [if_neg (by omega)])
                    · refine lv_aload_n hx hb d_Mod_region_243 rfl (lv_at hl 0 rfl) ?_
                      refine va_get (D := gD G) (ci := 7) (v := .ref rG) (C := R_Mod) (T := F_Mod) (N := 34) hx hb hw in_Mod hown hK hP 0 rfl rfl 4 (by decide) (hw _ m3_128) (fun _ h => h) rfl d_Mod_region_244 ?_
                      refine lv_iload hx hb d_Mod_region_247 (lv_at hl 6 rfl) ?_
                      refine k_lal hx hb hK hP 1 1 rfl rfl (by decide) (by omega) d_Mod_region_249 ?_
                      refine lv_lconst (v := 1) hx hb d_Mod_region_250 rfl ?_
                      refine lv_ladd hx hb d_Mod_region_251 ?_
                      refine lv_iconst (v := iv (1)) hx hb d_Mod_region_252 rfl ?_
                      refine k_lshr hx hb d_Mod_region_253 ?_
                      refine lv_goto (tgt := 264) hx hb d_Mod_region_254 (by decide) ?_
                      refine k_las hx hb hK hP hD hS 1 1 rfl rfl (by decide) (by omega) d_Mod_region_264 (fun H locs hP hD hS => ?_)
                      have hP : va_P (gD G) classes [o_Mod rM wd ht rP rk rG rW rK kd db ew ac dn pr nu de rE rst wr rd rev rod cn rp rb ba sz1 lb rm cu sp nz rbl sl uz, (rG, al (gL G) 256 (up a5 y (shR ((a5 y) + ((1 : Int64))) 1))), (rev, al (gL G) 8 (ge4)), (rod, al (gL G) 8 (go4))] H := hP
                      have hD : va_D A [o_Mod rM wd ht rP rk rG rW rK kd db ew ac dn pr nu de rE rst wr rd rev rod cn rp rb ba sz1 lb rm cu sp nz rbl sl uz, (rG, al (gL G) 256 (up a5 y (shR ((a5 y) + ((1 : Int64))) 1))), (rev, al (gL G) 8 (ge4)), (rod, al (gL G) 8 (go4))] := hD
                      refine lv_iinc (k := 6) (v := iv (y + 1)) hx hb d_Mod_region_265 hl rfl (iv_add _ _) (by decide) rfl (fun ls hl => ?_)
                      have hl : lv_has ls 7 [(6, .int (iv (y + 1))), (0, .ref rM), (1, .int (iv (w0))), (2, .int (iv (h0))), (3, .int (iv (ct))), (4, .int (iv (un))), (5, .int (iv (gn0)))] := hl
                      refine lv_goto (tgt := 201) hx hb d_Mod_region_268 (by decide) ?_
                      exact ihy (by omega) _ _ _ (up a5 y (shR ((a5 y) + ((1 : Int64))) 1)) (lv_sub hl [1, 2, 3, 4, 5, 6, 0] rfl) hP hD hS (by rw [it_s _ _ hiy, ← hs5]; unfold rg5; rw [if_neg (by omega)]; first | rw [if_pos (by omega)] | rw [if_neg (by omega)])
              · refine lv_iload_n hx hb d_Mod_region_171 rfl (lv_at hl 3 rfl) ?_
                refine k_if_eq (tgt := 198) hx hb d_Mod_region_172 (by decide) (by omega) (fun hc172 => ?_) (fun hc172 => ?_)
                · have e4 : (a4, ge4, go4) = it (rg4 kd h0 ct un) 0 w0 (a3, ge3, go3) := by first | (rw [hs4]; exact it_x _ _ hc168 hjx) | (rw [hs4, it_c (rg4_c (Or.inl hc172)), it_c (rg4_c (Or.inl hc172))]) | (rw [hs4, it_c (rg4_c (Or.inr hc177)), it_c (rg4_c (Or.inr hc177))])
                  refine lv_iconst (v := iv (0)) hx hb d_Mod_region_198 rfl ?_
                  refine lv_istore hx hb d_Mod_region_199 hl (by decide) rfl (fun ls hl => ?_)
                  have hl : lv_has ls 7 [(6, .int (iv (0))), (0, .ref rM), (1, .int (iv (w0))), (2, .int (iv (h0))), (3, .int (iv (ct))), (4, .int (iv (un))), (5, .int (iv (gn0)))] := hl
                  refine lo_up (P := fun y => ∀ (ls : Array Slot) (H : Heap) (locs : List Loc) (a5 : Int → Int64), lv_has ls 7 [(0, .ref rM), (1, .int (iv (w0))), (2, .int (iv (h0))), (3, .int (iv (ct))), (4, .int (iv (un))), (5, .int (iv (gn0))), (6, .int (iv (y)))] → va_P (gD G) classes [o_Mod rM wd ht rP rk rG rW rK kd db ew ac dn pr nu de rE rst wr rd rev rod cn rp rb ba sz1 lb rm cu sp nz rbl sl uz, (rG, al (gL G) 256 (a5)), (rev, al (gL G) 8 (ge4)), (rod, al (gL G) 8 (go4))] H → va_D A [o_Mod rM wd ht rP rk rG rW rK kd db ew ac dn pr nu de rE rst wr rd rev rod cn rp rb ba sz1 lb rm cu sp nz rbl sl uz, (rG, al (gL G) 256 (a5)), (rev, al (gL G) 8 (ge4)), (rod, al (gL G) 8 (go4))] → va_S A s.heap H locs → (a5 = it (rg5 gn0 w0 h0 un) 0 y a4) → W p l e r_Mod_region s m args below meth c H locs 0 0 Q (F0 m 201 ls [])) (a := 0) (b := 256) (fun y hiy hjy ihy => ?_) _ _ _ a4 (lv_sub hl [1, 2, 3, 4, 5, 6, 0] rfl) hP hD hS (it_self _ _ _).symm
                  intro ls H locs a5 hl hP hD hS hs5
                  refine lv_iload hx hb d_Mod_region_201 (lv_at hl 6 rfl) ?_
                  refine lv_sipush (v := iv (256)) hx hb d_Mod_region_203 rfl ?_
                  refine k_icmp_ge (tgt := 271) hx hb d_Mod_region_206 (by decide) (by omega) (by omega) (fun hc206 => ?_) (fun hc206 => ?_)
                  · exact k_vret hx hb hr hlk hQ ((a5, ge4, go4)) (by unfold rgA; dsimp only; rw [← hgn, ← e1, ← e2, ← e3, ← e4, show it (rg5 gn0 w0 h0 un) 0 256 a4 = a5 from (by first | (rw [hs5]; exact (it_x _ _ hc206 hjy).symm) | (rw [hs5, it_c (rg5_c (Or.inl hc211)), it_c (rg5_c (Or.inl hc211))]) | (rw [hs5, it_c (rg5_c (Or.inr hc216)), it_c (rg5_c (Or.inr hc216))]))]) hP hD hS d_Mod_region_271
                  · refine lv_iload hx hb d_Mod_region_209 (lv_at hl 5 rfl) ?_
                    refine k_if_eq (tgt := 271) hx hb d_Mod_region_211 (by decide) (by omega) (fun hc211 => absurd hc211 (by omega)) (fun hc211 => ?_)
                    refine lv_iload hx hb d_Mod_region_214 (lv_at hl 4 rfl) ?_
                    refine k_if_eq (tgt := 271) hx hb d_Mod_region_216 (by decide) (by omega) (fun hc216 => absurd hc216 (by omega)) (fun hc216 => ?_)
                    refine lv_aload_n hx hb d_Mod_region_219 rfl (lv_at hl 0 rfl) ?_
                    refine va_get (D := gD G) (ci := 7) (v := .ref rG) (C := R_Mod) (T := F_Mod) (N := 34) hx hb hw in_Mod hown hK hP 0 rfl rfl 4 (by decide) (hw _ m3_128) (fun _ h => h) rfl d_Mod_region_220 ?_
                    refine lv_iload hx hb d_Mod_region_223 (lv_at hl 6 rfl) ?_
                    refine lv_iload hx hb d_Mod_region_225 (lv_at hl 6 rfl) ?_
                    refine lv_bipush (v := iv (16)) hx hb d_Mod_region_227 rfl ?_
                    refine k_irem hx hb d_Mod_region_229 (by omega) (by omega) ?_
                    refine lv_iload_n hx hb d_Mod_region_230 rfl (lv_at hl 1 rfl) ?_
                    refine k_icmp_ge (tgt := 257) hx hb d_Mod_region_231 (by decide) (by omega) (by omega) (fun hc231 => ?_) (fun hc231 => ?_)
                    · refine lv_aload_n hx hb d_Mod_region_257 rfl (lv_at hl 0 rfl) ?_
                      refine va_get (D := gD G) (ci := 7) (v := .ref rG) (C := R_Mod) (T := F_Mod) (N := 34) hx hb hw in_Mod hown hK hP 0 rfl rfl 4 (by decide) (hw _ m3_128) (fun _ h => h) rfl d_Mod_region_258 ?_
                      refine lv_iload hx hb d_Mod_region_261 (lv_at hl 6 rfl) ?_
                      refine k_lal hx hb hK hP 1 1 rfl rfl (by decide) (by omega) d_Mod_region_263 ?_
                      refine k_las hx hb hK hP hD hS 1 1 rfl rfl (by decide) (by omega) d_Mod_region_264 (fun H locs hP hD hS => ?_)
                      have hP : va_P (gD G) classes [o_Mod rM wd ht rP rk rG rW rK kd db ew ac dn pr nu de rE rst wr rd rev rod cn rp rb ba sz1 lb rm cu sp nz rbl sl uz, (rG, al (gL G) 256 (up a5 y (a5 y))), (rev, al (gL G) 8 (ge4)), (rod, al (gL G) 8 (go4))] H := hP
                      have hD : va_D A [o_Mod rM wd ht rP rk rG rW rK kd db ew ac dn pr nu de rE rst wr rd rev rod cn rp rb ba sz1 lb rm cu sp nz rbl sl uz, (rG, al (gL G) 256 (up a5 y (a5 y))), (rev, al (gL G) 8 (ge4)), (rod, al (gL G) 8 (go4))] := hD
                      refine lv_iinc (k := 6) (v := iv (y + 1)) hx hb d_Mod_region_265 hl rfl (iv_add _ _) (by decide) rfl (fun ls hl => ?_)
                      have hl : lv_has ls 7 [(6, .int (iv (y + 1))), (0, .ref rM), (1, .int (iv (w0))), (2, .int (iv (h0))), (3, .int (iv (ct))), (4, .int (iv (un))), (5, .int (iv (gn0)))] := hl
                      refine lv_goto (tgt := 201) hx hb d_Mod_region_268 (by decide) ?_
                      exact ihy (by omega) _ _ _ (up a5 y (a5 y)) (lv_sub hl [1, 2, 3, 4, 5, 6, 0] rfl) hP hD hS (by rw [it_s _ _ hiy, ← hs5]; unfold rg5; rw [if_neg (by omega)]; first | rw [if_pos (by omega)] | rw [if_neg (by omega)])
                    · refine lv_iload hx hb d_Mod_region_234 (lv_at hl 6 rfl) ?_
                      refine lv_bipush (v := iv (16)) hx hb d_Mod_region_236 rfl ?_
                      refine k_idiv hx hb d_Mod_region_238 (by omega) (by omega) ?_
                      refine lv_iload_n hx hb d_Mod_region_239 rfl (lv_at hl 2 rfl) ?_
                      refine k_icmp_ge (tgt := 257) hx hb d_Mod_region_240 (by decide) (by omega) (by omega) (fun hc240 => ?_) (fun hc240 => ?_)
                      · refine lv_aload_n hx hb d_Mod_region_257 rfl (lv_at hl 0 rfl) ?_
                        refine va_get (D := gD G) (ci := 7) (v := .ref rG) (C := R_Mod) (T := F_Mod) (N := 34) hx hb hw in_Mod hown hK hP 0 rfl rfl 4 (by decide) (hw _ m3_128) (fun _ h => h) rfl d_Mod_region_258 ?_
                        refine lv_iload hx hb d_Mod_region_261 (lv_at hl 6 rfl) ?_
                        refine k_lal hx hb hK hP 1 1 rfl rfl (by decide) (by omega) d_Mod_region_263 ?_
                        refine k_las hx hb hK hP hD hS 1 1 rfl rfl (by decide) (by omega) d_Mod_region_264 (fun H locs hP hD hS => ?_)
                        have hP : va_P (gD G) classes [o_Mod rM wd ht rP rk rG rW rK kd db ew ac dn pr nu de rE rst wr rd rev rod cn rp rb ba sz1 lb rm cu sp nz rbl sl uz, (rG, al (gL G) 256 (up a5 y (a5 y))), (rev, al (gL G) 8 (ge4)), (rod, al (gL G) 8 (go4))] H := hP
                        have hD : va_D A [o_Mod rM wd ht rP rk rG rW rK kd db ew ac dn pr nu de rE rst wr rd rev rod cn rp rb ba sz1 lb rm cu sp nz rbl sl uz, (rG, al (gL G) 256 (up a5 y (a5 y))), (rev, al (gL G) 8 (ge4)), (rod, al (gL G) 8 (go4))] := hD
                        refine lv_iinc (k := 6) (v := iv (y + 1)) hx hb d_Mod_region_265 hl rfl (iv_add _ _) (by decide) rfl (fun ls hl => ?_)
                        have hl : lv_has ls 7 [(6, .int (iv (y + 1))), (0, .ref rM), (1, .int (iv (w0))), (2, .int (iv (h0))), (3, .int (iv (ct))), (4, .int (iv (un))), (5, .int (iv (gn0)))] := hl
                        refine lv_goto (tgt := 201) hx hb d_Mod_region_268 (by decide) ?_
                        exact ihy (by omega) _ _ _ (up a5 y (a5 y)) (lv_sub hl [1, 2, 3, 4, 5, 6, 0] rfl) hP hD hS (by rw [it_s _ _ hiy, ← hs5]; unfold rg5; rw [if_neg (by omega)]; first | rw [if_pos (by omega)] | rw [if_neg (by omega)])
                      · refine lv_aload_n hx hb d_Mod_region_243 rfl (lv_at hl 0 rfl) ?_
                        refine va_get (D := gD G) (ci := 7) (v := .ref rG) (C := R_Mod) (T := F_Mod) (N := 34) hx hb hw in_Mod hown hK hP 0 rfl rfl 4 (by decide) (hw _ m3_128) (fun _ h => h) rfl d_Mod_region_244 ?_
                        refine lv_iload hx hb d_Mod_region_247 (lv_at hl 6 rfl) ?_
                        refine k_lal hx hb hK hP 1 1 rfl rfl (by decide) (by omega) d_Mod_region_249 ?_
                        refine lv_lconst (v := 1) hx hb d_Mod_region_250 rfl ?_
                        refine lv_ladd hx hb d_Mod_region_251 ?_
                        refine lv_iconst (v := iv (1)) hx hb d_Mod_region_252 rfl ?_
                        refine k_lshr hx hb d_Mod_region_253 ?_
                        refine lv_goto (tgt := 264) hx hb d_Mod_region_254 (by decide) ?_
                        refine k_las hx hb hK hP hD hS 1 1 rfl rfl (by decide) (by omega) d_Mod_region_264 (fun H locs hP hD hS => ?_)
                        have hP : va_P (gD G) classes [o_Mod rM wd ht rP rk rG rW rK kd db ew ac dn pr nu de rE rst wr rd rev rod cn rp rb ba sz1 lb rm cu sp nz rbl sl uz, (rG, al (gL G) 256 (up a5 y (shR ((a5 y) + ((1 : Int64))) 1))), (rev, al (gL G) 8 (ge4)), (rod, al (gL G) 8 (go4))] H := hP
                        have hD : va_D A [o_Mod rM wd ht rP rk rG rW rK kd db ew ac dn pr nu de rE rst wr rd rev rod cn rp rb ba sz1 lb rm cu sp nz rbl sl uz, (rG, al (gL G) 256 (up a5 y (shR ((a5 y) + ((1 : Int64))) 1))), (rev, al (gL G) 8 (ge4)), (rod, al (gL G) 8 (go4))] := hD
                        refine lv_iinc (k := 6) (v := iv (y + 1)) hx hb d_Mod_region_265 hl rfl (iv_add _ _) (by decide) rfl (fun ls hl => ?_)
                        have hl : lv_has ls 7 [(6, .int (iv (y + 1))), (0, .ref rM), (1, .int (iv (w0))), (2, .int (iv (h0))), (3, .int (iv (ct))), (4, .int (iv (un))), (5, .int (iv (gn0)))] := hl
                        refine lv_goto (tgt := 201) hx hb d_Mod_region_268 (by decide) ?_
                        exact ihy (by omega) _ _ _ (up a5 y (shR ((a5 y) + ((1 : Int64))) 1)) (lv_sub hl [1, 2, 3, 4, 5, 6, 0] rfl) hP hD hS (by rw [it_s _ _ hiy, ← hs5]; unfold rg5; rw [if_neg (by omega)]; first | rw [if_pos (by omega)] | rw [if_neg (by omega)])
                · refine lv_iload hx hb d_Mod_region_175 (lv_at hl 4 rfl) ?_
                  refine k_if_ne (tgt := 198) hx hb d_Mod_region_177 (by decide) (by omega) (fun hc177 => ?_) (fun hc177 => absurd hc177 (by omega))
                  have e4 : (a4, ge4, go4) = it (rg4 kd h0 ct un) 0 w0 (a3, ge3, go3) := by first | (rw [hs4]; exact it_x _ _ hc168 hjx) | (rw [hs4, it_c (rg4_c (Or.inl hc172)), it_c (rg4_c (Or.inl hc172))]) | (rw [hs4, it_c (rg4_c (Or.inr hc177)), it_c (rg4_c (Or.inr hc177))])
                  refine lv_iconst (v := iv (0)) hx hb d_Mod_region_198 rfl ?_
                  refine lv_istore hx hb d_Mod_region_199 hl (by decide) rfl (fun ls hl => ?_)
                  have hl : lv_has ls 7 [(6, .int (iv (0))), (0, .ref rM), (1, .int (iv (w0))), (2, .int (iv (h0))), (3, .int (iv (ct))), (4, .int (iv (un))), (5, .int (iv (gn0)))] := hl
                  refine lo_up (P := fun y => ∀ (ls : Array Slot) (H : Heap) (locs : List Loc) (a5 : Int → Int64), lv_has ls 7 [(0, .ref rM), (1, .int (iv (w0))), (2, .int (iv (h0))), (3, .int (iv (ct))), (4, .int (iv (un))), (5, .int (iv (gn0))), (6, .int (iv (y)))] → va_P (gD G) classes [o_Mod rM wd ht rP rk rG rW rK kd db ew ac dn pr nu de rE rst wr rd rev rod cn rp rb ba sz1 lb rm cu sp nz rbl sl uz, (rG, al (gL G) 256 (a5)), (rev, al (gL G) 8 (ge4)), (rod, al (gL G) 8 (go4))] H → va_D A [o_Mod rM wd ht rP rk rG rW rK kd db ew ac dn pr nu de rE rst wr rd rev rod cn rp rb ba sz1 lb rm cu sp nz rbl sl uz, (rG, al (gL G) 256 (a5)), (rev, al (gL G) 8 (ge4)), (rod, al (gL G) 8 (go4))] → va_S A s.heap H locs → (a5 = it (rg5 gn0 w0 h0 un) 0 y a4) → W p l e r_Mod_region s m args below meth c H locs 0 0 Q (F0 m 201 ls [])) (a := 0) (b := 256) (fun y hiy hjy ihy => ?_) _ _ _ a4 (lv_sub hl [1, 2, 3, 4, 5, 6, 0] rfl) hP hD hS (it_self _ _ _).symm
                  intro ls H locs a5 hl hP hD hS hs5
                  refine lv_iload hx hb d_Mod_region_201 (lv_at hl 6 rfl) ?_
                  refine lv_sipush (v := iv (256)) hx hb d_Mod_region_203 rfl ?_
                  refine k_icmp_ge (tgt := 271) hx hb d_Mod_region_206 (by decide) (by omega) (by omega) (fun hc206 => ?_) (fun hc206 => ?_)
                  · exact k_vret hx hb hr hlk hQ ((a5, ge4, go4)) (by unfold rgA; dsimp only; rw [← hgn, ← e1, ← e2, ← e3, ← e4, show it (rg5 gn0 w0 h0 un) 0 256 a4 = a5 from (by first | (rw [hs5]; exact (it_x _ _ hc206 hjy).symm) | (rw [hs5, it_c (rg5_c (Or.inl hc211)), it_c (rg5_c (Or.inl hc211))]) | (rw [hs5, it_c (rg5_c (Or.inr hc216)), it_c (rg5_c (Or.inr hc216))]))]) hP hD hS d_Mod_region_271
                  · refine lv_iload hx hb d_Mod_region_209 (lv_at hl 5 rfl) ?_
                    refine k_if_eq (tgt := 271) hx hb d_Mod_region_211 (by decide) (by omega) (fun hc211 => absurd hc211 (by omega)) (fun hc211 => ?_)
                    refine lv_iload hx hb d_Mod_region_214 (lv_at hl 4 rfl) ?_
                    refine k_if_eq (tgt := 271) hx hb d_Mod_region_216 (by decide) (by omega) (fun hc216 => absurd hc216 (by omega)) (fun hc216 => ?_)
                    refine lv_aload_n hx hb d_Mod_region_219 rfl (lv_at hl 0 rfl) ?_
                    refine va_get (D := gD G) (ci := 7) (v := .ref rG) (C := R_Mod) (T := F_Mod) (N := 34) hx hb hw in_Mod hown hK hP 0 rfl rfl 4 (by decide) (hw _ m3_128) (fun _ h => h) rfl d_Mod_region_220 ?_
                    refine lv_iload hx hb d_Mod_region_223 (lv_at hl 6 rfl) ?_
                    refine lv_iload hx hb d_Mod_region_225 (lv_at hl 6 rfl) ?_
                    refine lv_bipush (v := iv (16)) hx hb d_Mod_region_227 rfl ?_
                    refine k_irem hx hb d_Mod_region_229 (by omega) (by omega) ?_
                    refine lv_iload_n hx hb d_Mod_region_230 rfl (lv_at hl 1 rfl) ?_
                    refine k_icmp_ge (tgt := 257) hx hb d_Mod_region_231 (by decide) (by omega) (by omega) (fun hc231 => ?_) (fun hc231 => ?_)
                    · refine lv_aload_n hx hb d_Mod_region_257 rfl (lv_at hl 0 rfl) ?_
                      refine va_get (D := gD G) (ci := 7) (v := .ref rG) (C := R_Mod) (T := F_Mod) (N := 34) hx hb hw in_Mod hown hK hP 0 rfl rfl 4 (by decide) (hw _ m3_128) (fun _ h => h) rfl d_Mod_region_258 ?_
                      refine lv_iload hx hb d_Mod_region_261 (lv_at hl 6 rfl) ?_
                      refine k_lal hx hb hK hP 1 1 rfl rfl (by decide) (by omega) d_Mod_region_263 ?_
                      refine k_las hx hb hK hP hD hS 1 1 rfl rfl (by decide) (by omega) d_Mod_region_264 (fun H locs hP hD hS => ?_)
                      have hP : va_P (gD G) classes [o_Mod rM wd ht rP rk rG rW rK kd db ew ac dn pr nu de rE rst wr rd rev rod cn rp rb ba sz1 lb rm cu sp nz rbl sl uz, (rG, al (gL G) 256 (up a5 y (a5 y))), (rev, al (gL G) 8 (ge4)), (rod, al (gL G) 8 (go4))] H := hP
                      have hD : va_D A [o_Mod rM wd ht rP rk rG rW rK kd db ew ac dn pr nu de rE rst wr rd rev rod cn rp rb ba sz1 lb rm cu sp nz rbl sl uz, (rG, al (gL G) 256 (up a5 y (a5 y))), (rev, al (gL G) 8 (ge4)), (rod, al (gL G) 8 (go4))] := hD
                      refine lv_iinc (k := 6) (v := iv (y + 1)) hx hb d_Mod_region_265 hl rfl (iv_add _ _) (by decide) rfl (fun ls hl => ?_)
                      have hl : lv_has ls 7 [(6, .int (iv (y + 1))), (0, .ref rM), (1, .int (iv (w0))), (2, .int (iv (h0))), (3, .int (iv (ct))), (4, .int (iv (un))), (5, .int (iv (gn0)))] := hl
                      refine lv_goto (tgt := 201) hx hb d_Mod_region_268 (by decide) ?_
                      exact ihy (by omega) _ _ _ (up a5 y (a5 y)) (lv_sub hl [1, 2, 3, 4, 5, 6, 0] rfl) hP hD hS (by rw [it_s _ _ hiy, ← hs5]; unfold rg5; rw [if_neg (by omega)]; first | rw [if_pos (by omega)] | rw [if_neg (by omega)])
                    · refine lv_iload hx hb d_Mod_region_234 (lv_at hl 6 rfl) ?_
                      refine lv_bipush (v := iv (16)) hx hb d_Mod_region_236 rfl ?_
                      refine k_idiv hx hb d_Mod_region_238 (by omega) (by omega) ?_
                      refine lv_iload_n hx hb d_Mod_region_239 rfl (lv_at hl 2 rfl) ?_
                      refine k_icmp_ge (tgt := 257) hx hb d_Mod_region_240 (by decide) (by omega) (by omega) (fun hc240 => ?_) (fun hc240 => ?_)
                      · refine lv_aload_n hx hb d_Mod_region_257 rfl (lv_at hl 0 rfl) ?_
                        refine va_get (D := gD G) (ci := 7) (v := .ref rG) (C := R_Mod) (T := F_Mod) (N := 34) hx hb hw in_Mod hown hK hP 0 rfl rfl 4 (by decide) (hw _ m3_128) (fun _ h => h) rfl d_Mod_region_258 ?_
                        refine lv_iload hx hb d_Mod_region_261 (lv_at hl 6 rfl) ?_
                        refine k_lal hx hb hK hP 1 1 rfl rfl (by decide) (by omega) d_Mod_region_263 ?_
                        refine k_las hx hb hK hP hD hS 1 1 rfl rfl (by decide) (by omega) d_Mod_region_264 (fun H locs hP hD hS => ?_)
                        have hP : va_P (gD G) classes [o_Mod rM wd ht rP rk rG rW rK kd db ew ac dn pr nu de rE rst wr rd rev rod cn rp rb ba sz1 lb rm cu sp nz rbl sl uz, (rG, al (gL G) 256 (up a5 y (a5 y))), (rev, al (gL G) 8 (ge4)), (rod, al (gL G) 8 (go4))] H := hP
                        have hD : va_D A [o_Mod rM wd ht rP rk rG rW rK kd db ew ac dn pr nu de rE rst wr rd rev rod cn rp rb ba sz1 lb rm cu sp nz rbl sl uz, (rG, al (gL G) 256 (up a5 y (a5 y))), (rev, al (gL G) 8 (ge4)), (rod, al (gL G) 8 (go4))] := hD
                        refine lv_iinc (k := 6) (v := iv (y + 1)) hx hb d_Mod_region_265 hl rfl (iv_add _ _) (by decide) rfl (fun ls hl => ?_)
                        have hl : lv_has ls 7 [(6, .int (iv (y + 1))), (0, .ref rM), (1, .int (iv (w0))), (2, .int (iv (h0))), (3, .int (iv (ct))), (4, .int (iv (un))), (5, .int (iv (gn0)))] := hl
                        refine lv_goto (tgt := 201) hx hb d_Mod_region_268 (by decide) ?_
                        exact ihy (by omega) _ _ _ (up a5 y (a5 y)) (lv_sub hl [1, 2, 3, 4, 5, 6, 0] rfl) hP hD hS (by rw [it_s _ _ hiy, ← hs5]; unfold rg5; rw [if_neg (by omega)]; first | rw [if_pos (by omega)] | rw [if_neg (by omega)])
                      · refine lv_aload_n hx hb d_Mod_region_243 rfl (lv_at hl 0 rfl) ?_
                        refine va_get (D := gD G) (ci := 7) (v := .ref rG) (C := R_Mod) (T := F_Mod) (N := 34) hx hb hw in_Mod hown hK hP 0 rfl rfl 4 (by decide) (hw _ m3_128) (fun _ h => h) rfl d_Mod_region_244 ?_
                        refine lv_iload hx hb d_Mod_region_247 (lv_at hl 6 rfl) ?_
                        refine k_lal hx hb hK hP 1 1 rfl rfl (by decide) (by omega) d_Mod_region_249 ?_
                        refine lv_lconst (v := 1) hx hb d_Mod_region_250 rfl ?_
                        refine lv_ladd hx hb d_Mod_region_251 ?_
                        refine lv_iconst (v := iv (1)) hx hb d_Mod_region_252 rfl ?_
                        refine k_lshr hx hb d_Mod_region_253 ?_
                        refine lv_goto (tgt := 264) hx hb d_Mod_region_254 (by decide) ?_
                        refine k_las hx hb hK hP hD hS 1 1 rfl rfl (by decide) (by omega) d_Mod_region_264 (fun H locs hP hD hS => ?_)
                        have hP : va_P (gD G) classes [o_Mod rM wd ht rP rk rG rW rK kd db ew ac dn pr nu de rE rst wr rd rev rod cn rp rb ba sz1 lb rm cu sp nz rbl sl uz, (rG, al (gL G) 256 (up a5 y (shR ((a5 y) + ((1 : Int64))) 1))), (rev, al (gL G) 8 (ge4)), (rod, al (gL G) 8 (go4))] H := hP
                        have hD : va_D A [o_Mod rM wd ht rP rk rG rW rK kd db ew ac dn pr nu de rE rst wr rd rev rod cn rp rb ba sz1 lb rm cu sp nz rbl sl uz, (rG, al (gL G) 256 (up a5 y (shR ((a5 y) + ((1 : Int64))) 1))), (rev, al (gL G) 8 (ge4)), (rod, al (gL G) 8 (go4))] := hD
                        refine lv_iinc (k := 6) (v := iv (y + 1)) hx hb d_Mod_region_265 hl rfl (iv_add _ _) (by decide) rfl (fun ls hl => ?_)
                        have hl : lv_has ls 7 [(6, .int (iv (y + 1))), (0, .ref rM), (1, .int (iv (w0))), (2, .int (iv (h0))), (3, .int (iv (ct))), (4, .int (iv (un))), (5, .int (iv (gn0)))] := hl
                        refine lv_goto (tgt := 201) hx hb d_Mod_region_268 (by decide) ?_
                        exact ihy (by omega) _ _ _ (up a5 y (shR ((a5 y) + ((1 : Int64))) 1)) (lv_sub hl [1, 2, 3, 4, 5, 6, 0] rfl) hP hD hS (by rw [it_s _ _ hiy, ← hs5]; unfold rg5; rw [if_neg (by omega)]; first | rw [if_pos (by omega)] | rw [if_neg (by omega)])
            · refine lv_aload_n hx hb d_Mod_region_141 rfl (lv_at hl 0 rfl) ?_
              refine lv_bipush (v := iv (16)) hx hb d_Mod_region_142 rfl ?_
              refine lv_iload hx hb d_Mod_region_144 (lv_at hl 6 rfl) ?_
              refine k_imul hx hb d_Mod_region_146 ?_
              refine lv_iconst (v := iv (1)) hx hb d_Mod_region_147 rfl ?_
              refine lv_iload_n hx hb d_Mod_region_148 rfl (lv_at hl 1 rfl) ?_
              refine lv_iconst (v := iv (2)) hx hb d_Mod_region_149 rfl ?_
              refine k_idiv hx hb d_Mod_region_150 (by omega) (by omega) ?_
              refine lv_iload hx hb d_Mod_region_151 (lv_at hl 4 rfl) ?_
              refine k_cv (wz := fun u : (Int → Int64) × (Int → Int64) × (Int → Int64) => [o_Mod rM wd ht rP rk rG rW rK kd db ew ac dn pr nu de rE rst wr rd rev rod cn rp rb ba sz1 lb rm cu sp nz rbl sl uz, (rG, al (gL G) 256 (u.1)), (rev, al (gL G) 8 (u.2.1)), (rod, al (gL G) 8 (u.2.2))]) (wr := []) (k_rv S (c_Mod_turn l G _ rM rP rk rG rW rK rE rst rev rod rp rb rbl (16 * k) 1 (w0 / 2) un wd ht kd db ew ac dn pr nu de wr rd cn ba sz1 lb rm cu sp nz sl uz a3 ge3 go3 (by omega) (by omega) (fun m a b => by omega) (by omega)) 4 m4_62 m4_59 m4_61 mp_27 m1_9 (by decide +kernel) (by decide) rfl rfl (k_preV (q0 := 0) hK hP hD hS hA hT rfl rfl [0, 1, 2, 3] (by decide) rfl) rfl hl.1 rfl (Nat.le_of_ble_eq_true rfl) d_Mod_region_153 ⟨Nat.le_of_ble_eq_true rfl, Nat.le_of_ble_eq_true rfl⟩) hP hD hS hA [0, 1, 2, 3] [] [0, 1, 2, 3] rfl rfl (by decide) (by decide) (by decide) (fun _ => rfl) (fun u153 H locs h153 hP hD hS => ?_)
              obtain ⟨a153, ge153, go153⟩ := u153
              have hP : va_P (gD G) classes [o_Mod rM wd ht rP rk rG rW rK kd db ew ac dn pr nu de rE rst wr rd rev rod cn rp rb ba sz1 lb rm cu sp nz rbl sl uz, (rG, al (gL G) 256 (a153)), (rev, al (gL G) 8 (ge153)), (rod, al (gL G) 8 (go153))] H := hP
              have hD : va_D A [o_Mod rM wd ht rP rk rG rW rK kd db ew ac dn pr nu de rE rst wr rd rev rod cn rp rb ba sz1 lb rm cu sp nz rbl sl uz, (rG, al (gL G) 256 (a153)), (rev, al (gL G) 8 (ge153)), (rod, al (gL G) 8 (go153))] := hD
              try dsimp only at h153
              refine lv_iinc (k := 6) (v := iv (k + 1)) hx hb d_Mod_region_156 hl rfl (iv_add _ _) (by decide) rfl (fun ls hl => ?_)
              have hl : lv_has ls 7 [(6, .int (iv (k + 1))), (0, .ref rM), (1, .int (iv (w0))), (2, .int (iv (h0))), (3, .int (iv (ct))), (4, .int (iv (un))), (5, .int (iv (gn0)))] := hl
              refine lv_goto (tgt := 135) hx hb d_Mod_region_159 (by decide) ?_
              exact ihk (by omega) _ _ _ a153 ge153 go153 (lv_sub hl [1, 2, 3, 4, 5, 6, 0] rfl) hP hD hS (by rw [it_s _ _ hik, ← hs3]; exact h153)
          · refine lv_iload_n hx hb d_Mod_region_105 rfl (lv_at hl 3 rfl) ?_
            refine k_if_eq (tgt := 132) hx hb d_Mod_region_106 (by decide) (by omega) (fun hc106 => ?_) (fun hc106 => ?_)
            · have e2 : (a2, ge2, go2) = it (rg2 kd h0 ct un) 0 w0 (a1, ge, go) := by first | (rw [hs2]; exact it_x _ _ hc102 hjj) | (rw [hs2, it_c (rg2_c (Or.inl hc106)), it_c (rg2_c (Or.inl hc106))]) | (rw [hs2, it_c (rg2_c (Or.inr hc111)), it_c (rg2_c (Or.inr hc111))])
              refine lv_iconst (v := iv (0)) hx hb d_Mod_region_132 rfl ?_
              refine lv_istore hx hb d_Mod_region_133 hl (by decide) rfl (fun ls hl => ?_)
              have hl : lv_has ls 7 [(6, .int (iv (0))), (0, .ref rM), (1, .int (iv (w0))), (2, .int (iv (h0))), (3, .int (iv (ct))), (4, .int (iv (un))), (5, .int (iv (gn0)))] := hl
              refine lo_up (P := fun k => ∀ (ls : Array Slot) (H : Heap) (locs : List Loc) (a3 : Int → Int64) (ge3 : Int → Int64) (go3 : Int → Int64), lv_has ls 7 [(0, .ref rM), (1, .int (iv (w0))), (2, .int (iv (h0))), (3, .int (iv (ct))), (4, .int (iv (un))), (5, .int (iv (gn0))), (6, .int (iv (k)))] → va_P (gD G) classes [o_Mod rM wd ht rP rk rG rW rK kd db ew ac dn pr nu de rE rst wr rd rev rod cn rp rb ba sz1 lb rm cu sp nz rbl sl uz, (rG, al (gL G) 256 (a3)), (rev, al (gL G) 8 (ge3)), (rod, al (gL G) 8 (go3))] H → va_D A [o_Mod rM wd ht rP rk rG rW rK kd db ew ac dn pr nu de rE rst wr rd rev rod cn rp rb ba sz1 lb rm cu sp nz rbl sl uz, (rG, al (gL G) 256 (a3)), (rev, al (gL G) 8 (ge3)), (rod, al (gL G) 8 (go3))] → va_S A s.heap H locs → ((a3, ge3, go3) = it (rg3 kd w0 un) 0 k (a2, ge2, go2)) → W p l e r_Mod_region s m args below meth c H locs 0 0 Q (F0 m 135 ls [])) (a := 0) (b := h0) (fun k hik hjk ihk => ?_) _ _ _ a2 ge2 go2 (lv_sub hl [1, 2, 3, 4, 5, 6, 0] rfl) hP hD hS (it_self _ _ _).symm
              intro ls H locs a3 ge3 go3 hl hP hD hS hs3
              refine lv_iload hx hb d_Mod_region_135 (lv_at hl 6 rfl) ?_
              refine lv_iload_n hx hb d_Mod_region_137 rfl (lv_at hl 2 rfl) ?_
              refine k_icmp_ge (tgt := 162) hx hb d_Mod_region_138 (by decide) (by omega) (by omega) (fun hc138 => ?_) (fun hc138 => ?_)
              · have e3 : (a3, ge3, go3) = it (rg3 kd w0 un) 0 h0 (a2, ge2, go2) := by rw [hs3]; exact it_x _ _ hc138 hjk
                refine lv_iconst (v := iv (0)) hx hb d_Mod_region_162 rfl ?_
                refine lv_istore hx hb d_Mod_region_163 hl (by decide) rfl (fun ls hl => ?_)
                have hl : lv_has ls 7 [(6, .int (iv (0))), (0, .ref rM), (1, .int (iv (w0))), (2, .int (iv (h0))), (3, .int (iv (ct))), (4, .int (iv (un))), (5, .int (iv (gn0)))] := hl
                refine lo_up (P := fun x => ∀ (ls : Array Slot) (H : Heap) (locs : List Loc) (a4 : Int → Int64) (ge4 : Int → Int64) (go4 : Int → Int64), lv_has ls 7 [(0, .ref rM), (1, .int (iv (w0))), (2, .int (iv (h0))), (3, .int (iv (ct))), (4, .int (iv (un))), (5, .int (iv (gn0))), (6, .int (iv (x)))] → va_P (gD G) classes [o_Mod rM wd ht rP rk rG rW rK kd db ew ac dn pr nu de rE rst wr rd rev rod cn rp rb ba sz1 lb rm cu sp nz rbl sl uz, (rG, al (gL G) 256 (a4)), (rev, al (gL G) 8 (ge4)), (rod, al (gL G) 8 (go4))] H → va_D A [o_Mod rM wd ht rP rk rG rW rK kd db ew ac dn pr nu de rE rst wr rd rev rod cn rp rb ba sz1 lb rm cu sp nz rbl sl uz, (rG, al (gL G) 256 (a4)), (rev, al (gL G) 8 (ge4)), (rod, al (gL G) 8 (go4))] → va_S A s.heap H locs → ((a4, ge4, go4) = it (rg4 kd h0 ct un) 0 x (a3, ge3, go3)) → W p l e r_Mod_region s m args below meth c H locs 0 0 Q (F0 m 165 ls [])) (a := 0) (b := w0) (fun x hix hjx ihx => ?_) _ _ _ a3 ge3 go3 (lv_sub hl [1, 2, 3, 4, 5, 6, 0] rfl) hP hD hS (it_self _ _ _).symm
                intro ls H locs a4 ge4 go4 hl hP hD hS hs4
                refine lv_iload hx hb d_Mod_region_165 (lv_at hl 6 rfl) ?_
                refine lv_iload_n hx hb d_Mod_region_167 rfl (lv_at hl 1 rfl) ?_
                refine k_icmp_ge (tgt := 198) hx hb d_Mod_region_168 (by decide) (by omega) (by omega) (fun hc168 => ?_) (fun hc168 => ?_)
                · have e4 : (a4, ge4, go4) = it (rg4 kd h0 ct un) 0 w0 (a3, ge3, go3) := by first | (rw [hs4]; exact it_x _ _ hc168 hjx) | (rw [hs4, it_c (rg4_c (Or.inl hc172)), it_c (rg4_c (Or.inl hc172))]) | (rw [hs4, it_c (rg4_c (Or.inr hc177)), it_c (rg4_c (Or.inr hc177))])
                  refine lv_iconst (v := iv (0)) hx hb d_Mod_region_198 rfl ?_
                  refine lv_istore hx hb d_Mod_region_199 hl (by decide) rfl (fun ls hl => ?_)
                  have hl : lv_has ls 7 [(6, .int (iv (0))), (0, .ref rM), (1, .int (iv (w0))), (2, .int (iv (h0))), (3, .int (iv (ct))), (4, .int (iv (un))), (5, .int (iv (gn0)))] := hl
                  refine lo_up (P := fun y => ∀ (ls : Array Slot) (H : Heap) (locs : List Loc) (a5 : Int → Int64), lv_has ls 7 [(0, .ref rM), (1, .int (iv (w0))), (2, .int (iv (h0))), (3, .int (iv (ct))), (4, .int (iv (un))), (5, .int (iv (gn0))), (6, .int (iv (y)))] → va_P (gD G) classes [o_Mod rM wd ht rP rk rG rW rK kd db ew ac dn pr nu de rE rst wr rd rev rod cn rp rb ba sz1 lb rm cu sp nz rbl sl uz, (rG, al (gL G) 256 (a5)), (rev, al (gL G) 8 (ge4)), (rod, al (gL G) 8 (go4))] H → va_D A [o_Mod rM wd ht rP rk rG rW rK kd db ew ac dn pr nu de rE rst wr rd rev rod cn rp rb ba sz1 lb rm cu sp nz rbl sl uz, (rG, al (gL G) 256 (a5)), (rev, al (gL G) 8 (ge4)), (rod, al (gL G) 8 (go4))] → va_S A s.heap H locs → (a5 = it (rg5 gn0 w0 h0 un) 0 y a4) → W p l e r_Mod_region s m args below meth c H locs 0 0 Q (F0 m 201 ls [])) (a := 0) (b := 256) (fun y hiy hjy ihy => ?_) _ _ _ a4 (lv_sub hl [1, 2, 3, 4, 5, 6, 0] rfl) hP hD hS (it_self _ _ _).symm
                  intro ls H locs a5 hl hP hD hS hs5
                  refine lv_iload hx hb d_Mod_region_201 (lv_at hl 6 rfl) ?_
                  refine lv_sipush (v := iv (256)) hx hb d_Mod_region_203 rfl ?_
                  refine k_icmp_ge (tgt := 271) hx hb d_Mod_region_206 (by decide) (by omega) (by omega) (fun hc206 => ?_) (fun hc206 => ?_)
                  · exact k_vret hx hb hr hlk hQ ((a5, ge4, go4)) (by unfold rgA; dsimp only; rw [← hgn, ← e1, ← e2, ← e3, ← e4, show it (rg5 gn0 w0 h0 un) 0 256 a4 = a5 from (by first | (rw [hs5]; exact (it_x _ _ hc206 hjy).symm) | (rw [hs5, it_c (rg5_c (Or.inl hc211)), it_c (rg5_c (Or.inl hc211))]) | (rw [hs5, it_c (rg5_c (Or.inr hc216)), it_c (rg5_c (Or.inr hc216))]))]) hP hD hS d_Mod_region_271
                  · refine lv_iload hx hb d_Mod_region_209 (lv_at hl 5 rfl) ?_
                    refine k_if_eq (tgt := 271) hx hb d_Mod_region_211 (by decide) (by omega) (fun hc211 => absurd hc211 (by omega)) (fun hc211 => ?_)
                    refine lv_iload hx hb d_Mod_region_214 (lv_at hl 4 rfl) ?_
                    refine k_if_eq (tgt := 271) hx hb d_Mod_region_216 (by decide) (by omega) (fun hc216 => absurd hc216 (by omega)) (fun hc216 => ?_)
                    refine lv_aload_n hx hb d_Mod_region_219 rfl (lv_at hl 0 rfl) ?_
                    refine va_get (D := gD G) (ci := 7) (v := .ref rG) (C := R_Mod) (T := F_Mod) (N := 34) hx hb hw in_Mod hown hK hP 0 rfl rfl 4 (by decide) (hw _ m3_128) (fun _ h => h) rfl d_Mod_region_220 ?_
                    refine lv_iload hx hb d_Mod_region_223 (lv_at hl 6 rfl) ?_
                    refine lv_iload hx hb d_Mod_region_225 (lv_at hl 6 rfl) ?_
                    refine lv_bipush (v := iv (16)) hx hb d_Mod_region_227 rfl ?_
                    refine k_irem hx hb d_Mod_region_229 (by omega) (by omega) ?_
                    refine lv_iload_n hx hb d_Mod_region_230 rfl (lv_at hl 1 rfl) ?_
                    refine k_icmp_ge (tgt := 257) hx hb d_Mod_region_231 (by decide) (by omega) (by omega) (fun hc231 => ?_) (fun hc231 => ?_)
                    · refine lv_aload_n hx hb d_Mod_region_257 rfl (lv_at hl 0 rfl) ?_
                      refine va_get (D := gD G) (ci := 7) (v := .ref rG) (C := R_Mod) (T := F_Mod) (N := 34) hx hb hw in_Mod hown hK hP 0 rfl rfl 4 (by decide) (hw _ m3_128) (fun _ h => h) rfl d_Mod_region_258 ?_
                      refine lv_iload hx hb d_Mod_region_261 (lv_at hl 6 rfl) ?_
                      refine k_lal hx hb hK hP 1 1 rfl rfl (by decide) (by omega) d_Mod_region_263 ?_
                      refine k_las hx hb hK hP hD hS 1 1 rfl rfl (by decide) (by omega) d_Mod_region_264 (fun H locs hP hD hS => ?_)
                      have hP : va_P (gD G) classes [o_Mod rM wd ht rP rk rG rW rK kd db ew ac dn pr nu de rE rst wr rd rev rod cn rp rb ba sz1 lb rm cu sp nz rbl sl uz, (rG, al (gL G) 256 (up a5 y (a5 y))), (rev, al (gL G) 8 (ge4)), (rod, al (gL G) 8 (go4))] H := hP
                      have hD : va_D A [o_Mod rM wd ht rP rk rG rW rK kd db ew ac dn pr nu de rE rst wr rd rev rod cn rp rb ba sz1 lb rm cu sp nz rbl sl uz, (rG, al (gL G) 256 (up a5 y (a5 y))), (rev, al (gL G) 8 (ge4)), (rod, al (gL G) 8 (go4))] := hD
                      refine lv_iinc (k := 6) (v := iv (y + 1)) hx hb d_Mod_region_265 hl rfl (iv_add _ _) (by decide) rfl (fun ls hl => ?_)
                      have hl : lv_has ls 7 [(6, .int (iv (y + 1))), (0, .ref rM), (1, .int (iv (w0))), (2, .int (iv (h0))), (3, .int (iv (ct))), (4, .int (iv (un))), (5, .int (iv (gn0)))] := hl
                      refine lv_goto (tgt := 201) hx hb d_Mod_region_268 (by decide) ?_
                      exact ihy (by omega) _ _ _ (up a5 y (a5 y)) (lv_sub hl [1, 2, 3, 4, 5, 6, 0] rfl) hP hD hS (by rw [it_s _ _ hiy, ← hs5]; unfold rg5; rw [if_neg (by omega)]; first | rw [if_pos (by omega)] | rw [if_neg (by omega)])
                    · refine lv_iload hx hb d_Mod_region_234 (lv_at hl 6 rfl) ?_
                      refine lv_bipush (v := iv (16)) hx hb d_Mod_region_236 rfl ?_
                      refine k_idiv hx hb d_Mod_region_238 (by omega) (by omega) ?_
                      refine lv_iload_n hx hb d_Mod_region_239 rfl (lv_at hl 2 rfl) ?_
                      refine k_icmp_ge (tgt := 257) hx hb d_Mod_region_240 (by decide) (by omega) (by omega) (fun hc240 => ?_) (fun hc240 => ?_)
                      · refine lv_aload_n hx hb d_Mod_region_257 rfl (lv_at hl 0 rfl) ?_
                        refine va_get (D := gD G) (ci := 7) (v := .ref rG) (C := R_Mod) (T := F_Mod) (N := 34) hx hb hw in_Mod hown hK hP 0 rfl rfl 4 (by decide) (hw _ m3_128) (fun _ h => h) rfl d_Mod_region_258 ?_
                        refine lv_iload hx hb d_Mod_region_261 (lv_at hl 6 rfl) ?_
                        refine k_lal hx hb hK hP 1 1 rfl rfl (by decide) (by omega) d_Mod_region_263 ?_
                        refine k_las hx hb hK hP hD hS 1 1 rfl rfl (by decide) (by omega) d_Mod_region_264 (fun H locs hP hD hS => ?_)
                        have hP : va_P (gD G) classes [o_Mod rM wd ht rP rk rG rW rK kd db ew ac dn pr nu de rE rst wr rd rev rod cn rp rb ba sz1 lb rm cu sp nz rbl sl uz, (rG, al (gL G) 256 (up a5 y (a5 y))), (rev, al (gL G) 8 (ge4)), (rod, al (gL G) 8 (go4))] H := hP
                        have hD : va_D A [o_Mod rM wd ht rP rk rG rW rK kd db ew ac dn pr nu de rE rst wr rd rev rod cn rp rb ba sz1 lb rm cu sp nz rbl sl uz, (rG, al (gL G) 256 (up a5 y (a5 y))), (rev, al (gL G) 8 (ge4)), (rod, al (gL G) 8 (go4))] := hD
                        refine lv_iinc (k := 6) (v := iv (y + 1)) hx hb d_Mod_region_265 hl rfl (iv_add _ _) (by decide) rfl (fun ls hl => ?_)
                        have hl : lv_has ls 7 [(6, .int (iv (y + 1))), (0, .ref rM), (1, .int (iv (w0))), (2, .int (iv (h0))), (3, .int (iv (ct))), (4, .int (iv (un))), (5, .int (iv (gn0)))] := hl
                        refine lv_goto (tgt := 201) hx hb d_Mod_region_268 (by decide) ?_
                        exact ihy (by omega) _ _ _ (up a5 y (a5 y)) (lv_sub hl [1, 2, 3, 4, 5, 6, 0] rfl) hP hD hS (by rw [it_s _ _ hiy, ← hs5]; unfold rg5; rw [if_neg (by omega)]; first | rw [if_pos (by omega)] | rw [if_neg (by omega)])
                      · refine lv_aload_n hx hb d_Mod_region_243 rfl (lv_at hl 0 rfl) ?_
                        refine va_get (D := gD G) (ci := 7) (v := .ref rG) (C := R_Mod) (T := F_Mod) (N := 34) hx hb hw in_Mod hown hK hP 0 rfl rfl 4 (by decide) (hw _ m3_128) (fun _ h => h) rfl d_Mod_region_244 ?_
                        refine lv_iload hx hb d_Mod_region_247 (lv_at hl 6 rfl) ?_
                        refine k_lal hx hb hK hP 1 1 rfl rfl (by decide) (by omega) d_Mod_region_249 ?_
                        refine lv_lconst (v := 1) hx hb d_Mod_region_250 rfl ?_
                        refine lv_ladd hx hb d_Mod_region_251 ?_
                        refine lv_iconst (v := iv (1)) hx hb d_Mod_region_252 rfl ?_
                        refine k_lshr hx hb d_Mod_region_253 ?_
                        refine lv_goto (tgt := 264) hx hb d_Mod_region_254 (by decide) ?_
                        refine k_las hx hb hK hP hD hS 1 1 rfl rfl (by decide) (by omega) d_Mod_region_264 (fun H locs hP hD hS => ?_)
                        have hP : va_P (gD G) classes [o_Mod rM wd ht rP rk rG rW rK kd db ew ac dn pr nu de rE rst wr rd rev rod cn rp rb ba sz1 lb rm cu sp nz rbl sl uz, (rG, al (gL G) 256 (up a5 y (shR ((a5 y) + ((1 : Int64))) 1))), (rev, al (gL G) 8 (ge4)), (rod, al (gL G) 8 (go4))] H := hP
                        have hD : va_D A [o_Mod rM wd ht rP rk rG rW rK kd db ew ac dn pr nu de rE rst wr rd rev rod cn rp rb ba sz1 lb rm cu sp nz rbl sl uz, (rG, al (gL G) 256 (up a5 y (shR ((a5 y) + ((1 : Int64))) 1))), (rev, al (gL G) 8 (ge4)), (rod, al (gL G) 8 (go4))] := hD
                        refine lv_iinc (k := 6) (v := iv (y + 1)) hx hb d_Mod_region_265 hl rfl (iv_add _ _) (by decide) rfl (fun ls hl => ?_)
                        have hl : lv_has ls 7 [(6, .int (iv (y + 1))), (0, .ref rM), (1, .int (iv (w0))), (2, .int (iv (h0))), (3, .int (iv (ct))), (4, .int (iv (un))), (5, .int (iv (gn0)))] := hl
                        refine lv_goto (tgt := 201) hx hb d_Mod_region_268 (by decide) ?_
                        exact ihy (by omega) _ _ _ (up a5 y (shR ((a5 y) + ((1 : Int64))) 1)) (lv_sub hl [1, 2, 3, 4, 5, 6, 0] rfl) hP hD hS (by rw [it_s _ _ hiy, ← hs5]; unfold rg5; rw [if_neg (by omega)]; first | rw [if_pos (by omega)] | rw [if_neg (by omega)])
                · refine lv_iload_n hx hb d_Mod_region_171 rfl (lv_at hl 3 rfl) ?_
                  refine k_if_eq (tgt := 198) hx hb d_Mod_region_172 (by decide) (by omega) (fun hc172 => ?_) (fun hc172 => absurd hc172 (by omega))
                  have e4 : (a4, ge4, go4) = it (rg4 kd h0 ct un) 0 w0 (a3, ge3, go3) := by first | (rw [hs4]; exact it_x _ _ hc168 hjx) | (rw [hs4, it_c (rg4_c (Or.inl hc172)), it_c (rg4_c (Or.inl hc172))]) | (rw [hs4, it_c (rg4_c (Or.inr hc177)), it_c (rg4_c (Or.inr hc177))])
                  refine lv_iconst (v := iv (0)) hx hb d_Mod_region_198 rfl ?_
                  refine lv_istore hx hb d_Mod_region_199 hl (by decide) rfl (fun ls hl => ?_)
                  have hl : lv_has ls 7 [(6, .int (iv (0))), (0, .ref rM), (1, .int (iv (w0))), (2, .int (iv (h0))), (3, .int (iv (ct))), (4, .int (iv (un))), (5, .int (iv (gn0)))] := hl
                  refine lo_up (P := fun y => ∀ (ls : Array Slot) (H : Heap) (locs : List Loc) (a5 : Int → Int64), lv_has ls 7 [(0, .ref rM), (1, .int (iv (w0))), (2, .int (iv (h0))), (3, .int (iv (ct))), (4, .int (iv (un))), (5, .int (iv (gn0))), (6, .int (iv (y)))] → va_P (gD G) classes [o_Mod rM wd ht rP rk rG rW rK kd db ew ac dn pr nu de rE rst wr rd rev rod cn rp rb ba sz1 lb rm cu sp nz rbl sl uz, (rG, al (gL G) 256 (a5)), (rev, al (gL G) 8 (ge4)), (rod, al (gL G) 8 (go4))] H → va_D A [o_Mod rM wd ht rP rk rG rW rK kd db ew ac dn pr nu de rE rst wr rd rev rod cn rp rb ba sz1 lb rm cu sp nz rbl sl uz, (rG, al (gL G) 256 (a5)), (rev, al (gL G) 8 (ge4)), (rod, al (gL G) 8 (go4))] → va_S A s.heap H locs → (a5 = it (rg5 gn0 w0 h0 un) 0 y a4) → W p l e r_Mod_region s m args below meth c H locs 0 0 Q (F0 m 201 ls [])) (a := 0) (b := 256) (fun y hiy hjy ihy => ?_) _ _ _ a4 (lv_sub hl [1, 2, 3, 4, 5, 6, 0] rfl) hP hD hS (it_self _ _ _).symm
                  intro ls H locs a5 hl hP hD hS hs5
                  refine lv_iload hx hb d_Mod_region_201 (lv_at hl 6 rfl) ?_
                  refine lv_sipush (v := iv (256)) hx hb d_Mod_region_203 rfl ?_
                  refine k_icmp_ge (tgt := 271) hx hb d_Mod_region_206 (by decide) (by omega) (by omega) (fun hc206 => ?_) (fun hc206 => ?_)
                  · exact k_vret hx hb hr hlk hQ ((a5, ge4, go4)) (by unfold rgA; dsimp only; rw [← hgn, ← e1, ← e2, ← e3, ← e4, show it (rg5 gn0 w0 h0 un) 0 256 a4 = a5 from (by first | (rw [hs5]; exact (it_x _ _ hc206 hjy).symm) | (rw [hs5, it_c (rg5_c (Or.inl hc211)), it_c (rg5_c (Or.inl hc211))]) | (rw [hs5, it_c (rg5_c (Or.inr hc216)), it_c (rg5_c (Or.inr hc216))]))]) hP hD hS d_Mod_region_271
                  · refine lv_iload hx hb d_Mod_region_209 (lv_at hl 5 rfl) ?_
                    refine k_if_eq (tgt := 271) hx hb d_Mod_region_211 (by decide) (by omega) (fun hc211 => absurd hc211 (by omega)) (fun hc211 => ?_)
                    refine lv_iload hx hb d_Mod_region_214 (lv_at hl 4 rfl) ?_
                    refine k_if_eq (tgt := 271) hx hb d_Mod_region_216 (by decide) (by omega) (fun hc216 => absurd hc216 (by omega)) (fun hc216 => ?_)
                    refine lv_aload_n hx hb d_Mod_region_219 rfl (lv_at hl 0 rfl) ?_
                    refine va_get (D := gD G) (ci := 7) (v := .ref rG) (C := R_Mod) (T := F_Mod) (N := 34) hx hb hw in_Mod hown hK hP 0 rfl rfl 4 (by decide) (hw _ m3_128) (fun _ h => h) rfl d_Mod_region_220 ?_
                    refine lv_iload hx hb d_Mod_region_223 (lv_at hl 6 rfl) ?_
                    refine lv_iload hx hb d_Mod_region_225 (lv_at hl 6 rfl) ?_
                    refine lv_bipush (v := iv (16)) hx hb d_Mod_region_227 rfl ?_
                    refine k_irem hx hb d_Mod_region_229 (by omega) (by omega) ?_
                    refine lv_iload_n hx hb d_Mod_region_230 rfl (lv_at hl 1 rfl) ?_
                    refine k_icmp_ge (tgt := 257) hx hb d_Mod_region_231 (by decide) (by omega) (by omega) (fun hc231 => ?_) (fun hc231 => ?_)
                    · refine lv_aload_n hx hb d_Mod_region_257 rfl (lv_at hl 0 rfl) ?_
                      refine va_get (D := gD G) (ci := 7) (v := .ref rG) (C := R_Mod) (T := F_Mod) (N := 34) hx hb hw in_Mod hown hK hP 0 rfl rfl 4 (by decide) (hw _ m3_128) (fun _ h => h) rfl d_Mod_region_258 ?_
                      refine lv_iload hx hb d_Mod_region_261 (lv_at hl 6 rfl) ?_
                      refine k_lal hx hb hK hP 1 1 rfl rfl (by decide) (by omega) d_Mod_region_263 ?_
                      refine k_las hx hb hK hP hD hS 1 1 rfl rfl (by decide) (by omega) d_Mod_region_264 (fun H locs hP hD hS => ?_)
                      have hP : va_P (gD G) classes [o_Mod rM wd ht rP rk rG rW rK kd db ew ac dn pr nu de rE rst wr rd rev rod cn rp rb ba sz1 lb rm cu sp nz rbl sl uz, (rG, al (gL G) 256 (up a5 y (a5 y))), (rev, al (gL G) 8 (ge4)), (rod, al (gL G) 8 (go4))] H := hP
                      have hD : va_D A [o_Mod rM wd ht rP rk rG rW rK kd db ew ac dn pr nu de rE rst wr rd rev rod cn rp rb ba sz1 lb rm cu sp nz rbl sl uz, (rG, al (gL G) 256 (up a5 y (a5 y))), (rev, al (gL G) 8 (ge4)), (rod, al (gL G) 8 (go4))] := hD
                      refine lv_iinc (k := 6) (v := iv (y + 1)) hx hb d_Mod_region_265 hl rfl (iv_add _ _) (by decide) rfl (fun ls hl => ?_)
                      have hl : lv_has ls 7 [(6, .int (iv (y + 1))), (0, .ref rM), (1, .int (iv (w0))), (2, .int (iv (h0))), (3, .int (iv (ct))), (4, .int (iv (un))), (5, .int (iv (gn0)))] := hl
                      refine lv_goto (tgt := 201) hx hb d_Mod_region_268 (by decide) ?_
                      exact ihy (by omega) _ _ _ (up a5 y (a5 y)) (lv_sub hl [1, 2, 3, 4, 5, 6, 0] rfl) hP hD hS (by rw [it_s _ _ hiy, ← hs5]; unfold rg5; rw [if_neg (by omega)]; first | rw [if_pos (by omega)] | rw [if_neg (by omega)])
                    · refine lv_iload hx hb d_Mod_region_234 (lv_at hl 6 rfl) ?_
                      refine lv_bipush (v := iv (16)) hx hb d_Mod_region_236 rfl ?_
                      refine k_idiv hx hb d_Mod_region_238 (by omega) (by omega) ?_
                      refine lv_iload_n hx hb d_Mod_region_239 rfl (lv_at hl 2 rfl) ?_
                      refine k_icmp_ge (tgt := 257) hx hb d_Mod_region_240 (by decide) (by omega) (by omega) (fun hc240 => ?_) (fun hc240 => ?_)
                      · refine lv_aload_n hx hb d_Mod_region_257 rfl (lv_at hl 0 rfl) ?_
                        refine va_get (D := gD G) (ci := 7) (v := .ref rG) (C := R_Mod) (T := F_Mod) (N := 34) hx hb hw in_Mod hown hK hP 0 rfl rfl 4 (by decide) (hw _ m3_128) (fun _ h => h) rfl d_Mod_region_258 ?_
                        refine lv_iload hx hb d_Mod_region_261 (lv_at hl 6 rfl) ?_
                        refine k_lal hx hb hK hP 1 1 rfl rfl (by decide) (by omega) d_Mod_region_263 ?_
                        refine k_las hx hb hK hP hD hS 1 1 rfl rfl (by decide) (by omega) d_Mod_region_264 (fun H locs hP hD hS => ?_)
                        have hP : va_P (gD G) classes [o_Mod rM wd ht rP rk rG rW rK kd db ew ac dn pr nu de rE rst wr rd rev rod cn rp rb ba sz1 lb rm cu sp nz rbl sl uz, (rG, al (gL G) 256 (up a5 y (a5 y))), (rev, al (gL G) 8 (ge4)), (rod, al (gL G) 8 (go4))] H := hP
                        have hD : va_D A [o_Mod rM wd ht rP rk rG rW rK kd db ew ac dn pr nu de rE rst wr rd rev rod cn rp rb ba sz1 lb rm cu sp nz rbl sl uz, (rG, al (gL G) 256 (up a5 y (a5 y))), (rev, al (gL G) 8 (ge4)), (rod, al (gL G) 8 (go4))] := hD
                        refine lv_iinc (k := 6) (v := iv (y + 1)) hx hb d_Mod_region_265 hl rfl (iv_add _ _) (by decide) rfl (fun ls hl => ?_)
                        have hl : lv_has ls 7 [(6, .int (iv (y + 1))), (0, .ref rM), (1, .int (iv (w0))), (2, .int (iv (h0))), (3, .int (iv (ct))), (4, .int (iv (un))), (5, .int (iv (gn0)))] := hl
                        refine lv_goto (tgt := 201) hx hb d_Mod_region_268 (by decide) ?_
                        exact ihy (by omega) _ _ _ (up a5 y (a5 y)) (lv_sub hl [1, 2, 3, 4, 5, 6, 0] rfl) hP hD hS (by rw [it_s _ _ hiy, ← hs5]; unfold rg5; rw [if_neg (by omega)]; first | rw [if_pos (by omega)] | rw [if_neg (by omega)])
                      · refine lv_aload_n hx hb d_Mod_region_243 rfl (lv_at hl 0 rfl) ?_
                        refine va_get (D := gD G) (ci := 7) (v := .ref rG) (C := R_Mod) (T := F_Mod) (N := 34) hx hb hw in_Mod hown hK hP 0 rfl rfl 4 (by decide) (hw _ m3_128) (fun _ h => h) rfl d_Mod_region_244 ?_
                        refine lv_iload hx hb d_Mod_region_247 (lv_at hl 6 rfl) ?_
                        refine k_lal hx hb hK hP 1 1 rfl rfl (by decide) (by omega) d_Mod_region_249 ?_
                        refine lv_lconst (v := 1) hx hb d_Mod_region_250 rfl ?_
                        refine lv_ladd hx hb d_Mod_region_251 ?_
                        refine lv_iconst (v := iv (1)) hx hb d_Mod_region_252 rfl ?_
                        refine k_lshr hx hb d_Mod_region_253 ?_
                        refine lv_goto (tgt := 264) hx hb d_Mod_region_254 (by decide) ?_
                        refine k_las hx hb hK hP hD hS 1 1 rfl rfl (by decide) (by omega) d_Mod_region_264 (fun H locs hP hD hS => ?_)
                        have hP : va_P (gD G) classes [o_Mod rM wd ht rP rk rG rW rK kd db ew ac dn pr nu de rE rst wr rd rev rod cn rp rb ba sz1 lb rm cu sp nz rbl sl uz, (rG, al (gL G) 256 (up a5 y (shR ((a5 y) + ((1 : Int64))) 1))), (rev, al (gL G) 8 (ge4)), (rod, al (gL G) 8 (go4))] H := hP
                        have hD : va_D A [o_Mod rM wd ht rP rk rG rW rK kd db ew ac dn pr nu de rE rst wr rd rev rod cn rp rb ba sz1 lb rm cu sp nz rbl sl uz, (rG, al (gL G) 256 (up a5 y (shR ((a5 y) + ((1 : Int64))) 1))), (rev, al (gL G) 8 (ge4)), (rod, al (gL G) 8 (go4))] := hD
                        refine lv_iinc (k := 6) (v := iv (y + 1)) hx hb d_Mod_region_265 hl rfl (iv_add _ _) (by decide) rfl (fun ls hl => ?_)
                        have hl : lv_has ls 7 [(6, .int (iv (y + 1))), (0, .ref rM), (1, .int (iv (w0))), (2, .int (iv (h0))), (3, .int (iv (ct))), (4, .int (iv (un))), (5, .int (iv (gn0)))] := hl
                        refine lv_goto (tgt := 201) hx hb d_Mod_region_268 (by decide) ?_
                        exact ihy (by omega) _ _ _ (up a5 y (shR ((a5 y) + ((1 : Int64))) 1)) (lv_sub hl [1, 2, 3, 4, 5, 6, 0] rfl) hP hD hS (by rw [it_s _ _ hiy, ← hs5]; unfold rg5; rw [if_neg (by omega)]; first | rw [if_pos (by omega)] | rw [if_neg (by omega)])
              · refine lv_aload_n hx hb d_Mod_region_141 rfl (lv_at hl 0 rfl) ?_
                refine lv_bipush (v := iv (16)) hx hb d_Mod_region_142 rfl ?_
                refine lv_iload hx hb d_Mod_region_144 (lv_at hl 6 rfl) ?_
                refine k_imul hx hb d_Mod_region_146 ?_
                refine lv_iconst (v := iv (1)) hx hb d_Mod_region_147 rfl ?_
                refine lv_iload_n hx hb d_Mod_region_148 rfl (lv_at hl 1 rfl) ?_
                refine lv_iconst (v := iv (2)) hx hb d_Mod_region_149 rfl ?_
                refine k_idiv hx hb d_Mod_region_150 (by omega) (by omega) ?_
                refine lv_iload hx hb d_Mod_region_151 (lv_at hl 4 rfl) ?_
                refine k_cv (wz := fun u : (Int → Int64) × (Int → Int64) × (Int → Int64) => [o_Mod rM wd ht rP rk rG rW rK kd db ew ac dn pr nu de rE rst wr rd rev rod cn rp rb ba sz1 lb rm cu sp nz rbl sl uz, (rG, al (gL G) 256 (u.1)), (rev, al (gL G) 8 (u.2.1)), (rod, al (gL G) 8 (u.2.2))]) (wr := []) (k_rv S (c_Mod_turn l G _ rM rP rk rG rW rK rE rst rev rod rp rb rbl (16 * k) 1 (w0 / 2) un wd ht kd db ew ac dn pr nu de wr rd cn ba sz1 lb rm cu sp nz sl uz a3 ge3 go3 (by omega) (by omega) (fun m a b => by omega) (by omega)) 4 m4_62 m4_59 m4_61 mp_27 m1_9 (by decide +kernel) (by decide) rfl rfl (k_preV (q0 := 0) hK hP hD hS hA hT rfl rfl [0, 1, 2, 3] (by decide) rfl) rfl hl.1 rfl (Nat.le_of_ble_eq_true rfl) d_Mod_region_153 ⟨Nat.le_of_ble_eq_true rfl, Nat.le_of_ble_eq_true rfl⟩) hP hD hS hA [0, 1, 2, 3] [] [0, 1, 2, 3] rfl rfl (by decide) (by decide) (by decide) (fun _ => rfl) (fun u153 H locs h153 hP hD hS => ?_)
                obtain ⟨a153, ge153, go153⟩ := u153
                have hP : va_P (gD G) classes [o_Mod rM wd ht rP rk rG rW rK kd db ew ac dn pr nu de rE rst wr rd rev rod cn rp rb ba sz1 lb rm cu sp nz rbl sl uz, (rG, al (gL G) 256 (a153)), (rev, al (gL G) 8 (ge153)), (rod, al (gL G) 8 (go153))] H := hP
                have hD : va_D A [o_Mod rM wd ht rP rk rG rW rK kd db ew ac dn pr nu de rE rst wr rd rev rod cn rp rb ba sz1 lb rm cu sp nz rbl sl uz, (rG, al (gL G) 256 (a153)), (rev, al (gL G) 8 (ge153)), (rod, al (gL G) 8 (go153))] := hD
                try dsimp only at h153
                refine lv_iinc (k := 6) (v := iv (k + 1)) hx hb d_Mod_region_156 hl rfl (iv_add _ _) (by decide) rfl (fun ls hl => ?_)
                have hl : lv_has ls 7 [(6, .int (iv (k + 1))), (0, .ref rM), (1, .int (iv (w0))), (2, .int (iv (h0))), (3, .int (iv (ct))), (4, .int (iv (un))), (5, .int (iv (gn0)))] := hl
                refine lv_goto (tgt := 135) hx hb d_Mod_region_159 (by decide) ?_
                exact ihk (by omega) _ _ _ a153 ge153 go153 (lv_sub hl [1, 2, 3, 4, 5, 6, 0] rfl) hP hD hS (by rw [it_s _ _ hik, ← hs3]; exact h153)
            · refine lv_iload hx hb d_Mod_region_109 (lv_at hl 4 rfl) ?_
              refine k_if_eq (tgt := 132) hx hb d_Mod_region_111 (by decide) (by omega) (fun hc111 => absurd hc111 (by omega)) (fun hc111 => ?_)
              refine lv_aload_n hx hb d_Mod_region_114 rfl (lv_at hl 0 rfl) ?_
              refine lv_iload hx hb d_Mod_region_115 (lv_at hl 6 rfl) ?_
              refine lv_bipush (v := iv (16)) hx hb d_Mod_region_117 rfl ?_
              refine lv_iload_n hx hb d_Mod_region_119 rfl (lv_at hl 2 rfl) ?_
              refine lv_iconst (v := iv (2)) hx hb d_Mod_region_120 rfl ?_
              refine k_idiv hx hb d_Mod_region_121 (by omega) (by omega) ?_
              refine lv_iconst (v := iv (1)) hx hb d_Mod_region_122 rfl ?_
              refine k_cv (wz := fun u : (Int → Int64) × (Int → Int64) × (Int → Int64) => [o_Mod rM wd ht rP rk rG rW rK kd db ew ac dn pr nu de rE rst wr rd rev rod cn rp rb ba sz1 lb rm cu sp nz rbl sl uz, (rG, al (gL G) 256 (u.1)), (rev, al (gL G) 8 (u.2.1)), (rod, al (gL G) 8 (u.2.2))]) (wr := []) (k_rv S (c_Mod_turn l G _ rM rP rk rG rW rK rE rst rev rod rp rb rbl j 16 (h0 / 2) 1 wd ht kd db ew ac dn pr nu de wr rd cn ba sz1 lb rm cu sp nz sl uz a2 ge2 go2 (by omega) (by omega) (fun m a b => by omega) (by omega)) 4 m4_62 m4_59 m4_61 mp_27 m1_9 (by decide +kernel) (by decide) rfl rfl (k_preV (q0 := 0) hK hP hD hS hA hT rfl rfl [0, 1, 2, 3] (by decide) rfl) rfl hl.1 rfl (Nat.le_of_ble_eq_true rfl) d_Mod_region_123 ⟨Nat.le_of_ble_eq_true rfl, Nat.le_of_ble_eq_true rfl⟩) hP hD hS hA [0, 1, 2, 3] [] [0, 1, 2, 3] rfl rfl (by decide) (by decide) (by decide) (fun _ => rfl) (fun u123 H locs h123 hP hD hS => ?_)
              obtain ⟨a123, ge123, go123⟩ := u123
              have hP : va_P (gD G) classes [o_Mod rM wd ht rP rk rG rW rK kd db ew ac dn pr nu de rE rst wr rd rev rod cn rp rb ba sz1 lb rm cu sp nz rbl sl uz, (rG, al (gL G) 256 (a123)), (rev, al (gL G) 8 (ge123)), (rod, al (gL G) 8 (go123))] H := hP
              have hD : va_D A [o_Mod rM wd ht rP rk rG rW rK kd db ew ac dn pr nu de rE rst wr rd rev rod cn rp rb ba sz1 lb rm cu sp nz rbl sl uz, (rG, al (gL G) 256 (a123)), (rev, al (gL G) 8 (ge123)), (rod, al (gL G) 8 (go123))] := hD
              try dsimp only at h123
              refine lv_iinc (k := 6) (v := iv (j + 1)) hx hb d_Mod_region_126 hl rfl (iv_add _ _) (by decide) rfl (fun ls hl => ?_)
              have hl : lv_has ls 7 [(6, .int (iv (j + 1))), (0, .ref rM), (1, .int (iv (w0))), (2, .int (iv (h0))), (3, .int (iv (ct))), (4, .int (iv (un))), (5, .int (iv (gn0)))] := hl
              refine lv_goto (tgt := 99) hx hb d_Mod_region_129 (by decide) ?_
              exact ihj (by omega) _ _ _ a123 ge123 go123 (lv_sub hl [1, 2, 3, 4, 5, 6, 0] rfl) hP hD hS (by rw [it_s _ _ hij, ← hs2]; unfold rg2; rw [if_neg (by omega)]; exact h123)
        · refine lv_aload_n hx hb d_Mod_region_44 rfl (lv_at hl 0 rfl) ?_
          refine va_get (D := gD G) (ci := 7) (v := .ref rG) (C := R_Mod) (T := F_Mod) (N := 34) hx hb hw in_Mod hown hK hP 0 rfl rfl 4 (by decide) (hw _ m3_128) (fun _ h => h) rfl d_Mod_region_45 ?_
          refine lv_iload hx hb d_Mod_region_48 (lv_at hl 6 rfl) ?_
          refine lv_iload hx hb d_Mod_region_50 (lv_at hl 6 rfl) ?_
          refine lv_bipush (v := iv (16)) hx hb d_Mod_region_52 rfl ?_
          refine k_irem hx hb d_Mod_region_54 (by omega) (by omega) ?_
          refine lv_iload_n hx hb d_Mod_region_55 rfl (lv_at hl 1 rfl) ?_
          refine k_icmp_ge (tgt := 82) hx hb d_Mod_region_56 (by decide) (by omega) (by omega) (fun hc56 => ?_) (fun hc56 => ?_)
          · refine lv_aload_n hx hb d_Mod_region_82 rfl (lv_at hl 0 rfl) ?_
            refine va_get (D := gD G) (ci := 7) (v := .ref rG) (C := R_Mod) (T := F_Mod) (N := 34) hx hb hw in_Mod hown hK hP 0 rfl rfl 4 (by decide) (hw _ m3_128) (fun _ h => h) rfl d_Mod_region_83 ?_
            refine lv_iload hx hb d_Mod_region_86 (lv_at hl 6 rfl) ?_
            refine k_lal hx hb hK hP 1 1 rfl rfl (by decide) (by omega) d_Mod_region_88 ?_
            refine k_las hx hb hK hP hD hS 1 1 rfl rfl (by decide) (by omega) d_Mod_region_89 (fun H locs hP hD hS => ?_)
            have hP : va_P (gD G) classes [o_Mod rM wd ht rP rk rG rW rK kd db ew ac dn pr nu de rE rst wr rd rev rod cn rp rb ba sz1 lb rm cu sp nz rbl sl uz, (rG, al (gL G) 256 (up a1 i (a1 i))), (rev, al (gL G) 8 (ge)), (rod, al (gL G) 8 (go))] H := hP
            have hD : va_D A [o_Mod rM wd ht rP rk rG rW rK kd db ew ac dn pr nu de rE rst wr rd rev rod cn rp rb ba sz1 lb rm cu sp nz rbl sl uz, (rG, al (gL G) 256 (up a1 i (a1 i))), (rev, al (gL G) 8 (ge)), (rod, al (gL G) 8 (go))] := hD
            refine lv_iinc (k := 6) (v := iv (i + 1)) hx hb d_Mod_region_90 hl rfl (iv_add _ _) (by decide) rfl (fun ls hl => ?_)
            have hl : lv_has ls 7 [(6, .int (iv (i + 1))), (0, .ref rM), (1, .int (iv (w0))), (2, .int (iv (h0))), (3, .int (iv (ct))), (4, .int (iv (un))), (5, .int (iv (gn0)))] := hl
            refine lv_goto (tgt := 26) hx hb d_Mod_region_93 (by decide) ?_
            exact ihi (by omega) _ _ _ (up a1 i (a1 i)) (lv_sub hl [1, 2, 3, 4, 5, 6, 0] rfl) hP hD hS (by rw [it_s _ _ hii, ← hs1]; unfold rg1; rw [if_neg (by omega)]; first | rw [if_pos (by omega)] | rw [if_neg (by omega)])
          · refine lv_iload hx hb d_Mod_region_59 (lv_at hl 6 rfl) ?_
            refine lv_bipush (v := iv (16)) hx hb d_Mod_region_61 rfl ?_
            refine k_idiv hx hb d_Mod_region_63 (by omega) (by omega) ?_
            refine lv_iload_n hx hb d_Mod_region_64 rfl (lv_at hl 2 rfl) ?_
            refine k_icmp_ge (tgt := 82) hx hb d_Mod_region_65 (by decide) (by omega) (by omega) (fun hc65 => ?_) (fun hc65 => ?_)
            · refine lv_aload_n hx hb d_Mod_region_82 rfl (lv_at hl 0 rfl) ?_
              refine va_get (D := gD G) (ci := 7) (v := .ref rG) (C := R_Mod) (T := F_Mod) (N := 34) hx hb hw in_Mod hown hK hP 0 rfl rfl 4 (by decide) (hw _ m3_128) (fun _ h => h) rfl d_Mod_region_83 ?_
              refine lv_iload hx hb d_Mod_region_86 (lv_at hl 6 rfl) ?_
              refine k_lal hx hb hK hP 1 1 rfl rfl (by decide) (by omega) d_Mod_region_88 ?_
              refine k_las hx hb hK hP hD hS 1 1 rfl rfl (by decide) (by omega) d_Mod_region_89 (fun H locs hP hD hS => ?_)
              have hP : va_P (gD G) classes [o_Mod rM wd ht rP rk rG rW rK kd db ew ac dn pr nu de rE rst wr rd rev rod cn rp rb ba sz1 lb rm cu sp nz rbl sl uz, (rG, al (gL G) 256 (up a1 i (a1 i))), (rev, al (gL G) 8 (ge)), (rod, al (gL G) 8 (go))] H := hP
              have hD : va_D A [o_Mod rM wd ht rP rk rG rW rK kd db ew ac dn pr nu de rE rst wr rd rev rod cn rp rb ba sz1 lb rm cu sp nz rbl sl uz, (rG, al (gL G) 256 (up a1 i (a1 i))), (rev, al (gL G) 8 (ge)), (rod, al (gL G) 8 (go))] := hD
              refine lv_iinc (k := 6) (v := iv (i + 1)) hx hb d_Mod_region_90 hl rfl (iv_add _ _) (by decide) rfl (fun ls hl => ?_)
              have hl : lv_has ls 7 [(6, .int (iv (i + 1))), (0, .ref rM), (1, .int (iv (w0))), (2, .int (iv (h0))), (3, .int (iv (ct))), (4, .int (iv (un))), (5, .int (iv (gn0)))] := hl
              refine lv_goto (tgt := 26) hx hb d_Mod_region_93 (by decide) ?_
              exact ihi (by omega) _ _ _ (up a1 i (a1 i)) (lv_sub hl [1, 2, 3, 4, 5, 6, 0] rfl) hP hD hS (by rw [it_s _ _ hii, ← hs1]; unfold rg1; rw [if_neg (by omega)]; first | rw [if_pos (by omega)] | rw [if_neg (by omega)])
            · refine lv_ldc2 (v := 2) hx hb hown (hw _ m4_58) d_Mod_region_68 ?_
              refine lv_aload_n hx hb d_Mod_region_71 rfl (lv_at hl 0 rfl) ?_
              refine va_get (D := gD G) (ci := 7) (v := .ref rG) (C := R_Mod) (T := F_Mod) (N := 34) hx hb hw in_Mod hown hK hP 0 rfl rfl 4 (by decide) (hw _ m3_128) (fun _ h => h) rfl d_Mod_region_72 ?_
              refine lv_iload hx hb d_Mod_region_75 (lv_at hl 6 rfl) ?_
              refine k_lal hx hb hK hP 1 1 rfl rfl (by decide) (by omega) d_Mod_region_77 ?_
              refine lv_lmul hx hb d_Mod_region_78 ?_
              refine lv_goto (tgt := 89) hx hb d_Mod_region_79 (by decide) ?_
              refine k_las hx hb hK hP hD hS 1 1 rfl rfl (by decide) (by omega) d_Mod_region_89 (fun H locs hP hD hS => ?_)
              have hP : va_P (gD G) classes [o_Mod rM wd ht rP rk rG rW rK kd db ew ac dn pr nu de rE rst wr rd rev rod cn rp rb ba sz1 lb rm cu sp nz rbl sl uz, (rG, al (gL G) 256 (up a1 i (((2 : Int64)) * (a1 i)))), (rev, al (gL G) 8 (ge)), (rod, al (gL G) 8 (go))] H := hP
              have hD : va_D A [o_Mod rM wd ht rP rk rG rW rK kd db ew ac dn pr nu de rE rst wr rd rev rod cn rp rb ba sz1 lb rm cu sp nz rbl sl uz, (rG, al (gL G) 256 (up a1 i (((2 : Int64)) * (a1 i)))), (rev, al (gL G) 8 (ge)), (rod, al (gL G) 8 (go))] := hD
              refine lv_iinc (k := 6) (v := iv (i + 1)) hx hb d_Mod_region_90 hl rfl (iv_add _ _) (by decide) rfl (fun ls hl => ?_)
              have hl : lv_has ls 7 [(6, .int (iv (i + 1))), (0, .ref rM), (1, .int (iv (w0))), (2, .int (iv (h0))), (3, .int (iv (ct))), (4, .int (iv (un))), (5, .int (iv (gn0)))] := hl
              refine lv_goto (tgt := 26) hx hb d_Mod_region_93 (by decide) ?_
              exact ihi (by omega) _ _ _ (up a1 i (((2 : Int64)) * (a1 i))) (lv_sub hl [1, 2, 3, 4, 5, 6, 0] rfl) hP hD hS (by rw [it_s _ _ hii, ← hs1]; unfold rg1; rw [if_neg (by omega)]; first | rw [if_pos (by omega)] | rw [if_neg (by omega)])
  refine lv_aload_n hx hb d_Mod_region_0 rfl (lv_at hl 0 rfl) ?_
  refine va_get (D := gD G) (ci := 7) (v := .int (iv (kd))) (C := R_Mod) (T := F_Mod) (N := 34) hx hb hw in_Mod hown hK hP 0 rfl rfl 7 (by decide) (hw _ m3_131) (fun _ h => h) rfl d_Mod_region_1 ?_
  refine lv_iconst (v := iv (3)) hx hb d_Mod_region_4 rfl ?_
  refine k_icmp_eq (tgt := 20) hx hb d_Mod_region_5 (by decide) (by omega) (by omega) (fun hc5 => ?_) (fun hc5 => ?_)
  · refine lv_iconst (v := iv (0)) hx hb d_Mod_region_20 rfl ?_
    refine lv_istore hx hb d_Mod_region_21 hl (by decide) rfl (fun ls hl => ?_)
    have hl : lv_has ls 7 [(5, .int (iv (0))), (0, .ref rM), (1, .int (iv (w0))), (2, .int (iv (h0))), (3, .int (iv (ct))), (4, .int (iv (un)))] := hl
    exact hm23 _ _ _ 0 (lv_sub hl [1, 2, 3, 4, 5, 0] rfl) hP hD hS (by first | exact (gain_1 hkd (by omega) (by omega)).symm | exact (gain_0 (by omega)).symm)
  · refine lv_aload_n hx hb d_Mod_region_8 rfl (lv_at hl 0 rfl) ?_
    refine va_get (D := gD G) (ci := 7) (v := .int (iv (kd))) (C := R_Mod) (T := F_Mod) (N := 34) hx hb hw in_Mod hown hK hP 0 rfl rfl 7 (by decide) (hw _ m3_131) (fun _ h => h) rfl d_Mod_region_9 ?_
    refine lv_iconst (v := iv (5)) hx hb d_Mod_region_12 rfl ?_
    refine k_icmp_eq (tgt := 20) hx hb d_Mod_region_13 (by decide) (by omega) (by omega) (fun hc13 => ?_) (fun hc13 => ?_)
    · refine lv_iconst (v := iv (0)) hx hb d_Mod_region_20 rfl ?_
      refine lv_istore hx hb d_Mod_region_21 hl (by decide) rfl (fun ls hl => ?_)
      have hl : lv_has ls 7 [(5, .int (iv (0))), (0, .ref rM), (1, .int (iv (w0))), (2, .int (iv (h0))), (3, .int (iv (ct))), (4, .int (iv (un)))] := hl
      exact hm23 _ _ _ 0 (lv_sub hl [1, 2, 3, 4, 5, 0] rfl) hP hD hS (by first | exact (gain_1 hkd (by omega) (by omega)).symm | exact (gain_0 (by omega)).symm)
    · refine lv_iconst (v := iv (1)) hx hb d_Mod_region_16 rfl ?_
      refine lv_goto (tgt := 21) hx hb d_Mod_region_17 (by decide) ?_
      refine lv_istore hx hb d_Mod_region_21 hl (by decide) rfl (fun ls hl => ?_)
      have hl : lv_has ls 7 [(5, .int (iv (1))), (0, .ref rM), (1, .int (iv (w0))), (2, .int (iv (h0))), (3, .int (iv (ct))), (4, .int (iv (un)))] := hl
      exact hm23 _ _ _ 1 (lv_sub hl [1, 2, 3, 4, 5, 0] rfl) hP hD hS (by first | exact (gain_1 hkd (by omega) (by omega)).symm | exact (gain_0 (by omega)).symm)
