theorem whole_start {p : Program} {e : Env} {s : State} {m : MethodId} {below : List Frame} {meth : Method} {c : Code} (l : Launch) {b L : Nat} {xs : Nat → Int32} (hL : L ≤ 3074) (C0 : lw_At p s m meth c b L xs) : W p l e room_1 s m #[Value.ref b] below meth c s.heap [] 0 0 (lw_Z below #[Value.ref b] s) (entryFrame m ([Value.ref b] : List Value).toArray 4) := by
  obtain ⟨hx, hb, hr, hml, hown, hts, hX, hbl, hlk, hg⟩ := C0
  have hw : ∀ w ∈ wl, w.before #[Value.ref b] s = true := fun w h => hts w (wl_lt h)
  obtain ⟨G, hK⟩ := law_K hw
  have hN : ∀ a : Nat, a < s.heap.size → ¬ (fun q : Nat => s.heap.size ≤ q) a := fun a h q => Nat.not_le.mpr h q
  have hT := law_T (A := fun q : Nat => s.heap.size ≤ q) hts hg hN
  have S : CallFix p m c code 4 s #[Value.ref b] (Cond.initialized "WaveletSlices" :: wl) "WaveletSlicesLaw" := ⟨hx, hb, hml, hown, fun w h => by
    rcases List.mem_cons.mp h with rfl | h
    · exact hw _ m1_1
    · exact hw w h⟩
  have hend : ∀ (ls : Array Slot) (H : Heap) (locs : List Loc), va_S (fun q : Nat => s.heap.size ≤ q) s.heap H locs → W p l e room_1 s m #[Value.ref b] below meth c H locs 39 9205 (lw_Z below #[Value.ref b] s) (F0 m 725 ls []) := by
    intro ls H locs hS
    refine lv_iconst (v := 1) hx hb d_Law_law_725 rfl ?_
    refine va_forget (fun q h => hS.2.2 q h) ?_
    exact lw_ret hx hb hr hlk d_Law_law_726
  rw [lg_entry_eq]
  exact law_body S hK (fun q h => h) hT hX hbl (hN b hbl) hL hend _ (lv_entry [Value.ref b] (n := 4) (Nat.le_of_ble_eq_true rfl))
