
/-! the picture, in both -/
def eqI (wd ht : Int) (f g : Int → Int) : Prop := ∀ j, inZ wd ht j → f j = g j
theorem eqI_up {wd ht : Int} {f g : Int → Int} (h : eqI wd ht f g) (k : Int) {v w : Int} (e : v = w) : eqI wd ht (up f k v) (up g k w) := by
  intro j hj
  subst e
  unfold up
  split
  · rfl
  · exact h j hj
theorem pa_v {x0 y0 x1 y1 v : Int} (hx : 0 ≤ x0 ∧ x1 ≤ 16) (hy : y0 ≤ y1) (hx2 : x0 ≤ x1) (f : Int → Int) (j : Int) : paA x0 y0 x1 y1 v f j = if (y0 ≤ j / 16 ∧ j / 16 < y1) ∧ x0 ≤ j % 16 ∧ j % 16 < x1 then v else f j := by
  have row : ∀ (y : Int) (f : Int → Int) (j : Int), it (fun x f => up f (y * 16 + x) v) x0 x1 f j = if j / 16 = y ∧ x0 ≤ j % 16 ∧ j % 16 < x1 then v else f j := by
    intro y f
    exact it_inv (f := fun x (f : Int → Int) => up f (y * 16 + x) v) (I := fun i (u : Int → Int) => ∀ j, u j = if j / 16 = y ∧ x0 ≤ j % 16 ∧ j % 16 < i then v else f j) (fun j => by rw [if_neg (by omega)]) (fun i u h1 h2 hu j => by
      show up u (y * 16 + i) v j = _
      by_cases e : j = y * 16 + i
      · subst e; rw [up_self, if_pos (by omega)]
      · rw [up_ne _ _ e, hu j]
        by_cases q : j / 16 = y ∧ x0 ≤ j % 16 ∧ j % 16 < i
        · rw [if_pos q, if_pos (by omega)]
        · rw [if_neg q, if_neg (by omega)]) hx2
  refine it_inv (f := fun y (f : Int → Int) => it (fun x f => up f (y * 16 + x) v) x0 x1 f) (I := fun i (u : Int → Int) => ∀ j, u j = if (y0 ≤ j / 16 ∧ j / 16 < i) ∧ x0 ≤ j % 16 ∧ j % 16 < x1 then v else f j) (fun j => by rw [if_neg (by omega)]) (fun y u h1 h2 hu j => ?_) hy j
  show it (fun x f => up f (y * 16 + x) v) x0 x1 u j = _
  rw [row, hu]
  by_cases q : j / 16 = y ∧ x0 ≤ j % 16 ∧ j % 16 < x1
  · rw [if_pos q, if_pos (by omega)]
  · rw [if_neg q]
    by_cases q2 : (y0 ≤ j / 16 ∧ j / 16 < y) ∧ x0 ≤ j % 16 ∧ j % 16 < x1
    · rw [if_pos q2, if_pos (by omega)]
    · rw [if_neg q2, if_neg (by omega)]
theorem pm_v {wd ht x0 y0 x1 y1 v : Int} (hw : wd ≤ 16) (hx : 0 ≤ x0) (hy : y0 ≤ y1) (hx2 : x0 ≤ x1) (f : Int → Int) (j : Int) : pmA wd ht x0 y0 x1 y1 v f j = if (y0 ≤ j / 16 ∧ j / 16 < y1) ∧ (x0 ≤ j % 16 ∧ j % 16 < x1) ∧ (0 ≤ j ∧ j % 16 < wd) ∧ j / 16 < ht then v else f j := by
  have row : ∀ (y : Int) (f : Int → Int) (j : Int), it (fun x f => if ((0 ≤ x ∧ x ≤ wd - 1) ∧ 0 ≤ y ∧ y ≤ ht - 1) then up f (16 * y + x) v else f) x0 x1 f j = if j / 16 = y ∧ (x0 ≤ j % 16 ∧ j % 16 < x1) ∧ (0 ≤ j ∧ j % 16 < wd) ∧ j / 16 < ht then v else f j := by
    intro y f
    exact it_inv (f := fun x (f : Int → Int) => if ((0 ≤ x ∧ x ≤ wd - 1) ∧ 0 ≤ y ∧ y ≤ ht - 1) then up f (16 * y + x) v else f) (I := fun i (u : Int → Int) => ∀ j, u j = if j / 16 = y ∧ (x0 ≤ j % 16 ∧ j % 16 < i) ∧ (0 ≤ j ∧ j % 16 < wd) ∧ j / 16 < ht then v else f j) (fun j => by rw [if_neg (by omega)]) (fun i u h1 h2 hu j => by
      show (if ((0 ≤ i ∧ i ≤ wd - 1) ∧ 0 ≤ y ∧ y ≤ ht - 1) then up u (16 * y + i) v else u) j = _
      by_cases c : ((0 ≤ i ∧ i ≤ wd - 1) ∧ 0 ≤ y ∧ y ≤ ht - 1)
      · rw [if_pos c]
        by_cases e : j = 16 * y + i
        · subst e; rw [up_self, if_pos (by omega)]
        · rw [up_ne _ _ e, hu j]
          by_cases q : j / 16 = y ∧ (x0 ≤ j % 16 ∧ j % 16 < i) ∧ (0 ≤ j ∧ j % 16 < wd) ∧ j / 16 < ht
          · rw [if_pos q, if_pos (by omega)]
          · rw [if_neg q, if_neg (by omega)]
      · rw [if_neg c, hu j]
        by_cases q : j / 16 = y ∧ (x0 ≤ j % 16 ∧ j % 16 < i) ∧ (0 ≤ j ∧ j % 16 < wd) ∧ j / 16 < ht
        · rw [if_pos q, if_pos (by omega)]
        · rw [if_neg q, if_neg (by omega)]) hx2
  refine it_inv (f := fun y (f : Int → Int) => it (fun x f => if ((0 ≤ x ∧ x ≤ wd - 1) ∧ 0 ≤ y ∧ y ≤ ht - 1) then up f (16 * y + x) v else f) x0 x1 f) (I := fun i (u : Int → Int) => ∀ j, u j = if (y0 ≤ j / 16 ∧ j / 16 < i) ∧ (x0 ≤ j % 16 ∧ j % 16 < x1) ∧ (0 ≤ j ∧ j % 16 < wd) ∧ j / 16 < ht then v else f j) (fun j => by rw [if_neg (by omega)]) (fun y u h1 h2 hu j => ?_) hy j
  show it (fun x f => if ((0 ≤ x ∧ x ≤ wd - 1) ∧ 0 ≤ y ∧ y ≤ ht - 1) then up f (16 * y + x) v else f) x0 x1 u j = _
  rw [row, hu]
  by_cases q : j / 16 = y ∧ (x0 ≤ j % 16 ∧ j % 16 < x1) ∧ (0 ≤ j ∧ j % 16 < wd) ∧ j / 16 < ht
  · rw [if_pos q, if_pos (by omega)]
  · rw [if_neg q]
    by_cases q2 : (y0 ≤ j / 16 ∧ j / 16 < y) ∧ (x0 ≤ j % 16 ∧ j % 16 < x1) ∧ (0 ≤ j ∧ j % 16 < wd) ∧ j / 16 < ht
    · rw [if_pos q2, if_pos (by omega)]
    · rw [if_neg q2, if_neg (by omega)]
theorem pa_e {wd ht x0 y0 w0 h0 v : Int} {f g : Int → Int} (hw : 1 ≤ wd ∧ wd ≤ 16) (hh : 1 ≤ ht ∧ ht ≤ 16) (hx : (0 ≤ x0 ∧ x0 ≤ wd - 1) ∧ 0 ≤ y0 ∧ y0 ≤ ht - 1) (hs : 1 ≤ w0 ∧ 1 ≤ h0) (h : eqI wd ht f g) : eqI wd ht (paA x0 y0 (min wd (x0 + w0)) (min ht (y0 + h0)) v f) (pmA wd ht x0 y0 (x0 + w0) (y0 + h0) v g) := by
  intro j hj
  rw [pa_v (by omega) (by omega) (by omega), pm_v (by omega) (by omega) (by omega) (by omega), h j hj]
  by_cases q : (y0 ≤ j / 16 ∧ j / 16 < min ht (y0 + h0)) ∧ x0 ≤ j % 16 ∧ j % 16 < min wd (x0 + w0)
  · rw [if_pos q, if_pos (by omega)]
  · rw [if_neg q, if_neg (by omega)]
theorem so_e {a d wd ht : Int} {f g : Int → Int} (hw : 1 ≤ wd ∧ wd ≤ 16) (hh : 1 ≤ ht ∧ ht ≤ 16) (h : eqI wd ht f g) : eqI wd ht (soA a d wd ht f) (smA a d wd ht g) := by
  refine it_rel h (fun y f g y0 y1 hf => it_rel hf (fun x f g x0 x1 hg => ?_))
  show eqI wd ht (up f (y * 16 + x) _) (up g (16 * y + x) _)
  rw [show 16 * y + x = y * 16 + x by omega]
  exact eqI_up hg _ (by rw [hg (y * 16 + x) (by omega)])
theorem fc_m {wd ht cP cQ : Int} {p1 p2 : Int → Int} {a b : Int → Int64} (hw : 1 ≤ wd ∧ wd ≤ 16) (hh : 1 ≤ ht ∧ ht ≤ 16) (hP : 0 ≤ cP ∧ cP ≤ 16) (hQ : 0 ≤ cQ ∧ cQ ≤ 16) (h : eqI wd ht p1 p2) : eqZ (inZ cP cQ) (fcA wd ht cP cQ p1 a) (fmA wd ht cP cQ p2 b) := by
  have v1 : ∀ (p : Int → Int) (a : Int → Int64) (j : Int), fcA wd ht cP cQ p a j = if inZ cP cQ j then lw (p (min (j / 16) (ht - 1) * 16 + min (j % 16) (wd - 1))) else a j := by
    intro p a j
    rw [← it_rect (F := fun j _ => lw (p (min (j / 16) (ht - 1) * 16 + min (j % 16) (wd - 1)))) hP hQ.1 a j]
    unfold fcA
    refine congrFun ?_ j
    refine it_congr (fun y f y0 y1 => it_congr (fun x f x0 x1 => ?_))
    rw [show (y * 16 + x) / 16 = y by omega, show (y * 16 + x) % 16 = x by omega]
  have v2 : ∀ (p : Int → Int) (a : Int → Int64), fmA wd ht cP cQ p a = fcA wd ht cP cQ p a := by
    intro p a
    refine it_congr (fun y f y0 y1 => it_congr (fun x f x0 x1 => ?_))
    rw [show 16 * y + x = y * 16 + x by omega]
  intro j hj
  rw [v2, v1, v1, if_pos hj, if_pos hj, h _ (by omega)]
theorem fc_b {wd ht cP cQ : Int} {p : Int → Int} {b : Int → Int64} (hP : 0 ≤ cP ∧ cP ≤ 16) (hQ : 0 ≤ cQ ∧ cQ ≤ 16) (h : ∀ j, -128 ≤ p j ∧ p j ≤ 127) : bdZ (inZ cP cQ) 128 (fmA wd ht cP cQ p b) := by
  intro j hj
  have v2 : fmA wd ht cP cQ p b j = if inZ cP cQ j then lw (p (min (j / 16) (ht - 1) * 16 + min (j % 16) (wd - 1))) else b j := by
    rw [← it_rect (F := fun j _ => lw (p (min (j / 16) (ht - 1) * 16 + min (j % 16) (wd - 1)))) hP hQ.1 b j]
    unfold fmA
    refine congrFun ?_ j
    refine it_congr (fun y f y0 y1 => it_congr (fun x f x0 x1 => ?_))
    rw [show (y * 16 + x) / 16 = y by omega, show (y * 16 + x) % 16 = x by omega, show 16 * y + x = y * 16 + x by omega]
  rw [v2, if_pos hj]
  have := h (min (j / 16) (ht - 1) * 16 + min (j % 16) (wd - 1))
  unfold bd
  rw [lw_toInt ⟨by omega, by omega⟩]
  omega
/-- the picture that is read, how many samples differ, what is kept -/
theorem mr_v {w h : Int} {a : Int → Int64} {k : Int → Int} (hw : 0 ≤ w ∧ w ≤ 16) (hh : 0 ≤ h) (j : Int) : mrA w h a k j = if inZ w h j then clp (a j).toInt else k j := it_rect (F := fun j _ => clp (a j).toInt) hw hh k j
theorem kp_v {cP cQ : Int} {v kk : Int → Int64} {j : Int} (hj : inZ cP cQ j) (hP : cP ≤ 16) (hQ : cQ ≤ 16) : it (kpf cP cQ v) 0 256 kk j = v j := by
  have := it_map (F := fun i (_ : Int64) => if inC cP cQ i then v i else 0) (a := 0) (b := 256) (by omega) kk j
  rw [if_pos (by omega)] at this
  try dsimp only at this
  rw [if_pos (by omega)] at this
  exact this
theorem dp_e {wd ht cP cQ db ew kd : Int} {krc gv a0 ge go gg ge2 go2 kk : Int → Int64} {krp kb p1 p2 : Int → Int} (hk : 0 ≤ kd ∧ kd ≤ 6) (hd : 0 ≤ db ∧ 0 ≤ ew) (hw : 1 ≤ wd ∧ wd ≤ cP) (hh : 1 ≤ ht ∧ ht ≤ cQ) (hP : cP ≤ 16) (hQ : cQ ≤ 16) (h : eqZ (inZ cP cQ) krc gv) (hp : eqI wd ht p1 p2) :
    (eqZ (inZ cP cQ) krc (it (kpf cP cQ gv) 0 256 kk)) ∧ (eqI wd ht (mrA wd ht (bwA cP cQ db ew kd (cpL krc a0, ge, go)).1 krp) (it (bkf wd ht (bmW cP cQ db ew kd (it (kpf cP cQ gv) 0 256 gg, ge2, go2)).1) 0 256 kb)) ∧ ccA (mrA wd ht (bwA cP cQ db ew kd (cpL krc a0, ge, go)).1 krp) p1 wd ht = it (cmf wd ht (bmW cP cQ db ew kd (it (kpf cP cQ gv) 0 256 gg, ge2, go2)).1 p2) 0 256 0 := by
  have e0 : eqZ (inZ cP cQ) (cpL krc a0) (it (kpf cP cQ gv) 0 256 gg) := by
    intro j hj
    rw [kp_v hj hP hQ]
    unfold cpL
    rw [if_pos (by omega)]
    exact h j hj
  have e1 := bw_e (db := db) (ew := ew) (kd := kd) (x := (cpL krc a0, ge, go)) (y := (it (kpf cP cQ gv) 0 256 gg, ge2, go2)) hk (by omega) (by omega) hd e0
  obtain ⟨A, hA⟩ : ∃ A, A = (bwA cP cQ db ew kd (cpL krc a0, ge, go)).1 := ⟨_, rfl⟩
  obtain ⟨B, hB⟩ : ∃ B, B = (bmW cP cQ db ew kd (it (kpf cP cQ gv) 0 256 gg, ge2, go2)).1 := ⟨_, rfl⟩
  rw [← hA, ← hB] at e1 ⊢
  refine ⟨fun j hj => by rw [kp_v hj hP hQ]; exact h j hj, fun j hj => ?_, ?_⟩
  · have := it_map (F := fun i (_ : Int) => if inC wd ht i then clp (B i).toInt else 0) (a := 0) (b := 256) (by omega) kb j
    rw [if_pos (by omega)] at this
    try dsimp only at this
    rw [if_pos (by omega)] at this
    rw [mr_v (by omega) (by omega), if_pos hj, e1 j (by omega)]
    exact this.symm
  · have s := sum_rect (F := fun j => if mrA wd ht A krp j = p1 j then 0 else 1) (w := wd) (h := ht) (by omega) (by omega)
    have c1 : ccA (mrA wd ht A krp) p1 wd ht = it (fun y c => it (fun x c => c + (if mrA wd ht A krp (y * 16 + x) = p1 (y * 16 + x) then 0 else 1)) 0 wd c) 0 ht 0 := by
      refine it_congr (fun y c y0 y1 => it_congr (fun x c x0 x1 => ?_))
      split <;> omega
    rw [c1, s]
    refine it_congr (fun j c j0 j1 => ?_)
    unfold cmf
    by_cases q : inC wd ht j
    · rw [if_pos q, mr_v (by omega) (by omega), if_pos (show inZ wd ht j by omega), e1 j (by omega), hp j (by omega)]
      by_cases r : clp (B j).toInt = p2 j
      · rw [if_pos r, if_neg (fun w => w.2 r)]
      · rw [if_neg r, if_pos ⟨q, r⟩]
    · rw [if_neg q, if_neg (fun w => q w.1)]
theorem er_e {wd ht : Int} {krp kb p1 p2 : Int → Int} (hw : 1 ≤ wd ∧ wd ≤ 16) (hh : 1 ≤ ht ∧ ht ≤ 16) (h : eqI wd ht krp kb) (hp : eqI wd ht p1 p2) : erA krp p1 wd ht = it (erM wd ht kb p2) 0 256 0 := by
  have s := sum_rect (F := fun j => (krp j - p1 j) * (krp j - p1 j)) (w := wd) (h := ht) (by omega) (by omega)
  unfold erA
  rw [s]
  refine it_congr (fun j c j0 j1 => ?_)
  unfold erM
  by_cases q : inC wd ht j
  · rw [if_pos q, if_pos q, h j (by omega), hp j (by omega)]
  · rw [if_neg q, if_neg q]; omega

