
/-! the bands fill the region -/
theorem cov {cP cQ db ew q : Int} (h : 0 ≤ db ∧ db ≤ 2 ∧ 0 ≤ ew ∧ ew ≤ 2 ∧ db + ew ≤ 3) (hP : cP % 2 ^ (db + ew).toNat = 0 ∧ cP ≤ 16) (hQ : cQ % 2 ^ db.toNat = 0) (hq : inZ cP cQ q) : ∃ b, (0 ≤ b ∧ b < nBd db ew) ∧ ∃ x y, (0 ≤ x ∧ x < bWd cP db ew b) ∧ (0 ≤ y ∧ y < bHt cQ db ew b) ∧ q = (bTp cQ db ew b + y) * 16 + bLf cP db ew b + x := by
  rcases de_c h with ⟨rfl, rfl⟩ | ⟨rfl, rfl⟩ | ⟨rfl, rfl⟩ | ⟨rfl, rfl⟩ | ⟨rfl, rfl⟩ | ⟨rfl, rfl⟩ | ⟨rfl, rfl⟩ | ⟨rfl, rfl⟩
  · have e1 : cP % 1 = 0 := hP.1
    have e2 : cQ % 1 = 0 := hQ
    rcases (show ((0 ≤ q % 16 ∧ q % 16 < 0 + cP / 1) ∧ 0 ≤ q / 16 ∧ q / 16 < 0 + cQ / 1) by omega) with c
    · have w1 : bWd cP 0 0 0 = cP / 1 := rfl
      have w2 : bHt cQ 0 0 0 = cQ / 1 := rfl
      have w3 : bLf cP 0 0 0 = (0 : Int) := rfl
      have w4 : bTp cQ 0 0 0 = (0 : Int) := rfl
      exact ⟨0, by decide, q % 16 - (0 : Int), q / 16 - (0 : Int), by rw [w1]; omega, by rw [w2]; omega, by rw [w3, w4]; omega⟩
  · have e1 : cP % 2 = 0 := hP.1
    have e2 : cQ % 1 = 0 := hQ
    rcases (show ((0 ≤ q % 16 ∧ q % 16 < 0 + cP / 2) ∧ 0 ≤ q / 16 ∧ q / 16 < 0 + cQ / 1) ∨ ((cP / 2 ≤ q % 16 ∧ q % 16 < cP / 2 + cP / 2) ∧ 0 ≤ q / 16 ∧ q / 16 < 0 + cQ / 1) by omega) with c | c
    · have w1 : bWd cP 0 1 0 = cP / 2 := rfl
      have w2 : bHt cQ 0 1 0 = cQ / 1 := rfl
      have w3 : bLf cP 0 1 0 = (0 : Int) := rfl
      have w4 : bTp cQ 0 1 0 = (0 : Int) := rfl
      exact ⟨0, by decide, q % 16 - (0 : Int), q / 16 - (0 : Int), by rw [w1]; omega, by rw [w2]; omega, by rw [w3, w4]; omega⟩
    · have w1 : bWd cP 0 1 1 = cP / 2 := rfl
      have w2 : bHt cQ 0 1 1 = cQ / 1 := rfl
      have w3 : bLf cP 0 1 1 = cP / 2 := rfl
      have w4 : bTp cQ 0 1 1 = (0 : Int) := rfl
      exact ⟨1, by decide, q % 16 - cP / 2, q / 16 - (0 : Int), by rw [w1]; omega, by rw [w2]; omega, by rw [w3, w4]; omega⟩
  · have e1 : cP % 4 = 0 := hP.1
    have e2 : cQ % 1 = 0 := hQ
    rcases (show ((0 ≤ q % 16 ∧ q % 16 < 0 + cP / 4) ∧ 0 ≤ q / 16 ∧ q / 16 < 0 + cQ / 1) ∨ ((cP / 4 ≤ q % 16 ∧ q % 16 < cP / 4 + cP / 4) ∧ 0 ≤ q / 16 ∧ q / 16 < 0 + cQ / 1) ∨ ((cP / 2 ≤ q % 16 ∧ q % 16 < cP / 2 + cP / 2) ∧ 0 ≤ q / 16 ∧ q / 16 < 0 + cQ / 1) by omega) with c | c | c
    · have w1 : bWd cP 0 2 0 = cP / 4 := rfl
      have w2 : bHt cQ 0 2 0 = cQ / 1 := rfl
      have w3 : bLf cP 0 2 0 = (0 : Int) := rfl
      have w4 : bTp cQ 0 2 0 = (0 : Int) := rfl
      exact ⟨0, by decide, q % 16 - (0 : Int), q / 16 - (0 : Int), by rw [w1]; omega, by rw [w2]; omega, by rw [w3, w4]; omega⟩
    · have w1 : bWd cP 0 2 1 = cP / 4 := rfl
      have w2 : bHt cQ 0 2 1 = cQ / 1 := rfl
      have w3 : bLf cP 0 2 1 = cP / 4 := rfl
      have w4 : bTp cQ 0 2 1 = (0 : Int) := rfl
      exact ⟨1, by decide, q % 16 - cP / 4, q / 16 - (0 : Int), by rw [w1]; omega, by rw [w2]; omega, by rw [w3, w4]; omega⟩
    · have w1 : bWd cP 0 2 2 = cP / 2 := rfl
      have w2 : bHt cQ 0 2 2 = cQ / 1 := rfl
      have w3 : bLf cP 0 2 2 = cP / 2 := rfl
      have w4 : bTp cQ 0 2 2 = (0 : Int) := rfl
      exact ⟨2, by decide, q % 16 - cP / 2, q / 16 - (0 : Int), by rw [w1]; omega, by rw [w2]; omega, by rw [w3, w4]; omega⟩
  · have e1 : cP % 2 = 0 := hP.1
    have e2 : cQ % 2 = 0 := hQ
    rcases (show ((0 ≤ q % 16 ∧ q % 16 < 0 + cP / 2) ∧ 0 ≤ q / 16 ∧ q / 16 < 0 + cQ / 2) ∨ ((cP / 2 ≤ q % 16 ∧ q % 16 < cP / 2 + cP / 2) ∧ 0 ≤ q / 16 ∧ q / 16 < 0 + cQ / 2) ∨ ((0 ≤ q % 16 ∧ q % 16 < 0 + cP / 2) ∧ cQ / 2 ≤ q / 16 ∧ q / 16 < cQ / 2 + cQ / 2) ∨ ((cP / 2 ≤ q % 16 ∧ q % 16 < cP / 2 + cP / 2) ∧ cQ / 2 ≤ q / 16 ∧ q / 16 < cQ / 2 + cQ / 2) by omega) with c | c | c | c
    · have w1 : bWd cP 1 0 0 = cP / 2 := rfl
      have w2 : bHt cQ 1 0 0 = cQ / 2 := rfl
      have w3 : bLf cP 1 0 0 = (0 : Int) := rfl
      have w4 : bTp cQ 1 0 0 = (0 : Int) := rfl
      exact ⟨0, by decide, q % 16 - (0 : Int), q / 16 - (0 : Int), by rw [w1]; omega, by rw [w2]; omega, by rw [w3, w4]; omega⟩
    · have w1 : bWd cP 1 0 1 = cP / 2 := rfl
      have w2 : bHt cQ 1 0 1 = cQ / 2 := rfl
      have w3 : bLf cP 1 0 1 = cP / 2 := rfl
      have w4 : bTp cQ 1 0 1 = (0 : Int) := rfl
      exact ⟨1, by decide, q % 16 - cP / 2, q / 16 - (0 : Int), by rw [w1]; omega, by rw [w2]; omega, by rw [w3, w4]; omega⟩
    · have w1 : bWd cP 1 0 2 = cP / 2 := rfl
      have w2 : bHt cQ 1 0 2 = cQ / 2 := rfl
      have w3 : bLf cP 1 0 2 = (0 : Int) := rfl
      have w4 : bTp cQ 1 0 2 = cQ / 2 := rfl
      exact ⟨2, by decide, q % 16 - (0 : Int), q / 16 - cQ / 2, by rw [w1]; omega, by rw [w2]; omega, by rw [w3, w4]; omega⟩
    · have w1 : bWd cP 1 0 3 = cP / 2 := rfl
      have w2 : bHt cQ 1 0 3 = cQ / 2 := rfl
      have w3 : bLf cP 1 0 3 = cP / 2 := rfl
      have w4 : bTp cQ 1 0 3 = cQ / 2 := rfl
      exact ⟨3, by decide, q % 16 - cP / 2, q / 16 - cQ / 2, by rw [w1]; omega, by rw [w2]; omega, by rw [w3, w4]; omega⟩
  · have e1 : cP % 4 = 0 := hP.1
    have e2 : cQ % 2 = 0 := hQ
    rcases (show ((0 ≤ q % 16 ∧ q % 16 < 0 + cP / 4) ∧ 0 ≤ q / 16 ∧ q / 16 < 0 + cQ / 2) ∨ ((cP / 4 ≤ q % 16 ∧ q % 16 < cP / 4 + cP / 4) ∧ 0 ≤ q / 16 ∧ q / 16 < 0 + cQ / 2) ∨ ((cP / 2 ≤ q % 16 ∧ q % 16 < cP / 2 + cP / 2) ∧ 0 ≤ q / 16 ∧ q / 16 < 0 + cQ / 2) ∨ ((0 ≤ q % 16 ∧ q % 16 < 0 + cP / 2) ∧ cQ / 2 ≤ q / 16 ∧ q / 16 < cQ / 2 + cQ / 2) ∨ ((cP / 2 ≤ q % 16 ∧ q % 16 < cP / 2 + cP / 2) ∧ cQ / 2 ≤ q / 16 ∧ q / 16 < cQ / 2 + cQ / 2) by omega) with c | c | c | c | c
    · have w1 : bWd cP 1 1 0 = cP / 4 := rfl
      have w2 : bHt cQ 1 1 0 = cQ / 2 := rfl
      have w3 : bLf cP 1 1 0 = (0 : Int) := rfl
      have w4 : bTp cQ 1 1 0 = (0 : Int) := rfl
      exact ⟨0, by decide, q % 16 - (0 : Int), q / 16 - (0 : Int), by rw [w1]; omega, by rw [w2]; omega, by rw [w3, w4]; omega⟩
    · have w1 : bWd cP 1 1 1 = cP / 4 := rfl
      have w2 : bHt cQ 1 1 1 = cQ / 2 := rfl
      have w3 : bLf cP 1 1 1 = cP / 4 := rfl
      have w4 : bTp cQ 1 1 1 = (0 : Int) := rfl
      exact ⟨1, by decide, q % 16 - cP / 4, q / 16 - (0 : Int), by rw [w1]; omega, by rw [w2]; omega, by rw [w3, w4]; omega⟩
    · have w1 : bWd cP 1 1 2 = cP / 2 := rfl
      have w2 : bHt cQ 1 1 2 = cQ / 2 := rfl
      have w3 : bLf cP 1 1 2 = cP / 2 := rfl
      have w4 : bTp cQ 1 1 2 = (0 : Int) := rfl
      exact ⟨2, by decide, q % 16 - cP / 2, q / 16 - (0 : Int), by rw [w1]; omega, by rw [w2]; omega, by rw [w3, w4]; omega⟩
    · have w1 : bWd cP 1 1 3 = cP / 2 := rfl
      have w2 : bHt cQ 1 1 3 = cQ / 2 := rfl
      have w3 : bLf cP 1 1 3 = (0 : Int) := rfl
      have w4 : bTp cQ 1 1 3 = cQ / 2 := rfl
      exact ⟨3, by decide, q % 16 - (0 : Int), q / 16 - cQ / 2, by rw [w1]; omega, by rw [w2]; omega, by rw [w3, w4]; omega⟩
    · have w1 : bWd cP 1 1 4 = cP / 2 := rfl
      have w2 : bHt cQ 1 1 4 = cQ / 2 := rfl
      have w3 : bLf cP 1 1 4 = cP / 2 := rfl
      have w4 : bTp cQ 1 1 4 = cQ / 2 := rfl
      exact ⟨4, by decide, q % 16 - cP / 2, q / 16 - cQ / 2, by rw [w1]; omega, by rw [w2]; omega, by rw [w3, w4]; omega⟩
  · have e1 : cP % 8 = 0 := hP.1
    have e2 : cQ % 2 = 0 := hQ
    rcases (show ((0 ≤ q % 16 ∧ q % 16 < 0 + cP / 8) ∧ 0 ≤ q / 16 ∧ q / 16 < 0 + cQ / 2) ∨ ((cP / 8 ≤ q % 16 ∧ q % 16 < cP / 8 + cP / 8) ∧ 0 ≤ q / 16 ∧ q / 16 < 0 + cQ / 2) ∨ ((cP / 4 ≤ q % 16 ∧ q % 16 < cP / 4 + cP / 4) ∧ 0 ≤ q / 16 ∧ q / 16 < 0 + cQ / 2) ∨ ((cP / 2 ≤ q % 16 ∧ q % 16 < cP / 2 + cP / 2) ∧ 0 ≤ q / 16 ∧ q / 16 < 0 + cQ / 2) ∨ ((0 ≤ q % 16 ∧ q % 16 < 0 + cP / 2) ∧ cQ / 2 ≤ q / 16 ∧ q / 16 < cQ / 2 + cQ / 2) ∨ ((cP / 2 ≤ q % 16 ∧ q % 16 < cP / 2 + cP / 2) ∧ cQ / 2 ≤ q / 16 ∧ q / 16 < cQ / 2 + cQ / 2) by omega) with c | c | c | c | c | c
    · have w1 : bWd cP 1 2 0 = cP / 8 := rfl
      have w2 : bHt cQ 1 2 0 = cQ / 2 := rfl
      have w3 : bLf cP 1 2 0 = (0 : Int) := rfl
      have w4 : bTp cQ 1 2 0 = (0 : Int) := rfl
      exact ⟨0, by decide, q % 16 - (0 : Int), q / 16 - (0 : Int), by rw [w1]; omega, by rw [w2]; omega, by rw [w3, w4]; omega⟩
    · have w1 : bWd cP 1 2 1 = cP / 8 := rfl
      have w2 : bHt cQ 1 2 1 = cQ / 2 := rfl
      have w3 : bLf cP 1 2 1 = cP / 8 := rfl
      have w4 : bTp cQ 1 2 1 = (0 : Int) := rfl
      exact ⟨1, by decide, q % 16 - cP / 8, q / 16 - (0 : Int), by rw [w1]; omega, by rw [w2]; omega, by rw [w3, w4]; omega⟩
    · have w1 : bWd cP 1 2 2 = cP / 4 := rfl
      have w2 : bHt cQ 1 2 2 = cQ / 2 := rfl
      have w3 : bLf cP 1 2 2 = cP / 4 := rfl
      have w4 : bTp cQ 1 2 2 = (0 : Int) := rfl
      exact ⟨2, by decide, q % 16 - cP / 4, q / 16 - (0 : Int), by rw [w1]; omega, by rw [w2]; omega, by rw [w3, w4]; omega⟩
    · have w1 : bWd cP 1 2 3 = cP / 2 := rfl
      have w2 : bHt cQ 1 2 3 = cQ / 2 := rfl
      have w3 : bLf cP 1 2 3 = cP / 2 := rfl
      have w4 : bTp cQ 1 2 3 = (0 : Int) := rfl
      exact ⟨3, by decide, q % 16 - cP / 2, q / 16 - (0 : Int), by rw [w1]; omega, by rw [w2]; omega, by rw [w3, w4]; omega⟩
    · have w1 : bWd cP 1 2 4 = cP / 2 := rfl
      have w2 : bHt cQ 1 2 4 = cQ / 2 := rfl
      have w3 : bLf cP 1 2 4 = (0 : Int) := rfl
      have w4 : bTp cQ 1 2 4 = cQ / 2 := rfl
      exact ⟨4, by decide, q % 16 - (0 : Int), q / 16 - cQ / 2, by rw [w1]; omega, by rw [w2]; omega, by rw [w3, w4]; omega⟩
    · have w1 : bWd cP 1 2 5 = cP / 2 := rfl
      have w2 : bHt cQ 1 2 5 = cQ / 2 := rfl
      have w3 : bLf cP 1 2 5 = cP / 2 := rfl
      have w4 : bTp cQ 1 2 5 = cQ / 2 := rfl
      exact ⟨5, by decide, q % 16 - cP / 2, q / 16 - cQ / 2, by rw [w1]; omega, by rw [w2]; omega, by rw [w3, w4]; omega⟩
  · have e1 : cP % 4 = 0 := hP.1
    have e2 : cQ % 4 = 0 := hQ
    rcases (show ((0 ≤ q % 16 ∧ q % 16 < 0 + cP / 4) ∧ 0 ≤ q / 16 ∧ q / 16 < 0 + cQ / 4) ∨ ((cP / 4 ≤ q % 16 ∧ q % 16 < cP / 4 + cP / 4) ∧ 0 ≤ q / 16 ∧ q / 16 < 0 + cQ / 4) ∨ ((0 ≤ q % 16 ∧ q % 16 < 0 + cP / 4) ∧ cQ / 4 ≤ q / 16 ∧ q / 16 < cQ / 4 + cQ / 4) ∨ ((cP / 4 ≤ q % 16 ∧ q % 16 < cP / 4 + cP / 4) ∧ cQ / 4 ≤ q / 16 ∧ q / 16 < cQ / 4 + cQ / 4) ∨ ((cP / 2 ≤ q % 16 ∧ q % 16 < cP / 2 + cP / 2) ∧ 0 ≤ q / 16 ∧ q / 16 < 0 + cQ / 2) ∨ ((0 ≤ q % 16 ∧ q % 16 < 0 + cP / 2) ∧ cQ / 2 ≤ q / 16 ∧ q / 16 < cQ / 2 + cQ / 2) ∨ ((cP / 2 ≤ q % 16 ∧ q % 16 < cP / 2 + cP / 2) ∧ cQ / 2 ≤ q / 16 ∧ q / 16 < cQ / 2 + cQ / 2) by omega) with c | c | c | c | c | c | c
    · have w1 : bWd cP 2 0 0 = cP / 4 := rfl
      have w2 : bHt cQ 2 0 0 = cQ / 4 := rfl
      have w3 : bLf cP 2 0 0 = (0 : Int) := rfl
      have w4 : bTp cQ 2 0 0 = (0 : Int) := rfl
      exact ⟨0, by decide, q % 16 - (0 : Int), q / 16 - (0 : Int), by rw [w1]; omega, by rw [w2]; omega, by rw [w3, w4]; omega⟩
    · have w1 : bWd cP 2 0 1 = cP / 4 := rfl
      have w2 : bHt cQ 2 0 1 = cQ / 4 := rfl
      have w3 : bLf cP 2 0 1 = cP / 4 := rfl
      have w4 : bTp cQ 2 0 1 = (0 : Int) := rfl
      exact ⟨1, by decide, q % 16 - cP / 4, q / 16 - (0 : Int), by rw [w1]; omega, by rw [w2]; omega, by rw [w3, w4]; omega⟩
    · have w1 : bWd cP 2 0 2 = cP / 4 := rfl
      have w2 : bHt cQ 2 0 2 = cQ / 4 := rfl
      have w3 : bLf cP 2 0 2 = (0 : Int) := rfl
      have w4 : bTp cQ 2 0 2 = cQ / 4 := rfl
      exact ⟨2, by decide, q % 16 - (0 : Int), q / 16 - cQ / 4, by rw [w1]; omega, by rw [w2]; omega, by rw [w3, w4]; omega⟩
    · have w1 : bWd cP 2 0 3 = cP / 4 := rfl
      have w2 : bHt cQ 2 0 3 = cQ / 4 := rfl
      have w3 : bLf cP 2 0 3 = cP / 4 := rfl
      have w4 : bTp cQ 2 0 3 = cQ / 4 := rfl
      exact ⟨3, by decide, q % 16 - cP / 4, q / 16 - cQ / 4, by rw [w1]; omega, by rw [w2]; omega, by rw [w3, w4]; omega⟩
    · have w1 : bWd cP 2 0 4 = cP / 2 := rfl
      have w2 : bHt cQ 2 0 4 = cQ / 2 := rfl
      have w3 : bLf cP 2 0 4 = cP / 2 := rfl
      have w4 : bTp cQ 2 0 4 = (0 : Int) := rfl
      exact ⟨4, by decide, q % 16 - cP / 2, q / 16 - (0 : Int), by rw [w1]; omega, by rw [w2]; omega, by rw [w3, w4]; omega⟩
    · have w1 : bWd cP 2 0 5 = cP / 2 := rfl
      have w2 : bHt cQ 2 0 5 = cQ / 2 := rfl
      have w3 : bLf cP 2 0 5 = (0 : Int) := rfl
      have w4 : bTp cQ 2 0 5 = cQ / 2 := rfl
      exact ⟨5, by decide, q % 16 - (0 : Int), q / 16 - cQ / 2, by rw [w1]; omega, by rw [w2]; omega, by rw [w3, w4]; omega⟩
    · have w1 : bWd cP 2 0 6 = cP / 2 := rfl
      have w2 : bHt cQ 2 0 6 = cQ / 2 := rfl
      have w3 : bLf cP 2 0 6 = cP / 2 := rfl
      have w4 : bTp cQ 2 0 6 = cQ / 2 := rfl
      exact ⟨6, by decide, q % 16 - cP / 2, q / 16 - cQ / 2, by rw [w1]; omega, by rw [w2]; omega, by rw [w3, w4]; omega⟩
  · have e1 : cP % 8 = 0 := hP.1
    have e2 : cQ % 4 = 0 := hQ
    rcases (show ((0 ≤ q % 16 ∧ q % 16 < 0 + cP / 8) ∧ 0 ≤ q / 16 ∧ q / 16 < 0 + cQ / 4) ∨ ((cP / 8 ≤ q % 16 ∧ q % 16 < cP / 8 + cP / 8) ∧ 0 ≤ q / 16 ∧ q / 16 < 0 + cQ / 4) ∨ ((cP / 4 ≤ q % 16 ∧ q % 16 < cP / 4 + cP / 4) ∧ 0 ≤ q / 16 ∧ q / 16 < 0 + cQ / 4) ∨ ((0 ≤ q % 16 ∧ q % 16 < 0 + cP / 4) ∧ cQ / 4 ≤ q / 16 ∧ q / 16 < cQ / 4 + cQ / 4) ∨ ((cP / 4 ≤ q % 16 ∧ q % 16 < cP / 4 + cP / 4) ∧ cQ / 4 ≤ q / 16 ∧ q / 16 < cQ / 4 + cQ / 4) ∨ ((cP / 2 ≤ q % 16 ∧ q % 16 < cP / 2 + cP / 2) ∧ 0 ≤ q / 16 ∧ q / 16 < 0 + cQ / 2) ∨ ((0 ≤ q % 16 ∧ q % 16 < 0 + cP / 2) ∧ cQ / 2 ≤ q / 16 ∧ q / 16 < cQ / 2 + cQ / 2) ∨ ((cP / 2 ≤ q % 16 ∧ q % 16 < cP / 2 + cP / 2) ∧ cQ / 2 ≤ q / 16 ∧ q / 16 < cQ / 2 + cQ / 2) by omega) with c | c | c | c | c | c | c | c
    · have w1 : bWd cP 2 1 0 = cP / 8 := rfl
      have w2 : bHt cQ 2 1 0 = cQ / 4 := rfl
      have w3 : bLf cP 2 1 0 = (0 : Int) := rfl
      have w4 : bTp cQ 2 1 0 = (0 : Int) := rfl
      exact ⟨0, by decide, q % 16 - (0 : Int), q / 16 - (0 : Int), by rw [w1]; omega, by rw [w2]; omega, by rw [w3, w4]; omega⟩
    · have w1 : bWd cP 2 1 1 = cP / 8 := rfl
      have w2 : bHt cQ 2 1 1 = cQ / 4 := rfl
      have w3 : bLf cP 2 1 1 = cP / 8 := rfl
      have w4 : bTp cQ 2 1 1 = (0 : Int) := rfl
      exact ⟨1, by decide, q % 16 - cP / 8, q / 16 - (0 : Int), by rw [w1]; omega, by rw [w2]; omega, by rw [w3, w4]; omega⟩
    · have w1 : bWd cP 2 1 2 = cP / 4 := rfl
      have w2 : bHt cQ 2 1 2 = cQ / 4 := rfl
      have w3 : bLf cP 2 1 2 = cP / 4 := rfl
      have w4 : bTp cQ 2 1 2 = (0 : Int) := rfl
      exact ⟨2, by decide, q % 16 - cP / 4, q / 16 - (0 : Int), by rw [w1]; omega, by rw [w2]; omega, by rw [w3, w4]; omega⟩
    · have w1 : bWd cP 2 1 3 = cP / 4 := rfl
      have w2 : bHt cQ 2 1 3 = cQ / 4 := rfl
      have w3 : bLf cP 2 1 3 = (0 : Int) := rfl
      have w4 : bTp cQ 2 1 3 = cQ / 4 := rfl
      exact ⟨3, by decide, q % 16 - (0 : Int), q / 16 - cQ / 4, by rw [w1]; omega, by rw [w2]; omega, by rw [w3, w4]; omega⟩
    · have w1 : bWd cP 2 1 4 = cP / 4 := rfl
      have w2 : bHt cQ 2 1 4 = cQ / 4 := rfl
      have w3 : bLf cP 2 1 4 = cP / 4 := rfl
      have w4 : bTp cQ 2 1 4 = cQ / 4 := rfl
      exact ⟨4, by decide, q % 16 - cP / 4, q / 16 - cQ / 4, by rw [w1]; omega, by rw [w2]; omega, by rw [w3, w4]; omega⟩
    · have w1 : bWd cP 2 1 5 = cP / 2 := rfl
      have w2 : bHt cQ 2 1 5 = cQ / 2 := rfl
      have w3 : bLf cP 2 1 5 = cP / 2 := rfl
      have w4 : bTp cQ 2 1 5 = (0 : Int) := rfl
      exact ⟨5, by decide, q % 16 - cP / 2, q / 16 - (0 : Int), by rw [w1]; omega, by rw [w2]; omega, by rw [w3, w4]; omega⟩
    · have w1 : bWd cP 2 1 6 = cP / 2 := rfl
      have w2 : bHt cQ 2 1 6 = cQ / 2 := rfl
      have w3 : bLf cP 2 1 6 = (0 : Int) := rfl
      have w4 : bTp cQ 2 1 6 = cQ / 2 := rfl
      exact ⟨6, by decide, q % 16 - (0 : Int), q / 16 - cQ / 2, by rw [w1]; omega, by rw [w2]; omega, by rw [w3, w4]; omega⟩
    · have w1 : bWd cP 2 1 7 = cP / 2 := rfl
      have w2 : bHt cQ 2 1 7 = cQ / 2 := rfl
      have w3 : bLf cP 2 1 7 = cP / 2 := rfl
      have w4 : bTp cQ 2 1 7 = cQ / 2 := rfl
      exact ⟨7, by decide, q % 16 - cP / 2, q / 16 - cQ / 2, by rw [w1]; omega, by rw [w2]; omega, by rw [w3, w4]; omega⟩
theorem lmI_m {v : Int} {k : Nat} (n : Int) (hn : n = 2 ^ k) : lmI v n % 2 ^ k = 0 := by
  unfold lmI
  rw [hn]
  exact Int.mul_emod_left _ _
theorem sBy_m {nu de s t : Int} (hok : okR nu de) (h : s ≤ t) : sBy nu de s ≤ sBy nu de t := by
  unfold sBy
  have h1 : s * nu ≤ t * nu := Int.mul_le_mul_of_nonneg_right h (by have := hok.1; have := hok.2.2.1; omega)
  exact Int.ediv_le_ediv (by have := hok.1; omega) h1
/-- the streams, as far as they go -/
def sameT (g1 g2 : Int → Int) (n : Int) : Prop := ∀ j, 0 ≤ j → j < n → g1 j % 256 = g2 j % 256
theorem same_s {g1 g2 : Int → Int} {nu de s n : Int} (hok : okR nu de) (h : sameT g1 g2 (sBy nu de n)) (hs : 0 ≤ s ∧ s < 16) (hn : s < n) : sameB g1 g2 (sBy nu de s) (8 * sBy nu de (s + 1) - 8 * sBy nu de s) := by
  intro j j0 j1
  have q1 := sBy_r hok (s := s) (by omega)
  have q2 := sBy_m hok (s := s + 1) (t := n) (by omega)
  exact h j (by omega) (by omega)
/-- what the class's rows say of slice s, beside the reference's list -/
theorem sl_2 {cP cQ db ew ac dn s : Int} {gf gp gb : Int → Int} (hS : okS cP cQ db ew ac dn gf gp gb) (hs : 0 ≤ s ∧ s < ac * dn) (hP : 0 ≤ cP ∧ cP ≤ 16) (hQ : 0 ≤ cQ ∧ cQ ≤ 16) (h : 0 ≤ db ∧ db ≤ 2 ∧ 0 ≤ ew ∧ ew ≤ 2 ∧ db + ew ≤ 3) (ha : 1 ≤ ac ∧ ac ≤ 4) (hd : 1 ≤ dn ∧ dn ≤ 4) : gf (s + 1) = gf s + (lsS cP cQ db ew ac dn s).1 ∧ 0 ≤ (lsS cP cQ db ew ac dn s).1 ∧ (∀ k, 0 ≤ k → k < (lsS cP cQ db ew ac dn s).1 → gp (gf s + k) = (lsS cP cQ db ew ac dn s).2.1 k ∧ gb (gf s + k) = (lsS cP cQ db ew ac dn s).2.2 k) ∧ (∀ k, 0 ≤ k → k < (lsS cP cQ db ew ac dn s).1 → 0 ≤ (lsS cP cQ db ew ac dn s).2.1 k ∧ 0 ≤ (lsS cP cQ db ew ac dn s).2.2 k ∧ (lsS cP cQ db ew ac dn s).2.2 k < 8) ∧ ordL (K0 cP cQ db ew ac dn s) (lsS cP cQ db ew ac dn s).1 (lsS cP cQ db ew ac dn s).2.1 (lsS cP cQ db ew ac dn s).2.2 := by
  obtain ⟨⟨h1, h2, h3⟩, h4⟩ := hS s hs.1 hs.2
  have rg := lsS_r hP hQ h ha.1 hd.1 hs
  have nb : nBd db ew ≤ 8 := by unfold nBd; omega
  exact ⟨h2, rg.1, h4, fun k k0 k1 => ⟨(rg.2 k k0 k1).1.1, (rg.2 k k0 k1).2.1, by have := (rg.2 k k0 k1).2.2; omega⟩, (or_ls hP hQ h ha hd hs).2⟩
theorem n16 {ac dn : Int} (ha : 1 ≤ ac ∧ ac ≤ 4) (hd : 1 ≤ dn ∧ dn ≤ 4) : 1 ≤ ac * dn ∧ ac * dn ≤ 16 := by
  have n1 := mul_r (a := ac) (b := dn) (A := 4) (B := 4) (by omega) (by omega)
  have n2 : 1 ≤ ac * dn := Int.mul_pos (by omega) (by omega)
  omega
/-- all slices, decoded: the rows of both agree on the region -/
theorem dc_e {g1 g2 : Int → Int} {cP cQ db ew ac dn nu de pr : Int} {es es2 gf gb gp qf qo gn gp2 gb2 : Int → Int} {v w : Int → Int64} (hok : okR nu de) (hS : okS cP cQ db ew ac dn gf gp gb) (hP : 0 ≤ cP ∧ cP ≤ 16) (hQ : 0 ≤ cQ ∧ cQ ≤ 16) (hPm : cP % 2 ^ (db + ew).toNat = 0) (hQm : cQ % 2 ^ db.toNat = 0) (h : 0 ≤ db ∧ db ≤ 2 ∧ 0 ≤ ew ∧ ew ≤ 2 ∧ db + ew ≤ 3) (ha : 1 ≤ ac ∧ ac ≤ 4) (hd : 1 ≤ dn ∧ dn ≤ 4) (hg : sameT g1 g2 (sBy nu de (ac * dn))) (hes : ∀ b, 0 ≤ b → b < 8 → 0 ≤ es b ∧ es b ≤ 15) (hqf : ∀ r, 0 ≤ r → r < 32 → qf r = facI r ∧ qo r = offI r) (he : ∀ b, 0 ≤ b → b < 8 → es b = es2 b) :
    eqZ (inZ cP cQ) (it (dcf g1 nu de pr gf es gb gp qf qo) 0 (ac * dn) (gn, v)).2 (it (rdf g2 cP cQ db ew ac dn nu de pr es2) 0 (ac * dn) (w, gp2, gb2)).1 := by
  have n16 := n16 ha hd
  have k := it_reli (R := fun s (x : (Int → Int) × (Int → Int64)) (y : rd3) => ∀ b, 0 ≤ b → b < nBd db ew → ∀ q, KB (bLf cP db ew b) (bTp cQ db ew b) (bWd cP db ew b) (bHt cQ db ew b) ac dn s q → x.2 q = y.1 q) (f := dcf g1 nu de pr gf es gb gp qf qo) (g := rdf g2 cP cQ db ew ac dn nu de pr es2) (a := 0) (b := ac * dn) (x := (gn, v)) (y := (w, gp2, gb2)) (fun b _ _ q hq => absurd hq (KB_0 ha.1)) (fun s x y s0 s1 hx b b0 b1 q hq => by
    have s2 := sl_2 hS ⟨s0, s1⟩ hP hQ h ha hd
    have le := ls_e (cP := cP) (cQ := cQ) (db := db) (ew := ew) (ac := ac) (dn := dn) (s := s) y.2.1 y.2.2
    have r := (rd_e (g1 := g1) (g2 := g2) (pr := pr) (gn := x.1) (gb := gb) (gp := gp) (v := x.2) (w := y.1) (gf := gf) hok ⟨s0, by omega⟩ (same_s hok hg ⟨s0, by omega⟩ s1) s2.2.1 s2.2.2.1 le.1 le.2 s2.2.2.2.1 hes hqf he s2.2.2.2.2 (fun q hq => hx 0 (by omega) (by unfold nBd; omega) q (by rw [bL0, bT0 h.2.2.1]; exact hq)) ⟨rfl, s2.1⟩).1
    have hm := KB_m hP hQ h ha hd.1 ⟨b0, b1⟩ s0 hq
    have r := r q (by
      rcases hm with m | ⟨k, k0, k1, k2⟩
      · exact Or.inl (hx b b0 b1 q m)
      · exact Or.inr ⟨k, k0, k1, k2⟩)
    show it (rbs pr es gb gp qf qo (rnA g1 nu de gf s x.1).1 (rqI g1 nu de s)) (gf s) (gf (s + 1)) x.2 q = _
    rw [s2.1]
    exact r) (by omega)
  intro q hq
  obtain ⟨b, hb, x, y, hx, hy, e⟩ := cov h ⟨hPm, hP.2⟩ hQm hq
  exact k b hb.1 hb.2 q (by rw [e]; exact KB_n ha.1 hd.1 hx hy)
/-- how many numbers of a slice are not 0 -/
theorem nz_e {g1 g2 : Int → Int} {cP cQ db ew ac dn nu de pr s : Int} {es es2 gf gb gp gn gp2 gb2 : Int → Int} {w : Int → Int64} (hok : okR nu de) (hS : okS cP cQ db ew ac dn gf gp gb) (hP : 0 ≤ cP ∧ cP ≤ 16) (hQ : 0 ≤ cQ ∧ cQ ≤ 16) (h : 0 ≤ db ∧ db ≤ 2 ∧ 0 ≤ ew ∧ ew ≤ 2 ∧ db + ew ≤ 3) (ha : 1 ≤ ac ∧ ac ≤ 4) (hd : 1 ≤ dn ∧ dn ≤ 4) (hg : sameT g1 g2 (sBy nu de (ac * dn))) (hes : ∀ b, 0 ≤ b → b < 8 → 0 ≤ es b ∧ es b ≤ 15) (he : ∀ b, 0 ≤ b → b < 8 → es b = es2 b) (hs : 0 ≤ s ∧ s < ac * dn) :
    cnA (rnA g1 nu de gf s gn).1 (gf s) (gf (s + 1)) = (rmA g2 nu de pr es2 s (it (lsB cP cQ db ew ac dn s) 0 (nBd db ew) (0, gp2, gb2)) w).1 := by
  have n16 := n16 ha hd
  have s2 := sl_2 hS hs hP hQ h ha hd
  have le := ls_e (cP := cP) (cQ := cQ) (db := db) (ew := ew) (ac := ac) (dn := dn) (s := s) gp2 gb2
  have r := (rd_e (g1 := g1) (g2 := g2) (pr := pr) (gn := gn) (gb := gb) (gp := gp) (qf := facI) (qo := offI) (v := w) (w := w) (gf := gf) hok ⟨hs.1, by omega⟩ (same_s hok hg ⟨hs.1, by omega⟩ hs.2) s2.2.1 s2.2.2.1 le.1 le.2 s2.2.2.2.1 hes (fun r _ _ => ⟨rfl, rfl⟩) he s2.2.2.2.2 (fun q _ => rfl) ⟨rfl, s2.1⟩).2
  rw [s2.1]
  exact r
/-! a sum over a rectangle, row by row or flat -/
theorem sum_rect {F : Int → Int} {w h : Int} (hw : 0 ≤ w ∧ w ≤ 16) (hh : 0 ≤ h ∧ h ≤ 16) : it (fun y c => it (fun x c => c + F (y * 16 + x)) 0 w c) 0 h 0 = it (fun j c => c + (if inC w h j then F j else 0)) 0 256 0 := by
  have nil : ∀ (a b c : Int), a ≤ b → (∀ j, a ≤ j → j < b → ¬ inC w h j) → it (fun j c => c + (if inC w h j then F j else 0)) a b c = c := by
    intro a b c hab hn
    refine it_inv (f := fun j c => c + (if inC w h j then F j else 0)) (I := fun _ (z : Int) => z = c) rfl (fun i z h1 h2 hz => ?_) hab
    show z + (if inC w h i then F i else 0) = c
    rw [if_neg (hn i h1 h2), hz]; omega
  have key := it_reli (R := fun y (c d : Int) => c = it (fun j c => c + (if inC w h j then F j else 0)) 0 (16 * y) 0) (f := fun y c => it (fun x c => c + F (y * 16 + x)) 0 w c) (g := fun _ d => d) (a := 0) (b := h) (x := (0 : Int)) (y := (0 : Int)) (by rw [Int.mul_zero, it_self]) (fun y c d y0 y1 hc => by
    rw [it_split (a := 0) (b := 16 * y) (c := 16 * (y + 1)) (by omega) (by omega), ← hc, it_split (a := 16 * y) (b := 16 * y + w) (c := 16 * (y + 1)) (by omega) (by omega)]
    rw [nil (16 * y + w) (16 * (y + 1)) _ (by omega) (fun j h1 h2 => by omega)]
    have e := it_shift (f := fun j c => c + (if inC w h j then F j else 0)) (a := 0) (b := w) (16 * y) hw.1 c
    rw [Int.zero_add, Int.add_comm w (16 * y)] at e
    rw [e]
    refine it_congr (fun i z h1 h2 => ?_)
    show z + F (y * 16 + i) = z + (if inC w h (i + 16 * y) then F (i + 16 * y) else 0)
    rw [if_pos (by omega), show y * 16 + i = i + 16 * y by omega]) hh.1
  rw [key, it_split (a := 0) (b := 16 * h) (c := 256) (by omega) (by omega), nil (16 * h) 256 _ (by omega) (fun j h1 h2 => by omega)]

