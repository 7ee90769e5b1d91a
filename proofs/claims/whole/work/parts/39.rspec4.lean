/-! Numbers of a call that are in their range. -/
theorem in_0 {v : Nat} (h : v < 2 ^ 30) : (0 : Int32) ≤ nI v := by
  rw [Int32.le_iff_toInt_le, nI_toInt (by omega)]; simp
theorem in_lt {v m : Nat} (h : v < m) (hm : m < 2 ^ 30) : nI v < nI m := by
  rw [Int32.lt_iff_toInt_lt, nI_toInt (by omega), nI_toInt (by omega)]; omega
theorem in_le {v m : Nat} (h : v ≤ m) (hm : m < 2 ^ 30) : nI v ≤ nI m := by
  rw [Int32.le_iff_toInt_le, nI_toInt (by omega), nI_toInt (by omega)]; omega
theorem place_n {w h b c md : Nat} (hd : DIM w h b c md) {x y k : Nat} (hx : x < w) (hy : y < h) (hk : k < c) : (0 ≤ nI x ∧ nI x < nI w) ∧ (0 ≤ nI y ∧ nI y < nI h) ∧ (0 ≤ nI k ∧ nI k < nI c) := by
  obtain ⟨d1, d2, d3, d4, d5, d6, d7, d8, -⟩ := hd
  exact ⟨⟨in_0 (by omega), in_lt hx (by omega)⟩, ⟨in_0 (by omega), in_lt hy (by omega)⟩, ⟨in_0 (by omega), in_lt hk (by omega)⟩⟩
theorem le_m1 {x : Int32} {n : Nat} (h : n < 2 ^ 30) : x ≤ nI n - 1 ↔ x < nI n := by
  rcases Nat.eq_zero_or_pos n with e | e
  · subst e
    rw [Int32.le_iff_toInt_le, Int32.lt_iff_toInt_lt]
    have e1 : (nI 0 - 1).toInt = -1 := by decide
    have e2 : (nI 0).toInt = 0 := by decide
    rw [e1, e2]; omega
  · rw [show nI n - 1 = nI (n - 1) from pk_sub (b := 1) e]
    exact le_pred e h
/-- a number in its range is a natural number -/
theorem nat_of {x : Int32} {n : Nat} (hn : n < 2 ^ 30) (h : 0 ≤ x ∧ x < nI n) : ∃ m, m < n ∧ x = nI m := by
  obtain ⟨h1, h2⟩ := h
  rw [Int32.le_iff_toInt_le] at h1
  rw [Int32.lt_iff_toInt_lt, nI_toInt (by omega)] at h2
  simp at h1
  refine ⟨x.toInt.toNat, by omega, ?_⟩
  apply Int32.toInt_inj.mp
  rw [nI_toInt (by omega)]
  omega
