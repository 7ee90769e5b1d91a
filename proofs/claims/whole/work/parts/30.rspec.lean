/-! The reference's rows. -/
theorem le_pred {x : Int32} {w : Nat} (h1 : 1 ≤ w) (h2 : w < 2 ^ 30) : x ≤ nI (w - 1) ↔ x < nI w := by
  rw [Int32.le_iff_toInt_le, Int32.lt_iff_toInt_lt, nI_toInt (by omega), nI_toInt (by omega)]
  omega
def PicR (w h c : Nat) (f : Nat → Int32) (P : Nat → Nat → Nat → Nat) : Prop := ∀ x y k, x < w → y < h → k < c → f (3 * (16 * y + x) + k) = nI (P x y k)
theorem PicR_upd {w h b c md : Nat} (hd : DIM w h b c md) {f : Nat → Int32} {P : Nat → Nat → Nat → Nat} (hf : PicR w h c f P) {x y k : Nat} (v : Nat) (hx : x < w) (hk : k < c) : PicR w h c (upd f (3 * (16 * y + x) + k) (nI v)) (updP P x y k v) := by
  obtain ⟨d1, d2, d3, d4, d5, d6, d7, d8, -⟩ := hd
  intro x2 y2 k2 hx2 hy2 hk2
  simp only [upd, updP]
  by_cases e : 3 * (16 * y2 + x2) + k2 = 3 * (16 * y + x) + k
  · have e1 : k2 = k := by omega
    have e2 : x2 = x := by omega
    have e3 : y2 = y := by omega
    rw [if_pos e, if_pos ⟨e2, e3, e1⟩]
  · rw [if_neg e, if_neg (fun q => e (by rw [q.1, q.2.1, q.2.2]))]
    exact hf x2 y2 k2 hx2 hy2 hk2
def ChR (c md : Nat) (f : Nat → Int32) (F : Nat → Nat → Nat → Int32) : Prop := ∀ k q n, k < c → q < 4 → n < 2 * md → f (256 * (4 * k + q) + n) = F k q n
theorem ChR_upd {c md : Nat} (hm : md ≤ 128) {f : Nat → Int32} {F : Nat → Nat → Nat → Int32} (hf : ChR c md f F) {k q n : Nat} (v : Int32) (hq : q < 4) (hn : n < 2 * md) : ChR c md (upd f (256 * (4 * k + q) + n) v) (upd3 F k q n v) := by
  intro k2 q2 n2 h1 h2 h3
  simp only [upd, upd3]
  by_cases e : 256 * (4 * k2 + q2) + n2 = 256 * (4 * k + q) + n
  · rw [if_pos e, if_pos ⟨by omega, by omega, by omega⟩]
  · rw [if_neg e, if_neg (fun z => e (by rw [z.1, z.2.1, z.2.2]))]
    exact hf k2 q2 n2 h1 h2 h3
def RTR (w h c md : Nat) (T : TS) (fW f1 f2 fh fp f : Nat → Int32) : Prop := (∀ j, j < 9 → fW j = T.1 j) ∧ ChR c md f1 T.2.1 ∧ ChR c md f2 T.2.2.1 ∧ (∀ j, j < c → fh j = T.2.2.2.1 j) ∧ (∀ j, j < c → fp j = nI (T.2.2.2.2.1 j)) ∧ PicR w h c f T.2.2.2.2.2.1
theorem br_nat {v g : Nat} (h : v ≤ g) (hg : g < 2 ^ 30) : br (nI v) 0 (nI g) = nI v := by
  apply br_id
  · rw [nI_toInt (by omega)]; simp
  · rw [nI_toInt (by omega), nI_toInt (by omega)]; omega
theorem br_sh {v g : Nat} (h : v / 2 ≤ g) (hv : v < 2 ^ 30) (hg : g < 2 ^ 30) : br (nI v >>> ((1 : Int32) &&& 31)) 0 (nI g) = nI v >>> ((1 : Int32) &&& 31) := by
  rw [pk_shrN (by omega) _ 1 (by decide)]
  exact br_nat h hg
