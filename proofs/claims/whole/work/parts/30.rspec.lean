/-! The reference's rows. -/
theorem le_pred {x : Int32} {w : Nat} (h1 : 1 ≤ w) (h2 : w < 2 ^ 30) : x ≤ nI (w - 1) ↔ x < nI w := by
  rw [Int32.le_iff_toInt_le, Int32.lt_iff_toInt_lt, nI_toInt (by omega), nI_toInt (by omega)]
  omega
def PicR (w h c : Nat) (f : Nat → Int32) (P : Nat → Nat → Nat → Nat) : Prop := ∀ x y k, x < w → y < h → k < c → f (3 * (16 * y + x) + k) = nI (P x y k)
theorem PicR_upd {w h b c md : Nat} (hd : DIM w h b c md) {f : Nat → Int32} {P : Nat → Nat → Nat → Nat} (hf : PicR w h c f P) {x y k : Nat} (v : Nat) (hx : x < w) (hk : k < c) : PicR w h c (upd f (3 * (16 * y + x) + k) (nI v)) (updP P x y k v) := by
  obtain ⟨d1, d2, d3, d4, d5, d6, d7, d8, -⟩ := hd
  intro x2 y2 k2 hx2 hy2 hk2
  simp only [upd, updP]
  by_cases e : 3 * (16 * y2 + x2) + k2 = 3 * (16 * y + x) + k
  · have e1 : k2 = k := by omega
    have e2 : x2 = x := by omega
    have e3 : y2 = y := by omega
    rw [if_pos e, if_pos ⟨e2, e3, e1⟩]
  · rw [if_neg e, if_neg (fun q => e (by rw [q.1, q.2.1, q.2.2]))]
    exact hf x2 y2 k2 hx2 hy2 hk2
def ChR (c md : Nat) (f : Nat → Int32) (F : Nat → Nat → Nat → Int32) : Prop := ∀ k q n, k < c → q < 4 → n < 2 * md → f (256 * (4 * k + q) + n) = F k q n
theorem ChR_upd {c md : Nat} (hm : md ≤ 128) {f : Nat → Int32} {F : Nat → Nat → Nat → Int32} (hf : ChR c md f F) {k q n : Nat} (v : Int32) (hq : q < 4) (hn : n < 2 * md) : ChR c md (upd f (256 * (4 * k + q) + n) v) (upd3 F k q n v) := by
  intro k2 q2 n2 h1 h2 h3
  simp only [upd, upd3]
  by_cases e : 256 * (4 * k2 + q2) + n2 = 256 * (4 * k + q) + n
  · rw [if_pos e, if_pos ⟨by omega, by omega, by omega⟩]
  · rw [if_neg e, if_neg (fun z => e (by rw [z.1, z.2.1, z.2.2]))]
    exact hf k2 q2 n2 h1 h2 h3
def RTR (w h c md : Nat) (T : TS) (fW f1 f2 fh fp f : Nat → Int32) : Prop := (∀ j, j < 9 → fW j = T.1 j) ∧ ChR c md f1 T.2.1 ∧ ChR c md f2 T.2.2.1 ∧ (∀ j, j < c → fh j = T.2.2.2.1 j) ∧ (∀ j, j < c → fp j = nI (T.2.2.2.2.1 j)) ∧ PicR w h c f T.2.2.2.2.2.1
theorem br_nat {v g : Nat} (h : v ≤ g) (hg : g < 2 ^ 30) : br (nI v) 0 (nI g) = nI v := by
  apply br_id
  · rw [nI_toInt (by omega)]; simp
  · rw [nI_toInt (by omega), nI_toInt (by omega)]; omega
theorem br_sh {v g : Nat} (h : v / 2 ≤ g) (hv : v < 2 ^ 30) (hg : g < 2 ^ 30) : br (nI v >>> ((1 : Int32) &&& 31)) 0 (nI g) = nI v >>> ((1 : Int32) &&& 31) := by
  rw [pk_shrN (by omega) _ 1 (by decide)]
  exact br_nat h hg
theorem lrn_ref {w e mx v : Int32} (hw : 8 ≤ w.toInt ∧ w.toInt ≤ 1024) (hv : ¬ v = mx) {s o : Prop} [Decidable s] [Decidable o] (hs : s ↔ (if mx < v then mx < e else e < mx)) (ho : o ↔ (if mx < v then e < mx else mx < e)) : (if (1024 : Int32) < w + (if s then 8 else if o then -8 else 0) then 1024 else if w + (if s then 8 else if o then -8 else 0) < 8 then 8 else w + (if s then 8 else if o then -8 else 0)) = lrn1 w e mx v := by
  have hbr : ∀ z : Int32, (if (1024 : Int32) < z then 1024 else if z < 8 then 8 else z) = br z 8 1024 := by
    intro z
    unfold br
    by_cases h1 : z < 8
    · rw [if_pos h1, if_pos h1, if_neg]
      intro h2
      rw [Int32.lt_iff_toInt_lt] at h1 h2
      simp at h1 h2; omega
    · rw [if_neg h1, if_neg h1]
  rw [hbr]
  by_cases h0 : e = mx
  · have hns : ¬ s := fun h => by
      have h1 := hs.mp h; rw [h0] at h1; split at h1 <;> exact Int32.lt_irrefl h1
    have hno : ¬ o := fun h => by
      have h1 := ho.mp h; rw [h0] at h1; split at h1 <;> exact Int32.lt_irrefl h1
    rw [if_neg hns, if_neg hno, lrn1, if_pos h0, Int32.add_zero]
    exact br_id (by simpa using hw.1) (by simpa using hw.2)
  · rw [lrn1, if_neg h0]
    congr 2
    by_cases h1 : mx < v
    · rw [if_pos h1] at hs ho
      by_cases h2 : mx < e
      · rw [if_pos (hs.mpr h2), if_pos ⟨fun _ => h1, fun _ => h2⟩]
      · have h3 : e < mx := by
          rw [Int32.lt_iff_toInt_lt] at h2 ⊢
          have h4 : e.toInt ≠ mx.toInt := fun q => h0 (Int32.toInt_inj.mp q)
          omega
        rw [if_neg (fun q => h2 (hs.mp q)), if_pos (ho.mpr h3), if_neg (fun q => h2 (q.mpr h1))]
    · rw [if_neg h1] at hs ho
      have hvm : v < mx := by
        rw [Int32.lt_iff_toInt_lt] at h1 ⊢
        have h4 : v.toInt ≠ mx.toInt := fun q => hv (Int32.toInt_inj.mp q)
        omega
      by_cases h2 : mx < e
      · have h3 : ¬ e < mx := fun q => by rw [Int32.lt_iff_toInt_lt] at q h2; omega
        rw [if_neg (fun q => h3 (hs.mp q)), if_pos (ho.mpr h2), if_neg (fun q => h1 (q.mp h2))]
      · have h3 : e < mx := by
          rw [Int32.lt_iff_toInt_lt] at h2 ⊢
          have h4 : e.toInt ≠ mx.toInt := fun q => h0 (Int32.toInt_inj.mp q)
          omega
        rw [if_pos (hs.mpr h3), if_pos ⟨fun q => absurd q h2, fun q => absurd q h1⟩]
def cpyN (n : Nat) (f g : Nat → Int32) : Nat → Int32 := fun j => if j < n then f j else g j
theorem cpyN_0 (f g : Nat → Int32) : cpyN 0 f g = g := by funext j; simp [cpyN]
theorem cpyN_s (n : Nat) (f g : Nat → Int32) : upd (cpyN n f g) n (f n) = cpyN (n + 1) f g := by
  funext j
  simp only [upd, cpyN]
  by_cases h : j = n
  · simp [h]
  · by_cases h2 : j < n
    · simp [h, h2, Nat.lt_succ_of_lt h2]
    · simp [h, h2, show ¬ j < n + 1 by omega]
