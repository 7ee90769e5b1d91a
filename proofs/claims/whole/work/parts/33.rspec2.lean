/-! The reference's own row: how many bytes a tile puts out at most. -/
def POT (n : Nat) (X : LH) : Prop := 4294967296 * 256 ^ X.2.2.1 ≤ (X.2.1 - X.1 + 1) * 2 ^ (11 * n)
theorem POT_0 (o : Nat → Nat) (z : Nat × Nat) : POT 0 (0, 4294967295, (0, o, z)) := by
  simp [POT]
theorem POT_w {n m : Nat} {X : LH} (h : POT n X) (hn : n ≤ m) : POT m X :=
  Nat.le_trans h (Nat.mul_le_mul_left _ (Nat.pow_le_pow_right (by decide) (by omega)))
theorem POT_lt {n a b : Nat} {d : DV} (h : POT n (a, b, d)) (hb : b < 4294967296) (hn : n ≤ 1536) : d.1 ≤ 2112 := by
  have h1 : 4294967296 * 256 ^ d.1 ≤ 4294967296 * 2 ^ (11 * n) := Nat.le_trans h (Nat.mul_le_mul_right _ (by show b - a + 1 ≤ _; omega))
  have h2 : 256 ^ d.1 ≤ 2 ^ (11 * n) := Nat.le_of_mul_le_mul_left h1 (by decide)
  rw [show (256 : Nat) = 2 ^ 8 from rfl, ← Nat.pow_mul] at h2
  have h3 := (Nat.pow_le_pow_iff_right (a := 2) (by decide)).mp h2
  omega
theorem POT_n {en : Nat} {D : Nat → Nat} {n a b v : Nat} {d : DV} (h : POT n (a, b, d)) (h1 : a ≤ b) (hb : b < 4294967296) (e : a / 16777216 = b / 16777216) : POT n (a * 256 % 4294967296, b * 256 % 4294967296 + 255, emt true en D v d) := by
  show 4294967296 * 256 ^ (d.1 + 1) ≤ _
  have h0 : 4294967296 * 256 ^ d.1 ≤ (b - a + 1) * 2 ^ (11 * n) := h
  have e1 : b * 256 % 4294967296 + 255 - a * 256 % 4294967296 + 1 = (b - a + 1) * 256 := by omega
  show _ ≤ (b * 256 % 4294967296 + 255 - a * 256 % 4294967296 + 1) * 2 ^ (11 * n)
  rw [e1, Nat.pow_succ]
  calc 4294967296 * (256 ^ d.1 * 256) = 4294967296 * 256 ^ d.1 * 256 := (Nat.mul_assoc _ _ _).symm
    _ ≤ (b - a + 1) * 2 ^ (11 * n) * 256 := Nat.mul_le_mul_right 256 h0
    _ = (b - a + 1) * 256 * 2 ^ (11 * n) := Nat.mul_right_comm _ _ _
theorem spl_lo {a b p : Nat} (h : a < b) (hp : 64 ≤ p) : b - a + 1 ≤ (spl a b p - a + 1) * 2048 := by
  have h1 : (b - a) * 64 ≤ (b - a) * p := Nat.mul_le_mul_left _ hp
  simp only [spl]
  have h2 : (b - a) * 64 / 65536 ≤ (b - a) * p / 65536 := Nat.div_le_div_right h1
  omega
theorem spl_hi {a b p : Nat} (h : a < b) (hp : p ≤ 65472) : b - a + 1 ≤ (b - (spl a b p + 1) + 1) * 2048 := by
  have h1 : (b - a) * p ≤ (b - a) * 65472 := Nat.mul_le_mul_left _ hp
  simp only [spl]
  have h2 : (b - a) * p / 65536 ≤ (b - a) * 65472 / 65536 := Nat.div_le_div_right h1
  omega
theorem POT_t {n a b p t : Nat} {d : DV} (h : POT n (a, b, d)) (hl : a < b) (hp : 64 ≤ p) (hp2 : p ≤ 65472) : POT (n + 1) (if t = 1 then (a, spl a b p, d) else (spl a b p + 1, b, d)) := by
  have h0 : 4294967296 * 256 ^ d.1 ≤ (b - a + 1) * 2 ^ (11 * n) := h
  have e : 2 ^ (11 * (n + 1)) = 2048 * 2 ^ (11 * n) := by rw [Nat.mul_succ, Nat.pow_add, Nat.mul_comm]
  split
  · show 4294967296 * 256 ^ d.1 ≤ (spl a b p - a + 1) * 2 ^ (11 * (n + 1))
    rw [e, ← Nat.mul_assoc]
    exact Nat.le_trans h0 (Nat.mul_le_mul_right _ (spl_lo hl hp))
  · show 4294967296 * 256 ^ d.1 ≤ (b - (spl a b p + 1) + 1) * 2 ^ (11 * (n + 1))
    rw [e, ← Nat.mul_assoc]
    exact Nat.le_trans h0 (Nat.mul_le_mul_right _ (spl_hi hl hp2))
theorem POT_r {en : Nat} {D : Nat → Nat} {m : Nat} : ∀ {n a b : Nat} {d : DV}, POT m (a, b, d) → a ≤ b → b < 4294967296 → POT m (nrm true en D n (a, b, d)) := by
  intro n
  induction n with
  | zero => intro a b d h _ _; exact h
  | succ n ih =>
    intro a b d h h1 h2
    by_cases e : a / 16777216 = b / 16777216
    · rw [nrm_s e]
      exact ih (POT_n h h1 h2 e) (by omega) (by omega)
    · rw [nrm_e e]; exact h
theorem POT_x {en : Nat} {D : Nat → Nat} {n t a b p : Nat} {d : DV} (h : POT n (a, b, d)) (hl : a < b) (hb : b < 4294967296) (hp : 64 ≤ p) (hp2 : p ≤ 65472) : POT (n + 1) (narx true en D t a b p d) := by
  have h1 := POT_t (t := t) h hl hp hp2
  have h2 := spl_in hl (show p < 65536 by omega)
  unfold narx
  split
  · rename_i ht; rw [if_pos ht] at h1; exact POT_r h1 (by omega) (by omega)
  · rename_i ht; rw [if_neg ht] at h1; exact POT_r h1 (by omega) hb
theorem POT_b {en : Nat} {D : Nat → Nat} (hr : ∀ i, rdb en D i < 256) {k tx ps wn b c : Nat} : ∀ {n nx m : Nat} {s : BS}, BOK b n nx c s → POT m s.2.2.2.2 → POT (m + n) (bloop true en D k tx ps wn n s).2.2.2.2 := by
  intro n
  induction n with
  | zero => intro nx m s _ h; exact h
  | succ n ih =>
    intro nx m s h hp
    rw [show m + (n + 1) = m + 1 + n by omega]
    refine ih (BOK_s (wr := true) hr (k := k) (tx := tx) (ps := ps) (wn := wn) h) ?_
    obtain ⟨nd, F, S, H, a, e, d⟩ := s
    obtain ⟨h1, h2, h3, -⟩ := h
    have hp2 := pN_in (F k tx nd) (S k ps nd) (H k)
    rw [bstep_eq rfl rfl]
    exact POT_x hp h2 h3 hp2.1 hp2.2
theorem POT_s {en : Nat} {D : Nat → Nat} (hr : ∀ i, rdb en D i < 256) {w h b c md nx m : Nat} (hd : DIM w h b c md) {T : TS} (ti : TIN w h c md nx T) (hp : POT m T.2.2.2.2.2.2) (x y k : Nat) : POT (m + 8) (sstep true en D w b md T x y k).2.2.2.2.2.2 := by
  have hb : b ≤ 8 := hd.2.2.2.2.2.1
  obtain ⟨h1, h2, h3, h4, h5, h6, h7, h8⟩ := ti
  exact POT_w (POT_b (b := b) (c := c) hr (n := b) ⟨NDok_0 b, h5, h6, h7, h8, h2⟩ hp) (by omega)
/-- the loop's count that the code does not keep -/
def NRI (n a b : Nat) : Prop := (n = 4 ∧ a ≤ b) ∨ (n = 3 ∧ a + 255 ≤ b) ∨ (n = 2 ∧ a + 65535 ≤ b) ∨ (n = 1 ∧ a + 16777215 ≤ b) ∨ (n = 0 ∧ a + 4294967295 ≤ b)
theorem NRI_s {n a b : Nat} (h : NRI n a b) (hb : b < 4294967296) (e : a / 16777216 = b / 16777216) : 0 < n ∧ NRI (n - 1) (a * 256 % 4294967296) (b * 256 % 4294967296 + 255) := by
  unfold NRI at h ⊢
  omega
theorem NRI_le {n a b : Nat} (h : NRI n a b) : a ≤ b := by unfold NRI at h; omega
/-- the share's new number, clamped as the reference does -/
theorem shN_ref {o s h : Int32} {t : Nat} (hh : 1 ≤ h.toInt ∧ h.toInt ≤ 63) : (if (63 : Int32) < h + (if t = 1 then (if s < o then 1 else if o < s then -1 else 0) else -(if s < o then (1 : Int32) else if o < s then -1 else 0)) then 63 else if h + (if t = 1 then (if s < o then 1 else if o < s then -1 else 0) else -(if s < o then (1 : Int32) else if o < s then -1 else 0)) < 1 then 1 else h + (if t = 1 then (if s < o then 1 else if o < s then -1 else 0) else -(if s < o then (1 : Int32) else if o < s then -1 else 0))) = shN o s h t := by
  have hbr : ∀ z : Int32, (if (63 : Int32) < z then 63 else if z < 1 then 1 else z) = br z 1 63 := by
    intro z
    unfold br
    by_cases h1 : z < 1
    · rw [if_pos h1, if_pos h1, if_neg]
      intro h2
      rw [Int32.lt_iff_toInt_lt] at h1 h2
      simp at h1 h2; omega
    · rw [if_neg h1, if_neg h1]
  rw [hbr, shN]
  by_cases h0 : o = s
  · subst h0
    rw [if_neg (Int32.lt_irrefl), if_neg (Int32.lt_irrefl), if_pos rfl]
    have e : (if t = 1 then (0 : Int32) else -0) = 0 := by split <;> rfl
    rw [e, Int32.add_zero]
    exact br_id (by simpa using hh.1) (by simpa using hh.2)
  · rw [if_neg h0]
    congr 2
    by_cases h1 : s < o
    · rw [if_pos h1]
      by_cases h2 : t = 1
      · rw [if_pos h2, if_pos ⟨fun _ => h2, fun _ => h1⟩]
      · rw [if_neg h2, if_neg (fun q => h2 (q.mp h1))]
    · have h3 : o < s := by
        rw [Int32.lt_iff_toInt_lt] at h1 ⊢
        have h4 : o.toInt ≠ s.toInt := fun q => h0 (Int32.toInt_inj.mp q)
        omega
      rw [if_neg h1, if_pos h3]
      by_cases h2 : t = 1
      · rw [if_pos h2, if_neg (fun q => h1 (q.mpr h2))]
      · rw [if_neg h2, if_pos ⟨fun q => absurd q h1, fun q => absurd q h2⟩]; rfl
theorem nI_one {t : Nat} (ht : t < 2) : nI t = 1 ↔ t = 1 := by
  rcases (show t = 0 ∨ t = 1 by omega) with rfl | rfl <;> decide
theorem lrF_ref (o : Int32) (t : Nat) : o + (if t = 1 then ((65535 : Int32) - o) / 16 else -(o / 16)) = lrF o t := by
  unfold lrF
  by_cases h : t = 1
  · rw [if_pos h, if_pos h]
  · rw [if_neg h, if_neg h, Int32.sub_eq_add_neg]
theorem lrS_ref (o : Int32) (t : Nat) : o + (if t = 1 then ((65535 : Int32) - o) / 32 else -(o / 32)) = lrS o t := by
  unfold lrS
  by_cases h : t = 1
  · rw [if_pos h, if_pos h]
  · rw [if_neg h, if_neg h, Int32.sub_eq_add_neg]
theorem RepO_upd {n : Nat} {d : DV} {f : Nat → Int32} (h : RepO n d f) (hn : d.1 < n) (en : Nat) (D : Nat → Nat) (b : Nat) : RepO n (emt true en D b d) (upd f d.1 (nI b)) := by
  have h1 := RepO_add h en D b
  rw [addF, show min d.1 n = d.1 by omega, if_pos hn] at h1
  exact h1
theorem nrm_p {wr : Bool} {en : Nat} {D : Nat → Nat} {n a b : Nat} {d : DV} (h0 : 0 < n) (h : a / 16777216 = b / 16777216) : nrm wr en D (n - 1) (a * 256 % 4294967296, b * 256 % 4294967296 + 255, emt wr en D (a / 16777216) d) = nrm wr en D n (a, b, d) := by
  obtain ⟨m, rfl⟩ : ∃ m, n = m + 1 := ⟨n - 1, by omega⟩
  exact (nrm_s h).symm
