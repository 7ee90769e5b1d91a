/-! What the two sides compute, in one language of numbers. -/
/-- width, height, bits, channels, and half of 2^bits -/
def DIM (w h b c md : Nat) : Prop := 1 ≤ w ∧ w ≤ 16 ∧ 1 ≤ h ∧ h ≤ 16 ∧ 1 ≤ b ∧ b ≤ 8 ∧ 1 ≤ c ∧ c ≤ 3 ∧ 1 ≤ md ∧ md ≤ 128 ∧ 2 * md = 2 ^ b
theorem ix_lt {w h c x y k : Nat} (hx : x < w) (hy : y < h) (hk : k < c) : (y * w + x) * c + k < w * h * c := by
  have h1 : y * w + x + 1 ≤ h * w := by
    have : (y + 1) * w ≤ h * w := Nat.mul_le_mul_right w hy
    rw [Nat.succ_mul] at this
    omega
  have h2 : (y * w + x + 1) * c ≤ h * w * c := Nat.mul_le_mul_right c h1
  rw [Nat.succ_mul] at h2
  rw [Nat.mul_comm w h]
  omega
theorem ix_inj {w h c x y k x2 y2 k2 : Nat} (hx : x < w) (hk : k < c) (hx2 : x2 < w) (hk2 : k2 < c) (e : (y * w + x) * c + k = (y2 * w + x2) * c + k2) : x = x2 ∧ y = y2 ∧ k = k2 := by
  have c0 : 0 < c := by omega
  have w0 : 0 < w := by omega
  have e1 : ((y * w + x) * c + k) / c = y * w + x := by rw [Nat.mul_comm, Nat.mul_add_div c0, Nat.div_eq_of_lt hk, Nat.add_zero]
  have e2 : ((y2 * w + x2) * c + k2) / c = y2 * w + x2 := by rw [Nat.mul_comm, Nat.mul_add_div c0, Nat.div_eq_of_lt hk2, Nat.add_zero]
  have e3 : y * w + x = y2 * w + x2 := by rw [← e1, ← e2, e]
  have e4 : k = k2 := by rw [e3] at e; omega
  have e5 : (y * w + x) / w = y := by rw [Nat.mul_comm, Nat.mul_add_div w0, Nat.div_eq_of_lt hx, Nat.add_zero]
  have e6 : (y2 * w + x2) / w = y2 := by rw [Nat.mul_comm, Nat.mul_add_div w0, Nat.div_eq_of_lt hx2, Nat.add_zero]
  have e7 : y = y2 := by rw [← e5, ← e6, e3]
  subst e7
  exact ⟨by omega, rfl, e4⟩
theorem ix_768 {w h b c md : Nat} (hd : DIM w h b c md) : w * h * c ≤ 768 := by
  obtain ⟨d1, d2, d3, d4, d5, d6, d7, d8, -⟩ := hd
  calc w * h * c ≤ 16 * 16 * 3 := Nat.mul_le_mul (Nat.mul_le_mul d2 d4) d8
    _ = 768 := rfl
theorem ix_big {w h b c md : Nat} (hd : DIM w h b c md) : w * h * c < 2 ^ 31 := Nat.lt_of_le_of_lt (ix_768 hd) (by decide)
/-- the class's picture: sample x y k -/
def PicC (w h c : Nat) (f : Nat → Int32) (P : Nat → Nat → Nat → Nat) : Prop := ∀ x y k, x < w → y < h → k < c → f ((y * w + x) * c + k) = nI (P x y k)
def updP (P : Nat → Nat → Nat → Nat) (x y k v : Nat) : Nat → Nat → Nat → Nat := fun x2 y2 k2 => if x2 = x ∧ y2 = y ∧ k2 = k then v else P x2 y2 k2
theorem PicC_upd {w h c : Nat} {f : Nat → Int32} {P : Nat → Nat → Nat → Nat} (hf : PicC w h c f P) {x y k : Nat} (v : Nat) (hx : x < w) (hy : y < h) (hk : k < c) : PicC w h c (upd f ((y * w + x) * c + k) (nI v)) (updP P x y k v) := by
  intro x2 y2 k2 hx2 hy2 hk2
  simp only [upd, updP]
  by_cases e : (y2 * w + x2) * c + k2 = (y * w + x) * c + k
  · obtain ⟨rfl, rfl, rfl⟩ := ix_inj (h := h) hx2 hk2 hx hk e
    rw [if_pos rfl, if_pos ⟨rfl, rfl, rfl⟩]
  · rw [if_neg e, if_neg (fun q => e (by rw [q.1, q.2.1, q.2.2]))]
    exact hf x2 y2 k2 hx2 hy2 hk2
/-- all samples below 2^bits -/
def PicB (w h c md : Nat) (P : Nat → Nat → Nat → Nat) : Prop := ∀ x y k, x < w → y < h → k < c → P x y k < 2 * md
theorem PicB_upd {w h c md : Nat} {P : Nat → Nat → Nat → Nat} (hP : PicB w h c md P) {x y k v : Nat} (hv : v < 2 * md) : PicB w h c md (updP P x y k v) := by
  intro x2 y2 k2 h1 h2 h3
  simp only [updP]
  split
  · exact hv
  · exact hP x2 y2 k2 h1 h2 h3
/-- tiles: where one begins and ends -/
def lft (w t : Nat) : Nat := t % ((w + 7) / 8) * 8
def tpp (w t : Nat) : Nat := t / ((w + 7) / 8) * 8
def rgt (w t : Nat) : Nat := min w (lft w t + 8)
def btm (w h t : Nat) : Nat := min h (tpp w t + 8)
def tln (w h : Nat) : Nat := (w + 7) / 8 * ((h + 7) / 8)
theorem lft_lt {w h b c md : Nat} (hd : DIM w h b c md) (t : Nat) : lft w t < w ∧ lft w t ≤ 8 ∧ lft w t % 8 = 0 := by
  obtain ⟨d1, d2, -⟩ := hd
  have h1 : t % ((w + 7) / 8) < (w + 7) / 8 := Nat.mod_lt _ (by omega)
  simp only [lft]
  generalize t % ((w + 7) / 8) = q at h1 ⊢
  omega
theorem tln_le {w h b c md : Nat} (hd : DIM w h b c md) : 1 ≤ tln w h ∧ tln w h ≤ 4 := by
  obtain ⟨d1, d2, d3, d4, -⟩ := hd
  have h1 : 1 ≤ (w + 7) / 8 ∧ (w + 7) / 8 ≤ 2 := by omega
  have h2 : 1 ≤ (h + 7) / 8 ∧ (h + 7) / 8 ≤ 2 := by omega
  constructor
  · exact Nat.mul_le_mul h1.1 h2.1
  · exact Nat.mul_le_mul h1.2 h2.2
theorem tpp_lt {w h b c md : Nat} (hd : DIM w h b c md) {t : Nat} (ht : t < tln w h) : tpp w t < h ∧ tpp w t ≤ 8 ∧ tpp w t % 8 = 0 := by
  obtain ⟨d1, d2, d3, d4, -⟩ := hd
  have h1 : t / ((w + 7) / 8) < (h + 7) / 8 := Nat.div_lt_of_lt_mul ht
  simp only [tpp]
  generalize t / ((w + 7) / 8) = q at h1 ⊢
  omega
/-- shifts by the bits -/
theorem DIM_b {w h b c md : Nat} (hd : DIM w h b c md) : (b = 1 ∧ md = 1) ∨ (b = 2 ∧ md = 2) ∨ (b = 3 ∧ md = 4) ∨ (b = 4 ∧ md = 8) ∨ (b = 5 ∧ md = 16) ∨ (b = 6 ∧ md = 32) ∨ (b = 7 ∧ md = 64) ∨ (b = 8 ∧ md = 128) := by
  obtain ⟨-, -, -, -, d5, d6, -, -, d9, d10, e⟩ := hd
  rcases (show b = 1 ∨ b = 2 ∨ b = 3 ∨ b = 4 ∨ b = 5 ∨ b = 6 ∨ b = 7 ∨ b = 8 by omega) with rfl | rfl | rfl | rfl | rfl | rfl | rfl | rfl <;> simp at e ⊢ <;> omega
theorem shl_b {w h b c md : Nat} (hd : DIM w h b c md) : (1 : Int32) <<< (nI b &&& 31) = nI (2 * md) := by
  rcases DIM_b hd with ⟨rfl, rfl⟩ | ⟨rfl, rfl⟩ | ⟨rfl, rfl⟩ | ⟨rfl, rfl⟩ | ⟨rfl, rfl⟩ | ⟨rfl, rfl⟩ | ⟨rfl, rfl⟩ | ⟨rfl, rfl⟩ <;> decide
theorem shl_b1 {w h b c md : Nat} (hd : DIM w h b c md) : (1 : Int32) <<< (nI (b - 1) &&& 31) = nI md := by
  rcases DIM_b hd with ⟨rfl, rfl⟩ | ⟨rfl, rfl⟩ | ⟨rfl, rfl⟩ | ⟨rfl, rfl⟩ | ⟨rfl, rfl⟩ | ⟨rfl, rfl⟩ | ⟨rfl, rfl⟩ | ⟨rfl, rfl⟩ <;> decide
theorem shl_sm : ∀ n, n < 32 → ((nI n &&& 31).toBitVec.smod 32).toNat = n := by decide
theorem shl_n {w h b c md n : Nat} (hd : DIM w h b c md) (hn : n < 2 ^ 20) : nI n <<< (nI b &&& 31) = nI (n * (2 * md)) := by
  have e : 2 * md = 2 ^ b := hd.2.2.2.2.2.2.2.2.2.2
  have hb : b ≤ 8 := hd.2.2.2.2.2.1
  have hm : 2 * md ≤ 256 := by have := hd.2.2.2.2.2.2.2.2.2.1; omega
  rw [e]
  refine pk_shlN _ b (shl_sm b (by omega)) ?_
  rw [← e]
  calc n * (2 * md) ≤ n * 256 := Nat.mul_le_mul_left n hm
    _ < 2 ^ 32 := by omega
/-- a number's rest by 2^bits -/
def andN (x : Int32) (md : Nat) : Nat := x.toBitVec.toNat % (2 * md)
theorem andN_lt {w h b c md : Nat} (hd : DIM w h b c md) (x : Int32) : andN x md < 2 * md := Nat.mod_lt _ (by have := hd.2.2.2.2.2.2.2.2.1; omega)
theorem andN_eq {w h b c md : Nat} (hd : DIM w h b c md) (x : Int32) : x &&& nI (2 * md - 1) = nI (andN x md) := by
  have e : 2 * md = 2 ^ b := hd.2.2.2.2.2.2.2.2.2.2
  have hm : 2 * md ≤ 256 := by have := hd.2.2.2.2.2.2.2.2.2.1; omega
  simp only [andN]
  rw [e]
  exact pk_and x b (by rw [← e]; exact pk_tn (by omega))
/-- neighbours, in the tile -/
def nbA (P : Nat → Nat → Nat → Nat) (md x y k : Nat) : Nat := if x % 8 = 0 then md else P (x - 1) y k
def nbB (P : Nat → Nat → Nat → Nat) (md x y k : Nat) : Nat := if y % 8 = 0 then md else P x (y - 1) k
def nbC (P : Nat → Nat → Nat → Nat) (md x y k : Nat) : Nat := if x % 8 = 0 ∨ y % 8 = 0 then md else P (x - 1) (y - 1) k
def nbD (P : Nat → Nat → Nat → Nat) (w md x y k : Nat) : Nat := if y % 8 = 0 ∨ x % 8 = 7 ∨ w ≤ x + 1 then md else P (x + 1) (y - 1) k
def nbE (P : Nat → Nat → Nat → Nat) (md x y k : Nat) : Nat := if k = 0 then md else P x y (k - 1)
theorem nb_lt {w h b c md : Nat} {P : Nat → Nat → Nat → Nat} (hd : DIM w h b c md) (hP : PicB w h c md P) {x y k : Nat} (hx : x < w) (hy : y < h) (hk : k < c) : nbA P md x y k < 2 * md ∧ nbB P md x y k < 2 * md ∧ nbC P md x y k < 2 * md ∧ nbD P w md x y k < 2 * md ∧ nbE P md x y k < 2 * md := by
  have hm : 1 ≤ md := hd.2.2.2.2.2.2.2.2.1
  refine ⟨?_, ?_, ?_, ?_, ?_⟩
  · simp only [nbA]; split
    · omega
    · exact hP _ _ _ (by omega) hy hk
  · simp only [nbB]; split
    · omega
    · exact hP _ _ _ hx (by omega) hk
  · simp only [nbC]; split
    · omega
    · exact hP _ _ _ (by omega) (by omega) hk
  · simp only [nbD]; split
    · omega
    · exact hP _ _ _ (by omega) (by omega) hk
  · simp only [nbE]; split
    · omega
    · exact hP _ _ _ hx hy (by omega)
/-- what a way lets expect, out of the neighbours -/
def exq (a b c d e g way : Nat) : Int32 := if way = 0 then nI a else if way = 1 then nI b else if way = 2 then nI c else if way = 3 then nI d else if way = 4 then br (nI (a + b) - nI c) 0 (nI g) else if way = 5 then nI (a + b) >>> ((1 : Int32) &&& 31) else if way = 6 then br (nI a + (nI b - nI c) >>> ((1 : Int32) &&& 31)) 0 (nI g) else if way = 7 then br (nI b + (nI a - nI c) >>> ((1 : Int32) &&& 31)) 0 (nI g) else nI e
def exW (P : Nat → Nat → Nat → Nat) (w md x y k : Nat) : Nat → Int32 := exq (nbA P md x y k) (nbB P md x y k) (nbC P md x y k) (nbD P w md x y k) (nbE P md x y k) (2 * md - 1)
def tex (a b c : Nat) : Nat := min 3 ((dst a c + dst b c) / 4)
theorem tex_lt (a b c : Nat) : tex a b c < 4 := by simp only [tex]; omega
theorem x_beq {P Q : Prop} [Decidable P] [Decidable Q] : ((if P then (1 : Int32) else 0) = (if Q then 1 else 0)) ↔ (P ↔ Q) := by
  by_cases h : P <;> by_cases h2 : Q <;> simp [h, h2]
theorem br_toInt {v lo hi : Int32} (h : lo.toInt ≤ hi.toInt) : lo.toInt ≤ (br v lo hi).toInt ∧ (br v lo hi).toInt ≤ hi.toInt := by
  unfold br
  split
  · exact ⟨Int.le_refl _, h⟩
  · rename_i h1
    split
    · exact ⟨h, Int.le_refl _⟩
    · rename_i h2
      rw [Int32.lt_iff_toInt_lt] at h1 h2
      omega
theorem br_id {v lo hi : Int32} (h1 : lo.toInt ≤ v.toInt) (h2 : v.toInt ≤ hi.toInt) : br v lo hi = v := by
  unfold br
  rw [if_neg (fun h => by rw [Int32.lt_iff_toInt_lt] at h; omega), if_neg (fun h => by rw [Int32.lt_iff_toInt_lt] at h; omega)]
/-- weights: 8 .. 1024 each; what they come to -/
def WB (W : Nat → Int32) : Prop := ∀ j, j < 9 → 8 ≤ (W j).toInt ∧ (W j).toInt ≤ 1024
def mixS (W : Nat → Int32) : Nat → Int32
  | 0 => 0
  | n + 1 => mixS W n + W n
def mixT (W e : Nat → Int32) : Nat → Int32
  | 0 => 0
  | n + 1 => mixT W e n + W n * e n
def mixV (W e : Nat → Int32) : Int32 := (mixT W e 9 + mixS W 9 / 2) / mixS W 9
theorem i32_add {x y : Int32} (h1 : -2147483648 ≤ x.toInt + y.toInt) (h2 : x.toInt + y.toInt < 2147483648) : (x + y).toInt = x.toInt + y.toInt := by
  rw [Int32.toInt_add]
  exact Int.bmod_eq_of_le (by omega) (by omega)
theorem mixS_in {W : Nat → Int32} (hW : WB W) : ∀ n : Nat, n ≤ 9 → 8 * (n : Int) ≤ (mixS W n).toInt ∧ (mixS W n).toInt ≤ 1024 * n := by
  intro n
  induction n with
  | zero => intro _; simp [mixS]
  | succ n ih =>
    intro hn
    have h1 := ih (by omega)
    have h2 := hW n (by omega)
    simp only [mixS]
    rw [i32_add (by omega) (by omega)]
    omega
theorem mixS_pos {W : Nat → Int32} (hW : WB W) : ¬ mixS W 9 ≤ 0 := by
  intro h
  have h1 := (mixS_in hW 9 (by omega)).1
  rw [Int32.le_iff_toInt_le] at h
  simp at h
  omega
theorem mixS_ne {W : Nat → Int32} (hW : WB W) : ¬ mixS W 9 = 0 := fun h => mixS_pos hW (by rw [h]; exact Int32.le_refl 0)
theorem mixS_cong {W V : Nat → Int32} : ∀ {n : Nat}, (∀ j, j < n → W j = V j) → mixS W n = mixS V n := by
  intro n
  induction n with
  | zero => intro _; rfl
  | succ n ih => intro h; simp only [mixS]; rw [ih (fun j hj => h j (by omega)), h n (by omega)]
/-- what a weight learns -/
def lrn1 (w e mx v : Int32) : Int32 := if e = mx then w else br (w + (if (mx < e ↔ mx < v) then 8 else -8)) 8 1024
def lrnW (W e : Nat → Int32) (mx v : Int32) : Nat → Int32 := fun k => if v = mx then W k else lrn1 (W k) (e k) mx v
theorem WB_lrn {W e : Nat → Int32} {mx v : Int32} (h : WB W) : WB (lrnW W e mx v) := by
  intro j hj
  unfold lrnW lrn1
  split
  · exact h j hj
  · split
    · exact h j hj
    · exact br_toInt (by decide)
theorem WB_256 {f : Nat → Int32} (h : ∀ j, j < 9 → f j = 256) : WB f := fun j hj => by rw [h j hj]; decide
/-- chances: mixed by the share; what they and the share learn -/
def pmx (f s h : Int32) : Int32 := br ((f * h + s * (64 - h)) / 64) 64 65472
def lrF (o : Int32) (t : Nat) : Int32 := if t = 1 then o + (65535 - o) / 16 else o - o / 16
def lrS (o : Int32) (t : Nat) : Int32 := if t = 1 then o + (65535 - o) / 32 else o - o / 32
def shN (o s h : Int32) (t : Nat) : Int32 := if o = s then h else br (h + (if (s < o ↔ t = 1) then 1 else -1)) 1 63
theorem upd_self (f : Nat → Int32) (k : Nat) : upd f k (f k) = f := by
  funext j; simp only [upd]; split
  · rename_i h; rw [h]
  · rfl
theorem ch_lt {c md k q n : Nat} (hk : k < c) (hq : q < 4) (hn : n < 2 * md) : (k * 4 + q) * (2 * md) + n < c * 4 * (2 * md) := by
  have h1 : (k * 4 + q + 1) * (2 * md) ≤ c * 4 * (2 * md) := Nat.mul_le_mul_right _ (by omega)
  rw [Nat.succ_mul] at h1
  omega
theorem ch_big {w h b c md : Nat} (hd : DIM w h b c md) : c * 4 * (2 * md) ≤ 3072 := by
  obtain ⟨-, -, -, -, -, -, d7, d8, d9, d10, -⟩ := hd
  calc c * 4 * (2 * md) ≤ 12 * 256 := Nat.mul_le_mul (by omega) (by omega)
    _ = 3072 := rfl
theorem ch_inj {md k q n k2 q2 n2 : Nat} (hq : q < 4) (hn : n < 2 * md) (hq2 : q2 < 4) (hn2 : n2 < 2 * md) (e : (k * 4 + q) * (2 * md) + n = (k2 * 4 + q2) * (2 * md) + n2) : k = k2 ∧ q = q2 ∧ n = n2 := by
  have m0 : 0 < 2 * md := by omega
  have e1 : ((k * 4 + q) * (2 * md) + n) / (2 * md) = k * 4 + q := by rw [Nat.mul_comm, Nat.mul_add_div m0, Nat.div_eq_of_lt hn, Nat.add_zero]
  have e2 : ((k2 * 4 + q2) * (2 * md) + n2) / (2 * md) = k2 * 4 + q2 := by rw [Nat.mul_comm, Nat.mul_add_div m0, Nat.div_eq_of_lt hn2, Nat.add_zero]
  have e3 : k * 4 + q = k2 * 4 + q2 := by rw [← e1, ← e2, e]
  have e4 : n = n2 := by rw [e3] at e; omega
  exact ⟨by omega, by omega, e4⟩
def upd3 (F : Nat → Nat → Nat → Int32) (k q n : Nat) (v : Int32) : Nat → Nat → Nat → Int32 := fun k2 q2 n2 => if k2 = k ∧ q2 = q ∧ n2 = n then v else F k2 q2 n2
def ChC (c md : Nat) (f : Nat → Int32) (F : Nat → Nat → Nat → Int32) : Prop := ∀ k q n, k < c → q < 4 → n < 2 * md → f ((k * 4 + q) * (2 * md) + n) = F k q n
theorem ChC_upd {c md : Nat} {f : Nat → Int32} {F : Nat → Nat → Nat → Int32} (hf : ChC c md f F) {k q n : Nat} (v : Int32) (hq : q < 4) (hn : n < 2 * md) : ChC c md (upd f ((k * 4 + q) * (2 * md) + n) v) (upd3 F k q n v) := by
  intro k2 q2 n2 h1 h2 h3
  simp only [upd, upd3]
  by_cases e : (k2 * 4 + q2) * (2 * md) + n2 = (k * 4 + q) * (2 * md) + n
  · obtain ⟨rfl, rfl, rfl⟩ := ch_inj h2 h3 hq hn e
    rw [if_pos rfl, if_pos ⟨rfl, rfl, rfl⟩]
  · rw [if_neg e, if_neg (fun z => e (by rw [z.1, z.2.1, z.2.2]))]
    exact hf k2 q2 n2 h1 h2 h3
theorem ite_lt_succ {α : Type} {j i : Nat} (h : j ≠ i) (a b : α) : (if j < i then a else b) = if j < i + 1 then a else b := by
  by_cases h2 : j < i
  · rw [if_pos h2, if_pos (by omega)]
  · rw [if_neg h2, if_neg (by omega)]
