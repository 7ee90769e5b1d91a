/-! Coding and reading, tile by tile. -/
def xrN (B : Nat → Nat) : Nat → Nat → Nat
  | 0, s => s
  | n + 1, s => xrN B n s ^^^ B n
def sumN (n : Nat) (B : Nat → Nat) : Nat := xrN B n ((165 ^^^ (n % 256)) ^^^ (n / 256))
theorem xrN_lt {B : Nat → Nat} : ∀ {n s : Nat}, s < 256 → (∀ j, j < n → B j < 256) → xrN B n s < 256 := by
  intro n
  induction n with
  | zero => intro s h _; exact h
  | succ n ih =>
    intro s h hB
    exact Nat.xor_lt_two_pow (n := 8) (ih h (fun j hj => hB j (by omega))) (hB n (by omega))
theorem sumN_lt {n : Nat} {B : Nat → Nat} (hn : n < 65536) (hB : ∀ j, j < n → B j < 256) : sumN n B < 256 := by
  refine xrN_lt ?_ hB
  exact Nat.xor_lt_two_pow (n := 8) (Nat.xor_lt_two_pow (n := 8) (by decide) (by omega)) (by omega)
theorem xrN_cong {B C : Nat → Nat} : ∀ {n s : Nat}, (∀ j, j < n → B j = C j) → xrN B n s = xrN C n s := by
  intro n
  induction n with
  | zero => intro s _; rfl
  | succ n ih => intro s h; simp only [xrN]; rw [ih (fun j hj => h j (by omega)), h n (by omega)]
theorem sumN_cong {n : Nat} {B C : Nat → Nat} (h : ∀ j, j < n → B j = C j) : sumN n B = sumN n C := xrN_cong h
theorem nI_xor (a b : Nat) : nI a ^^^ nI b = nI (a ^^^ b) := by
  apply Int32.toBitVec_inj.mp
  show (BitVec.ofNat 32 a) ^^^ (BitVec.ofNat 32 b) = BitVec.ofNat 32 (a ^^^ b)
  apply BitVec.eq_of_toNat_eq
  rw [BitVec.toNat_xor, BitVec.toNat_ofNat, BitVec.toNat_ofNat, BitVec.toNat_ofNat, Nat.xor_mod_two_pow]
/-- a byte behind those put out -/
def push (v : Nat) (d : DV) : DV := (d.1 + 1, updN d.2.1 d.1 v, d.2.2.1, d.2.2.2)
theorem RepO_push {n : Nat} {d : DV} {f : Nat → Int32} (h : RepO n d f) (b : Nat) : RepO n (push b d) (addF n (min d.1 n) (nI b) f) := RepO_add h 0 (fun _ => 0) b
def pushN (B : Nat → Nat) (n : Nat) (d : DV) : DV := itr (fun i d => push (B i) d) 0 n d
theorem push_itr {B : Nat → Nat} : ∀ {n i : Nat} {d : DV}, itr (fun i d => push (B i) d) i n d = (d.1 + n, (fun j => if d.1 ≤ j ∧ j < d.1 + n then B (i + (j - d.1)) else d.2.1 j), d.2.2.1, d.2.2.2) := by
  intro n
  induction n with
  | zero =>
    intro i d
    obtain ⟨m, o, v, x⟩ := d
    simp only [itr, Nat.add_zero]
    refine Prod.ext rfl (Prod.ext ?_ rfl)
    funext j
    simp only []
    rw [if_neg (by omega)]
  | succ n ih =>
    intro i d
    obtain ⟨m, o, v, x⟩ := d
    rw [itr, ih]
    refine Prod.ext (by show m + 1 + n = m + (n + 1); omega) (Prod.ext ?_ rfl)
    funext j
    show (if m + 1 ≤ j ∧ j < m + 1 + n then B (i + 1 + (j - (m + 1))) else (if j = m then B i else o j)) = (if m ≤ j ∧ j < m + (n + 1) then B (i + (j - m)) else o j)
    by_cases h1 : m + 1 ≤ j ∧ j < m + 1 + n
    · rw [if_pos h1, if_pos (by omega)]
      congr 1; omega
    · rw [if_neg h1]
      by_cases h2 : j = m
      · rw [if_pos h2, if_pos (by omega), h2]
        congr 1; omega
      · rw [if_neg h2, if_neg (by omega)]
theorem pushN_1 {B : Nat → Nat} {n : Nat} {d : DV} : (pushN B n d).1 = d.1 + n := by rw [pushN, push_itr]
theorem RepO_cat {N n : Nat} {B : Nat → Nat} {d : DV} {f g : Nat → Int32} (h : RepO N d f) (hg : ∀ j, j < n → g j = nI (B j)) (hN : d.1 + n ≤ N) : RepO N (pushN B n d) (catF f d.1 g n) := by
  intro j hj
  rw [pushN, push_itr] at hj ⊢
  simp only [catF] at hj ⊢
  by_cases h1 : d.1 ≤ j ∧ j < d.1 + n
  · rw [if_pos h1, if_pos h1, hg _ (by omega), Nat.zero_add]
  · rw [if_neg h1, if_neg h1]
    exact h j (by omega)
/-- a tile told as it is -/
def cntN (w h c t : Nat) : Nat := ((rgt w t - lft w t) * (btm w h t - tpp w t)) * c
def spk (P : Nat → Nat → Nat → Nat) (x y : Nat) : Nat → DV → DV := fun k d => push (P x y k) d
def spx (P : Nat → Nat → Nat → Nat) (c y : Nat) : Nat → DV → DV := fun x d => itr (spk P x y) 0 c d
def spy (P : Nat → Nat → Nat → Nat) (c l r : Nat) : Nat → DV → DV := fun y d => itr (spx P c y) l (r - l) d
abbrev D00 : DV := (0, fun _ => 0, 0, 0)
def spl0 (P : Nat → Nat → Nat → Nat) (w h c t : Nat) : DV := itr (spy P c (lft w t) (rgt w t)) (tpp w t) (btm w h t - tpp w t) D00
theorem itr_cnt {f : Nat → DV → DV} {q : Nat} (hf : ∀ i d, (f i d).1 = d.1 + q) : ∀ {n i : Nat} {d : DV}, (itr f i n d).1 = d.1 + n * q := by
  intro n
  induction n with
  | zero => intro i d; simp [itr]
  | succ n ih => intro i d; rw [itr, ih, hf, Nat.succ_mul]; omega
theorem spl0_cnt (P : Nat → Nat → Nat → Nat) (w h c t : Nat) : (spl0 P w h c t).1 = cntN w h c t := by
  have h1 : ∀ x y i d, (spk P x y i d).1 = d.1 + 1 := fun _ _ _ _ => rfl
  have h2 : ∀ y i d, (spx P c y i d).1 = d.1 + c := fun y i d => by rw [spx, itr_cnt (h1 i y), Nat.mul_one]
  have h3 : ∀ i d, (spy P c (lft w t) (rgt w t) i d).1 = d.1 + (rgt w t - lft w t) * c := fun i d => by rw [spy, itr_cnt (h2 i)]
  rw [spl0, itr_cnt h3, cntN]
  simp only [D00, Nat.zero_add]
  rw [Nat.mul_comm (rgt w t - lft w t) (btm w h t - tpp w t), Nat.mul_assoc]
theorem cntN_le {w h b c md : Nat} (hd : DIM w h b c md) (t : Nat) : cntN w h c t ≤ 192 := by
  obtain ⟨d1, d2, d3, d4, d5, d6, d7, d8, -⟩ := hd
  have h1 : rgt w t - lft w t ≤ 8 := by simp only [rgt]; omega
  have h2 : btm w h t - tpp w t ≤ 8 := by simp only [btm]; omega
  calc cntN w h c t ≤ 8 * 8 * 3 := Nat.mul_le_mul (Nat.mul_le_mul h1 h2) d8
    _ = 192 := rfl
/-- bytes below 256 -/
def B256 (d : DV) : Prop := ∀ j, j < d.1 → d.2.1 j < 256
theorem B256_push {v : Nat} {d : DV} (h : B256 d) (hv : v < 256) : B256 (push v d) := by
  intro j hj
  simp only [push, updN] at hj ⊢
  split
  · exact hv
  · exact h j (by omega)
theorem B256_pushN {B : Nat → Nat} {n : Nat} {d : DV} (h : B256 d) (hB : ∀ j, j < n → B j < 256) : B256 (pushN B n d) := by
  intro j hj
  rw [pushN, push_itr] at hj ⊢
  simp only [] at hj ⊢
  split
  · exact hB _ (by omega)
  · exact h j (by omega)
def ownD (P : Nat → Nat → Nat → Nat) (w h c t : Nat) (d : DV) : DV := if cntN w h c t ≤ d.1 then spl0 P w h c t else d
theorem ownD_le {w h b c md : Nat} (hd : DIM w h b c md) (P : Nat → Nat → Nat → Nat) (t : Nat) (d : DV) : (ownD P w h c t d).1 ≤ 192 := by
  have h1 := cntN_le hd t
  simp only [ownD]; split
  · rw [spl0_cnt]; exact h1
  · omega
def plF (w h c t : Nat) (d : DV) : Nat := if cntN w h c t ≤ d.1 then 1 else 0
def putD (P : Nat → Nat → Nat → Nat) (w h c t : Nat) (d cd : DV) : DV :=
  pushN (ownD P w h c t d).2.1 (ownD P w h c t d).1 (push (sumN (ownD P w h c t d).1 (ownD P w h c t d).2.1) (push ((ownD P w h c t d).1 / 256) (push ((ownD P w h c t d).1 % 256) (push (1 - plF w h c t d) cd))))
theorem putD_1 (P : Nat → Nat → Nat → Nat) (w h c t : Nat) (d cd : DV) : (putD P w h c t d cd).1 = cd.1 + 4 + (ownD P w h c t d).1 := by
  rw [putD, pushN_1]; simp only [push]
def encT (w h b c md t : Nat) (P : Nat → Nat → Nat → Nat) : TS := tile true 0 (fun _ => 0) w h b c md t P (0, 4294967295, D00)
def encD (T : TS) : DV := wnd 0 (fun _ => 0) T.2.2.2.2.2.2.1 T.2.2.2.2.2.2.2.2
abbrev ES : Type := TS × DV × (Nat → Nat)
def encS (w h b c md : Nat) : Nat → ES → ES := fun t s => (encT w h b c md t s.1.2.2.2.2.2.1, putD (encT w h b c md t s.1.2.2.2.2.2.1).2.2.2.2.2.1 w h c t (encD (encT w h b c md t s.1.2.2.2.2.2.1)) s.2.1, updN s.2.2 t (plF w h c t (encD (encT w h b c md t s.1.2.2.2.2.2.1))))
/-- the whole picture coded: out of the picture, and which tiles were told as they are before -/
def encA (w h b c md : Nat) (P : Nat → Nat → Nat → Nat) (pl : Nat → Nat) : ES := itr (encS w h b c md) 0 (tln w h) (T00 P (0, 4294967295, D00), D00, pl)
/-- reading -/
def fol (cn : Nat) (D : Nat → Nat) (i : Nat) : Nat := rdb cn D (i + 1) + 256 * rdb cn D (i + 2)
def goodB (w h c md cn : Nat) (D : Nat → Nat) (t i : Nat) : Bool := decide (i + 4 + fol cn D i ≤ cn) && decide (rdb cn D (i + 3) = sumN (fol cn D i) (fun j => rdb cn D (i + 4 + j))) && ((decide (rdb cn D i = 0) && decide (fol cn D i = cntN w h c t) && decide (∀ j, j < fol cn D i → rdb cn D (i + 4 + j) < 2 * md)) || decide (rdb cn D i = 1))
abbrev IP : Type := Nat × (Nat → Nat → Nat → Nat)
def ask (D : Nat → Nat) (x y : Nat) : Nat → IP → IP := fun k s => (s.1 + 1, updP s.2 x y k (D s.1))
def asx (D : Nat → Nat) (c y : Nat) : Nat → IP → IP := fun x s => itr (ask D x y) 0 c s
def asy (D : Nat → Nat) (c l r : Nat) : Nat → IP → IP := fun y s => itr (asx D c y) l (r - l) s
def asI (D : Nat → Nat) (w h c t i : Nat) (P : Nat → Nat → Nat → Nat) : IP := itr (asy D c (lft w t) (rgt w t)) (tpp w t) (btm w h t - tpp w t) (i, P)
def rdT (w h b c md cn : Nat) (D : Nat → Nat) (t i : Nat) (P : Nat → Nat → Nat → Nat) : TS := tile false (i + 4 + fol cn D i) D w h b c md t P (0, 4294967295, (0, fun _ => 0, rdn (i + 4 + fol cn D i) D (i + 4) 4, i + 4 + 4))
def decP (w h b c md cn : Nat) (D : Nat → Nat) (t i : Nat) (P : Nat → Nat → Nat → Nat) : Nat → Nat → Nat → Nat := if rdb cn D i = 0 then (asI (rdb cn D) w h c t (i + 4) P).2 else (rdT w h b c md cn D t i P).2.2.2.2.2.1
def decR (w h b c md cn : Nat) (D : Nat → Nat) : Nat → Nat → Nat → (Nat → Nat → Nat → Nat) → Int32 × (Nat → Nat → Nat → Nat)
  | 0, _, _, P => (nI (w * h * c), P)
  | n + 1, t, i, P => if goodB w h c md cn D t i = true then decR w h b c md cn D n (t + 1) (i + 4 + fol cn D i) (decP w h b c md cn D t i P) else ((-1) - nI t, P)
def decA (w h b c md cn : Nat) (D : Nat → Nat) (P : Nat → Nat → Nat → Nat) : Int32 × (Nat → Nat → Nat → Nat) := decR w h b c md cn D (tln w h) 0 0 P
/-- all samples painted -/
abbrev PS : Type := Int32 × Int32 × (Nat → Nat → Nat → Nat)
def pak (md : Nat) (st : Int32) (x y : Nat) : Nat → PS → PS := fun k s => (if s.2.2 x y k = andN s.2.1 md then s.1 else s.1 + 1, s.2.1 + st, updP s.2.2 x y k (andN s.2.1 md))
def pax (md c : Nat) (st : Int32) (y : Nat) : Nat → PS → PS := fun x s => itr (pak md st x y) 0 c s
def pay (md w c : Nat) (st : Int32) : Nat → PS → PS := fun y s => itr (pax md c st y) 0 w s
def paA (md w h c : Nat) (v st : Int32) (P : Nat → Nat → Nat → Nat) : PS := itr (pay md w c st) 0 h (0, v, P)
theorem rdb_le {cn : Nat} {D : Nat → Nat} {g : Nat → Int32} (h : RepD cn D g) (i : Nat) : getB cn g i = nI (rdb cn D i) := by
  simp only [getB, rdb]; split
  · exact (h i (by assumption)).1
  · rfl
theorem fol_lt {cn : Nat} {D : Nat → Nat} {g : Nat → Int32} (h : RepD cn D g) (i : Nat) : fol cn D i < 65536 := by
  have h1 := rdb_lt h (Nat.le_refl cn) (i + 1)
  have h2 := rdb_lt h (Nat.le_refl cn) (i + 2)
  simp only [fol]; omega
def toldV (a0 a1 a2 a3 a4 a5 a6 what : Int32) : Int32 := if what = 0 then a0 else if what = 1 then a1 else if what = 2 then a2 else if what = 3 then a3 else if what = 4 then a4 else if what = 5 then a5 else if what = 6 then a6 else -1
