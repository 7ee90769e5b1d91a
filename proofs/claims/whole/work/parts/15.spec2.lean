/-! The interval, and what it puts out or reads. -/
/-- what was put out (how many, which), the reader's word, its next place -/
abbrev DV : Type := Nat × (Nat → Nat) × Nat × Nat
abbrev LH : Type := Nat × Nat × DV
def updN (f : Nat → Nat) (k v : Nat) : Nat → Nat := fun j => if j = k then v else f j
def rdb (en : Nat) (D : Nat → Nat) (i : Nat) : Nat := if i < en then D i else 0
def emt (wr : Bool) (en : Nat) (D : Nat → Nat) (b : Nat) (d : DV) : DV := if wr = true then (d.1 + 1, updN d.2.1 d.1 b, d.2.2.1, d.2.2.2) else (d.1, d.2.1, d.2.2.1 * 256 % 4294967296 + rdb en D d.2.2.2, d.2.2.2 + 1)
def nrm (wr : Bool) (en : Nat) (D : Nat → Nat) : Nat → LH → LH
  | 0, t => t
  | n + 1, t => if t.1 / 16777216 = t.2.1 / 16777216 then nrm wr en D n (t.1 * 256 % 4294967296, t.2.1 * 256 % 4294967296 + 255, emt wr en D (t.1 / 16777216) t.2.2) else t
theorem nrm_s {wr : Bool} {en : Nat} {D : Nat → Nat} {n a b : Nat} {d : DV} (h : a / 16777216 = b / 16777216) : nrm wr en D (n + 1) (a, b, d) = nrm wr en D n (a * 256 % 4294967296, b * 256 % 4294967296 + 255, emt wr en D (a / 16777216) d) := by
  rw [nrm, if_pos h]
theorem nrm_e {wr : Bool} {en : Nat} {D : Nat → Nat} {n a b : Nat} {d : DV} (h : ¬ a / 16777216 = b / 16777216) : nrm wr en D n (a, b, d) = (a, b, d) := by
  cases n with
  | zero => rfl
  | succ n => rw [nrm, if_neg h]
def spl (a b p : Nat) : Nat := a + (b - a) * p / 65536
def narb (wr : Bool) (t v a b p : Nat) : Nat := if wr = true then t else if v ≤ spl a b p then 1 else 0
def narx (wr : Bool) (en : Nat) (D : Nat → Nat) (t a b p : Nat) (d : DV) : LH := nrm wr en D 4 (if t = 1 then (a, spl a b p, d) else (spl a b p + 1, b, d))
theorem spl_in {a b p : Nat} (h : a < b) (hp : p < 65536) : a ≤ spl a b p ∧ spl a b p < b := by
  simp only [spl]
  have h1 : (b - a) * p / 65536 < b - a := by
    apply Nat.div_lt_of_lt_mul
    rw [Nat.mul_comm 65536]
    exact Nat.mul_lt_mul_of_pos_left hp (by omega)
  omega
theorem narb_lt {wr : Bool} {t v a b p : Nat} (ht : t < 2) : narb wr t v a b p < 2 := by
  simp only [narb]; split
  · exact ht
  · split <;> omega
/-- the ends stay apart -/
theorem nrm_in {wr : Bool} {en : Nat} {D : Nat → Nat} : ∀ {n a b : Nat} {d : DV}, b < 4294967296 → ((n = 4 ∧ a ≤ b) ∨ (n = 3 ∧ a + 255 ≤ b) ∨ (n = 2 ∧ a + 65535 ≤ b) ∨ (n = 1 ∧ a + 16777215 ≤ b) ∨ (n = 0 ∧ a + 4294967295 ≤ b)) → (nrm wr en D n (a, b, d)).1 < (nrm wr en D n (a, b, d)).2.1 ∧ (nrm wr en D n (a, b, d)).2.1 < 4294967296 := by
  intro n
  induction n with
  | zero => intro a b d hb h; simp only [nrm]; omega
  | succ n ih =>
    intro a b d hb h
    by_cases e : a / 16777216 = b / 16777216
    · rw [nrm_s e]
      exact ih (by omega) (by omega)
    · rw [nrm_e e]
      simp only []
      omega
theorem nar_in {wr : Bool} {en : Nat} {D : Nat → Nat} {t a b p : Nat} {d : DV} (h : a < b) (hb : b < 4294967296) (hp : p < 65536) : (narx wr en D t a b p d).1 < (narx wr en D t a b p d).2.1 ∧ (narx wr en D t a b p d).2.1 < 4294967296 := by
  have h1 := spl_in h hp
  unfold narx
  split
  · exact nrm_in (by omega) (Or.inl ⟨rfl, h1.1⟩)
  · exact nrm_in (by omega) (Or.inl ⟨rfl, by omega⟩)
/-- what the writer's row of n places holds of it -/
def RepO (n : Nat) (d : DV) (f : Nat → Int32) : Prop := ∀ j, j < min d.1 n → f j = nI (d.2.1 j)
theorem addK_min (n m : Nat) : addK n (min m n) = min (m + 1) n := by
  simp only [addK]; split <;> omega
theorem RepO_add {n : Nat} {d : DV} {f : Nat → Int32} (h : RepO n d f) (en : Nat) (D : Nat → Nat) (b : Nat) : RepO n (emt true en D b d) (addF n (min d.1 n) (nI b) f) := by
  intro j hj
  simp only [emt, if_true] at hj ⊢
  simp only [addF]
  by_cases h1 : min d.1 n < n
  · rw [if_pos h1]
    have e : min d.1 n = d.1 := by omega
    rw [e]
    simp only [upd, updN]
    by_cases h2 : j = d.1
    · rw [if_pos h2, if_pos h2]
    · rw [if_neg h2, if_neg h2]
      exact h j (by omega)
  · rw [if_neg h1]
    simp only [updN]
    rw [if_neg (by omega)]
    exact h j (by omega)
/-- what the reader reads of -/
def RepD (cnt : Nat) (D : Nat → Nat) (g : Nat → Int32) : Prop := ∀ j, j < cnt → g j = nI (D j) ∧ D j < 256
theorem rdb_lt {cnt en : Nat} {D : Nat → Nat} {g : Nat → Int32} (h : RepD cnt D g) (he : en ≤ cnt) (i : Nat) : rdb en D i < 256 := by
  simp only [rdb]; split
  · exact (h i (by omega)).2
  · omega
theorem emt_v {wr : Bool} {en : Nat} {D : Nat → Nat} {b : Nat} {d : DV} (h : d.2.2.1 < 4294967296) (hr : ∀ i, rdb en D i < 256) : (emt wr en D b d).2.2.1 < 4294967296 := by
  simp only [emt]; split
  · exact h
  · have := hr d.2.2.2
    simp only []
    omega
theorem emt_nx {wr : Bool} {en : Nat} {D : Nat → Nat} {b : Nat} {d : DV} : (emt wr en D b d).2.2.2 ≤ d.2.2.2 + 1 := by
  simp only [emt]; split
  · simp only []; omega
  · simp only []; omega
theorem nrm_v {wr : Bool} {en : Nat} {D : Nat → Nat} (hr : ∀ i, rdb en D i < 256) : ∀ {n : Nat} {x : LH}, x.2.2.2.2.1 < 4294967296 → (nrm wr en D n x).2.2.2.2.1 < 4294967296 := by
  intro n
  induction n with
  | zero => intro x h; exact h
  | succ n ih =>
    intro x h
    simp only [nrm]; split
    · exact ih (emt_v h hr)
    · exact h
theorem nrm_nx {wr : Bool} {en : Nat} {D : Nat → Nat} : ∀ {n : Nat} {x : LH}, (nrm wr en D n x).2.2.2.2.2 ≤ x.2.2.2.2.2 + n := by
  intro n
  induction n with
  | zero => intro x; exact Nat.le_refl _
  | succ n ih =>
    intro x
    simp only [nrm]; split
    · have h1 := @ih (x.1 * 256 % 4294967296, x.2.1 * 256 % 4294967296 + 255, emt wr en D (x.1 / 16777216) x.2.2)
      have h2 := @emt_nx wr en D (x.1 / 16777216) x.2.2
      simp only [] at h1
      omega
    · omega
theorem nar_v {wr : Bool} {en : Nat} {D : Nat → Nat} (hr : ∀ i, rdb en D i < 256) {t a b p : Nat} {d : DV} (h : d.2.2.1 < 4294967296) : (narx wr en D t a b p d).2.2.2.2.1 < 4294967296 := by
  unfold narx; split <;> exact nrm_v hr h
theorem nar_nx {wr : Bool} {en : Nat} {D : Nat → Nat} {t a b p : Nat} {d : DV} : (narx wr en D t a b p d).2.2.2.2.2 ≤ d.2.2.2 + 4 := by
  unfold narx; split <;> exact nrm_nx
/-- the reader's word behind n bytes -/
def rdn (en : Nat) (D : Nat → Nat) (fr : Nat) : Nat → Nat
  | 0 => 0
  | n + 1 => rdn en D fr n * 256 % 4294967296 + rdb en D (fr + n)
theorem rdn_lt {en : Nat} {D : Nat → Nat} {fr : Nat} (hr : ∀ i, rdb en D i < 256) : ∀ n, rdn en D fr n < 4294967296 := by
  intro n
  cases n with
  | zero => simp [rdn]
  | succ n =>
    have := hr (fr + n)
    simp only [rdn]
    omega
/-- the end of what is put out -/
def wnd (en : Nat) (D : Nat → Nat) (a : Nat) (d : DV) : DV := emt true en D ((a + 65535) % 4294967296 / 65536 % 256) (emt true en D ((a + 65535) % 4294967296 / 16777216) d)
