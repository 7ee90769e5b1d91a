/-! A sample, and a tile of samples. -/
theorem sub1_lt {n : Nat} (hn : n < 2 ^ 30) : nI n - 1 < 0 ↔ n = 0 := by
  constructor
  · intro h
    rcases Nat.eq_zero_or_pos n with e | e
    · exact e
    · have h2 : nI n - 1 = nI (n - 1) := pk_sub (b := 1) e
      rw [h2] at h
      exact absurd h (nI_pos (by omega))
  · intro h; subst h; decide
theorem sub1_m1 (n : Nat) : nI n + Int32.ofInt (-1) = nI n - 1 := by rw [Int32.sub_eq_add_neg]; rfl
abbrev CHT : Type := Nat → Nat → Nat → Int32
abbrev BS : Type := Nat × CHT × CHT × (Nat → Int32) × LH
/-- a chance as a natural number -/
def pN (x : Int32) : Nat := x.toInt.toNat
theorem pmx_in (f s h : Int32) : 64 ≤ (pmx f s h).toInt ∧ (pmx f s h).toInt ≤ 65472 := br_toInt (by decide)
theorem pN_in (f s h : Int32) : 64 ≤ pN (pmx f s h) ∧ pN (pmx f s h) ≤ 65472 := by
  have h1 := pmx_in f s h
  simp only [pN]
  omega
theorem pN_eq (f s h : Int32) : pmx f s h = nI (pN (pmx f s h)) := by
  have h1 := pmx_in f s h
  have h2 := pN_in f s h
  apply Int32.toInt_inj.mp
  rw [nI_toInt (by omega)]
  simp only [pN]
  omega
/-- one bit of a sample: bit i of what is told -/
def bstep (wr : Bool) (en : Nat) (D : Nat → Nat) (k tx ps wn i : Nat) (s : BS) : BS :=
  (2 * s.1 + narb wr (wn / 2 ^ i % 2) s.2.2.2.2.2.2.2.2.1 s.2.2.2.2.1 s.2.2.2.2.2.1 (pN (pmx (s.2.1 k tx s.1) (s.2.2.1 k ps s.1) (s.2.2.2.1 k))),
   upd3 s.2.1 k tx s.1 (lrF (s.2.1 k tx s.1) (narb wr (wn / 2 ^ i % 2) s.2.2.2.2.2.2.2.2.1 s.2.2.2.2.1 s.2.2.2.2.2.1 (pN (pmx (s.2.1 k tx s.1) (s.2.2.1 k ps s.1) (s.2.2.2.1 k))))),
   upd3 s.2.2.1 k ps s.1 (lrS (s.2.2.1 k ps s.1) (narb wr (wn / 2 ^ i % 2) s.2.2.2.2.2.2.2.2.1 s.2.2.2.2.1 s.2.2.2.2.2.1 (pN (pmx (s.2.1 k tx s.1) (s.2.2.1 k ps s.1) (s.2.2.2.1 k))))),
   upd s.2.2.2.1 k (shN (s.2.1 k tx s.1) (s.2.2.1 k ps s.1) (s.2.2.2.1 k) (narb wr (wn / 2 ^ i % 2) s.2.2.2.2.2.2.2.2.1 s.2.2.2.2.1 s.2.2.2.2.2.1 (pN (pmx (s.2.1 k tx s.1) (s.2.2.1 k ps s.1) (s.2.2.2.1 k))))),
   narx wr en D (narb wr (wn / 2 ^ i % 2) s.2.2.2.2.2.2.2.2.1 s.2.2.2.2.1 s.2.2.2.2.2.1 (pN (pmx (s.2.1 k tx s.1) (s.2.2.1 k ps s.1) (s.2.2.2.1 k)))) s.2.2.2.2.1 s.2.2.2.2.2.1 (pN (pmx (s.2.1 k tx s.1) (s.2.2.1 k ps s.1) (s.2.2.2.1 k))) s.2.2.2.2.2.2)
theorem bstep_eq {wr : Bool} {en : Nat} {D : Nat → Nat} {k tx ps wn i nd : Nat} {F S : CHT} {h : Nat → Int32} {a b : Nat} {d : DV} {p t : Nat} (hp : p = pN (pmx (F k tx nd) (S k ps nd) (h k))) (ht : t = narb wr (wn / 2 ^ i % 2) d.2.2.1 a b p) : bstep wr en D k tx ps wn i (nd, F, S, h, (a, b, d)) = (2 * nd + t, upd3 F k tx nd (lrF (F k tx nd) t), upd3 S k ps nd (lrS (S k ps nd) t), upd h k (shN (F k tx nd) (S k ps nd) (h k) t), narx wr en D t a b p d) := by
  subst ht; subst hp; rfl
def bloop (wr : Bool) (en : Nat) (D : Nat → Nat) (k tx ps wn : Nat) : Nat → BS → BS
  | 0, s => s
  | i + 1, s => bloop wr en D k tx ps wn i (bstep wr en D k tx ps wn i s)
theorem bloop_s {wr : Bool} {en : Nat} {D : Nat → Nat} {k tx ps wn n : Nat} {s : BS} (h : 0 < n) : bloop wr en D k tx ps wn n s = bloop wr en D k tx ps wn (n - 1) (bstep wr en D k tx ps wn (n - 1) s) := by
  cases n with
  | zero => exact absurd h (Nat.lt_irrefl 0)
  | succ n => rfl
/-- where the node stands with n bits to go, of b -/
def NDok (b n nd : Nat) : Prop := 2 ^ b ≤ nd * 2 ^ n ∧ (nd + 1) * 2 ^ n ≤ 2 * 2 ^ b
theorem NDok_0 (b : Nat) : NDok b b 1 := ⟨by omega, by omega⟩
theorem NDok_s {b n nd t : Nat} (h : NDok b (n + 1) nd) (ht : t < 2) : NDok b n (2 * nd + t) := by
  obtain ⟨h1, h2⟩ := h
  rw [Nat.pow_succ] at h1 h2
  have e1 : nd * (2 ^ n * 2) = 2 * nd * 2 ^ n := by rw [Nat.mul_comm (2 ^ n) 2, ← Nat.mul_assoc, Nat.mul_comm nd 2]
  have e2 : (nd + 1) * (2 ^ n * 2) = (2 * nd + 2) * 2 ^ n := by rw [Nat.mul_comm (2 ^ n) 2, ← Nat.mul_assoc]; congr 1; omega
  rw [e1] at h1
  rw [e2] at h2
  refine ⟨Nat.le_trans h1 (Nat.mul_le_mul_right _ (by omega)), Nat.le_trans (Nat.mul_le_mul_right _ (by omega)) h2⟩
theorem NDok_lt {b n nd md : Nat} (h : NDok b (n + 1) nd) (e : 2 * md = 2 ^ b) : nd < 2 * md := by
  obtain ⟨-, h2⟩ := h
  rw [← e, Nat.pow_succ] at h2
  have h3 : (nd + 1) * 2 ≤ (nd + 1) * (2 ^ n * 2) := Nat.mul_le_mul_left _ (by have := Nat.two_pow_pos n; omega)
  omega
theorem NDok_e {b nd md : Nat} (h : NDok b 0 nd) (e : 2 * md = 2 ^ b) : 2 * md ≤ nd ∧ nd - 2 * md < 2 * md := by
  obtain ⟨h1, h2⟩ := h
  simp only [Nat.pow_zero, Nat.mul_one] at h1 h2
  omega
/-- what a run of bits keeps -/
def BOK (b n nx : Nat) (c : Nat) (s : BS) : Prop := NDok b n s.1 ∧ s.2.2.2.2.1 < s.2.2.2.2.2.1 ∧ s.2.2.2.2.2.1 < 4294967296 ∧ s.2.2.2.2.2.2.2.2.1 < 4294967296 ∧ s.2.2.2.2.2.2.2.2.2 ≤ nx ∧ ∀ j, j < c → 1 ≤ (s.2.2.2.1 j).toInt ∧ (s.2.2.2.1 j).toInt ≤ 63
theorem shN_in {o s h : Int32} {t : Nat} (hh : 1 ≤ h.toInt ∧ h.toInt ≤ 63) : 1 ≤ (shN o s h t).toInt ∧ (shN o s h t).toInt ≤ 63 := by
  unfold shN; split
  · exact hh
  · exact br_toInt (by decide)
theorem BOK_s {wr : Bool} {en : Nat} {D : Nat → Nat} (hr : ∀ i, rdb en D i < 256) {k tx ps wn b n nx c : Nat} {s : BS} (h : BOK b (n + 1) nx c s) : BOK b n (nx + 4) c (bstep wr en D k tx ps wn n s) := by
  obtain ⟨nd, F, S, H, a, e, d⟩ := s
  obtain ⟨h1, h2, h3, h4, h5, h6⟩ := h
  simp only [] at h1 h2 h3 h4 h5 h6
  have hp := pN_in (F k tx nd) (S k ps nd) (H k)
  rw [bstep_eq rfl rfl]
  generalize ht : narb wr (wn / 2 ^ n % 2) d.2.2.1 a e (pN (pmx (F k tx nd) (S k ps nd) (H k))) = t
  have ht2 : t < 2 := by rw [← ht]; exact narb_lt (Nat.mod_lt _ (by decide))
  have h7 := @nar_in wr en D t a e (pN (pmx (F k tx nd) (S k ps nd) (H k))) d h2 h3 (by omega)
  have h8 := @nar_nx wr en D t a e (pN (pmx (F k tx nd) (S k ps nd) (H k))) d
  refine ⟨NDok_s h1 ht2, h7.1, h7.2, nar_v hr h4, Nat.le_trans h8 (by omega), fun j hj => ?_⟩
  simp only [upd]
  split
  · rename_i hjk; subst hjk; exact shN_in (h6 j hj)
  · exact h6 j hj
theorem BOK_l {wr : Bool} {en : Nat} {D : Nat → Nat} (hr : ∀ i, rdb en D i < 256) {k tx ps wn b c : Nat} : ∀ {n nx : Nat} {s : BS}, BOK b n nx c s → BOK b 0 (nx + 4 * n) c (bloop wr en D k tx ps wn n s) := by
  intro n
  induction n with
  | zero => intro nx s h; exact h
  | succ n ih =>
    intro nx s h
    have h1 := ih (BOK_s (wr := wr) hr (k := k) (tx := tx) (ps := ps) (wn := wn) h)
    rw [show nx + 4 * (n + 1) = nx + 4 + 4 * n by omega]
    exact h1
def fld (md ms : Nat) : Nat := if ms < md then 2 * ms else 2 * (2 * md - ms) - 1
def unf (md fo : Nat) : Nat := if fo % 2 = 0 then fo / 2 else 2 * md - (fo + 1) / 2
/-- weights, first and second chances, shares, numbers told before, samples, interval -/
abbrev TS : Type := (Nat → Int32) × CHT × CHT × (Nat → Int32) × (Nat → Nat) × (Nat → Nat → Nat → Nat) × LH
def sB (wr : Bool) (en : Nat) (D : Nat → Nat) (w b md : Nat) (T : TS) (x y k : Nat) : BS :=
  bloop wr en D k (tex (nbA T.2.2.2.2.2.1 md x y k) (nbB T.2.2.2.2.2.1 md x y k) (nbC T.2.2.2.2.2.1 md x y k)) (min 3 (T.2.2.2.2.1 k / 2)) (fld md (andN (nI (T.2.2.2.2.2.1 x y k) - mixV T.1 (exW T.2.2.2.2.2.1 w md x y k)) md)) b (1, T.2.1, T.2.2.1, T.2.2.2.1, T.2.2.2.2.2.2)
def sV (w md : Nat) (T : TS) (x y k fo : Nat) : Nat := andN (mixV T.1 (exW T.2.2.2.2.2.1 w md x y k) + nI (unf md fo)) md
def sstep (wr : Bool) (en : Nat) (D : Nat → Nat) (w b md : Nat) (T : TS) (x y k : Nat) : TS :=
  (lrnW T.1 (exW T.2.2.2.2.2.1 w md x y k) (mixV T.1 (exW T.2.2.2.2.2.1 w md x y k)) (nI (sV w md T x y k ((sB wr en D w b md T x y k).1 - 2 * md))),
   (sB wr en D w b md T x y k).2.1, (sB wr en D w b md T x y k).2.2.1, (sB wr en D w b md T x y k).2.2.2.1,
   updN T.2.2.2.2.1 k ((sB wr en D w b md T x y k).1 - 2 * md),
   updP T.2.2.2.2.2.1 x y k (sV w md T x y k ((sB wr en D w b md T x y k).1 - 2 * md)),
   (sB wr en D w b md T x y k).2.2.2.2)
def TIN (w h c md nx : Nat) (T : TS) : Prop := WB T.1 ∧ (∀ j, j < c → 1 ≤ (T.2.2.2.1 j).toInt ∧ (T.2.2.2.1 j).toInt ≤ 63) ∧ (∀ j, j < c → T.2.2.2.2.1 j < 2 * md) ∧ PicB w h c md T.2.2.2.2.2.1 ∧ T.2.2.2.2.2.2.1 < T.2.2.2.2.2.2.2.1 ∧ T.2.2.2.2.2.2.2.1 < 4294967296 ∧ T.2.2.2.2.2.2.2.2.2.2.1 < 4294967296 ∧ T.2.2.2.2.2.2.2.2.2.2.2 ≤ nx
theorem TIN_B {wr : Bool} {en : Nat} {D : Nat → Nat} (hr : ∀ i, rdb en D i < 256) {w h b c md nx : Nat} {T : TS} (ti : TIN w h c md nx T) (x y k : Nat) : BOK b 0 (nx + 4 * b) c (sB wr en D w b md T x y k) := by
  obtain ⟨h1, h2, h3, h4, h5, h6, h7, h8⟩ := ti
  exact BOK_l hr ⟨NDok_0 b, h5, h6, h7, h8, h2⟩
theorem TIN_s {wr : Bool} {en : Nat} {D : Nat → Nat} (hr : ∀ i, rdb en D i < 256) {w h b c md nx : Nat} (hd : DIM w h b c md) {T : TS} (ti : TIN w h c md nx T) {x y k : Nat} : TIN w h c md (nx + 32) (sstep wr en D w b md T x y k) := by
  have hB := TIN_B (wr := wr) (b := b) hr ti x y k
  obtain ⟨h1, h2, h3, h4, h5, h6, h7, h8⟩ := ti
  obtain ⟨g1, g2, g3, g4, g5, g6⟩ := hB
  have hb : b ≤ 8 := hd.2.2.2.2.2.1
  have e1 := NDok_e g1 hd.2.2.2.2.2.2.2.2.2.2
  refine ⟨WB_lrn h1, g6, fun j hj => ?_, PicB_upd h4 (andN_lt hd _), g2, g3, g4, Nat.le_trans g5 (by omega)⟩
  simp only [sstep, updN]
  split
  · exact e1.2
  · exact h3 j hj
/-- the class's rows hold the state -/
def RTC (w h c md : Nat) (T : TS) (fW f1 f2 fh fp f : Nat → Int32) : Prop := (∀ j, j < 9 → fW j = T.1 j) ∧ ChC c md f1 T.2.1 ∧ ChC c md f2 T.2.2.1 ∧ (∀ j, j < c → fh j = T.2.2.2.1 j) ∧ (∀ j, j < c → fp j = nI (min 3 (T.2.2.2.2.1 j / 2))) ∧ PicC w h c f T.2.2.2.2.2.1
/-- i counts on from i, n times -/
def itr {σ : Type} (f : Nat → σ → σ) : Nat → Nat → σ → σ
  | _, 0, s => s
  | i, n + 1, s => itr f (i + 1) n (f i s)
theorem itr_0 {σ : Type} {f : Nat → σ → σ} {i n : Nat} {s : σ} (h : n = 0) : itr f i n s = s := by subst h; rfl
theorem itr_s {σ : Type} {f : Nat → σ → σ} {i e : Nat} {s : σ} (h : i < e) : itr f i (e - i) s = itr f (i + 1) (e - (i + 1)) (f i s) := by
  rw [show e - i = (e - (i + 1)) + 1 by omega]; rfl
theorem itr_in {σ : Type} {f : Nat → σ → σ} (I : Nat → σ → Prop) (hs : ∀ i s, I i s → I (i + 1) (f i s)) : ∀ (n i : Nat) (s : σ), I i s → I (i + n) (itr f i n s) := by
  intro n
  induction n with
  | zero => intro i s h; exact h
  | succ n ih => intro i s h; rw [show i + (n + 1) = i + 1 + n by omega]; exact ih (i + 1) (f i s) (hs i s h)
def kst (wr : Bool) (en : Nat) (D : Nat → Nat) (w b md x y : Nat) : Nat → TS → TS := fun k T => sstep wr en D w b md T x y k
def xst (wr : Bool) (en : Nat) (D : Nat → Nat) (w b c md y : Nat) : Nat → TS → TS := fun x T => itr (kst wr en D w b md x y) 0 c T
def yst (wr : Bool) (en : Nat) (D : Nat → Nat) (w b c md l r : Nat) : Nat → TS → TS := fun y T => itr (xst wr en D w b c md y) l (r - l) T
/-- a tile's state at its beginning, and the tile -/
def T00 (P : Nat → Nat → Nat → Nat) (X : LH) : TS := (fun _ => 256, fun _ _ _ => 32768, fun _ _ _ => 32768, fun _ => 32, fun _ => 0, P, X)
def tile (wr : Bool) (en : Nat) (D : Nat → Nat) (w h b c md t : Nat) (P : Nat → Nat → Nat → Nat) (X : LH) : TS := itr (yst wr en D w b c md (lft w t) (rgt w t)) (tpp w t) (btm w h t - tpp w t) (T00 P X)
theorem fld_lt {md ms : Nat} (hm : 1 ≤ md) (h : ms < 2 * md) : fld md ms < 2 * md := by
  simp only [fld]; split <;> omega
theorem RTC_0 {w h b c md : Nat} (hd : DIM w h b c md) {P : Nat → Nat → Nat → Nat} {X : LH} {fW f1 f2 fh fp f : Nat → Int32} (hf : PicC w h c f P) : RTC w h c md (T00 P X) (fillN 9 256 fW) (fillN (c * 4 * (2 * md)) 32768 f1) (fillN (c * 4 * (2 * md)) 32768 f2) (fillN c 32 fh) (fillN c 0 fp) f := by
  refine ⟨fun j hj => ?_, fun k q n hk hq hn => ?_, fun k q n hk hq hn => ?_, fun j hj => ?_, fun j hj => ?_, hf⟩
  · simp only [fillN, T00]; rw [if_pos hj]
  · simp only [fillN, T00]; rw [if_pos (ch_lt hk hq hn)]
  · simp only [fillN, T00]; rw [if_pos (ch_lt hk hq hn)]
  · simp only [fillN, T00]; rw [if_pos hj]
  · simp only [fillN, T00]; rw [if_pos hj]; rfl
theorem TIN_0 {w h b c md nx : Nat} (hd : DIM w h b c md) {P : Nat → Nat → Nat → Nat} {a e : Nat} {d : DV} (hP : PicB w h c md P) (h1 : a < e) (h2 : e < 4294967296) (h3 : d.2.2.1 < 4294967296) (h4 : d.2.2.2 ≤ nx) : TIN w h c md nx (T00 P (a, e, d)) :=
  ⟨WB_256 (fun _ _ => rfl), fun _ _ => by simp only [T00]; decide, fun _ _ => by have := hd.2.2.2.2.2.2.2.2.1; simp only [T00]; omega, hP, h1, h2, h3, h4⟩
theorem TIN_w {w h c md nx ny : Nat} {T : TS} (ti : TIN w h c md nx T) (hn : nx ≤ ny) : TIN w h c md ny T := ⟨ti.1, ti.2.1, ti.2.2.1, ti.2.2.2.1, ti.2.2.2.2.1, ti.2.2.2.2.2.1, ti.2.2.2.2.2.2.1, Nat.le_trans ti.2.2.2.2.2.2.2 hn⟩
