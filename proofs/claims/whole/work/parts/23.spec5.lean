/-! What the tile keeps: bounds, and bytes below 256. -/
theorem emt_B {wr : Bool} {en : Nat} {D : Nat → Nat} {b : Nat} {d : DV} (h : B256 d) (hb : b < 256) : B256 (emt wr en D b d) := by
  cases wr with
  | true => exact B256_push h hb
  | false => exact h
theorem nrm_B {wr : Bool} {en : Nat} {D : Nat → Nat} : ∀ {n a b : Nat} {d : DV}, a ≤ b → b < 4294967296 → B256 d → B256 (nrm wr en D n (a, b, d)).2.2 := by
  intro n
  induction n with
  | zero => intro a b d _ _ h; exact h
  | succ n ih =>
    intro a b d h1 h2 h
    by_cases e : a / 16777216 = b / 16777216
    · rw [nrm_s e]
      exact ih (by omega) (by omega) (emt_B h (by omega))
    · rw [nrm_e e]; exact h
theorem nar_B {wr : Bool} {en : Nat} {D : Nat → Nat} {t a b p : Nat} {d : DV} (h : a < b) (hb : b < 4294967296) (hp : p < 65536) (hB : B256 d) : B256 (narx wr en D t a b p d).2.2 := by
  have h1 := spl_in h hp
  unfold narx
  split
  · exact nrm_B h1.1 (by omega) hB
  · exact nrm_B (by omega) hb hB
theorem bstep_B {wr : Bool} {en : Nat} {D : Nat → Nat} {k tx ps wn n nx c : Nat} {b : Nat} {s : BS} (h : BOK b (n + 1) nx c s) (hB : B256 s.2.2.2.2.2.2) : B256 (bstep wr en D k tx ps wn n s).2.2.2.2.2.2 := by
  obtain ⟨nd, F, S, H, a, e, d⟩ := s
  obtain ⟨h1, h2, h3, -⟩ := h
  have hp := pN_in (F k tx nd) (S k ps nd) (H k)
  rw [bstep_eq rfl rfl]
  exact nar_B h2 h3 (by omega) hB
theorem bloop_B {wr : Bool} {en : Nat} {D : Nat → Nat} (hr : ∀ i, rdb en D i < 256) {k tx ps wn b c : Nat} : ∀ {n nx : Nat} {s : BS}, BOK b n nx c s → B256 s.2.2.2.2.2.2 → B256 (bloop wr en D k tx ps wn n s).2.2.2.2.2.2 := by
  intro n
  induction n with
  | zero => intro nx s _ h; exact h
  | succ n ih => intro nx s h hB; exact ih (BOK_s (wr := wr) hr (k := k) (tx := tx) (ps := ps) (wn := wn) h) (bstep_B h hB)
theorem sstep_B {wr : Bool} {en : Nat} {D : Nat → Nat} (hr : ∀ i, rdb en D i < 256) {w h b c md nx : Nat} {T : TS} (ti : TIN w h c md nx T) (hB : B256 T.2.2.2.2.2.2.2.2) (x y k : Nat) : B256 (sstep wr en D w b md T x y k).2.2.2.2.2.2.2.2 := by
  obtain ⟨h1, h2, h3, h4, h5, h6, h7, h8⟩ := ti
  exact bloop_B (b := b) (c := c) hr (n := b) ⟨NDok_0 b, h5, h6, h7, h8, h2⟩ hB
def TIB (w h c md nx : Nat) (T : TS) : Prop := TIN w h c md nx T ∧ B256 T.2.2.2.2.2.2.2.2
theorem TIB_w {w h c md nx ny : Nat} {T : TS} (ti : TIB w h c md nx T) (hn : nx ≤ ny) : TIB w h c md ny T := ⟨TIN_w ti.1 hn, ti.2⟩
theorem kst_in {wr : Bool} {en : Nat} {D : Nat → Nat} (hr : ∀ i, rdb en D i < 256) {w h b c md nx : Nat} (hd : DIM w h b c md) {T : TS} (ti : TIB w h c md nx T) (x y : Nat) : TIB w h c md (nx + 96) (itr (kst wr en D w b md x y) 0 c T) := by
  have h1 := itr_in (fun i s => TIB w h c md (nx + 32 * i) s) (f := kst wr en D w b md x y) (fun i s hs => ⟨TIN_w (TIN_s (wr := wr) hr hd hs.1) (by omega), sstep_B hr hs.1 hs.2 x y i⟩) c 0 T ti
  have hc : c ≤ 3 := hd.2.2.2.2.2.2.2.1
  exact TIB_w h1 (by omega)
theorem xst_in {wr : Bool} {en : Nat} {D : Nat → Nat} (hr : ∀ i, rdb en D i < 256) {w h b c md nx : Nat} (hd : DIM w h b c md) {T : TS} (ti : TIB w h c md nx T) (y l n : Nat) (hn : n ≤ 8) : TIB w h c md (nx + 768) (itr (xst wr en D w b c md y) l n T) := by
  have h1 := itr_in (fun i s => TIB w h c md (nx + 96 * (i - l)) s ∧ l ≤ i) (f := xst wr en D w b c md y) (fun i s hs => ⟨TIB_w (kst_in (wr := wr) hr hd hs.1 i y) (by have := hs.2; omega), by have := hs.2; omega⟩) n l T ⟨TIB_w ti (by omega), Nat.le_refl _⟩
  exact TIB_w h1.1 (by omega)
theorem tile_in {wr : Bool} {en : Nat} {D : Nat → Nat} (hr : ∀ i, rdb en D i < 256) {w h b c md nx : Nat} (hd : DIM w h b c md) {P : Nat → Nat → Nat → Nat} {a e : Nat} {d : DV} (hP : PicB w h c md P) (h1 : a < e) (h2 : e < 4294967296) (h3 : d.2.2.1 < 4294967296) (h4 : d.2.2.2 ≤ nx) (hB : B256 d) (t : Nat) : TIB w h c md (nx + 6144) (tile wr en D w h b c md t P (a, e, d)) := by
  have h0 : TIB w h c md nx (T00 P (a, e, d)) := ⟨TIN_0 hd hP h1 h2 h3 h4, hB⟩
  have q1 : rgt w t - lft w t ≤ 8 := by simp only [rgt]; omega
  have q2 : btm w h t - tpp w t ≤ 8 := by simp only [btm]; omega
  have g := itr_in (fun i s => TIB w h c md (nx + 768 * (i - tpp w t)) s ∧ tpp w t ≤ i) (f := yst wr en D w b c md (lft w t) (rgt w t)) (fun i s hs => ⟨TIB_w (xst_in (wr := wr) hr hd hs.1 i (lft w t) _ q1) (by have := hs.2; omega), by have := hs.2; omega⟩) (btm w h t - tpp w t) (tpp w t) _ ⟨TIB_w h0 (by omega), Nat.le_refl _⟩
  exact TIB_w g.1 (by omega)
theorem rd0 : ∀ i, rdb 0 (fun _ => 0) i < 256 := fun i => by simp [rdb]
theorem encT_in {w h b c md : Nat} (hd : DIM w h b c md) {P : Nat → Nat → Nat → Nat} (hP : PicB w h c md P) (t : Nat) : TIB w h c md 6144 (encT w h b c md t P) := tile_in (nx := 0) rd0 hd hP (by decide) (by decide) (by decide) (Nat.le_refl _) (fun j hj => absurd hj (Nat.not_lt_zero j)) t
theorem encD_B {w h c md nx : Nat} {T : TS} (ti : TIB w h c md nx T) : B256 (encD T) := by
  unfold encD wnd
  exact emt_B (emt_B ti.2 (by omega)) (by omega)
theorem itr_B {f : Nat → DV → DV} (hf : ∀ i d, B256 d → B256 (f i d)) {n i : Nat} {d : DV} (h : B256 d) : B256 (itr f i n d) := itr_in (fun _ d => B256 d) hf n i d h
theorem itr_Bx {f : Nat → DV → DV} {e : Nat} (hf : ∀ i d, i < e → B256 d → B256 (f i d)) : ∀ {n i : Nat} {d : DV}, i + n ≤ e → B256 d → B256 (itr f i n d) := by
  intro n
  induction n with
  | zero => intro i d _ h; exact h
  | succ n ih => intro i d hi h; exact ih (by omega) (hf i d (by omega) h)
theorem spl0_B {w h b c md : Nat} (hd : DIM w h b c md) {P : Nat → Nat → Nat → Nat} (hP : PicB w h c md P) (t : Nat) : B256 (spl0 P w h c t) := by
  have hm : md ≤ 128 := hd.2.2.2.2.2.2.2.2.2.1
  have hl := lft_lt hd t
  rw [spl0]
  by_cases hb : tpp w t ≤ btm w h t
  · refine itr_Bx (e := btm w h t) (fun y d hy hd1 => ?_) (by omega) (fun j hj => absurd hj (Nat.not_lt_zero j))
    refine itr_Bx (e := rgt w t) (fun x d hx hd2 => ?_) (by simp only [rgt]; omega) hd1
    refine itr_Bx (e := c) (fun k d hk hd3 => ?_) (by omega) hd2
    have := hP x y k (by simp only [rgt] at hx; omega) (by simp only [btm] at hy; omega) hk
    exact B256_push hd3 (by omega)
  · rw [show btm w h t - tpp w t = 0 by omega]
    exact fun j hj => absurd hj (Nat.not_lt_zero j)
theorem ownD_B {w h b c md : Nat} (hd : DIM w h b c md) {P : Nat → Nat → Nat → Nat} (hP : PicB w h c md P) {d : DV} (hB : B256 d) (t : Nat) : B256 (ownD P w h c t d) := by
  unfold ownD; split
  · exact spl0_B hd hP t
  · exact hB
theorem putD_B {w h b c md : Nat} (hd : DIM w h b c md) {P : Nat → Nat → Nat → Nat} (hP : PicB w h c md P) {d cd : DV} (hB : B256 d) (hC : B256 cd) (t : Nat) : B256 (putD P w h c t d cd) := by
  have h1 := ownD_B hd hP hB t
  have h2 := ownD_le hd P t d
  refine B256_pushN (B256_push (B256_push (B256_push (B256_push hC ?_) ?_) ?_) (sumN_lt (by omega) h1)) h1
  · omega
  · omega
  · omega
def ESI (w h c md : Nat) (t : Nat) (S : ES) : Prop := PicB w h c md S.1.2.2.2.2.2.1 ∧ S.2.1.1 ≤ 196 * t ∧ B256 S.2.1
theorem encS_in {w h b c md : Nat} (hd : DIM w h b c md) {t : Nat} {S : ES} (hs : ESI w h c md t S) : ESI w h c md (t + 1) (encS w h b c md t S) := by
  obtain ⟨h1, h2, h3⟩ := hs
  have g := encT_in hd h1 t
  refine ⟨g.1.2.2.2.1, ?_, putD_B hd g.1.2.2.2.1 (encD_B g) h3 t⟩
  show (putD _ w h c t _ S.2.1).1 ≤ _
  rw [putD_1]
  have := ownD_le hd (encT w h b c md t S.1.2.2.2.2.2.1).2.2.2.2.2.1 t (encD (encT w h b c md t S.1.2.2.2.2.2.1))
  omega
theorem encA_in {w h b c md : Nat} (hd : DIM w h b c md) {P : Nat → Nat → Nat → Nat} (hP : PicB w h c md P) (pl : Nat → Nat) : ESI w h c md (tln w h) (encA w h b c md P pl) := by
  have h1 := itr_in (fun i s => ESI w h c md i s) (f := encS w h b c md) (fun i s hs => encS_in hd hs) (tln w h) 0 (T00 P (0, 4294967295, D00), D00, pl) ⟨hP, Nat.le_refl _, fun j hj => absurd hj (Nat.not_lt_zero j)⟩
  rw [Nat.zero_add] at h1
  exact h1
/-- reading keeps the samples in their range -/
theorem goodB_of {w h c md cn : Nat} {D : Nat → Nat} {t i : Nat} (hg : goodB w h c md cn D t i = true) : i + 4 + fol cn D i ≤ cn ∧ rdb cn D (i + 3) = sumN (fol cn D i) (fun j => rdb cn D (i + 4 + j)) ∧ ((rdb cn D i = 0 ∧ fol cn D i = cntN w h c t ∧ ∀ j, j < fol cn D i → rdb cn D (i + 4 + j) < 2 * md) ∨ rdb cn D i = 1) := by
  simpa [goodB, and_assoc] using hg
theorem goodB_to {w h c md cn : Nat} {D : Nat → Nat} {t i : Nat} (h1 : i + 4 + fol cn D i ≤ cn) (h2 : rdb cn D (i + 3) = sumN (fol cn D i) (fun j => rdb cn D (i + 4 + j))) (h3 : (rdb cn D i = 0 ∧ fol cn D i = cntN w h c t ∧ ∀ j, j < fol cn D i → rdb cn D (i + 4 + j) < 2 * md) ∨ rdb cn D i = 1) : goodB w h c md cn D t i = true := by
  simpa [goodB, and_assoc] using (⟨h1, h2, h3⟩ : _ ∧ _ ∧ _)
theorem itr_inx {σ : Type} {f : Nat → σ → σ} {e : Nat} (I : Nat → σ → Prop) (hs : ∀ i s, i < e → I i s → I (i + 1) (f i s)) : ∀ (n i : Nat) (s : σ), i + n ≤ e → I i s → I (i + n) (itr f i n s) := by
  intro n
  induction n with
  | zero => intro i s _ h; exact h
  | succ n ih => intro i s hi h; rw [show i + (n + 1) = i + 1 + n by omega]; exact ih (i + 1) (f i s) (by omega) (hs i s (by omega) h)
theorem asI_in {w h b c md : Nat} (hd : DIM w h b c md) {D : Nat → Nat} {P : Nat → Nat → Nat → Nat} {t i0 : Nat} (ht : t < tln w h) (hP : PicB w h c md P) (hD : ∀ j, j < cntN w h c t → D (i0 + j) < 2 * md) : PicB w h c md (asI D w h c t i0 P).2 ∧ (asI D w h c t i0 P).1 = i0 + cntN w h c t := by
  have q1 : lft w t ≤ rgt w t := by have := lft_lt hd t; simp only [rgt]; omega
  have q2 : tpp w t ≤ btm w h t := by have := tpp_lt hd ht; simp only [btm]; omega
  have hx : ∀ n y0 x0 : Nat, True := fun _ _ _ => trivial
  have e1 : cntN w h c t = (btm w h t - tpp w t) * ((rgt w t - lft w t) * c) := by rw [cntN, Nat.mul_comm (rgt w t - lft w t), Nat.mul_assoc]
  have g := itr_inx (e := btm w h t) (fun y s => PicB w h c md s.2 ∧ s.1 = i0 + (y - tpp w t) * ((rgt w t - lft w t) * c) ∧ tpp w t ≤ y) (f := asy D c (lft w t) (rgt w t)) ?_ (btm w h t - tpp w t) (tpp w t) (i0, P) (by omega) ⟨hP, by simp, Nat.le_refl _⟩
  · rw [show tpp w t + (btm w h t - tpp w t) - tpp w t = btm w h t - tpp w t by omega, ← e1] at g
    exact ⟨g.1, g.2.1⟩
  · intro y s hy hs
    have hyl := hs.2.2
    have g2 := itr_inx (e := rgt w t) (fun x s2 => PicB w h c md s2.2 ∧ s2.1 = s.1 + (x - lft w t) * c ∧ lft w t ≤ x) (f := asx D c y) ?_ (rgt w t - lft w t) (lft w t) s (by omega) ⟨hs.1, by simp, Nat.le_refl _⟩
    · rw [show lft w t + (rgt w t - lft w t) - lft w t = rgt w t - lft w t by omega] at g2
      refine ⟨g2.1, ?_, by omega⟩
      show (itr (asx D c y) (lft w t) (rgt w t - lft w t) s).1 = _
      rw [g2.2.1, hs.2.1, show y + 1 - tpp w t = (y - tpp w t) + 1 by omega, Nat.succ_mul, Nat.add_assoc]
    · intro x s2 hx2 hs2
      have hxl := hs2.2.2
      have g3 := itr_inx (e := c) (fun k s3 => PicB w h c md s3.2 ∧ s3.1 = s2.1 + k) (f := ask D x y) ?_ c 0 s2 (by omega) ⟨hs2.1, rfl⟩
      · rw [Nat.zero_add] at g3
        refine ⟨g3.1, ?_, by omega⟩
        show (itr (ask D x y) 0 c s2).1 = _
        rw [g3.2, hs2.2.1, show x + 1 - lft w t = (x - lft w t) + 1 by omega, Nat.succ_mul, Nat.add_assoc]
      · intro k s3 hk hs3
        refine ⟨PicB_upd hs3.1 ?_, by show s3.1 + 1 = _; rw [hs3.2]; omega⟩
        rw [hs3.2, hs2.2.1, hs.2.1]
        have hb : (y - tpp w t) * ((rgt w t - lft w t) * c) + ((x - lft w t) * c + k) < cntN w h c t := by
          rw [e1]
          have a1 : (x - lft w t) * c + k < (rgt w t - lft w t) * c := by
            have : (x - lft w t + 1) * c ≤ (rgt w t - lft w t) * c := Nat.mul_le_mul_right _ (by omega)
            rw [Nat.succ_mul] at this; omega
          have a2 : (y - tpp w t + 1) * ((rgt w t - lft w t) * c) ≤ (btm w h t - tpp w t) * ((rgt w t - lft w t) * c) := Nat.mul_le_mul_right _ (by omega)
          rw [Nat.succ_mul] at a2
          omega
        have := hD _ hb
        rw [show i0 + (y - tpp w t) * ((rgt w t - lft w t) * c) + (x - lft w t) * c + k = i0 + ((y - tpp w t) * ((rgt w t - lft w t) * c) + ((x - lft w t) * c + k)) by omega]
        exact this
theorem decP_in {w h b c md cn : Nat} (hd : DIM w h b c md) {D : Nat → Nat} {g : Nat → Int32} (hD : RepD cn D g) {P : Nat → Nat → Nat → Nat} {t i : Nat} (ht : t < tln w h) (hP : PicB w h c md P) (hi : i < 2 ^ 20) (hg : goodB w h c md cn D t i = true) : PicB w h c md (decP w h b c md cn D t i P) := by
  obtain ⟨h1, h2, h3⟩ := goodB_of hg
  unfold decP
  split
  · rename_i h0
    rcases h3 with h3 | h3
    · refine (asI_in hd ht hP (fun j hj => ?_)).1
      exact h3.2.2 j (by omega)
    · omega
  · have hr := rdb_lt hD h1
    exact (tile_in (wr := false) (nx := i + 4 + 4) hr hd hP (by decide) (by decide) (rdn_lt hr 4) (Nat.le_refl _) (fun j hj => absurd hj (Nat.not_lt_zero j)) t).1.2.2.2.1
