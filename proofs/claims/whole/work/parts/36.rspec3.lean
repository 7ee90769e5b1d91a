/-! The reference's tiles. -/
theorem RTR_0 {w h c md : Nat} (hc : c ≤ 3) (hm : md ≤ 128) {P : Nat → Nat → Nat → Nat} {X : LH} {fW f1 f2 fh fp f : Nat → Int32} (hf : PicR w h c f P) : RTR w h c md (T00 P X) (fillN 9 256 fW) (fillN 3072 32768 f1) (fillN 3072 32768 f2) (fillN 3 32 fh) (fillN 3 0 fp) f := by
  refine ⟨fun j hj => ?_, fun k q n hk hq hn => ?_, fun k q n hk hq hn => ?_, fun j hj => ?_, fun j hj => ?_, hf⟩
  · simp only [fillN, T00]; rw [if_pos hj]
  · simp only [fillN, T00]; rw [if_pos (by omega)]
  · simp only [fillN, T00]; rw [if_pos (by omega)]
  · simp only [fillN, T00]; rw [if_pos (by omega)]
  · simp only [fillN, T00]; rw [if_pos (by omega)]; rfl
theorem itr_mono {σ : Type} {f : Nat → Nat × σ → Nat × σ} (hf : ∀ i s, s.1 ≤ (f i s).1) : ∀ {n i : Nat} {s : Nat × σ}, s.1 ≤ (itr f i n s).1 := by
  intro n
  induction n with
  | zero => intro i s; exact Nat.le_refl _
  | succ n ih => intro i s; exact Nat.le_trans (hf i s) ih
theorem ask_mono {D : Nat → Nat} {x y : Nat} (i : Nat) (s : IP) : s.1 ≤ (ask D x y i s).1 := Nat.le_succ _
theorem asx_mono {D : Nat → Nat} {c y : Nat} (i : Nat) (s : IP) : s.1 ≤ (asx D c y i s).1 := itr_mono ask_mono
theorem asy_mono {D : Nat → Nat} {c l r : Nat} (i : Nat) (s : IP) : s.1 ≤ (asy D c l r i s).1 := itr_mono asx_mono
def sumC (w h c : Nat) : Nat → Nat
  | 0 => 0
  | n + 1 => sumC w h c n + cntN w h c n
theorem sumC_all : ∀ w, w < 17 → ∀ h, h < 17 → ∀ c, c < 4 → 1 ≤ w → 1 ≤ h → sumC w h c (tln w h) = w * h * c := by decide +kernel
theorem sumC_d {w h b c md : Nat} (hd : DIM w h b c md) : sumC w h c (tln w h) = w * h * c := by
  obtain ⟨d1, d2, d3, d4, d5, d6, d7, d8, -⟩ := hd
  exact sumC_all w (by omega) h (by omega) c (by omega) d1 d3
theorem sumC_le {w h b c md : Nat} (hd : DIM w h b c md) : ∀ t, sumC w h c t ≤ 192 * t := by
  intro t
  induction t with
  | zero => exact Nat.le_refl _
  | succ t ih =>
    have := cntN_le hd t
    simp only [sumC]; omega
theorem RepO_ps {n : Nat} {d : DV} {f : Nat → Int32} (h : RepO n d f) (hn : d.1 < n) (v : Nat) : RepO n (push v d) (upd f d.1 (nI v)) := RepO_upd h hn 0 (fun _ => 0) v
theorem RepO_0 (n : Nat) (d : DV) (f : Nat → Int32) (h : d.1 = 0) : RepO n d f := fun j hj => absurd hj (by omega)
theorem b_all {m lim : Nat} {g : Nat → Nat} {q : Prop} [Decidable q] (hq : q ↔ ∀ j, j < m → g j < lim) : (q ∧ g m < lim) ↔ ∀ j, j < m + 1 → g j < lim := by
  constructor
  · intro h j hj
    by_cases e : j = m
    · subst e; exact h.2
    · exact hq.mp h.1 j (by omega)
  · intro h
    exact ⟨hq.mpr (fun j hj => h j (by omega)), h m (by omega)⟩
theorem rdn_b {en : Nat} {D : Nat → Nat} {fr : Nat} (hr : ∀ i, rdb en D i < 256) : rdn en D fr 1 < 256 ∧ rdn en D fr 2 < 65536 ∧ rdn en D fr 3 < 16777216 := by
  have h0 := hr fr
  have h1 := hr (fr + 1)
  have h2 := hr (fr + 2)
  have e1 : rdn en D fr 1 = rdb en D fr := by simp [rdn]
  have e2 : rdn en D fr 2 = rdn en D fr 1 * 256 % 4294967296 + rdb en D (fr + 1) := rfl
  have e3 : rdn en D fr 3 = rdn en D fr 2 * 256 % 4294967296 + rdb en D (fr + 2) := rfl
  refine ⟨by omega, by omega, by omega⟩
theorem rdn_n {en : Nat} {D : Nat → Nat} {fr : Nat} (hr : ∀ i, rdb en D i < 256) {n : Nat} (hn : n < 4) : rdn en D fr n < 16777216 := by
  have h := rdn_b (fr := fr) hr
  rcases (show n = 0 ∨ n = 1 ∨ n = 2 ∨ n = 3 by omega) with rfl | rfl | rfl | rfl
  · simp [rdn]
  · omega
  · omega
  · omega
theorem plF_b (w h c t : Nat) (d : DV) : (if plF w h c t d = 1 then (1 : Int32) else 0) = nI (plF w h c t d) := by
  unfold plF
  by_cases z : cntN w h c t ≤ d.1 <;> simp [z] <;> rfl
theorem RepO_cn {N n : Nat} {B : Nat → Nat} {d : DV} {f g : Nat → Int32} (h : RepO N d f) (hg : ∀ j, j < n → g j = nI (B j)) (hN : d.1 + n ≤ N) : RepO N (pushN B n d) (catF f d.1 g n) := RepO_cat h hg hN
