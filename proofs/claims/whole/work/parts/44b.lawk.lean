/-! What the law needs of numbers and pictures. -/
theorem x_upl {f : Nat → Int64} {v : Int64} : vp_updL f (Int32.toNatClampNeg 0) v 0 = v := by
  simp [vp_updL]
theorem RepD_feed {n : Nat} {D : Nat → Nat} {g : Nat → Int32} (h : RepD n D g) {v : Nat} (hv : v < 256) : RepD (n + 1) (updN D n v) (upd g n (nI v)) := by
  intro j hj
  simp only [updN, upd]
  by_cases e : j = n
  · rw [if_pos e, if_pos e]; exact ⟨rfl, hv⟩
  · rw [if_neg e, if_neg e]; exact h j (by omega)
def catN (D : Nat → Nat) (n : Nat) (B : Nat → Nat) (m : Nat) : Nat → Nat := fun j => if n ≤ j ∧ j < n + m then B (j - n) else D j
theorem RepD_pass {N n : Nat} {D : Nat → Nat} {g f : Nat → Int32} (h : RepD n D g) {d : DV} (hr : RepO N d f) (hb : B256 d) (hN : d.1 ≤ N) : RepD (n + d.1) (catN D n d.2.1 d.1) (catF g n f d.1) := by
  intro j hj
  simp only [catN, catF]
  by_cases e : n ≤ j ∧ j < n + d.1
  · rw [if_pos e, if_pos e]
    exact ⟨hr _ (by omega), hb _ (by omega)⟩
  · rw [if_neg e, if_neg e]
    exact h j (by omega)
theorem RepD_poke {n : Nat} {D : Nat → Nat} {g : Nat → Int32} (h : RepD n D g) {i v : Nat} (hi : i < n) (hv : v < 256) : RepD n (updN D i (D i ^^^ v)) (upd g i (g i ^^^ nI v)) := by
  intro j hj
  simp only [updN, upd]
  by_cases e : j = i
  · rw [if_pos e, if_pos e, (h i hi).1, nI_xor]
    exact ⟨rfl, Nat.xor_lt_two_pow (n := 8) (h i hi).2 hv⟩
  · rw [if_neg e, if_neg e]
    exact h j hj
theorem RepD_0 (D : Nat → Nat) (g : Nat → Int32) : RepD 0 D g := fun j hj => absurd hj (Nat.not_lt_zero j)
def PL2 (pl : Nat → Nat) : Prop := ∀ j, j < 4 → pl j < 2
theorem encS_pl {w h b c md t : Nat} {S : ES} (hs : PL2 S.2.2) : PL2 (encS w h b c md t S).2.2 := by
  intro j hj
  show updN S.2.2 t (plF w h c t _) j < 2
  simp only [updN]
  split
  · simp only [plF]; split <;> omega
  · exact hs j hj
theorem encA_pl {w h b c md : Nat} {P : Nat → Nat → Nat → Nat} {pl : Nat → Nat} (hs : PL2 pl) : PL2 (encA w h b c md P pl).2.2 :=
  itr_in (fun _ s => PL2 s.2.2) (f := encS w h b c md) (fun _ _ hs => encS_pl hs) (tln w h) 0 (T00 P (0, 4294967295, D00), D00, pl) hs
theorem encA_le {w h b c md : Nat} (hd : DIM w h b c md) {P : Nat → Nat → Nat → Nat} (hP : PicB w h c md P) (pl : Nat → Nat) : (encA w h b c md P pl).2.1.1 ≤ 784 := by
  have h1 := (encA_in hd hP pl).2.1
  have h2 := tln_le hd
  omega
theorem cpy_W {f g : Nat → Int32} {W : Nat → Int32} {n : Nat} (h : ∀ j, j < n → f j = W j) : ∀ j, j < n → cpyN n f g j = W j := fun j hj => by
  simp only [cpyN]; rw [if_pos hj]; exact h j hj
theorem cpy_H {f g : Nat → Int32} {W : Nat → Int32} {n m : Nat} (hm : m ≤ n) (h : ∀ j, j < m → f j = W j) : ∀ j, j < m → cpyN n f g j = W j := fun j hj => by
  simp only [cpyN]; rw [if_pos (by omega)]; exact h j hj
theorem cpy_F {w h b c md : Nat} (hd : DIM w h b c md) {f g : Nat → Int32} {F : CHT} (hf : ChR c md f F) : ChR c md (cpyN 3072 f g) F := by
  intro k q n hk hq hn
  have d8 : c ≤ 3 := hd.2.2.2.2.2.2.2.1
  have d10 : md ≤ 128 := hd.2.2.2.2.2.2.2.2.2.1
  simp only [cpyN]
  rw [if_pos (by omega)]
  exact hf k q n hk hq hn
theorem PicR_0 {w h b c md : Nat} (hd : DIM w h b c md) (f : Nat → Int32) : PicR w h c (fillN 768 0 f) (fun _ _ _ => 0) := by
  obtain ⟨d1, d2, d3, d4, d5, d6, d7, d8, -⟩ := hd
  intro x y k hx hy hk
  simp only [fillN]
  rw [if_pos (by omega)]
  rfl
theorem PicB_0 {w h b c md : Nat} (hd : DIM w h b c md) : PicB w h c md (fun _ _ _ => 0) := fun _ _ _ _ _ _ => by
  have := hd.2.2.2.2.2.2.2.2.1
  show 0 < _
  omega
theorem fill_pl {g : Nat → Int32} : ∀ j, j < 4 → fillN 4 0 g j = nI ((fun _ => 0 : Nat → Nat) j) := fun j hj => by
  simp only [fillN]; rw [if_pos hj]; rfl
theorem fill_W {n : Nat} {v : Int32} {g : Nat → Int32} : ∀ j, j < n → fillN n v g j = (fun _ => v : Nat → Int32) j := fun j hj => by
  simp only [fillN]; rw [if_pos hj]
theorem fill_C {c md : Nat} {v : Int32} {g : Nat → Int32} : ChC c md (fillN (c * 4 * (2 * md)) v g) (fun _ _ _ => v) := fun k q n hk hq hn => by
  simp only [fillN]; rw [if_pos (ch_lt hk hq hn)]
theorem fill_R {w h b c md : Nat} (hd : DIM w h b c md) {v : Int32} {g : Nat → Int32} : ChR c md (fillN 3072 v g) (fun _ _ _ => v) := fun k q n hk hq hn => by
  have d8 : c ≤ 3 := hd.2.2.2.2.2.2.2.1
  have d10 : md ≤ 128 := hd.2.2.2.2.2.2.2.2.2.1
  simp only [fillN]; rw [if_pos (by omega)]
theorem fill_H {c : Nat} (hc : c ≤ 3) {v : Int32} {g : Nat → Int32} : ∀ j, j < c → fillN 3 v g j = (fun _ => v : Nat → Int32) j := fun j hj => by
  simp only [fillN]; rw [if_pos (by omega)]
/-- a number brought between 1 and m -/
theorem br_dim (v : Int32) (m : Nat) (hm : 1 ≤ m) (hm2 : m < 2 ^ 30) : ∃ n, 1 ≤ n ∧ n ≤ m ∧ br v 1 (nI m) = nI n := by
  have e1 : (1 : Int32).toInt = 1 := by decide
  have h0 : (1 : Int32).toInt ≤ (nI m).toInt := by
    rw [nI_toInt (by omega), e1]
    omega
  have h1 := br_toInt (v := v) (lo := 1) (hi := nI m) h0
  rw [nI_toInt (by omega), e1] at h1
  refine ⟨(br v 1 (nI m)).toInt.toNat, by omega, by omega, ?_⟩
  apply Int32.toInt_inj.mp
  rw [nI_toInt (by omega)]
  omega
theorem br_dims (wi hi_ bi ci : Int32) : ∃ w h b c md, DIM w h b c md ∧ br wi 1 16 = nI w ∧ br hi_ 1 16 = nI h ∧ br bi 1 8 = nI b ∧ br ci 1 3 = nI c := by
  obtain ⟨w, w1, w2, w3⟩ := br_dim wi 16 (by decide) (by decide)
  obtain ⟨h, h1, h2, h3⟩ := br_dim hi_ 16 (by decide) (by decide)
  obtain ⟨b, b1, b2, b3⟩ := br_dim bi 8 (by decide) (by decide)
  obtain ⟨c, c1, c2, c3⟩ := br_dim ci 3 (by decide) (by decide)
  have e : 2 * 2 ^ (b - 1) = 2 ^ b := by
    rw [Nat.mul_comm, ← Nat.pow_succ]; congr 1; omega
  have e2 : 2 ^ (b - 1) ≤ 2 ^ 7 := Nat.pow_le_pow_right (by decide) (by omega)
  have e3 : 1 ≤ 2 ^ (b - 1) := Nat.one_le_two_pow
  exact ⟨w, h, b, c, 2 ^ (b - 1), ⟨w1, w2, h1, h2, b1, b2, c1, c2, e3, by omega, e⟩, w3, h3, b3, c3⟩
/-- the loop's bound -/
theorem lw_cmp {L i : Nat} (hL : L < 2 ^ 20) (hi : i < 2 ^ 20) : nI L - 5 < nI i ↔ L < i + 5 := by
  rw [Int32.lt_iff_toInt_lt, nI_toInt (by omega), Int32.sub_eq_add_neg]
  have e1 : (-5 : Int32).toInt = -5 := by decide
  rw [i32_add (by rw [nI_toInt (by omega), e1]; omega) (by rw [nI_toInt (by omega), e1]; omega), nI_toInt (by omega), e1]
  omega
theorem c_L_cell (l : Launch) (G : GG) (sb L k9 : Nat) (xs : Nat → Int32) (hk : k9 < 2 ^ 20) (hL : L < 2 ^ 20) : Met l yL_cell wsL_cell ({ frames := 0, cells := 0, slots := 0, locals := 0 } : Room) (va_Pc [.ref sb, .int (nI k9)] (fun U => va_X sb L xs U U.heap ∧ sb < U.heap.size)) (vp_Si (fun r => r = (if k9 < L then xs k9 else 0))) 0 0 (fun _ => False) := by
  refine Met.ofW (cc := cL_cell) (maxL := 2) (ret := some .int) (by decide) rfl ?_
  intro p e s m args below meth c s₁ B hml hv
  obtain ⟨rfl, hX, hb0⟩ := hv
  have hx := B.exec
  have hb := B.bytes
  have hr := B.returns
  have hlocks := B.notSynchronized
  have hl := lv_entry [.ref sb, .int (nI k9)] (n := 2) (Nat.le_of_ble_eq_true rfl)
  rw [lg_entry_eq]
  generalize (lg_sl ([.ref sb, .int (nI k9)] : List Value) ++ List.replicate (2 - (lg_sl ([.ref sb, .int (nI k9)] : List Value)).length) Slot.unset).toArray = ls at hl ⊢
  have hl : lv_has ls 2 [(0, .ref sb), (1, .int (nI k9))] := hl
  refine lv_iload_n hx hb dL_cell_0 rfl (lv_at hl 1 rfl) ?_
  refine lv_aload_n hx hb dL_cell_1 rfl (lv_at hl 0 rfl) ?_
  refine va_slen (A := fun _ => False) hx hb hX hb0 (fun h => h) va_S.rf dL_cell_2 ?_
  refine lv_icmp_ge (tgt := 12) hx hb dL_cell_3 (by decide) (fun h0 => ?_) (fun h0 => ?_)
  · have h1 : L ≤ k9 := (nI_leI (a := L) (b := k9) (by omega) (by omega)).mp h0
    refine lv_iconst (v := 0) hx hb dL_cell_12 (by decide) ?_
    exact W.iret hx hb hr (fun t ht _ => ⟨0, rfl, by rw [if_neg (by omega)], ht⟩) (fun q h => by cases h) dL_cell_13 hlocks
  · have h1 : ¬ L ≤ k9 := fun z => h0 ((nI_leI (a := L) (b := k9) (by omega) (by omega)).mpr z)
    refine lv_aload_n hx hb dL_cell_6 rfl (lv_at hl 0 rfl) ?_
    refine lv_iload_n hx hb dL_cell_7 rfl (lv_at hl 1 rfl) ?_
    refine va_sld (A := fun _ => False) hx hb hX hb0 (fun h => h) va_S.rf (x_in (by omega) (by omega)) dL_cell_8 ?_
    refine lv_goto (tgt := 13) hx hb dL_cell_9 (by decide) ?_
    exact W.iret hx hb hr (fun t ht _ => ⟨_, rfl, by rw [nI_clamp (by omega), if_pos (by omega)], ht⟩) (fun q h => by cases h) dL_cell_13 hlocks
theorem cell_pre {s : State} {H : Heap} {A : Nat → Prop} {locs : List Loc} {sb L k9 : Nat} {xs : Nat → Int32} (hX : va_X sb L xs s s.heap) (hbl : sb < s.heap.size) (hbA : ¬ A sb) (hS : va_S A s.heap H locs) : PreS s H (va_Pc [.ref sb, .int (nI k9)] (fun U => va_X sb L xs U U.heap ∧ sb < U.heap.size)) [.ref sb, .int (nI k9)] :=
  ⟨fun a U g mk q => ⟨q.1, va_X.moved (u := U) (U := U.calling g mk a) (Vm.Alike.refl U.vm) q.2.1, q.2.2⟩, fun U hU hW => ⟨rfl, by rw [hU]; exact va_X.moved hW.alike (hX.kept (hS.2.1 sb hbl hbA)), by rw [hU]; exact Nat.lt_of_lt_of_le hbl hS.1⟩⟩
