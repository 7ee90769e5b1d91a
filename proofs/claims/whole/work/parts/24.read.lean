theorem hin_X10_following_10 : ∀ w ∈ u_ws RX10 TX10 10, w ∈ wsX10_following := fun w h => List.mem_cons_of_mem _ (List.mem_append_left _ (List.mem_append_right _ h))
theorem hin_X10_isGood_10 : ∀ w ∈ u_ws RX10 TX10 10, w ∈ wsX10_isGood := fun w h => List.mem_cons_of_mem _ (List.mem_append_left _ (List.mem_append_left _ (List.mem_append_right _ h)))
theorem hin_X10_noneTooGreat_4 : ∀ w ∈ u_ws RX4 TX4 8, w ∈ wsX10_noneTooGreat := fun w h => List.mem_cons_of_mem _ (List.mem_append_left _ (List.mem_append_right _ h))
theorem hin_X10_noneTooGreat_10 : ∀ w ∈ u_ws RX10 TX10 10, w ∈ wsX10_noneTooGreat := fun w h => List.mem_cons_of_mem _ (List.mem_append_left _ (List.mem_append_left _ (List.mem_append_right _ h)))
theorem hin_X10_paint_4 : ∀ w ∈ u_ws RX4 TX4 8, w ∈ wsX10_paint := fun w h => List.mem_cons_of_mem _ (List.mem_append_left _ (List.mem_append_right _ h))
theorem hin_X10_paint_10 : ∀ w ∈ u_ws RX10 TX10 10, w ∈ wsX10_paint := fun w h => List.mem_cons_of_mem _ (List.mem_append_left _ (List.mem_append_left _ (List.mem_append_right _ h)))
theorem hin_X10_takeAsItIs_4 : ∀ w ∈ u_ws RX4 TX4 8, w ∈ wsX10_takeAsItIs := fun w h => List.mem_cons_of_mem _ (List.mem_append_left _ (List.mem_append_left _ (List.mem_append_right _ h)))
theorem hin_X10_takeAsItIs_10 : ∀ w ∈ u_ws RX10 TX10 10, w ∈ wsX10_takeAsItIs := fun w h => List.mem_cons_of_mem _ (List.mem_append_left _ (List.mem_append_left _ (List.mem_append_left _ (List.mem_append_right _ h))))
theorem hin_X10_told_4 : ∀ w ∈ u_ws RX4 TX4 8, w ∈ wsX10_told := fun w h => List.mem_cons_of_mem _ (List.mem_append_left _ (List.mem_append_right _ h))
theorem hin_X10_told_10 : ∀ w ∈ u_ws RX10 TX10 10, w ∈ wsX10_told := fun w h => List.mem_cons_of_mem _ (List.mem_append_left _ (List.mem_append_left _ (List.mem_append_right _ h)))
set_option maxHeartbeats 4000000 in
set_option maxRecDepth 100000 in
theorem c_X10_following (l : Launch) (G : GG) (pm : Nat) (xm am te tD ob cb ib it ri pt : Nat) (iar cn : Nat) (gr : Nat → Int32) (hc : cn ≤ 4000) (D : Nat → Nat) (qD : RepD cn D gr) (i : Nat) (qi : i < 2 ^ 20) : Met l yX10_following wsX10_following ({ frames := 1, cells := 0, slots := 0, locals := 21 } : Room) (r_Pc G [.ref xm, .int (nI i)] [(xm, .inr (9, [.ref pm, .ref am, .ref te, .ref tD, .ref ob, .ref cb, .ref ib, .ref it, .ref ri, .ref pt])), (ib, .inr (1, [.ref iar, .int (nI cn)])), (iar, .inl (G.2.1, 4000, .inl gr))]) (vp_Si (fun r => r = (nI (fol cn D i)))) 0 0 (fun _ => False) := by
  refine r_ofW (cc := cX10_following) (maxL := 2) (ret := (some .int)) (by decide) rfl (Nat.le_of_ble_eq_true rfl) ?_
  intro pZ eZ sZ mZ bZ tZ cZ hx hb hr hts hown hlocks hml hK H hH hP ls hl
  have hown : sZ.vm.findClass RX10 = some mZ.cls := hown
  have hl : lv_has ls 2 [(0, .ref xm), (1, .int (nI i))] := hl
  refine lv_aload_n hx hb dX10_following_0 rfl (lv_at hl 0 rfl) ?_
  refine va_get (D := G.1) (ci := 9) (v := .ref ib) (C := RX10) (T := TX10) (N := 10) hx hb hts hin_X10_following_10 hown hK.1 hP 0 rfl rfl 6 (by decide) (hts (.fieldLink RX10 21 "MixedPredict" "unread" "LMixedPredict$Bytes;") (List.mem_cons_of_mem _ (List.mem_append_left _ (List.mem_append_left _ (List.mem_of_getElem? (i := 0) rfl))))) (fun _ h9 => h9) rfl dX10_following_1 ?_
  refine lv_iload_n hx hb dX10_following_4 rfl (lv_at hl 1 rfl) ?_
  refine lv_iconst (v := 1) hx hb dX10_following_5 (by decide) ?_
  refine lv_iadd hx hb dX10_following_6 ?_
  refine x_top (y := nI (i + 1)) (nI_add _ _) ?_
  refine r_fin_i (va_runV (As := [.int (nI (i + 1))]) (rest := []) ⟨hx, hb, hml, hown, hts⟩ (c_X1_get l G ib iar 4000 gr cn (i + 1) (by first | assumption | omega) (by first | assumption | omega) (by first | assumption | omega)) (cwV 1 hts gX10_following_X1_get rfl rfl rfl (by decide +kernel) ⟨Nat.le_of_ble_eq_true rfl, Nat.le_of_ble_eq_true rfl⟩) (x_preV (r_pre hK hP [1, 2] rfl) hK hP (ci := 1) (q0 := 1) rfl rfl) rfl rfl hl.1 rfl (lv_room (Nat.le_of_ble_eq_true rfl)) dX10_following_7 ⟨Nat.zero_le _, Nat.zero_le _⟩) (fun r_1 hw => ?_)
  subst hw
  refine x_top (y := nI (rdb cn D (i + 1))) (rdb_le qD _) ?_
  refine lv_sipush (v := 256) hx hb dX10_following_10 (by decide) ?_
  refine lv_aload_n hx hb dX10_following_13 rfl (lv_at hl 0 rfl) ?_
  refine va_get (D := G.1) (ci := 9) (v := .ref ib) (C := RX10) (T := TX10) (N := 10) hx hb hts hin_X10_following_10 hown hK.1 hP 0 rfl rfl 6 (by decide) (hts (.fieldLink RX10 21 "MixedPredict" "unread" "LMixedPredict$Bytes;") (List.mem_cons_of_mem _ (List.mem_append_left _ (List.mem_append_left _ (List.mem_of_getElem? (i := 0) rfl))))) (fun _ h9 => h9) rfl dX10_following_14 ?_
  refine lv_iload_n hx hb dX10_following_17 rfl (lv_at hl 1 rfl) ?_
  refine lv_iconst (v := 2) hx hb dX10_following_18 (by decide) ?_
  refine lv_iadd hx hb dX10_following_19 ?_
  refine x_top (y := nI (i + 2)) (nI_add _ _) ?_
  refine r_fin_i (va_runV (As := [.int (nI (i + 2))]) (rest := [.int 256, .int (nI (rdb cn D (i + 1)))]) ⟨hx, hb, hml, hown, hts⟩ (c_X1_get l G ib iar 4000 gr cn (i + 2) (by first | assumption | omega) (by first | assumption | omega) (by first | assumption | omega)) (cwV 1 hts gX10_following_X1_get rfl rfl rfl (by decide +kernel) ⟨Nat.le_of_ble_eq_true rfl, Nat.le_of_ble_eq_true rfl⟩) (x_preV (r_pre hK hP [1, 2] rfl) hK hP (ci := 1) (q0 := 1) rfl rfl) rfl rfl hl.1 rfl (lv_room (Nat.le_of_ble_eq_true rfl)) dX10_following_20 ⟨Nat.zero_le _, Nat.zero_le _⟩) (fun r_2 hw => ?_)
  subst hw
  refine x_top (y := nI (rdb cn D (i + 2))) (rdb_le qD _) ?_
  refine lv_imul hx hb dX10_following_23 ?_
  refine x_top (y := nI (256 * (rdb cn D (i + 2)))) (pk_mul _ _) ?_
  refine lv_iadd hx hb dX10_following_24 ?_
  refine x_top (y := nI (rdb cn D (i + 1) + (256 * (rdb cn D (i + 2))))) (nI_add _ _) ?_
  refine x_top (y := nI (fol cn D i)) (rfl) ?_
  exact r_iret hx hb hr hlocks (rfl) hH dX10_following_25

set_option maxHeartbeats 4000000 in
set_option maxRecDepth 100000 in
theorem c_X10_noneTooGreat (l : Launch) (G : GG) (xm am te tD ob cb ib it ri pt : Nat) (pm rs : Nat) (w h b c md : Nat) (hd : DIM w h b c md) (iar cn : Nat) (gr : Nat → Int32) (hc : cn ≤ 4000) (D : Nat → Nat) (qD : RepD cn D gr) (fr to : Nat) (qf : fr ≤ to) (qt : to < 2 ^ 20) : Met l yX10_noneTooGreat wsX10_noneTooGreat ({ frames := 1, cells := 0, slots := 0, locals := 21 } : Room) (r_Pc G [.ref xm, .int (nI fr), .int (nI to)] [(xm, .inr (9, [.ref pm, .ref am, .ref te, .ref tD, .ref ob, .ref cb, .ref ib, .ref it, .ref ri, .ref pt])), (pm, .inr (3, [.int (nI w), .int (nI h), .int (nI b), .int (nI c), .int (nI (2 * md - 1)), .int (nI md), .int (nI ((w + 7) / 8)), .ref rs])), (ib, .inr (1, [.ref iar, .int (nI cn)])), (iar, .inl (G.2.1, 4000, .inl gr))]) (vp_Si (fun r => r = (if (∀ j, j < to - fr → rdb cn D (fr + j) < 2 * md) then 1 else 0))) 0 0 (fun _ => False) := by
  refine r_ofW (cc := cX10_noneTooGreat) (maxL := 4) (ret := (some .boolean)) (by decide) rfl (Nat.le_of_ble_eq_true rfl) ?_
  intro pZ eZ sZ mZ bZ tZ cZ hx hb hr hts hown hlocks hml hK H hH hP ls hl
  have hown : sZ.vm.findClass RX10 = some mZ.cls := hown
  have hl : lv_has ls 4 [(0, .ref xm), (1, .int (nI fr)), (2, .int (nI to))] := hl
  obtain ⟨dw1, dw2, dh1, dh2, db1, db2, dc1, dc2, dm1, dm2, dme⟩ := id hd
  refine lv_iload_n hx hb dX10_noneTooGreat_0 rfl (lv_at hl 1 rfl) ?_
  refine lv_istore_n (lv' := [(3, .int (nI fr)), (0, .ref xm), (1, .int (nI fr)), (2, .int (nI to))]) hx hb dX10_noneTooGreat_1 rfl hl (by decide) rfl (fun ls hl => ?_)
  refine x_loopR (α := (Nat) × (Array Slot)) (fun z9 => F0 mZ 2 z9.2 []) (fun z9 => (fr ≤ (z9.1) ∧ (z9.1) ≤ to ∧ ∀ j, j < (z9.1) - fr → rdb cn D (fr + j) < 2 * md) ∧ lv_has z9.2 4 [(0, .ref xm), (1, .int (nI fr)), (2, .int (nI to)), (3, .int (nI (z9.1)))]) (fun z9 => to - (z9.1)) (fun z9 hI ih_1 => ?_) (fr, ls) ⟨(show fr ≤ fr ∧ fr ≤ to ∧ ∀ j, j < fr - fr → rdb cn D (fr + j) < 2 * md from ⟨Nat.le_refl _, qf, fun j hj => absurd hj (by omega)⟩), lv_sub hl [1, 2, 3, 0] rfl⟩
  obtain ⟨i, ls⟩ := z9
  obtain ⟨hI, hl⟩ := hI
  have hI : fr ≤ i ∧ i ≤ to ∧ ∀ j, j < i - fr → rdb cn D (fr + j) < 2 * md := hI
  have hl : lv_has ls 4 [(0, .ref xm), (1, .int (nI fr)), (2, .int (nI to)), (3, .int (nI i))] := hl
  refine lv_iload_n hx hb dX10_noneTooGreat_2 rfl (lv_at hl 3 rfl) ?_
  refine lv_iload_n hx hb dX10_noneTooGreat_3 rfl (lv_at hl 2 rfl) ?_
  refine lv_icmp_ge (tgt := 33) hx hb dX10_noneTooGreat_4 (by decide) (fun c_4 => ?_) (fun c_4 => ?_)
  · skip
    have c_4 : to ≤ i := (nI_leI (a := to) (b := i) (by omega) (by omega)).mp c_4
    refine lv_iconst (v := 1) hx hb dX10_noneTooGreat_33 (by decide) ?_
    exact r_zret hx hb hr hlocks (rfl) (by rw [if_pos (fun j hj => hI.2.2 j (by omega))]) hH dX10_noneTooGreat_34
  · skip
    have c_4 : ¬ (to ≤ i) := fun z8 => c_4 ((nI_leI (a := to) (b := i) (by omega) (by omega)).mpr z8)
    refine lv_aload_n hx hb dX10_noneTooGreat_7 rfl (lv_at hl 0 rfl) ?_
    refine va_get (D := G.1) (ci := 9) (v := .ref ib) (C := RX10) (T := TX10) (N := 10) hx hb hts hin_X10_noneTooGreat_10 hown hK.1 hP 0 rfl rfl 6 (by decide) (hts (.fieldLink RX10 21 "MixedPredict" "unread" "LMixedPredict$Bytes;") (List.mem_cons_of_mem _ (List.mem_append_left _ (List.mem_append_left _ (List.mem_append_left _ (List.mem_of_getElem? (i := 0) rfl)))))) (fun _ h9 => h9) rfl dX10_noneTooGreat_8 ?_
    refine lv_iload_n hx hb dX10_noneTooGreat_11 rfl (lv_at hl 3 rfl) ?_
    refine r_fin_i (va_runV (As := [.int (nI i)]) (rest := []) ⟨hx, hb, hml, hown, hts⟩ (c_X1_get l G ib iar 4000 gr cn i (by first | assumption | omega) (by first | assumption | omega) (by first | assumption | omega)) (cwV 1 hts gX10_noneTooGreat_X1_get rfl rfl rfl (by decide +kernel) ⟨Nat.le_of_ble_eq_true rfl, Nat.le_of_ble_eq_true rfl⟩) (x_preV (r_pre hK hP [2, 3] rfl) hK hP (ci := 1) (q0 := 2) rfl rfl) rfl rfl hl.1 rfl (lv_room (Nat.le_of_ble_eq_true rfl)) dX10_noneTooGreat_12 ⟨Nat.zero_le _, Nat.zero_le _⟩) (fun r_2 hw => ?_)
    subst hw
    refine x_top (y := nI (rdb cn D i)) (rdb_le qD _) ?_
    have q9 := rdb_lt qD (Nat.le_refl cn) i
    refine lv_aload_n hx hb dX10_noneTooGreat_15 rfl (lv_at hl 0 rfl) ?_
    refine va_get (D := G.1) (ci := 9) (v := .ref pm) (C := RX10) (T := TX10) (N := 10) hx hb hts hin_X10_noneTooGreat_10 hown hK.1 hP 0 rfl rfl 0 (by decide) (hts (.fieldLink RX10 56 "MixedPredict" "picture" "LMixedPredict$Picture;") (List.mem_cons_of_mem _ (List.mem_append_left _ (List.mem_append_left _ (List.mem_append_left _ (List.mem_of_getElem? (i := 1) rfl)))))) (fun _ h9 => h9) rfl dX10_noneTooGreat_16 ?_
    refine va_get (D := G.1) (ci := 3) (v := .int (nI (2 * md - 1))) (C := RX4) (T := TX4) (N := 8) hx hb hts hin_X10_noneTooGreat_4 hown hK.1 hP 1 rfl rfl 4 (by decide) (hts (.fieldLink RX10 90 "MixedPredict$Picture" "greatest" "I") (List.mem_cons_of_mem _ (List.mem_append_left _ (List.mem_append_left _ (List.mem_append_left _ (List.mem_of_getElem? (i := 2) rfl)))))) (fun _ h9 => h9) rfl dX10_noneTooGreat_19 ?_
    refine lv_icmp_le (tgt := 27) hx hb dX10_noneTooGreat_22 (by decide) (fun c_22 => ?_) (fun c_22 => ?_)
    · skip
      have c_22 : rdb cn D i ≤ 2 * md - 1 := (nI_leI (a := rdb cn D i) (b := 2 * md - 1) (by omega) (by omega)).mp c_22
      refine lv_iinc (v := nI (i + 1)) (lv' := [(3, .int (nI (i + 1))), (0, .ref xm), (1, .int (nI fr)), (2, .int (nI to))]) hx hb dX10_noneTooGreat_27 hl (k := 3) rfl (by first | rfl | exact nI_add _ _) (by decide) rfl (fun ls hl => ?_)
      refine lv_goto (tgt := 2) hx hb dX10_noneTooGreat_30 (by decide) ?_
      exact ih_1 (i + 1, ls) (show to - (i + 1) < to - i from by omega) ⟨(show fr ≤ (i + 1) ∧ (i + 1) ≤ to ∧ ∀ j, j < (i + 1) - fr → rdb cn D (fr + j) < 2 * md from ⟨by omega, by omega, fun j hj => if hji : j = i - fr then (by rw [hji, show fr + (i - fr) = i by omega]; omega) else hI.2.2 j (by omega)⟩), lv_sub hl [1, 2, 3, 0] rfl⟩
    · skip
      have c_22 : ¬ (rdb cn D i ≤ 2 * md - 1) := fun z8 => c_22 ((nI_leI (a := rdb cn D i) (b := 2 * md - 1) (by omega) (by omega)).mpr z8)
      refine lv_iconst (v := 0) hx hb dX10_noneTooGreat_25 (by decide) ?_
      exact r_zret hx hb hr hlocks (rfl) (by rw [if_neg (fun z8 => c_22 (by have := z8 (i - fr) (by omega); rw [show fr + (i - fr) = i by omega] at this; omega))]) hH dX10_noneTooGreat_26

set_option maxHeartbeats 4000000 in
set_option maxRecDepth 100000 in
theorem c_X10_isGood (l : Launch) (G : GG) (xm am te tD ob cb ib it ri pt : Nat) (pm rs : Nat) (w h b c md : Nat) (hd : DIM w h b c md) (iar cn : Nat) (gr : Nat → Int32) (hc : cn ≤ 4000) (D : Nat → Nat) (qD : RepD cn D gr) (t i : Nat) (ht : t < tln w h) (qi : i ≤ 4000) : Met l yX10_isGood wsX10_isGood ({ frames := 3, cells := 0, slots := 0, locals := 63 } : Room) (r_Pc G [.ref xm, .int (nI t), .int (nI i)] [(xm, .inr (9, [.ref pm, .ref am, .ref te, .ref tD, .ref ob, .ref cb, .ref ib, .ref it, .ref ri, .ref pt])), (pm, .inr (3, [.int (nI w), .int (nI h), .int (nI b), .int (nI c), .int (nI (2 * md - 1)), .int (nI md), .int (nI ((w + 7) / 8)), .ref rs])), (ib, .inr (1, [.ref iar, .int (nI cn)])), (iar, .inl (G.2.1, 4000, .inl gr))]) (vp_Si (fun r => r = (if goodB w h c md cn D t i = true then 1 else 0))) 0 0 (fun _ => False) := by
  refine r_ofW (cc := cX10_isGood) (maxL := 6) (ret := (some .boolean)) (by decide) rfl (Nat.le_of_ble_eq_true rfl) ?_
  intro pZ eZ sZ mZ bZ tZ cZ hx hb hr hts hown hlocks hml hK H hH hP ls hl
  have hown : sZ.vm.findClass RX10 = some mZ.cls := hown
  have hl : lv_has ls 6 [(0, .ref xm), (1, .int (nI t)), (2, .int (nI i))] := hl
  obtain ⟨dw1, dw2, dh1, dh2, db1, db2, dc1, dc2, dm1, dm2, dme⟩ := id hd
  have q1 := lft_lt hd t
  have q2 := tpp_lt hd ht
  have q3 := tln_le hd
  have q4 : rgt w t = min w (lft w t + 8) := rfl
  have q5 : btm w h t = min h (tpp w t + 8) := rfl
  have q6 := fol_lt qD i
  have q7 := cntN_le hd t
  have q8 : cntN w h c t = ((rgt w t - lft w t) * (btm w h t - tpp w t)) * c := rfl
  have r0 := rdb_lt qD (Nat.le_refl cn)
  have r1 := r0 i
  have r2 := r0 (i + 3)
  have r3 : sumN (fol cn D i) (fun j => rdb cn D (i + 4 + j)) < 256 := sumN_lt q6 (fun j _ => r0 _)
  refine lv_aload_n hx hb dX10_isGood_0 rfl (lv_at hl 0 rfl) ?_
  refine va_get (D := G.1) (ci := 9) (v := .ref ib) (C := RX10) (T := TX10) (N := 10) hx hb hts hin_X10_isGood_10 hown hK.1 hP 0 rfl rfl 6 (by decide) (hts (.fieldLink RX10 21 "MixedPredict" "unread" "LMixedPredict$Bytes;") (List.mem_cons_of_mem _ (List.mem_append_left _ (List.mem_append_left _ (List.mem_append_left _ (List.mem_append_left _ (List.mem_of_getElem? (i := 0) rfl))))))) (fun _ h9 => h9) rfl dX10_isGood_1 ?_
  refine lv_iload_n hx hb dX10_isGood_4 rfl (lv_at hl 2 rfl) ?_
  refine r_fin_i (va_runV (As := [.int (nI i)]) (rest := []) ⟨hx, hb, hml, hown, hts⟩ (c_X1_get l G ib iar 4000 gr cn i (by first | assumption | omega) (by first | assumption | omega) (by first | assumption | omega)) (cwV 1 hts gX10_isGood_X1_get rfl rfl rfl (by decide +kernel) ⟨Nat.le_of_ble_eq_true rfl, Nat.le_of_ble_eq_true rfl⟩) (x_preV (r_pre hK hP [2, 3] rfl) hK hP (ci := 1) (q0 := 2) rfl rfl) rfl rfl hl.1 rfl (lv_room (Nat.le_of_ble_eq_true rfl)) dX10_isGood_5 ⟨Nat.zero_le _, Nat.zero_le _⟩) (fun r_1 hw => ?_)
  subst hw
  refine x_top (y := nI (rdb cn D i)) (rdb_le qD _) ?_
  refine lv_istore_n (lv' := [(3, .int (nI (rdb cn D i))), (0, .ref xm), (1, .int (nI t)), (2, .int (nI i))]) hx hb dX10_isGood_8 rfl hl (by decide) rfl (fun ls hl => ?_)
  refine lv_aload_n hx hb dX10_isGood_9 rfl (lv_at hl 1 rfl) ?_
  refine lv_iload_n hx hb dX10_isGood_10 rfl (lv_at hl 3 rfl) ?_
  refine r_fin_i (va_runV (As := [.int (nI i)]) (rest := []) ⟨hx, hb, hml, hown, hts⟩ (c_X10_following l G pm xm am te tD ob cb ib it ri pt iar cn gr (by first | assumption | omega) D (by first | assumption | omega) i (by first | assumption | omega)) (cwV 1 hts gX10_isGood_X10_following rfl rfl rfl (by decide +kernel) ⟨Nat.le_of_ble_eq_true rfl, Nat.le_of_ble_eq_true rfl⟩) (x_preV (r_pre hK hP [0, 2, 3] rfl) hK hP (ci := 9) (q0 := 0) rfl rfl) rfl rfl hl.1 rfl (lv_room (Nat.le_of_ble_eq_true rfl)) dX10_isGood_11 ⟨Nat.zero_le _, Nat.zero_le _⟩) (fun r_2 hw => ?_)
  subst hw
  refine lv_istore (lv' := [(4, .int (nI (fol cn D i))), (3, .int (nI (rdb cn D i))), (0, .ref xm), (1, .int (nI t)), (2, .int (nI i))]) hx hb dX10_isGood_14 hl (by decide) rfl (fun ls hl => ?_)
  refine lv_iload_n hx hb dX10_isGood_16 rfl (lv_at hl 4 rfl) ?_
  refine lv_iconst (v := 4) hx hb dX10_isGood_17 (by decide) ?_
  refine lv_iadd hx hb dX10_isGood_18 ?_
  refine x_top (y := nI (i + 4)) (nI_add _ _) ?_
  refine lv_iload hx hb dX10_isGood_19 (lv_at hl 0 rfl) ?_
  refine lv_iadd hx hb dX10_isGood_21 ?_
  refine x_top (y := nI (i + 4 + (fol cn D i))) (nI_add _ _) ?_
  refine lv_istore (lv' := [(5, .int (nI (i + 4 + (fol cn D i)))), (4, .int (nI (fol cn D i))), (3, .int (nI (rdb cn D i))), (0, .ref xm), (1, .int (nI t)), (2, .int (nI i))]) hx hb dX10_isGood_22 hl (by decide) rfl (fun ls hl => ?_)
  refine lv_iload hx hb dX10_isGood_24 (lv_at hl 0 rfl) ?_
  refine lv_aload_n hx hb dX10_isGood_26 rfl (lv_at hl 3 rfl) ?_
  refine va_get (D := G.1) (ci := 9) (v := .ref ib) (C := RX10) (T := TX10) (N := 10) hx hb hts hin_X10_isGood_10 hown hK.1 hP 0 rfl rfl 6 (by decide) (hts (.fieldLink RX10 21 "MixedPredict" "unread" "LMixedPredict$Bytes;") (List.mem_cons_of_mem _ (List.mem_append_left _ (List.mem_append_left _ (List.mem_append_left _ (List.mem_append_left _ (List.mem_of_getElem? (i := 0) rfl))))))) (fun _ h9 => h9) rfl dX10_isGood_27 ?_
  refine r_fin_i (va_runV (As := []) (rest := [.int (nI (i + 4 + (fol cn D i)))]) ⟨hx, hb, hml, hown, hts⟩ (c_X1_count l G ib iar 4000 gr cn) (cwV 0 hts gX10_isGood_X1_count rfl rfl rfl (by decide +kernel) ⟨Nat.le_of_ble_eq_true rfl, Nat.le_of_ble_eq_true rfl⟩) (x_preV (r_pre hK hP [2, 3] rfl) hK hP (ci := 1) (q0 := 2) rfl rfl) rfl rfl hl.1 rfl (lv_room (Nat.le_of_ble_eq_true rfl)) dX10_isGood_30 ⟨Nat.zero_le _, Nat.zero_le _⟩) (fun r_3 hw => ?_)
  subst hw
  refine lv_icmp_gt (tgt := 61) hx hb dX10_isGood_33 (by decide) (fun c_33 => ?_) (fun c_33 => ?_)
  · skip
    have c_33 : cn < i + 4 + (fol cn D i) := (nI_ltI (a := cn) (b := i + 4 + (fol cn D i)) (by omega) (by omega)).mp c_33
    refine lv_iconst (v := 0) hx hb dX10_isGood_61 (by decide) ?_
    exact r_zret hx hb hr hlocks (rfl) (by rw [if_neg (fun z8 => by have := (goodB_of z8).1; omega)]) hH dX10_isGood_62
  · skip
    have c_33 : ¬ (cn < i + 4 + (fol cn D i)) := fun z8 => c_33 ((nI_ltI (a := cn) (b := i + 4 + (fol cn D i)) (by omega) (by omega)).mpr z8)
    refine lv_aload_n hx hb dX10_isGood_36 rfl (lv_at hl 3 rfl) ?_
    refine va_get (D := G.1) (ci := 9) (v := .ref ib) (C := RX10) (T := TX10) (N := 10) hx hb hts hin_X10_isGood_10 hown hK.1 hP 0 rfl rfl 6 (by decide) (hts (.fieldLink RX10 21 "MixedPredict" "unread" "LMixedPredict$Bytes;") (List.mem_cons_of_mem _ (List.mem_append_left _ (List.mem_append_left _ (List.mem_append_left _ (List.mem_append_left _ (List.mem_of_getElem? (i := 0) rfl))))))) (fun _ h9 => h9) rfl dX10_isGood_37 ?_
    refine lv_iload_n hx hb dX10_isGood_40 rfl (lv_at hl 5 rfl) ?_
    refine lv_iconst (v := 3) hx hb dX10_isGood_41 (by decide) ?_
    refine lv_iadd hx hb dX10_isGood_42 ?_
    refine x_top (y := nI (i + 3)) (nI_add _ _) ?_
    refine r_fin_i (va_runV (As := [.int (nI (i + 3))]) (rest := []) ⟨hx, hb, hml, hown, hts⟩ (c_X1_get l G ib iar 4000 gr cn (i + 3) (by first | assumption | omega) (by first | assumption | omega) (by first | assumption | omega)) (cwV 1 hts gX10_isGood_X1_get rfl rfl rfl (by decide +kernel) ⟨Nat.le_of_ble_eq_true rfl, Nat.le_of_ble_eq_true rfl⟩) (x_preV (r_pre hK hP [2, 3] rfl) hK hP (ci := 1) (q0 := 2) rfl rfl) rfl rfl hl.1 rfl (lv_room (Nat.le_of_ble_eq_true rfl)) dX10_isGood_43 ⟨Nat.zero_le _, Nat.zero_le _⟩) (fun r_4 hw => ?_)
    subst hw
    refine x_top (y := nI (rdb cn D (i + 3))) (rdb_le qD _) ?_
    refine lv_aload_n hx hb dX10_isGood_46 rfl (lv_at hl 3 rfl) ?_
    refine va_get (D := G.1) (ci := 9) (v := .ref ib) (C := RX10) (T := TX10) (N := 10) hx hb hts hin_X10_isGood_10 hown hK.1 hP 0 rfl rfl 6 (by decide) (hts (.fieldLink RX10 21 "MixedPredict" "unread" "LMixedPredict$Bytes;") (List.mem_cons_of_mem _ (List.mem_append_left _ (List.mem_append_left _ (List.mem_append_left _ (List.mem_append_left _ (List.mem_of_getElem? (i := 0) rfl))))))) (fun _ h9 => h9) rfl dX10_isGood_47 ?_
    refine lv_iload_n hx hb dX10_isGood_50 rfl (lv_at hl 5 rfl) ?_
    refine lv_iconst (v := 4) hx hb dX10_isGood_51 (by decide) ?_
    refine lv_iadd hx hb dX10_isGood_52 ?_
    refine x_top (y := nI (i + 4)) (nI_add _ _) ?_
    refine lv_iload hx hb dX10_isGood_53 (lv_at hl 1 rfl) ?_
    refine r_fin_i (va_runS (As := [.ref ib, .int (nI (i + 4)), .int (nI (fol cn D i))]) (rest := [.int (nI (rdb cn D (i + 3)))]) ⟨hx, hb, hml, hown, hts⟩ (c_X10_sum l G ib iar 4000 gr cn (by first | assumption | omega) (by first | assumption | omega) (i + 4) (fol cn D i) (fun j => rdb cn D (i + 4 + j)) (fun j hj => rdb_le qD _) (by omega)) (va_cwS 3 hts gX10_isGood_X10_sum rfl rfl rfl (by decide +kernel) ⟨Nat.le_of_ble_eq_true rfl, Nat.le_of_ble_eq_true rfl⟩) (r_pre hK hP [2, 3] rfl) rfl rfl hl.1 rfl (lv_room (Nat.le_of_ble_eq_true rfl)) dX10_isGood_55 ⟨Nat.zero_le _, Nat.zero_le _⟩) (fun r_5 hw => ?_)
    subst hw
    refine lv_icmp_eq (tgt := 63) hx hb dX10_isGood_58 (by decide) (fun c_58 => ?_) (fun c_58 => ?_)
    · skip
      have c_58 : rdb cn D (i + 3) = sumN (fol cn D i) (fun j => rdb cn D (i + 4 + j)) := (nI_eq (a := rdb cn D (i + 3)) (b := sumN (fol cn D i) (fun j => rdb cn D (i + 4 + j))) (by omega) (by omega)).mp c_58
      refine lv_iload_n hx hb dX10_isGood_63 rfl (lv_at hl 2 rfl) ?_
      refine lv_if_ne (tgt := 98) hx hb dX10_isGood_64 (by decide) (fun c_64 => ?_) (fun c_64 => ?_)
      · skip
        have c_64 : ¬ (rdb cn D i = 0) := fun z8 => c_64 ((nI_eq (a := rdb cn D i) (b := 0) (by omega) (by omega)).mpr z8)
        refine lv_iload_n hx hb dX10_isGood_98 rfl (lv_at hl 2 rfl) ?_
        refine lv_iconst (v := 1) hx hb dX10_isGood_99 (by decide) ?_
        refine lv_icmp_ne (tgt := 107) hx hb dX10_isGood_100 (by decide) (fun c_100 => ?_) (fun c_100 => ?_)
        · skip
          have c_100 : ¬ (rdb cn D i = 1) := fun z8 => c_100 ((nI_eq (a := rdb cn D i) (b := 1) (by omega) (by omega)).mpr z8)
          refine lv_iconst (v := 0) hx hb dX10_isGood_107 (by decide) ?_
          exact r_zret hx hb hr hlocks (rfl) (by rw [if_neg (fun z8 => by rcases (goodB_of z8).2.2 with y8 | y8; exact c_64 y8.1; exact c_100 y8)]) hH dX10_isGood_108
        · skip
          have c_100 : rdb cn D i = 1 := (nI_eq (a := rdb cn D i) (b := 1) (by omega) (by omega)).mp c_100
          refine lv_iconst (v := 1) hx hb dX10_isGood_103 (by decide) ?_
          refine lv_goto (tgt := 108) hx hb dX10_isGood_104 (by decide) ?_
          exact r_zret hx hb hr hlocks (rfl) (by rw [if_pos (goodB_to (by omega) c_58 (Or.inr c_100))]) hH dX10_isGood_108
      · skip
        have c_64 : rdb cn D i = 0 := (nI_eq (a := rdb cn D i) (b := 0) (by omega) (by omega)).mp c_64
        refine lv_iload hx hb dX10_isGood_67 (lv_at hl 1 rfl) ?_
        refine lv_aload_n hx hb dX10_isGood_69 rfl (lv_at hl 3 rfl) ?_
        refine va_get (D := G.1) (ci := 9) (v := .ref pm) (C := RX10) (T := TX10) (N := 10) hx hb hts hin_X10_isGood_10 hown hK.1 hP 0 rfl rfl 0 (by decide) (hts (.fieldLink RX10 56 "MixedPredict" "picture" "LMixedPredict$Picture;") (List.mem_cons_of_mem _ (List.mem_append_left _ (List.mem_append_left _ (List.mem_append_left _ (List.mem_append_left _ (List.mem_of_getElem? (i := 1) rfl))))))) (fun _ h9 => h9) rfl dX10_isGood_70 ?_
        refine lv_iload_n hx hb dX10_isGood_73 rfl (lv_at hl 4 rfl) ?_
        refine r_fin_i (va_runV (As := [.int (nI t)]) (rest := [.int (nI (fol cn D i))]) ⟨hx, hb, hml, hown, hts⟩ (c_X4_countIn l G pm rs w h b c md hd t (by first | assumption | omega)) (cwV 1 hts gX10_isGood_X4_countIn rfl rfl rfl (by decide +kernel) ⟨Nat.le_of_ble_eq_true rfl, Nat.le_of_ble_eq_true rfl⟩) (x_preV (r_pre hK hP [1] rfl) hK hP (ci := 3) (q0 := 1) rfl rfl) rfl rfl hl.1 rfl (lv_room (Nat.le_of_ble_eq_true rfl)) dX10_isGood_74 ⟨Nat.zero_le _, Nat.zero_le _⟩) (fun r_6 hw => ?_)
        subst hw
        refine lv_icmp_ne (tgt := 96) hx hb dX10_isGood_77 (by decide) (fun c_77 => ?_) (fun c_77 => ?_)
        · skip
          have c_77 : ¬ (fol cn D i = ((rgt w t - lft w t) * (btm w h t - tpp w t)) * c) := fun z8 => c_77 ((nI_eq (a := fol cn D i) (b := ((rgt w t - lft w t) * (btm w h t - tpp w t)) * c) (by omega) (by omega)).mpr z8)
          refine lv_iconst (v := 0) hx hb dX10_isGood_96 (by decide) ?_
          exact r_zret hx hb hr hlocks (rfl) (by rw [if_neg (fun z8 => by rcases (goodB_of z8).2.2 with y8 | y8; exact c_77 (y8.2.1.trans q8); omega)]) hH dX10_isGood_97
        · skip
          have c_77 : fol cn D i = ((rgt w t - lft w t) * (btm w h t - tpp w t)) * c := (nI_eq (a := fol cn D i) (b := ((rgt w t - lft w t) * (btm w h t - tpp w t)) * c) (by omega) (by omega)).mp c_77
          refine lv_aload_n hx hb dX10_isGood_80 rfl (lv_at hl 3 rfl) ?_
          refine lv_iload_n hx hb dX10_isGood_81 rfl (lv_at hl 5 rfl) ?_
          refine lv_iconst (v := 4) hx hb dX10_isGood_82 (by decide) ?_
          refine lv_iadd hx hb dX10_isGood_83 ?_
          refine x_top (y := nI (i + 4)) (nI_add _ _) ?_
          refine lv_iload hx hb dX10_isGood_84 (lv_at hl 0 rfl) ?_
          refine r_fin_i (va_runV (As := [.int (nI (i + 4)), .int (nI (i + 4 + (fol cn D i)))]) (rest := []) ⟨hx, hb, hml, hown, hts⟩ (c_X10_noneTooGreat l G xm am te tD ob cb ib it ri pt pm rs w h b c md hd iar cn gr (by first | assumption | omega) D (by first | assumption | omega) (i + 4) (i + 4 + (fol cn D i)) (by omega) (by omega)) (cwV 2 hts gX10_isGood_X10_noneTooGreat rfl rfl rfl (by decide +kernel) ⟨Nat.le_of_ble_eq_true rfl, Nat.le_of_ble_eq_true rfl⟩) (x_preV (r_pre hK hP [0, 1, 2, 3] rfl) hK hP (ci := 9) (q0 := 0) rfl rfl) rfl rfl hl.1 rfl (lv_room (Nat.le_of_ble_eq_true rfl)) dX10_isGood_86 ⟨Nat.zero_le _, Nat.zero_le _⟩) (fun r_7 hw => ?_)
          subst hw
          refine lv_if_eq (tgt := 96) hx hb dX10_isGood_89 (by decide) (fun c_89 => ?_) (fun c_89 => ?_)
          · skip
            have c_89 := x_b0.mp c_89
            refine lv_iconst (v := 0) hx hb dX10_isGood_96 (by decide) ?_
            exact r_zret hx hb hr hlocks (rfl) (by rw [if_neg (fun z8 => by rcases (goodB_of z8).2.2 with y8 | y8; exact c_89 (fun j hj => y8.2.2 j (by omega)); omega)]) hH dX10_isGood_97
          · skip
            have c_89 := Decidable.not_not.mp (fun z8 => c_89 (x_b0.mpr z8))
            refine lv_iconst (v := 1) hx hb dX10_isGood_92 (by decide) ?_
            refine lv_goto (tgt := 97) hx hb dX10_isGood_93 (by decide) ?_
            exact r_zret hx hb hr hlocks (rfl) (by rw [if_pos (goodB_to (by omega) c_58 (Or.inl ⟨c_64, c_77.trans q8.symm, fun j hj => c_89 j (by omega)⟩))]) hH dX10_isGood_97
    · skip
      have c_58 : ¬ (rdb cn D (i + 3) = sumN (fol cn D i) (fun j => rdb cn D (i + 4 + j))) := fun z8 => c_58 ((nI_eq (a := rdb cn D (i + 3)) (b := sumN (fol cn D i) (fun j => rdb cn D (i + 4 + j))) (by omega) (by omega)).mpr z8)
      refine lv_iconst (v := 0) hx hb dX10_isGood_61 (by decide) ?_
      exact r_zret hx hb hr hlocks (rfl) (by rw [if_neg (fun z8 => c_58 (goodB_of z8).2.1)]) hH dX10_isGood_62

set_option maxHeartbeats 4000000 in
set_option maxRecDepth 100000 in
theorem c_X10_takeAsItIs (l : Launch) (G : GG) (xm am te tD ob cb ib it ri pt : Nat) (pm rs as : Nat) (w h b c md : Nat) (hd : DIM w h b c md) (f : Nat → Int32) (P : Nat → Nat → Nat → Nat) (qP : PicC w h c f P) (qB : PicB w h c 128 P) (iar cn : Nat) (gr : Nat → Int32) (hc : cn ≤ 4000) (D : Nat → Nat) (qD : RepD cn D gr) (t i : Nat) (ht : t < tln w h) (qi : i ≤ 4096) (sz : Nat) : Met l yX10_takeAsItIs wsX10_takeAsItIs ({ frames := 3, cells := 0, slots := 0, locals := 69 } : Room) (w_Pc G [.ref xm, .int (nI t), .int (nI i)] sz [(xm, .inr (9, [.ref pm, .ref am, .ref te, .ref tD, .ref ob, .ref cb, .ref ib, .ref it, .ref ri, .ref pt])), (pm, .inr (3, [.int (nI w), .int (nI h), .int (nI b), .int (nI c), .int (nI (2 * md - 1)), .int (nI md), .int (nI ((w + 7) / 8)), .ref rs])), (rs, .inr (5, [.ref as])), (as, .inl (G.2.1, w * h * c, .inl f)), (ib, .inr (1, [.ref iar, .int (nI cn)])), (iar, .inl (G.2.1, 4000, .inl gr))]) (w_Qv G (va_A [(xm, .inr (9, [.ref pm, .ref am, .ref te, .ref tD, .ref ob, .ref cb, .ref ib, .ref it, .ref ri, .ref pt])), (pm, .inr (3, [.int (nI w), .int (nI h), .int (nI b), .int (nI c), .int (nI (2 * md - 1)), .int (nI md), .int (nI ((w + 7) / 8)), .ref rs])), (rs, .inr (5, [.ref as])), (as, .inl (G.2.1, w * h * c, .inl f)), (ib, .inr (1, [.ref iar, .int (nI cn)])), (iar, .inl (G.2.1, 4000, .inl gr))] sz) (fun (f2 : Nat → Int32) => [(xm, .inr (9, [.ref pm, .ref am, .ref te, .ref tD, .ref ob, .ref cb, .ref ib, .ref it, .ref ri, .ref pt])), (pm, .inr (3, [.int (nI w), .int (nI h), .int (nI b), .int (nI c), .int (nI (2 * md - 1)), .int (nI md), .int (nI ((w + 7) / 8)), .ref rs])), (rs, .inr (5, [.ref as])), (as, .inl (G.2.1, w * h * c, .inl f2)), (ib, .inr (1, [.ref iar, .int (nI cn)])), (iar, .inl (G.2.1, 4000, .inl gr))]) (fun (f2 : Nat → Int32) => PicC w h c f2 (asI (rdb cn D) w h c t i P).2)) 0 0 (va_A [(xm, .inr (9, [.ref pm, .ref am, .ref te, .ref tD, .ref ob, .ref cb, .ref ib, .ref it, .ref ri, .ref pt])), (pm, .inr (3, [.int (nI w), .int (nI h), .int (nI b), .int (nI c), .int (nI (2 * md - 1)), .int (nI md), .int (nI ((w + 7) / 8)), .ref rs])), (rs, .inr (5, [.ref as])), (as, .inl (G.2.1, w * h * c, .inl f)), (ib, .inr (1, [.ref iar, .int (nI cn)])), (iar, .inl (G.2.1, 4000, .inl gr))] sz) := by
  refine w_ofW (Qf := fun A => w_Qv G A (fun (f2 : Nat → Int32) => [(xm, .inr (9, [.ref pm, .ref am, .ref te, .ref tD, .ref ob, .ref cb, .ref ib, .ref it, .ref ri, .ref pt])), (pm, .inr (3, [.int (nI w), .int (nI h), .int (nI b), .int (nI c), .int (nI (2 * md - 1)), .int (nI md), .int (nI ((w + 7) / 8)), .ref rs])), (rs, .inr (5, [.ref as])), (as, .inl (G.2.1, w * h * c, .inl f2)), (ib, .inr (1, [.ref iar, .int (nI cn)])), (iar, .inl (G.2.1, 4000, .inl gr))]) (fun (f2 : Nat → Int32) => PicC w h c f2 (asI (rdb cn D) w h c t i P).2)) (cc := cX10_takeAsItIs) (maxL := 7) (ret := none) (by decide) rfl (Nat.le_of_ble_eq_true rfl) ?_
  intro pZ eZ sZ mZ bZ tZ cZ A hx hb hr hts hown hlocks hml hnm hK hA H locs hP hD hS ls hl
  have hown : sZ.vm.findClass RX10 = some mZ.cls := hown
  have hl : lv_has ls 7 [(0, .ref xm), (1, .int (nI t)), (2, .int (nI i))] := hl
  obtain ⟨dw1, dw2, dh1, dh2, db1, db2, dc1, dc2, dm1, dm2, dme⟩ := id hd
  have q1 := lft_lt hd t
  have q2 := tpp_lt hd ht
  have q3 := tln_le hd
  have q4 : rgt w t = min w (lft w t + 8) := rfl
  have q5 : btm w h t = min h (tpp w t + 8) := rfl
  have r0 := rdb_lt qD (Nat.le_refl cn)
  refine lv_iload_n hx hb dX10_takeAsItIs_0 rfl (lv_at hl 2 rfl) ?_
  refine lv_istore_n (lv' := [(3, .int (nI i)), (0, .ref xm), (1, .int (nI t)), (2, .int (nI i))]) hx hb dX10_takeAsItIs_1 rfl hl (by decide) rfl (fun ls hl => ?_)
  refine lv_aload_n hx hb dX10_takeAsItIs_2 rfl (lv_at hl 1 rfl) ?_
  refine va_get (D := G.1) (ci := 9) (v := .ref pm) (C := RX10) (T := TX10) (N := 10) hx hb hts hin_X10_takeAsItIs_10 hown hK.1 hP 0 rfl rfl 0 (by decide) (hts (.fieldLink RX10 56 "MixedPredict" "picture" "LMixedPredict$Picture;") (List.mem_cons_of_mem _ (List.mem_append_left _ (List.mem_append_left _ (List.mem_append_left _ (List.mem_append_left _ (List.mem_append_left _ (List.mem_of_getElem? (i := 0) rfl)))))))) (fun _ h9 => h9) rfl dX10_takeAsItIs_3 ?_
  refine lv_iload_n hx hb dX10_takeAsItIs_6 rfl (lv_at hl 2 rfl) ?_
  refine r_fin_i (va_runV (As := [.int (nI t)]) (rest := []) ⟨hx, hb, hml, hown, hts⟩ (c_X4_top l G pm rs w h b c md hd t (by first | assumption | omega)) (cwV 1 hts gX10_takeAsItIs_X4_top rfl rfl rfl (by decide +kernel) ⟨Nat.le_of_ble_eq_true rfl, Nat.le_of_ble_eq_true rfl⟩) (x_preV (r_pre hK hP [1] rfl) hK hP (ci := 3) (q0 := 1) rfl rfl) rfl rfl hl.1 rfl (lv_room (Nat.le_of_ble_eq_true rfl)) dX10_takeAsItIs_7 ⟨Nat.zero_le _, Nat.zero_le _⟩) (fun r_1 hw => ?_)
  subst hw
  refine lv_istore (lv' := [(4, .int (nI (tpp w t))), (3, .int (nI i)), (0, .ref xm), (1, .int (nI t)), (2, .int (nI i))]) hx hb dX10_takeAsItIs_10 hl (by decide) rfl (fun ls hl => ?_)
  refine x_loop (α := (Nat) × (IP) × (Nat → Int32) × (Array Slot)) (fun z9 => F0 mZ 12 z9.2.2.2 []) (fun z9 H locs => (tpp w t ≤ (z9.1) ∧ (z9.1) ≤ btm w h t ∧ itr (asy (rdb cn D) c (lft w t) (rgt w t)) (z9.1) (btm w h t - (z9.1)) (z9.2.1) = asI (rdb cn D) w h c t i P ∧ PicC w h c (z9.2.2.1) (z9.2.1).2 ∧ PicB w h c 128 (z9.2.1).2 ∧ (z9.2.1).1 ≤ 4096 + 24 * ((z9.1) - tpp w t)) ∧ lv_has z9.2.2.2 7 [(0, .ref xm), (1, .int (nI t)), (2, .int (nI i)), (3, .int (nI (z9.2.1).1)), (4, .int (nI (z9.1)))] ∧ va_P G.1 vwCl [(xm, .inr (9, [.ref pm, .ref am, .ref te, .ref tD, .ref ob, .ref cb, .ref ib, .ref it, .ref ri, .ref pt])), (pm, .inr (3, [.int (nI w), .int (nI h), .int (nI b), .int (nI c), .int (nI (2 * md - 1)), .int (nI md), .int (nI ((w + 7) / 8)), .ref rs])), (rs, .inr (5, [.ref as])), (as, .inl (G.2.1, w * h * c, .inl (z9.2.2.1))), (ib, .inr (1, [.ref iar, .int (nI cn)])), (iar, .inl (G.2.1, 4000, .inl gr))] H ∧ va_D A [(xm, .inr (9, [.ref pm, .ref am, .ref te, .ref tD, .ref ob, .ref cb, .ref ib, .ref it, .ref ri, .ref pt])), (pm, .inr (3, [.int (nI w), .int (nI h), .int (nI b), .int (nI c), .int (nI (2 * md - 1)), .int (nI md), .int (nI ((w + 7) / 8)), .ref rs])), (rs, .inr (5, [.ref as])), (as, .inl (G.2.1, w * h * c, .inl (z9.2.2.1))), (ib, .inr (1, [.ref iar, .int (nI cn)])), (iar, .inl (G.2.1, 4000, .inl gr))] ∧ va_S A sZ.heap H locs) (fun z9 => btm w h t - (z9.1)) (fun z9 H locs hI ih_2 => ?_) (tpp w t, (i, P), f, ls) _ _ ⟨(show tpp w t ≤ (tpp w t) ∧ (tpp w t) ≤ btm w h t ∧ itr (asy (rdb cn D) c (lft w t) (rgt w t)) (tpp w t) (btm w h t - (tpp w t)) ((i, P)) = asI (rdb cn D) w h c t i P ∧ PicC w h c f ((i, P)).2 ∧ PicB w h c 128 ((i, P)).2 ∧ ((i, P)).1 ≤ 4096 + 24 * ((tpp w t) - tpp w t) from ⟨Nat.le_refl _, by omega, rfl, qP, qB, by show i ≤ _; omega⟩), lv_sub hl [2, 3, 4, 1, 0] rfl, hP, hD, hS⟩
  obtain ⟨y, sy, vy, ls⟩ := z9
  obtain ⟨hI, hl, hP, hD, hS⟩ := hI
  have hI : tpp w t ≤ y ∧ y ≤ btm w h t ∧ itr (asy (rdb cn D) c (lft w t) (rgt w t)) y (btm w h t - y) sy = asI (rdb cn D) w h c t i P ∧ PicC w h c vy sy.2 ∧ PicB w h c 128 sy.2 ∧ sy.1 ≤ 4096 + 24 * (y - tpp w t) := hI
  have hl : lv_has ls 7 [(0, .ref xm), (1, .int (nI t)), (2, .int (nI i)), (3, .int (nI sy.1)), (4, .int (nI y))] := hl
  have hP : va_P G.1 vwCl [(xm, .inr (9, [.ref pm, .ref am, .ref te, .ref tD, .ref ob, .ref cb, .ref ib, .ref it, .ref ri, .ref pt])), (pm, .inr (3, [.int (nI w), .int (nI h), .int (nI b), .int (nI c), .int (nI (2 * md - 1)), .int (nI md), .int (nI ((w + 7) / 8)), .ref rs])), (rs, .inr (5, [.ref as])), (as, .inl (G.2.1, w * h * c, .inl vy)), (ib, .inr (1, [.ref iar, .int (nI cn)])), (iar, .inl (G.2.1, 4000, .inl gr))] H := hP
  have hD : va_D A [(xm, .inr (9, [.ref pm, .ref am, .ref te, .ref tD, .ref ob, .ref cb, .ref ib, .ref it, .ref ri, .ref pt])), (pm, .inr (3, [.int (nI w), .int (nI h), .int (nI b), .int (nI c), .int (nI (2 * md - 1)), .int (nI md), .int (nI ((w + 7) / 8)), .ref rs])), (rs, .inr (5, [.ref as])), (as, .inl (G.2.1, w * h * c, .inl vy)), (ib, .inr (1, [.ref iar, .int (nI cn)])), (iar, .inl (G.2.1, 4000, .inl gr))] := hD
  refine lv_iload hx hb dX10_takeAsItIs_12 (lv_at hl 4 rfl) ?_
  refine lv_aload_n hx hb dX10_takeAsItIs_14 rfl (lv_at hl 0 rfl) ?_
  refine va_get (D := G.1) (ci := 9) (v := .ref pm) (C := RX10) (T := TX10) (N := 10) hx hb hts hin_X10_takeAsItIs_10 hown hK.1 hP 0 rfl rfl 0 (by decide) (hts (.fieldLink RX10 56 "MixedPredict" "picture" "LMixedPredict$Picture;") (List.mem_cons_of_mem _ (List.mem_append_left _ (List.mem_append_left _ (List.mem_append_left _ (List.mem_append_left _ (List.mem_append_left _ (List.mem_of_getElem? (i := 0) rfl)))))))) (fun _ h9 => h9) rfl dX10_takeAsItIs_15 ?_
  refine lv_iload_n hx hb dX10_takeAsItIs_18 rfl (lv_at hl 1 rfl) ?_
  refine r_fin_i (va_runV (As := [.int (nI t)]) (rest := [.int (nI y)]) ⟨hx, hb, hml, hown, hts⟩ (c_X4_bottom l G pm rs w h b c md hd t (by first | assumption | omega)) (cwV 1 hts gX10_takeAsItIs_X4_bottom rfl rfl rfl (by decide +kernel) ⟨Nat.le_of_ble_eq_true rfl, Nat.le_of_ble_eq_true rfl⟩) (x_preV (r_pre hK hP [1] rfl) hK hP (ci := 3) (q0 := 1) rfl rfl) rfl rfl hl.1 rfl (lv_room (Nat.le_of_ble_eq_true rfl)) dX10_takeAsItIs_19 ⟨Nat.zero_le _, Nat.zero_le _⟩) (fun r_3 hw => ?_)
  subst hw
  refine lv_icmp_ge (tgt := 106) hx hb dX10_takeAsItIs_22 (by decide) (fun c_22 => ?_) (fun c_22 => ?_)
  · skip
    have c_22 : btm w h t ≤ y := (nI_leI (a := btm w h t) (b := y) (by omega) (by omega)).mp c_22
    have hR : asI (rdb cn D) w h c t i P = sy := by rw [← hI.2.2.1, itr_0 (show btm w h t - y = 0 by omega)]
    exact w_vret vy hx hb hr hlocks (by rw [hR]; exact hI.2.2.2.1) hP hD hS dX10_takeAsItIs_106
  · skip
    have c_22 : ¬ (btm w h t ≤ y) := fun z8 => c_22 ((nI_leI (a := btm w h t) (b := y) (by omega) (by omega)).mpr z8)
    refine lv_aload_n hx hb dX10_takeAsItIs_25 rfl (lv_at hl 0 rfl) ?_
    refine va_get (D := G.1) (ci := 9) (v := .ref pm) (C := RX10) (T := TX10) (N := 10) hx hb hts hin_X10_takeAsItIs_10 hown hK.1 hP 0 rfl rfl 0 (by decide) (hts (.fieldLink RX10 56 "MixedPredict" "picture" "LMixedPredict$Picture;") (List.mem_cons_of_mem _ (List.mem_append_left _ (List.mem_append_left _ (List.mem_append_left _ (List.mem_append_left _ (List.mem_append_left _ (List.mem_of_getElem? (i := 0) rfl)))))))) (fun _ h9 => h9) rfl dX10_takeAsItIs_26 ?_
    refine lv_iload_n hx hb dX10_takeAsItIs_29 rfl (lv_at hl 1 rfl) ?_
    refine r_fin_i (va_runV (As := [.int (nI t)]) (rest := []) ⟨hx, hb, hml, hown, hts⟩ (c_X4_left l G pm rs w h b c md hd t (by first | assumption | omega)) (cwV 1 hts gX10_takeAsItIs_X4_left rfl rfl rfl (by decide +kernel) ⟨Nat.le_of_ble_eq_true rfl, Nat.le_of_ble_eq_true rfl⟩) (x_preV (r_pre hK hP [1] rfl) hK hP (ci := 3) (q0 := 1) rfl rfl) rfl rfl hl.1 rfl (lv_room (Nat.le_of_ble_eq_true rfl)) dX10_takeAsItIs_30 ⟨Nat.zero_le _, Nat.zero_le _⟩) (fun r_4 hw => ?_)
    subst hw
    refine lv_istore (lv' := [(5, .int (nI (lft w t))), (0, .ref xm), (1, .int (nI t)), (2, .int (nI i)), (3, .int (nI sy.1)), (4, .int (nI y))]) hx hb dX10_takeAsItIs_33 hl (by decide) rfl (fun ls hl => ?_)
    have hIy := hI
    refine x_loop (α := (Nat) × (IP) × (Nat → Int32) × (Array Slot)) (fun z9 => F0 mZ 35 z9.2.2.2 []) (fun z9 H locs => (lft w t ≤ (z9.1) ∧ (z9.1) ≤ rgt w t ∧ itr (asx (rdb cn D) c y) (z9.1) (rgt w t - (z9.1)) (z9.2.1) = itr (asx (rdb cn D) c y) (lft w t) (rgt w t - lft w t) sy ∧ PicC w h c (z9.2.2.1) (z9.2.1).2 ∧ PicB w h c 128 (z9.2.1).2 ∧ (z9.2.1).1 ≤ 4096 + 24 * (y - tpp w t) + 3 * ((z9.1) - lft w t)) ∧ lv_has z9.2.2.2 7 [(0, .ref xm), (1, .int (nI t)), (2, .int (nI i)), (3, .int (nI (z9.2.1).1)), (4, .int (nI y)), (5, .int (nI (z9.1)))] ∧ va_P G.1 vwCl [(xm, .inr (9, [.ref pm, .ref am, .ref te, .ref tD, .ref ob, .ref cb, .ref ib, .ref it, .ref ri, .ref pt])), (pm, .inr (3, [.int (nI w), .int (nI h), .int (nI b), .int (nI c), .int (nI (2 * md - 1)), .int (nI md), .int (nI ((w + 7) / 8)), .ref rs])), (rs, .inr (5, [.ref as])), (as, .inl (G.2.1, w * h * c, .inl (z9.2.2.1))), (ib, .inr (1, [.ref iar, .int (nI cn)])), (iar, .inl (G.2.1, 4000, .inl gr))] H ∧ va_D A [(xm, .inr (9, [.ref pm, .ref am, .ref te, .ref tD, .ref ob, .ref cb, .ref ib, .ref it, .ref ri, .ref pt])), (pm, .inr (3, [.int (nI w), .int (nI h), .int (nI b), .int (nI c), .int (nI (2 * md - 1)), .int (nI md), .int (nI ((w + 7) / 8)), .ref rs])), (rs, .inr (5, [.ref as])), (as, .inl (G.2.1, w * h * c, .inl (z9.2.2.1))), (ib, .inr (1, [.ref iar, .int (nI cn)])), (iar, .inl (G.2.1, 4000, .inl gr))] ∧ va_S A sZ.heap H locs) (fun z9 => rgt w t - (z9.1)) (fun z9 H locs hI ih_5 => ?_) (lft w t, sy, vy, ls) _ _ ⟨(show lft w t ≤ (lft w t) ∧ (lft w t) ≤ rgt w t ∧ itr (asx (rdb cn D) c y) (lft w t) (rgt w t - (lft w t)) sy = itr (asx (rdb cn D) c y) (lft w t) (rgt w t - lft w t) sy ∧ PicC w h c vy sy.2 ∧ PicB w h c 128 sy.2 ∧ sy.1 ≤ 4096 + 24 * (y - tpp w t) + 3 * ((lft w t) - lft w t) from ⟨Nat.le_refl _, by omega, rfl, hI.2.2.2.1, hI.2.2.2.2.1, by omega⟩), lv_sub hl [1, 2, 3, 4, 5, 0] rfl, hP, hD, hS⟩
    obtain ⟨x, sx, vx, ls⟩ := z9
    obtain ⟨hI, hl, hP, hD, hS⟩ := hI
    have hI : lft w t ≤ x ∧ x ≤ rgt w t ∧ itr (asx (rdb cn D) c y) x (rgt w t - x) sx = itr (asx (rdb cn D) c y) (lft w t) (rgt w t - lft w t) sy ∧ PicC w h c vx sx.2 ∧ PicB w h c 128 sx.2 ∧ sx.1 ≤ 4096 + 24 * (y - tpp w t) + 3 * (x - lft w t) := hI
    have hl : lv_has ls 7 [(0, .ref xm), (1, .int (nI t)), (2, .int (nI i)), (3, .int (nI sx.1)), (4, .int (nI y)), (5, .int (nI x))] := hl
    have hP : va_P G.1 vwCl [(xm, .inr (9, [.ref pm, .ref am, .ref te, .ref tD, .ref ob, .ref cb, .ref ib, .ref it, .ref ri, .ref pt])), (pm, .inr (3, [.int (nI w), .int (nI h), .int (nI b), .int (nI c), .int (nI (2 * md - 1)), .int (nI md), .int (nI ((w + 7) / 8)), .ref rs])), (rs, .inr (5, [.ref as])), (as, .inl (G.2.1, w * h * c, .inl vx)), (ib, .inr (1, [.ref iar, .int (nI cn)])), (iar, .inl (G.2.1, 4000, .inl gr))] H := hP
    have hD : va_D A [(xm, .inr (9, [.ref pm, .ref am, .ref te, .ref tD, .ref ob, .ref cb, .ref ib, .ref it, .ref ri, .ref pt])), (pm, .inr (3, [.int (nI w), .int (nI h), .int (nI b), .int (nI c), .int (nI (2 * md - 1)), .int (nI md), .int (nI ((w + 7) / 8)), .ref rs])), (rs, .inr (5, [.ref as])), (as, .inl (G.2.1, w * h * c, .inl vx)), (ib, .inr (1, [.ref iar, .int (nI cn)])), (iar, .inl (G.2.1, 4000, .inl gr))] := hD
    refine lv_iload hx hb dX10_takeAsItIs_35 (lv_at hl 5 rfl) ?_
    refine lv_aload_n hx hb dX10_takeAsItIs_37 rfl (lv_at hl 0 rfl) ?_
    refine va_get (D := G.1) (ci := 9) (v := .ref pm) (C := RX10) (T := TX10) (N := 10) hx hb hts hin_X10_takeAsItIs_10 hown hK.1 hP 0 rfl rfl 0 (by decide) (hts (.fieldLink RX10 56 "MixedPredict" "picture" "LMixedPredict$Picture;") (List.mem_cons_of_mem _ (List.mem_append_left _ (List.mem_append_left _ (List.mem_append_left _ (List.mem_append_left _ (List.mem_append_left _ (List.mem_of_getElem? (i := 0) rfl)))))))) (fun _ h9 => h9) rfl dX10_takeAsItIs_38 ?_
    refine lv_iload_n hx hb dX10_takeAsItIs_41 rfl (lv_at hl 1 rfl) ?_
    refine r_fin_i (va_runV (As := [.int (nI t)]) (rest := [.int (nI x)]) ⟨hx, hb, hml, hown, hts⟩ (c_X4_right l G pm rs w h b c md hd t (by first | assumption | omega)) (cwV 1 hts gX10_takeAsItIs_X4_right rfl rfl rfl (by decide +kernel) ⟨Nat.le_of_ble_eq_true rfl, Nat.le_of_ble_eq_true rfl⟩) (x_preV (r_pre hK hP [1] rfl) hK hP (ci := 3) (q0 := 1) rfl rfl) rfl rfl hl.1 rfl (lv_room (Nat.le_of_ble_eq_true rfl)) dX10_takeAsItIs_42 ⟨Nat.zero_le _, Nat.zero_le _⟩) (fun r_6 hw => ?_)
    subst hw
    refine lv_icmp_ge (tgt := 100) hx hb dX10_takeAsItIs_45 (by decide) (fun c_45 => ?_) (fun c_45 => ?_)
    · skip
      have c_45 : rgt w t ≤ x := (nI_leI (a := rgt w t) (b := x) (by omega) (by omega)).mp c_45
      refine lv_iinc (v := nI (y + 1)) (lv' := [(4, .int (nI (y + 1))), (0, .ref xm), (1, .int (nI t)), (2, .int (nI i)), (3, .int (nI sx.1)), (5, .int (nI x))]) hx hb dX10_takeAsItIs_100 hl (k := 4) rfl (by first | rfl | exact nI_add _ _) (by decide) rfl (fun ls hl => ?_)
      refine lv_goto (tgt := 12) hx hb dX10_takeAsItIs_103 (by decide) ?_
      exact ih_2 (y + 1, sx, vx, ls) _ _ (show btm w h t - (y + 1) < btm w h t - y from by omega) ⟨(show tpp w t ≤ (y + 1) ∧ (y + 1) ≤ btm w h t ∧ itr (asy (rdb cn D) c (lft w t) (rgt w t)) (y + 1) (btm w h t - (y + 1)) sx = asI (rdb cn D) w h c t i P ∧ PicC w h c vx sx.2 ∧ PicB w h c 128 sx.2 ∧ sx.1 ≤ 4096 + 24 * ((y + 1) - tpp w t) from ⟨by omega, by omega, by rw [← hIy.2.2.1, itr_s (show y < btm w h t by omega)]; show _ = itr _ _ _ (itr (asx (rdb cn D) c y) (lft w t) (rgt w t - lft w t) sy); rw [← hI.2.2.1, itr_0 (show rgt w t - x = 0 by omega)], hI.2.2.2.1, hI.2.2.2.2.1, by omega⟩), lv_sub hl [1, 2, 3, 4, 0] rfl, hP, hD, hS⟩
    · skip
      have c_45 : ¬ (rgt w t ≤ x) := fun z8 => c_45 ((nI_leI (a := rgt w t) (b := x) (by omega) (by omega)).mpr z8)
      refine lv_iconst (v := 0) hx hb dX10_takeAsItIs_48 (by decide) ?_
      refine lv_istore (lv' := [(6, .int 0), (0, .ref xm), (1, .int (nI t)), (2, .int (nI i)), (3, .int (nI sx.1)), (4, .int (nI y)), (5, .int (nI x))]) hx hb dX10_takeAsItIs_49 hl (by decide) rfl (fun ls hl => ?_)
      have hIx := hI
      refine x_loop (α := (Nat) × (IP) × (Nat → Int32) × (Array Slot)) (fun z9 => F0 mZ 51 z9.2.2.2 []) (fun z9 H locs => ((z9.1) ≤ c ∧ itr (ask (rdb cn D) x y) (z9.1) (c - (z9.1)) (z9.2.1) = itr (ask (rdb cn D) x y) 0 c sx ∧ PicC w h c (z9.2.2.1) (z9.2.1).2 ∧ PicB w h c 128 (z9.2.1).2 ∧ (z9.2.1).1 ≤ 4096 + 24 * (y - tpp w t) + 3 * (x - lft w t) + (z9.1)) ∧ lv_has z9.2.2.2 7 [(0, .ref xm), (1, .int (nI t)), (2, .int (nI i)), (3, .int (nI (z9.2.1).1)), (4, .int (nI y)), (5, .int (nI x)), (6, .int (nI (z9.1)))] ∧ va_P G.1 vwCl [(xm, .inr (9, [.ref pm, .ref am, .ref te, .ref tD, .ref ob, .ref cb, .ref ib, .ref it, .ref ri, .ref pt])), (pm, .inr (3, [.int (nI w), .int (nI h), .int (nI b), .int (nI c), .int (nI (2 * md - 1)), .int (nI md), .int (nI ((w + 7) / 8)), .ref rs])), (rs, .inr (5, [.ref as])), (as, .inl (G.2.1, w * h * c, .inl (z9.2.2.1))), (ib, .inr (1, [.ref iar, .int (nI cn)])), (iar, .inl (G.2.1, 4000, .inl gr))] H ∧ va_D A [(xm, .inr (9, [.ref pm, .ref am, .ref te, .ref tD, .ref ob, .ref cb, .ref ib, .ref it, .ref ri, .ref pt])), (pm, .inr (3, [.int (nI w), .int (nI h), .int (nI b), .int (nI c), .int (nI (2 * md - 1)), .int (nI md), .int (nI ((w + 7) / 8)), .ref rs])), (rs, .inr (5, [.ref as])), (as, .inl (G.2.1, w * h * c, .inl (z9.2.2.1))), (ib, .inr (1, [.ref iar, .int (nI cn)])), (iar, .inl (G.2.1, 4000, .inl gr))] ∧ va_S A sZ.heap H locs) (fun z9 => c - (z9.1)) (fun z9 H locs hI ih_7 => ?_) (0, sx, vx, ls) _ _ ⟨(show 0 ≤ c ∧ itr (ask (rdb cn D) x y) 0 (c - 0) sx = itr (ask (rdb cn D) x y) 0 c sx ∧ PicC w h c vx sx.2 ∧ PicB w h c 128 sx.2 ∧ sx.1 ≤ 4096 + 24 * (y - tpp w t) + 3 * (x - lft w t) + 0 from ⟨Nat.zero_le _, rfl, hI.2.2.2.1, hI.2.2.2.2.1, by omega⟩), lv_sub hl [1, 2, 3, 4, 5, 6, 0] rfl, hP, hD, hS⟩
      obtain ⟨k, sk, vk, ls⟩ := z9
      obtain ⟨hI, hl, hP, hD, hS⟩ := hI
      have hI : k ≤ c ∧ itr (ask (rdb cn D) x y) k (c - k) sk = itr (ask (rdb cn D) x y) 0 c sx ∧ PicC w h c vk sk.2 ∧ PicB w h c 128 sk.2 ∧ sk.1 ≤ 4096 + 24 * (y - tpp w t) + 3 * (x - lft w t) + k := hI
      have hl : lv_has ls 7 [(0, .ref xm), (1, .int (nI t)), (2, .int (nI i)), (3, .int (nI sk.1)), (4, .int (nI y)), (5, .int (nI x)), (6, .int (nI k))] := hl
      have hP : va_P G.1 vwCl [(xm, .inr (9, [.ref pm, .ref am, .ref te, .ref tD, .ref ob, .ref cb, .ref ib, .ref it, .ref ri, .ref pt])), (pm, .inr (3, [.int (nI w), .int (nI h), .int (nI b), .int (nI c), .int (nI (2 * md - 1)), .int (nI md), .int (nI ((w + 7) / 8)), .ref rs])), (rs, .inr (5, [.ref as])), (as, .inl (G.2.1, w * h * c, .inl vk)), (ib, .inr (1, [.ref iar, .int (nI cn)])), (iar, .inl (G.2.1, 4000, .inl gr))] H := hP
      have hD : va_D A [(xm, .inr (9, [.ref pm, .ref am, .ref te, .ref tD, .ref ob, .ref cb, .ref ib, .ref it, .ref ri, .ref pt])), (pm, .inr (3, [.int (nI w), .int (nI h), .int (nI b), .int (nI c), .int (nI (2 * md - 1)), .int (nI md), .int (nI ((w + 7) / 8)), .ref rs])), (rs, .inr (5, [.ref as])), (as, .inl (G.2.1, w * h * c, .inl vk)), (ib, .inr (1, [.ref iar, .int (nI cn)])), (iar, .inl (G.2.1, 4000, .inl gr))] := hD
      refine lv_iload hx hb dX10_takeAsItIs_51 (lv_at hl 6 rfl) ?_
      refine lv_aload_n hx hb dX10_takeAsItIs_53 rfl (lv_at hl 0 rfl) ?_
      refine va_get (D := G.1) (ci := 9) (v := .ref pm) (C := RX10) (T := TX10) (N := 10) hx hb hts hin_X10_takeAsItIs_10 hown hK.1 hP 0 rfl rfl 0 (by decide) (hts (.fieldLink RX10 56 "MixedPredict" "picture" "LMixedPredict$Picture;") (List.mem_cons_of_mem _ (List.mem_append_left _ (List.mem_append_left _ (List.mem_append_left _ (List.mem_append_left _ (List.mem_append_left _ (List.mem_of_getElem? (i := 0) rfl)))))))) (fun _ h9 => h9) rfl dX10_takeAsItIs_54 ?_
      refine va_get (D := G.1) (ci := 3) (v := .int (nI c)) (C := RX4) (T := TX4) (N := 8) hx hb hts hin_X10_takeAsItIs_4 hown hK.1 hP 1 rfl rfl 3 (by decide) (hts (.fieldLink RX10 109 "MixedPredict$Picture" "channels" "I") (List.mem_cons_of_mem _ (List.mem_append_left _ (List.mem_append_left _ (List.mem_append_left _ (List.mem_append_left _ (List.mem_append_left _ (List.mem_of_getElem? (i := 1) rfl)))))))) (fun _ h9 => h9) rfl dX10_takeAsItIs_57 ?_
      refine lv_icmp_ge (tgt := 94) hx hb dX10_takeAsItIs_60 (by decide) (fun c_60 => ?_) (fun c_60 => ?_)
      · skip
        have c_60 : c ≤ k := (nI_leI (a := c) (b := k) (by omega) (by omega)).mp c_60
        refine lv_iinc (v := nI (x + 1)) (lv' := [(5, .int (nI (x + 1))), (0, .ref xm), (1, .int (nI t)), (2, .int (nI i)), (3, .int (nI sk.1)), (4, .int (nI y)), (6, .int (nI k))]) hx hb dX10_takeAsItIs_94 hl (k := 5) rfl (by first | rfl | exact nI_add _ _) (by decide) rfl (fun ls hl => ?_)
        refine lv_goto (tgt := 35) hx hb dX10_takeAsItIs_97 (by decide) ?_
        exact ih_5 (x + 1, sk, vk, ls) _ _ (show rgt w t - (x + 1) < rgt w t - x from by omega) ⟨(show lft w t ≤ (x + 1) ∧ (x + 1) ≤ rgt w t ∧ itr (asx (rdb cn D) c y) (x + 1) (rgt w t - (x + 1)) sk = itr (asx (rdb cn D) c y) (lft w t) (rgt w t - lft w t) sy ∧ PicC w h c vk sk.2 ∧ PicB w h c 128 sk.2 ∧ sk.1 ≤ 4096 + 24 * (y - tpp w t) + 3 * ((x + 1) - lft w t) from ⟨by omega, by omega, by rw [← hIx.2.2.1, itr_s (show x < rgt w t by omega)]; show _ = itr _ _ _ (itr (ask (rdb cn D) x y) 0 c sx); rw [← hI.2.1, itr_0 (show c - k = 0 by omega)], hI.2.2.1, hI.2.2.2.1, by omega⟩), lv_sub hl [1, 2, 3, 4, 5, 0] rfl, hP, hD, hS⟩
      · skip
        have c_60 : ¬ (c ≤ k) := fun z8 => c_60 ((nI_leI (a := c) (b := k) (by omega) (by omega)).mpr z8)
        refine lv_aload_n hx hb dX10_takeAsItIs_63 rfl (lv_at hl 0 rfl) ?_
        refine va_get (D := G.1) (ci := 9) (v := .ref pm) (C := RX10) (T := TX10) (N := 10) hx hb hts hin_X10_takeAsItIs_10 hown hK.1 hP 0 rfl rfl 0 (by decide) (hts (.fieldLink RX10 56 "MixedPredict" "picture" "LMixedPredict$Picture;") (List.mem_cons_of_mem _ (List.mem_append_left _ (List.mem_append_left _ (List.mem_append_left _ (List.mem_append_left _ (List.mem_append_left _ (List.mem_of_getElem? (i := 0) rfl)))))))) (fun _ h9 => h9) rfl dX10_takeAsItIs_64 ?_
        refine lv_iload hx hb dX10_takeAsItIs_67 (lv_at hl 5 rfl) ?_
        refine lv_iload hx hb dX10_takeAsItIs_69 (lv_at hl 4 rfl) ?_
        refine lv_iload hx hb dX10_takeAsItIs_71 (lv_at hl 6 rfl) ?_
        refine lv_aload_n hx hb dX10_takeAsItIs_73 rfl (lv_at hl 0 rfl) ?_
        refine va_get (D := G.1) (ci := 9) (v := .ref ib) (C := RX10) (T := TX10) (N := 10) hx hb hts hin_X10_takeAsItIs_10 hown hK.1 hP 0 rfl rfl 6 (by decide) (hts (.fieldLink RX10 21 "MixedPredict" "unread" "LMixedPredict$Bytes;") (List.mem_cons_of_mem _ (List.mem_append_left _ (List.mem_append_left _ (List.mem_append_left _ (List.mem_append_left _ (List.mem_append_left _ (List.mem_of_getElem? (i := 2) rfl)))))))) (fun _ h9 => h9) rfl dX10_takeAsItIs_74 ?_
        refine lv_iload_n hx hb dX10_takeAsItIs_77 rfl (lv_at hl 3 rfl) ?_
        refine r_fin_i (va_runV (As := [.int (nI sk.1)]) (rest := [.int (nI k), .int (nI y), .int (nI x), .ref pm]) ⟨hx, hb, hml, hown, hts⟩ (c_X1_get l G ib iar 4000 gr cn sk.1 (by first | assumption | omega) (by first | assumption | omega) (by first | assumption | omega)) (cwV 1 hts gX10_takeAsItIs_X1_get rfl rfl rfl (by decide +kernel) ⟨Nat.le_of_ble_eq_true rfl, Nat.le_of_ble_eq_true rfl⟩) (x_preV (r_pre hK hP [4, 5] rfl) hK hP (ci := 1) (q0 := 4) rfl rfl) rfl rfl hl.1 rfl (lv_room (Nat.le_of_ble_eq_true rfl)) dX10_takeAsItIs_78 ⟨Nat.zero_le _, Nat.zero_le _⟩) (fun r_8 hw => ?_)
        subst hw
        refine x_top (y := nI (rdb cn D sk.1)) (rdb_le qD _) ?_
        have r1 := r0 sk.1
        refine w_fin_i (WR := [(xm, .inr (9, [.ref pm, .ref am, .ref te, .ref tD, .ref ob, .ref cb, .ref ib, .ref it, .ref ri, .ref pt])), (ib, .inr (1, [.ref iar, .int (nI cn)])), (iar, .inl (G.2.1, 4000, .inl gr))]) (va_runV (As := [.int (nI x), .int (nI y), .int (nI k), .int (nI (rdb cn D sk.1))]) (rest := []) ⟨hx, hb, hml, hown, hts⟩ (c_X4_change l G pm rs as w h b c md hd vk sk.2 (hI.2.2.1) x y k (by omega) (by omega) (by omega) (rdb cn D sk.1) (by omega) (by have := hI.2.2.2.1 x y k (by omega) (by omega) (by omega); omega) H.size) (cwV 4 hts gX10_takeAsItIs_X4_change rfl rfl rfl (by decide +kernel) ⟨Nat.le_of_ble_eq_true rfl, Nat.le_of_ble_eq_true rfl⟩) (x_preV (w_pre hK hP hD [1, 2, 3] (by decide) rfl) hK hP (ci := 3) (q0 := 1) rfl rfl) rfl rfl hl.1 rfl (lv_room (Nat.le_of_ble_eq_true rfl)) dX10_takeAsItIs_81 ⟨Nat.zero_le _, Nat.zero_le _⟩) hP hD hS hA [1, 2, 3] [0, 4, 5] rfl rfl (by decide) (by decide) [0, 3, 4, 5, 1, 2] (by decide) (fun (f2 : Nat → Int32) => [(xm, .inr (9, [.ref pm, .ref am, .ref te, .ref tD, .ref ob, .ref cb, .ref ib, .ref it, .ref ri, .ref pt])), (pm, .inr (3, [.int (nI w), .int (nI h), .int (nI b), .int (nI c), .int (nI (2 * md - 1)), .int (nI md), .int (nI ((w + 7) / 8)), .ref rs])), (rs, .inr (5, [.ref as])), (as, .inl (G.2.1, w * h * c, .inl f2)), (ib, .inr (1, [.ref iar, .int (nI cn)])), (iar, .inl (G.2.1, 4000, .inl gr))]) (fun _ => rfl) (fun r_10 u H locs hw hP hD hS => ?_)
        obtain ⟨f2_9, rfl⟩ : ∃ z, z = u := ⟨_, rfl⟩
        have hP : va_P G.1 vwCl [(xm, .inr (9, [.ref pm, .ref am, .ref te, .ref tD, .ref ob, .ref cb, .ref ib, .ref it, .ref ri, .ref pt])), (pm, .inr (3, [.int (nI w), .int (nI h), .int (nI b), .int (nI c), .int (nI (2 * md - 1)), .int (nI md), .int (nI ((w + 7) / 8)), .ref rs])), (rs, .inr (5, [.ref as])), (as, .inl (G.2.1, w * h * c, .inl f2_9)), (ib, .inr (1, [.ref iar, .int (nI cn)])), (iar, .inl (G.2.1, 4000, .inl gr))] H := hP
        have hD : va_D A [(xm, .inr (9, [.ref pm, .ref am, .ref te, .ref tD, .ref ob, .ref cb, .ref ib, .ref it, .ref ri, .ref pt])), (pm, .inr (3, [.int (nI w), .int (nI h), .int (nI b), .int (nI c), .int (nI (2 * md - 1)), .int (nI md), .int (nI ((w + 7) / 8)), .ref rs])), (rs, .inr (5, [.ref as])), (as, .inl (G.2.1, w * h * c, .inl f2_9)), (ib, .inr (1, [.ref iar, .int (nI cn)])), (iar, .inl (G.2.1, 4000, .inl gr))] := hD
        obtain ⟨rfl, hwC⟩ := hw
        have hwC : PicC w h c f2_9 (updP (sk.2) x y k (rdb cn D sk.1)) := hwC
        refine lv_pop hx hb dX10_takeAsItIs_84 rfl ?_
        refine lv_iinc (v := nI (sk.1 + 1)) (lv' := [(3, .int (nI (sk.1 + 1))), (0, .ref xm), (1, .int (nI t)), (2, .int (nI i)), (4, .int (nI y)), (5, .int (nI x)), (6, .int (nI k))]) hx hb dX10_takeAsItIs_85 hl (k := 3) rfl (by first | rfl | exact nI_add _ _) (by decide) rfl (fun ls hl => ?_)
        refine lv_iinc (v := nI (k + 1)) (lv' := [(6, .int (nI (k + 1))), (3, .int (nI (sk.1 + 1))), (0, .ref xm), (1, .int (nI t)), (2, .int (nI i)), (4, .int (nI y)), (5, .int (nI x))]) hx hb dX10_takeAsItIs_88 hl (k := 6) rfl (by first | rfl | exact nI_add _ _) (by decide) rfl (fun ls hl => ?_)
        refine lv_goto (tgt := 51) hx hb dX10_takeAsItIs_91 (by decide) ?_
        exact ih_7 (k + 1, (sk.1 + 1, updP sk.2 x y k (rdb cn D sk.1)), f2_9, ls) _ _ (show c - (k + 1) < c - k from by omega) ⟨(show (k + 1) ≤ c ∧ itr (ask (rdb cn D) x y) (k + 1) (c - (k + 1)) ((sk.1 + 1, updP sk.2 x y k (rdb cn D sk.1))) = itr (ask (rdb cn D) x y) 0 c sx ∧ PicC w h c f2_9 ((sk.1 + 1, updP sk.2 x y k (rdb cn D sk.1))).2 ∧ PicB w h c 128 ((sk.1 + 1, updP sk.2 x y k (rdb cn D sk.1))).2 ∧ ((sk.1 + 1, updP sk.2 x y k (rdb cn D sk.1))).1 ≤ 4096 + 24 * (y - tpp w t) + 3 * (x - lft w t) + (k + 1) from ⟨by omega, by rw [← hI.2.1, itr_s (show k < c by omega)]; rfl, hwC, PicB_upd hI.2.2.2.1 (by have := r0 sk.1; omega), by show sk.1 + 1 ≤ _; omega⟩), lv_sub hl [2, 3, 4, 1, 5, 6, 0] rfl, hP, hD, hS⟩

set_option maxHeartbeats 4000000 in
set_option maxRecDepth 100000 in
theorem c_X10_paint (l : Launch) (G : GG) (xm am te tD ob cb ib it ri pt : Nat) (pm rs as : Nat) (w h b c md : Nat) (hd : DIM w h b c md) (f : Nat → Int32) (P : Nat → Nat → Nat → Nat) (qP : PicC w h c f P) (qB : PicB w h c md P) (v st : Int32) (sz : Nat) : Met l yX10_paint wsX10_paint ({ frames := 3, cells := 0, slots := 0, locals := 69 } : Room) (w_Pc G [.ref xm, .int v, .int st] sz [(xm, .inr (9, [.ref pm, .ref am, .ref te, .ref tD, .ref ob, .ref cb, .ref ib, .ref it, .ref ri, .ref pt])), (pm, .inr (3, [.int (nI w), .int (nI h), .int (nI b), .int (nI c), .int (nI (2 * md - 1)), .int (nI md), .int (nI ((w + 7) / 8)), .ref rs])), (rs, .inr (5, [.ref as])), (as, .inl (G.2.1, w * h * c, .inl f))]) (w_Qi G (va_A [(xm, .inr (9, [.ref pm, .ref am, .ref te, .ref tD, .ref ob, .ref cb, .ref ib, .ref it, .ref ri, .ref pt])), (pm, .inr (3, [.int (nI w), .int (nI h), .int (nI b), .int (nI c), .int (nI (2 * md - 1)), .int (nI md), .int (nI ((w + 7) / 8)), .ref rs])), (rs, .inr (5, [.ref as])), (as, .inl (G.2.1, w * h * c, .inl f))] sz) (fun (f2 : Nat → Int32) => [(xm, .inr (9, [.ref pm, .ref am, .ref te, .ref tD, .ref ob, .ref cb, .ref ib, .ref it, .ref ri, .ref pt])), (pm, .inr (3, [.int (nI w), .int (nI h), .int (nI b), .int (nI c), .int (nI (2 * md - 1)), .int (nI md), .int (nI ((w + 7) / 8)), .ref rs])), (rs, .inr (5, [.ref as])), (as, .inl (G.2.1, w * h * c, .inl f2))]) (fun r (f2 : Nat → Int32) => r = ((paA md w h c v st P).1) ∧ PicC w h c f2 (paA md w h c v st P).2.2 ∧ PicB w h c md (paA md w h c v st P).2.2)) 0 0 (va_A [(xm, .inr (9, [.ref pm, .ref am, .ref te, .ref tD, .ref ob, .ref cb, .ref ib, .ref it, .ref ri, .ref pt])), (pm, .inr (3, [.int (nI w), .int (nI h), .int (nI b), .int (nI c), .int (nI (2 * md - 1)), .int (nI md), .int (nI ((w + 7) / 8)), .ref rs])), (rs, .inr (5, [.ref as])), (as, .inl (G.2.1, w * h * c, .inl f))] sz) := by
  refine w_ofW (Qf := fun A => w_Qi G A (fun (f2 : Nat → Int32) => [(xm, .inr (9, [.ref pm, .ref am, .ref te, .ref tD, .ref ob, .ref cb, .ref ib, .ref it, .ref ri, .ref pt])), (pm, .inr (3, [.int (nI w), .int (nI h), .int (nI b), .int (nI c), .int (nI (2 * md - 1)), .int (nI md), .int (nI ((w + 7) / 8)), .ref rs])), (rs, .inr (5, [.ref as])), (as, .inl (G.2.1, w * h * c, .inl f2))]) (fun r (f2 : Nat → Int32) => r = ((paA md w h c v st P).1) ∧ PicC w h c f2 (paA md w h c v st P).2.2 ∧ PicB w h c md (paA md w h c v st P).2.2)) (cc := cX10_paint) (maxL := 8) (ret := (some .int)) (by decide) rfl (Nat.le_of_ble_eq_true rfl) ?_
  intro pZ eZ sZ mZ bZ tZ cZ A hx hb hr hts hown hlocks hml hnm hK hA H locs hP hD hS ls hl
  have hown : sZ.vm.findClass RX10 = some mZ.cls := hown
  have hl : lv_has ls 8 [(0, .ref xm), (1, .int v), (2, .int st)] := hl
  obtain ⟨dw1, dw2, dh1, dh2, db1, db2, dc1, dc2, dm1, dm2, dme⟩ := id hd
  refine lv_iconst (v := 0) hx hb dX10_paint_0 (by decide) ?_
  refine lv_istore_n (lv' := [(3, .int 0), (0, .ref xm), (1, .int v), (2, .int st)]) hx hb dX10_paint_1 rfl hl (by decide) rfl (fun ls hl => ?_)
  refine lv_iload_n hx hb dX10_paint_2 rfl (lv_at hl 2 rfl) ?_
  refine lv_istore (lv' := [(4, .int v), (3, .int 0), (0, .ref xm), (1, .int v), (2, .int st)]) hx hb dX10_paint_3 hl (by decide) rfl (fun ls hl => ?_)
  refine lv_iconst (v := 0) hx hb dX10_paint_5 (by decide) ?_
  refine lv_istore (lv' := [(5, .int 0), (4, .int v), (3, .int 0), (0, .ref xm), (1, .int v), (2, .int st)]) hx hb dX10_paint_6 hl (by decide) rfl (fun ls hl => ?_)
  refine x_loop (α := (Nat) × (Int32) × (Int32) × (Nat → Nat → Nat → Nat) × (Nat → Int32) × (Array Slot)) (fun z9 => F0 mZ 8 z9.2.2.2.2.2 []) (fun z9 H locs => ((z9.1) ≤ h ∧ itr (pay md w c st) (z9.1) (h - (z9.1)) ((z9.2.1), (z9.2.2.1), (z9.2.2.2.1)) = paA md w h c v st P ∧ PicC w h c (z9.2.2.2.2.1) (z9.2.2.2.1) ∧ PicB w h c md (z9.2.2.2.1)) ∧ lv_has z9.2.2.2.2.2 8 [(0, .ref xm), (1, .int v), (2, .int st), (3, .int (z9.2.1)), (4, .int (z9.2.2.1)), (5, .int (nI (z9.1)))] ∧ va_P G.1 vwCl [(xm, .inr (9, [.ref pm, .ref am, .ref te, .ref tD, .ref ob, .ref cb, .ref ib, .ref it, .ref ri, .ref pt])), (pm, .inr (3, [.int (nI w), .int (nI h), .int (nI b), .int (nI c), .int (nI (2 * md - 1)), .int (nI md), .int (nI ((w + 7) / 8)), .ref rs])), (rs, .inr (5, [.ref as])), (as, .inl (G.2.1, w * h * c, .inl (z9.2.2.2.2.1)))] H ∧ va_D A [(xm, .inr (9, [.ref pm, .ref am, .ref te, .ref tD, .ref ob, .ref cb, .ref ib, .ref it, .ref ri, .ref pt])), (pm, .inr (3, [.int (nI w), .int (nI h), .int (nI b), .int (nI c), .int (nI (2 * md - 1)), .int (nI md), .int (nI ((w + 7) / 8)), .ref rs])), (rs, .inr (5, [.ref as])), (as, .inl (G.2.1, w * h * c, .inl (z9.2.2.2.2.1)))] ∧ va_S A sZ.heap H locs) (fun z9 => h - (z9.1)) (fun z9 H locs hI ih_1 => ?_) (0, 0, v, P, f, ls) _ _ ⟨(show 0 ≤ h ∧ itr (pay md w c st) 0 (h - 0) (0, v, P) = paA md w h c v st P ∧ PicC w h c f P ∧ PicB w h c md P from ⟨Nat.zero_le _, rfl, qP, qB⟩), lv_sub hl [3, 4, 5, 2, 1, 0] rfl, hP, hD, hS⟩
  obtain ⟨y, oy, ny, Py, vy, ls⟩ := z9
  obtain ⟨hI, hl, hP, hD, hS⟩ := hI
  have hI : y ≤ h ∧ itr (pay md w c st) y (h - y) (oy, ny, Py) = paA md w h c v st P ∧ PicC w h c vy Py ∧ PicB w h c md Py := hI
  have hl : lv_has ls 8 [(0, .ref xm), (1, .int v), (2, .int st), (3, .int oy), (4, .int ny), (5, .int (nI y))] := hl
  have hP : va_P G.1 vwCl [(xm, .inr (9, [.ref pm, .ref am, .ref te, .ref tD, .ref ob, .ref cb, .ref ib, .ref it, .ref ri, .ref pt])), (pm, .inr (3, [.int (nI w), .int (nI h), .int (nI b), .int (nI c), .int (nI (2 * md - 1)), .int (nI md), .int (nI ((w + 7) / 8)), .ref rs])), (rs, .inr (5, [.ref as])), (as, .inl (G.2.1, w * h * c, .inl vy))] H := hP
  have hD : va_D A [(xm, .inr (9, [.ref pm, .ref am, .ref te, .ref tD, .ref ob, .ref cb, .ref ib, .ref it, .ref ri, .ref pt])), (pm, .inr (3, [.int (nI w), .int (nI h), .int (nI b), .int (nI c), .int (nI (2 * md - 1)), .int (nI md), .int (nI ((w + 7) / 8)), .ref rs])), (rs, .inr (5, [.ref as])), (as, .inl (G.2.1, w * h * c, .inl vy))] := hD
  refine lv_iload hx hb dX10_paint_8 (lv_at hl 5 rfl) ?_
  refine lv_aload_n hx hb dX10_paint_10 rfl (lv_at hl 0 rfl) ?_
  refine va_get (D := G.1) (ci := 9) (v := .ref pm) (C := RX10) (T := TX10) (N := 10) hx hb hts hin_X10_paint_10 hown hK.1 hP 0 rfl rfl 0 (by decide) (hts (.fieldLink RX10 56 "MixedPredict" "picture" "LMixedPredict$Picture;") (List.mem_cons_of_mem _ (List.mem_append_left _ (List.mem_append_left _ (List.mem_append_left _ (List.mem_append_left _ (List.mem_of_getElem? (i := 0) rfl))))))) (fun _ h9 => h9) rfl dX10_paint_11 ?_
  refine va_get (D := G.1) (ci := 3) (v := .int (nI h)) (C := RX4) (T := TX4) (N := 8) hx hb hts hin_X10_paint_4 hown hK.1 hP 1 rfl rfl 1 (by decide) (hts (.fieldLink RX10 103 "MixedPredict$Picture" "height" "I") (List.mem_cons_of_mem _ (List.mem_append_left _ (List.mem_append_left _ (List.mem_append_left _ (List.mem_append_left _ (List.mem_of_getElem? (i := 1) rfl))))))) (fun _ h9 => h9) rfl dX10_paint_14 ?_
  refine lv_icmp_ge (tgt := 103) hx hb dX10_paint_17 (by decide) (fun c_17 => ?_) (fun c_17 => ?_)
  · skip
    have c_17 : h ≤ y := (nI_leI (a := h) (b := y) (by omega) (by omega)).mp c_17
    have hR : paA md w h c v st P = (oy, ny, Py) := by rw [← hI.2.1, itr_0 (show h - y = 0 by omega)]
    refine lv_iload_n hx hb dX10_paint_103 rfl (lv_at hl 3 rfl) ?_
    exact w_iret vy hx hb hr hlocks (⟨by rw [hR], by rw [hR]; exact hI.2.2⟩) hP hD hS dX10_paint_104
  · skip
    have c_17 : ¬ (h ≤ y) := fun z8 => c_17 ((nI_leI (a := h) (b := y) (by omega) (by omega)).mpr z8)
    refine lv_iconst (v := 0) hx hb dX10_paint_20 (by decide) ?_
    refine lv_istore (lv' := [(6, .int 0), (0, .ref xm), (1, .int v), (2, .int st), (3, .int oy), (4, .int ny), (5, .int (nI y))]) hx hb dX10_paint_21 hl (by decide) rfl (fun ls hl => ?_)
    have hIy := hI
    refine x_loop (α := (Nat) × (Int32) × (Int32) × (Nat → Nat → Nat → Nat) × (Nat → Int32) × (Array Slot)) (fun z9 => F0 mZ 23 z9.2.2.2.2.2 []) (fun z9 H locs => ((z9.1) ≤ w ∧ itr (pax md c st y) (z9.1) (w - (z9.1)) ((z9.2.1), (z9.2.2.1), (z9.2.2.2.1)) = itr (pax md c st y) 0 w (oy, ny, Py) ∧ PicC w h c (z9.2.2.2.2.1) (z9.2.2.2.1) ∧ PicB w h c md (z9.2.2.2.1)) ∧ lv_has z9.2.2.2.2.2 8 [(0, .ref xm), (1, .int v), (2, .int st), (3, .int (z9.2.1)), (4, .int (z9.2.2.1)), (5, .int (nI y)), (6, .int (nI (z9.1)))] ∧ va_P G.1 vwCl [(xm, .inr (9, [.ref pm, .ref am, .ref te, .ref tD, .ref ob, .ref cb, .ref ib, .ref it, .ref ri, .ref pt])), (pm, .inr (3, [.int (nI w), .int (nI h), .int (nI b), .int (nI c), .int (nI (2 * md - 1)), .int (nI md), .int (nI ((w + 7) / 8)), .ref rs])), (rs, .inr (5, [.ref as])), (as, .inl (G.2.1, w * h * c, .inl (z9.2.2.2.2.1)))] H ∧ va_D A [(xm, .inr (9, [.ref pm, .ref am, .ref te, .ref tD, .ref ob, .ref cb, .ref ib, .ref it, .ref ri, .ref pt])), (pm, .inr (3, [.int (nI w), .int (nI h), .int (nI b), .int (nI c), .int (nI (2 * md - 1)), .int (nI md), .int (nI ((w + 7) / 8)), .ref rs])), (rs, .inr (5, [.ref as])), (as, .inl (G.2.1, w * h * c, .inl (z9.2.2.2.2.1)))] ∧ va_S A sZ.heap H locs) (fun z9 => w - (z9.1)) (fun z9 H locs hI ih_2 => ?_) (0, oy, ny, Py, vy, ls) _ _ ⟨(show 0 ≤ w ∧ itr (pax md c st y) 0 (w - 0) (oy, ny, Py) = itr (pax md c st y) 0 w (oy, ny, Py) ∧ PicC w h c vy Py ∧ PicB w h c md Py from ⟨Nat.zero_le _, rfl, hI.2.2⟩), lv_sub hl [1, 2, 3, 4, 5, 6, 0] rfl, hP, hD, hS⟩
    obtain ⟨x, ox, nx, Px, vx, ls⟩ := z9
    obtain ⟨hI, hl, hP, hD, hS⟩ := hI
    have hI : x ≤ w ∧ itr (pax md c st y) x (w - x) (ox, nx, Px) = itr (pax md c st y) 0 w (oy, ny, Py) ∧ PicC w h c vx Px ∧ PicB w h c md Px := hI
    have hl : lv_has ls 8 [(0, .ref xm), (1, .int v), (2, .int st), (3, .int ox), (4, .int nx), (5, .int (nI y)), (6, .int (nI x))] := hl
    have hP : va_P G.1 vwCl [(xm, .inr (9, [.ref pm, .ref am, .ref te, .ref tD, .ref ob, .ref cb, .ref ib, .ref it, .ref ri, .ref pt])), (pm, .inr (3, [.int (nI w), .int (nI h), .int (nI b), .int (nI c), .int (nI (2 * md - 1)), .int (nI md), .int (nI ((w + 7) / 8)), .ref rs])), (rs, .inr (5, [.ref as])), (as, .inl (G.2.1, w * h * c, .inl vx))] H := hP
    have hD : va_D A [(xm, .inr (9, [.ref pm, .ref am, .ref te, .ref tD, .ref ob, .ref cb, .ref ib, .ref it, .ref ri, .ref pt])), (pm, .inr (3, [.int (nI w), .int (nI h), .int (nI b), .int (nI c), .int (nI (2 * md - 1)), .int (nI md), .int (nI ((w + 7) / 8)), .ref rs])), (rs, .inr (5, [.ref as])), (as, .inl (G.2.1, w * h * c, .inl vx))] := hD
    refine lv_iload hx hb dX10_paint_23 (lv_at hl 6 rfl) ?_
    refine lv_aload_n hx hb dX10_paint_25 rfl (lv_at hl 0 rfl) ?_
    refine va_get (D := G.1) (ci := 9) (v := .ref pm) (C := RX10) (T := TX10) (N := 10) hx hb hts hin_X10_paint_10 hown hK.1 hP 0 rfl rfl 0 (by decide) (hts (.fieldLink RX10 56 "MixedPredict" "picture" "LMixedPredict$Picture;") (List.mem_cons_of_mem _ (List.mem_append_left _ (List.mem_append_left _ (List.mem_append_left _ (List.mem_append_left _ (List.mem_of_getElem? (i := 0) rfl))))))) (fun _ h9 => h9) rfl dX10_paint_26 ?_
    refine va_get (D := G.1) (ci := 3) (v := .int (nI w)) (C := RX4) (T := TX4) (N := 8) hx hb hts hin_X10_paint_4 hown hK.1 hP 1 rfl rfl 0 (by decide) (hts (.fieldLink RX10 106 "MixedPredict$Picture" "width" "I") (List.mem_cons_of_mem _ (List.mem_append_left _ (List.mem_append_left _ (List.mem_append_left _ (List.mem_append_left _ (List.mem_of_getElem? (i := 2) rfl))))))) (fun _ h9 => h9) rfl dX10_paint_29 ?_
    refine lv_icmp_ge (tgt := 97) hx hb dX10_paint_32 (by decide) (fun c_32 => ?_) (fun c_32 => ?_)
    · skip
      have c_32 : w ≤ x := (nI_leI (a := w) (b := x) (by omega) (by omega)).mp c_32
      refine lv_iinc (v := nI (y + 1)) (lv' := [(5, .int (nI (y + 1))), (0, .ref xm), (1, .int v), (2, .int st), (3, .int ox), (4, .int nx), (6, .int (nI x))]) hx hb dX10_paint_97 hl (k := 5) rfl (by first | rfl | exact nI_add _ _) (by decide) rfl (fun ls hl => ?_)
      refine lv_goto (tgt := 8) hx hb dX10_paint_100 (by decide) ?_
      exact ih_1 (y + 1, ox, nx, Px, vx, ls) _ _ (show h - (y + 1) < h - y from by omega) ⟨(show (y + 1) ≤ h ∧ itr (pay md w c st) (y + 1) (h - (y + 1)) (ox, nx, Px) = paA md w h c v st P ∧ PicC w h c vx Px ∧ PicB w h c md Px from ⟨by omega, by rw [← hIy.2.1, itr_s (show y < h by omega)]; show _ = itr _ _ _ (itr (pax md c st y) 0 w (oy, ny, Py)); rw [← hI.2.1, itr_0 (show w - x = 0 by omega)], hI.2.2⟩), lv_sub hl [1, 2, 3, 4, 5, 0] rfl, hP, hD, hS⟩
    · skip
      have c_32 : ¬ (w ≤ x) := fun z8 => c_32 ((nI_leI (a := w) (b := x) (by omega) (by omega)).mpr z8)
      refine lv_iconst (v := 0) hx hb dX10_paint_35 (by decide) ?_
      refine lv_istore (lv' := [(7, .int 0), (0, .ref xm), (1, .int v), (2, .int st), (3, .int ox), (4, .int nx), (5, .int (nI y)), (6, .int (nI x))]) hx hb dX10_paint_36 hl (by decide) rfl (fun ls hl => ?_)
      have hIx := hI
      refine x_loop (α := (Nat) × (Int32) × (Int32) × (Nat → Nat → Nat → Nat) × (Nat → Int32) × (Array Slot)) (fun z9 => F0 mZ 38 z9.2.2.2.2.2 []) (fun z9 H locs => ((z9.1) ≤ c ∧ itr (pak md st x y) (z9.1) (c - (z9.1)) ((z9.2.1), (z9.2.2.1), (z9.2.2.2.1)) = itr (pak md st x y) 0 c (ox, nx, Px) ∧ PicC w h c (z9.2.2.2.2.1) (z9.2.2.2.1) ∧ PicB w h c md (z9.2.2.2.1)) ∧ lv_has z9.2.2.2.2.2 8 [(0, .ref xm), (1, .int v), (2, .int st), (3, .int (z9.2.1)), (4, .int (z9.2.2.1)), (5, .int (nI y)), (6, .int (nI x)), (7, .int (nI (z9.1)))] ∧ va_P G.1 vwCl [(xm, .inr (9, [.ref pm, .ref am, .ref te, .ref tD, .ref ob, .ref cb, .ref ib, .ref it, .ref ri, .ref pt])), (pm, .inr (3, [.int (nI w), .int (nI h), .int (nI b), .int (nI c), .int (nI (2 * md - 1)), .int (nI md), .int (nI ((w + 7) / 8)), .ref rs])), (rs, .inr (5, [.ref as])), (as, .inl (G.2.1, w * h * c, .inl (z9.2.2.2.2.1)))] H ∧ va_D A [(xm, .inr (9, [.ref pm, .ref am, .ref te, .ref tD, .ref ob, .ref cb, .ref ib, .ref it, .ref ri, .ref pt])), (pm, .inr (3, [.int (nI w), .int (nI h), .int (nI b), .int (nI c), .int (nI (2 * md - 1)), .int (nI md), .int (nI ((w + 7) / 8)), .ref rs])), (rs, .inr (5, [.ref as])), (as, .inl (G.2.1, w * h * c, .inl (z9.2.2.2.2.1)))] ∧ va_S A sZ.heap H locs) (fun z9 => c - (z9.1)) (fun z9 H locs hI ih_3 => ?_) (0, ox, nx, Px, vx, ls) _ _ ⟨(show 0 ≤ c ∧ itr (pak md st x y) 0 (c - 0) (ox, nx, Px) = itr (pak md st x y) 0 c (ox, nx, Px) ∧ PicC w h c vx Px ∧ PicB w h c md Px from ⟨Nat.zero_le _, rfl, hI.2.2⟩), lv_sub hl [1, 2, 3, 4, 5, 6, 7, 0] rfl, hP, hD, hS⟩
      obtain ⟨k, ok, nk, Pk, vk, ls⟩ := z9
      obtain ⟨hI, hl, hP, hD, hS⟩ := hI
      have hI : k ≤ c ∧ itr (pak md st x y) k (c - k) (ok, nk, Pk) = itr (pak md st x y) 0 c (ox, nx, Px) ∧ PicC w h c vk Pk ∧ PicB w h c md Pk := hI
      have hl : lv_has ls 8 [(0, .ref xm), (1, .int v), (2, .int st), (3, .int ok), (4, .int nk), (5, .int (nI y)), (6, .int (nI x)), (7, .int (nI k))] := hl
      have hP : va_P G.1 vwCl [(xm, .inr (9, [.ref pm, .ref am, .ref te, .ref tD, .ref ob, .ref cb, .ref ib, .ref it, .ref ri, .ref pt])), (pm, .inr (3, [.int (nI w), .int (nI h), .int (nI b), .int (nI c), .int (nI (2 * md - 1)), .int (nI md), .int (nI ((w + 7) / 8)), .ref rs])), (rs, .inr (5, [.ref as])), (as, .inl (G.2.1, w * h * c, .inl vk))] H := hP
      have hD : va_D A [(xm, .inr (9, [.ref pm, .ref am, .ref te, .ref tD, .ref ob, .ref cb, .ref ib, .ref it, .ref ri, .ref pt])), (pm, .inr (3, [.int (nI w), .int (nI h), .int (nI b), .int (nI c), .int (nI (2 * md - 1)), .int (nI md), .int (nI ((w + 7) / 8)), .ref rs])), (rs, .inr (5, [.ref as])), (as, .inl (G.2.1, w * h * c, .inl vk))] := hD
      refine lv_iload hx hb dX10_paint_38 (lv_at hl 7 rfl) ?_
      refine lv_aload_n hx hb dX10_paint_40 rfl (lv_at hl 0 rfl) ?_
      refine va_get (D := G.1) (ci := 9) (v := .ref pm) (C := RX10) (T := TX10) (N := 10) hx hb hts hin_X10_paint_10 hown hK.1 hP 0 rfl rfl 0 (by decide) (hts (.fieldLink RX10 56 "MixedPredict" "picture" "LMixedPredict$Picture;") (List.mem_cons_of_mem _ (List.mem_append_left _ (List.mem_append_left _ (List.mem_append_left _ (List.mem_append_left _ (List.mem_of_getElem? (i := 0) rfl))))))) (fun _ h9 => h9) rfl dX10_paint_41 ?_
      refine va_get (D := G.1) (ci := 3) (v := .int (nI c)) (C := RX4) (T := TX4) (N := 8) hx hb hts hin_X10_paint_4 hown hK.1 hP 1 rfl rfl 3 (by decide) (hts (.fieldLink RX10 109 "MixedPredict$Picture" "channels" "I") (List.mem_cons_of_mem _ (List.mem_append_left _ (List.mem_append_left _ (List.mem_append_left _ (List.mem_append_left _ (List.mem_of_getElem? (i := 3) rfl))))))) (fun _ h9 => h9) rfl dX10_paint_44 ?_
      refine lv_icmp_ge (tgt := 91) hx hb dX10_paint_47 (by decide) (fun c_47 => ?_) (fun c_47 => ?_)
      · skip
        have c_47 : c ≤ k := (nI_leI (a := c) (b := k) (by omega) (by omega)).mp c_47
        refine lv_iinc (v := nI (x + 1)) (lv' := [(6, .int (nI (x + 1))), (0, .ref xm), (1, .int v), (2, .int st), (3, .int ok), (4, .int nk), (5, .int (nI y)), (7, .int (nI k))]) hx hb dX10_paint_91 hl (k := 6) rfl (by first | rfl | exact nI_add _ _) (by decide) rfl (fun ls hl => ?_)
        refine lv_goto (tgt := 23) hx hb dX10_paint_94 (by decide) ?_
        exact ih_2 (x + 1, ok, nk, Pk, vk, ls) _ _ (show w - (x + 1) < w - x from by omega) ⟨(show (x + 1) ≤ w ∧ itr (pax md c st y) (x + 1) (w - (x + 1)) (ok, nk, Pk) = itr (pax md c st y) 0 w (oy, ny, Py) ∧ PicC w h c vk Pk ∧ PicB w h c md Pk from ⟨by omega, by rw [← hIx.2.1, itr_s (show x < w by omega)]; show _ = itr _ _ _ (itr (pak md st x y) 0 c (ox, nx, Px)); rw [← hI.2.1, itr_0 (show c - k = 0 by omega)], hI.2.2⟩), lv_sub hl [1, 2, 3, 4, 5, 6, 0] rfl, hP, hD, hS⟩
      · skip
        have c_47 : ¬ (c ≤ k) := fun z8 => c_47 ((nI_leI (a := c) (b := k) (by omega) (by omega)).mpr z8)
        refine lv_aload_n hx hb dX10_paint_50 rfl (lv_at hl 0 rfl) ?_
        refine va_get (D := G.1) (ci := 9) (v := .ref pm) (C := RX10) (T := TX10) (N := 10) hx hb hts hin_X10_paint_10 hown hK.1 hP 0 rfl rfl 0 (by decide) (hts (.fieldLink RX10 56 "MixedPredict" "picture" "LMixedPredict$Picture;") (List.mem_cons_of_mem _ (List.mem_append_left _ (List.mem_append_left _ (List.mem_append_left _ (List.mem_append_left _ (List.mem_of_getElem? (i := 0) rfl))))))) (fun _ h9 => h9) rfl dX10_paint_51 ?_
        refine lv_iload hx hb dX10_paint_54 (lv_at hl 6 rfl) ?_
        refine lv_iload hx hb dX10_paint_56 (lv_at hl 5 rfl) ?_
        refine lv_iload hx hb dX10_paint_58 (lv_at hl 7 rfl) ?_
        refine lv_iload hx hb dX10_paint_60 (lv_at hl 4 rfl) ?_
        refine lv_aload_n hx hb dX10_paint_62 rfl (lv_at hl 0 rfl) ?_
        refine va_get (D := G.1) (ci := 9) (v := .ref pm) (C := RX10) (T := TX10) (N := 10) hx hb hts hin_X10_paint_10 hown hK.1 hP 0 rfl rfl 0 (by decide) (hts (.fieldLink RX10 56 "MixedPredict" "picture" "LMixedPredict$Picture;") (List.mem_cons_of_mem _ (List.mem_append_left _ (List.mem_append_left _ (List.mem_append_left _ (List.mem_append_left _ (List.mem_of_getElem? (i := 0) rfl))))))) (fun _ h9 => h9) rfl dX10_paint_63 ?_
        refine va_get (D := G.1) (ci := 3) (v := .int (nI (2 * md - 1))) (C := RX4) (T := TX4) (N := 8) hx hb hts hin_X10_paint_4 hown hK.1 hP 1 rfl rfl 4 (by decide) (hts (.fieldLink RX10 90 "MixedPredict$Picture" "greatest" "I") (List.mem_cons_of_mem _ (List.mem_append_left _ (List.mem_append_left _ (List.mem_append_left _ (List.mem_append_left _ (List.mem_of_getElem? (i := 4) rfl))))))) (fun _ h9 => h9) rfl dX10_paint_66 ?_
        refine lv_iand hx hb dX10_paint_69 ?_
        refine x_top (y := nI (andN nk md)) (andN_eq hd _) ?_
        have qan := andN_lt hd nk
        refine w_fin_i (WR := [(xm, .inr (9, [.ref pm, .ref am, .ref te, .ref tD, .ref ob, .ref cb, .ref ib, .ref it, .ref ri, .ref pt]))]) (va_runV (As := [.int (nI x), .int (nI y), .int (nI k), .int (nI (andN nk md))]) (rest := []) ⟨hx, hb, hml, hown, hts⟩ (c_X4_change l G pm rs as w h b c md hd vk Pk (hI.2.2.1) x y k (by omega) (by omega) (by omega) (andN nk md) (by omega) (by have := hI.2.2.2 x y k (by omega) (by omega) (by omega); omega) H.size) (cwV 4 hts gX10_paint_X4_change rfl rfl rfl (by decide +kernel) ⟨Nat.le_of_ble_eq_true rfl, Nat.le_of_ble_eq_true rfl⟩) (x_preV (w_pre hK hP hD [1, 2, 3] (by decide) rfl) hK hP (ci := 3) (q0 := 1) rfl rfl) rfl rfl hl.1 rfl (lv_room (Nat.le_of_ble_eq_true rfl)) dX10_paint_70 ⟨Nat.zero_le _, Nat.zero_le _⟩) hP hD hS hA [1, 2, 3] [0] rfl rfl (by decide) (by decide) [0, 1, 2, 3] (by decide) (fun (f2 : Nat → Int32) => [(xm, .inr (9, [.ref pm, .ref am, .ref te, .ref tD, .ref ob, .ref cb, .ref ib, .ref it, .ref ri, .ref pt])), (pm, .inr (3, [.int (nI w), .int (nI h), .int (nI b), .int (nI c), .int (nI (2 * md - 1)), .int (nI md), .int (nI ((w + 7) / 8)), .ref rs])), (rs, .inr (5, [.ref as])), (as, .inl (G.2.1, w * h * c, .inl f2))]) (fun _ => rfl) (fun r_5 u H locs hw hP hD hS => ?_)
        obtain ⟨f2_4, rfl⟩ : ∃ z, z = u := ⟨_, rfl⟩
        have hP : va_P G.1 vwCl [(xm, .inr (9, [.ref pm, .ref am, .ref te, .ref tD, .ref ob, .ref cb, .ref ib, .ref it, .ref ri, .ref pt])), (pm, .inr (3, [.int (nI w), .int (nI h), .int (nI b), .int (nI c), .int (nI (2 * md - 1)), .int (nI md), .int (nI ((w + 7) / 8)), .ref rs])), (rs, .inr (5, [.ref as])), (as, .inl (G.2.1, w * h * c, .inl f2_4))] H := hP
        have hD : va_D A [(xm, .inr (9, [.ref pm, .ref am, .ref te, .ref tD, .ref ob, .ref cb, .ref ib, .ref it, .ref ri, .ref pt])), (pm, .inr (3, [.int (nI w), .int (nI h), .int (nI b), .int (nI c), .int (nI (2 * md - 1)), .int (nI md), .int (nI ((w + 7) / 8)), .ref rs])), (rs, .inr (5, [.ref as])), (as, .inl (G.2.1, w * h * c, .inl f2_4))] := hD
        obtain ⟨rfl, hwC⟩ := hw
        have hwC : PicC w h c f2_4 (updP Pk x y k ((andN nk md))) := hwC
        refine lv_if_eq (tgt := 79) hx hb dX10_paint_73 (by decide) (fun c_73 => ?_) (fun c_73 => ?_)
        · skip
          have c_73 := x_b0.mp c_73
          have hif : (if Pk x y k = andN nk md then ok else ok + 1) = ok := if_pos (Decidable.not_not.mp c_73)
          refine lv_iload hx hb dX10_paint_79 (lv_at hl 4 rfl) ?_
          refine lv_iload_n hx hb dX10_paint_81 rfl (lv_at hl 2 rfl) ?_
          refine lv_iadd hx hb dX10_paint_82 ?_
          refine lv_istore (lv' := [(4, .int (nk + st)), (0, .ref xm), (1, .int v), (2, .int st), (3, .int ok), (5, .int (nI y)), (6, .int (nI x)), (7, .int (nI k))]) hx hb dX10_paint_83 hl (by decide) rfl (fun ls hl => ?_)
          refine lv_iinc (v := nI (k + 1)) (lv' := [(7, .int (nI (k + 1))), (4, .int (nk + st)), (0, .ref xm), (1, .int v), (2, .int st), (3, .int ok), (5, .int (nI y)), (6, .int (nI x))]) hx hb dX10_paint_85 hl (k := 7) rfl (by first | rfl | exact nI_add _ _) (by decide) rfl (fun ls hl => ?_)
          refine lv_goto (tgt := 38) hx hb dX10_paint_88 (by decide) ?_
          exact ih_3 (k + 1, ok, nk + st, updP Pk x y k (andN nk md), f2_4, ls) _ _ (show c - (k + 1) < c - k from by omega) ⟨(show (k + 1) ≤ c ∧ itr (pak md st x y) (k + 1) (c - (k + 1)) (ok, (nk + st), (updP Pk x y k (andN nk md))) = itr (pak md st x y) 0 c (ox, nx, Px) ∧ PicC w h c f2_4 (updP Pk x y k (andN nk md)) ∧ PicB w h c md (updP Pk x y k (andN nk md)) from ⟨by omega, by rw [← hI.2.1, itr_s (show k < c by omega)]; show _ = itr _ _ _ (if Pk x y k = andN nk md then ok else ok + 1, nk + st, updP Pk x y k (andN nk md)); rw [hif], hwC, PicB_upd hI.2.2.2 (andN_lt hd _)⟩), lv_sub hl [2, 3, 4, 5, 1, 6, 7, 0] rfl, hP, hD, hS⟩
        · skip
          have c_73 := Decidable.not_not.mp (fun z8 => c_73 (x_b0.mpr z8))
          have hif : (if Pk x y k = andN nk md then ok else ok + 1) = ok + 1 := if_neg c_73
          refine lv_iinc (v := ok + 1) (lv' := [(3, .int (ok + 1)), (0, .ref xm), (1, .int v), (2, .int st), (4, .int nk), (5, .int (nI y)), (6, .int (nI x)), (7, .int (nI k))]) hx hb dX10_paint_76 hl (k := 3) rfl (rfl) (by decide) rfl (fun ls hl => ?_)
          refine lv_iload hx hb dX10_paint_79 (lv_at hl 4 rfl) ?_
          refine lv_iload_n hx hb dX10_paint_81 rfl (lv_at hl 3 rfl) ?_
          refine lv_iadd hx hb dX10_paint_82 ?_
          refine lv_istore (lv' := [(4, .int (nk + st)), (3, .int (ok + 1)), (0, .ref xm), (1, .int v), (2, .int st), (5, .int (nI y)), (6, .int (nI x)), (7, .int (nI k))]) hx hb dX10_paint_83 hl (by decide) rfl (fun ls hl => ?_)
          refine lv_iinc (v := nI (k + 1)) (lv' := [(7, .int (nI (k + 1))), (4, .int (nk + st)), (3, .int (ok + 1)), (0, .ref xm), (1, .int v), (2, .int st), (5, .int (nI y)), (6, .int (nI x))]) hx hb dX10_paint_85 hl (k := 7) rfl (by first | rfl | exact nI_add _ _) (by decide) rfl (fun ls hl => ?_)
          refine lv_goto (tgt := 38) hx hb dX10_paint_88 (by decide) ?_
          exact ih_3 (k + 1, ok + 1, nk + st, updP Pk x y k (andN nk md), f2_4, ls) _ _ (show c - (k + 1) < c - k from by omega) ⟨(show (k + 1) ≤ c ∧ itr (pak md st x y) (k + 1) (c - (k + 1)) ((ok + 1), (nk + st), (updP Pk x y k (andN nk md))) = itr (pak md st x y) 0 c (ox, nx, Px) ∧ PicC w h c f2_4 (updP Pk x y k (andN nk md)) ∧ PicB w h c md (updP Pk x y k (andN nk md)) from ⟨by omega, by rw [← hI.2.1, itr_s (show k < c by omega)]; show _ = itr _ _ _ (if Pk x y k = andN nk md then ok else ok + 1, nk + st, updP Pk x y k (andN nk md)); rw [hif], hwC, PicB_upd hI.2.2.2 (andN_lt hd _)⟩), lv_sub hl [3, 4, 5, 2, 1, 6, 7, 0] rfl, hP, hD, hS⟩

set_option maxHeartbeats 4000000 in
set_option maxRecDepth 100000 in
theorem c_X10_told (l : Launch) (G : GG) (xm am te tD ob cb ib it ri pt : Nat) (pm rs : Nat) (w h b c md : Nat) (hd : DIM w h b c md) (ca k1 iar k2 : Nat) (fc gr : Nat → Int32) (what : Int32) : Met l yX10_told wsX10_told ({ frames := 1, cells := 0, slots := 0, locals := 20 } : Room) (r_Pc G [.ref xm, .int what] [(xm, .inr (9, [.ref pm, .ref am, .ref te, .ref tD, .ref ob, .ref cb, .ref ib, .ref it, .ref ri, .ref pt])), (pm, .inr (3, [.int (nI w), .int (nI h), .int (nI b), .int (nI c), .int (nI (2 * md - 1)), .int (nI md), .int (nI ((w + 7) / 8)), .ref rs])), (cb, .inr (1, [.ref ca, .int (nI k1)])), (ca, .inl (G.2.1, 784, .inl fc)), (ib, .inr (1, [.ref iar, .int (nI k2)])), (iar, .inl (G.2.1, 4000, .inl gr))]) (vp_Si (fun r => r = (toldV (nI (tln w h)) (nI k1) (nI k2) (nI w) (nI h) (nI b) (nI c) what))) 0 0 (fun _ => False) := by
  refine r_ofW (cc := cX10_told) (maxL := 2) (ret := (some .int)) (by decide) rfl (Nat.le_of_ble_eq_true rfl) ?_
  intro pZ eZ sZ mZ bZ tZ cZ hx hb hr hts hown hlocks hml hK H hH hP ls hl
  have hown : sZ.vm.findClass RX10 = some mZ.cls := hown
  have hl : lv_has ls 2 [(0, .ref xm), (1, .int what)] := hl
  obtain ⟨dw1, dw2, dh1, dh2, db1, db2, dc1, dc2, dm1, dm2, dme⟩ := id hd
  refine lv_iload_n hx hb dX10_told_0 rfl (lv_at hl 1 rfl) ?_
  by_cases z_0 : what = 0
  · skip
    refine lv_tableIn (off := 43) (tgt := 44) hx hb dX10_told_1 (by rw [z_0]; decide) (by rw [z_0]; decide) (by rw [z_0]; decide) (by decide) ?_
    refine lv_aload_n hx hb dX10_told_44 rfl (lv_at hl 0 rfl) ?_
    refine va_get (D := G.1) (ci := 9) (v := .ref pm) (C := RX10) (T := TX10) (N := 10) hx hb hts hin_X10_told_10 hown hK.1 hP 0 rfl rfl 0 (by decide) (hts (.fieldLink RX10 56 "MixedPredict" "picture" "LMixedPredict$Picture;") (List.mem_cons_of_mem _ (List.mem_append_left _ (List.mem_append_left _ (List.mem_append_left _ (List.mem_of_getElem? (i := 0) rfl)))))) (fun _ h9 => h9) rfl dX10_told_45 ?_
    refine r_fin_i (va_runV (As := []) (rest := []) ⟨hx, hb, hml, hown, hts⟩ (c_X4_tiles l G pm rs w h b c md hd) (cwV 0 hts gX10_told_X4_tiles rfl rfl rfl (by decide +kernel) ⟨Nat.le_of_ble_eq_true rfl, Nat.le_of_ble_eq_true rfl⟩) (x_preV (r_pre hK hP [1] rfl) hK hP (ci := 3) (q0 := 1) rfl rfl) rfl rfl hl.1 rfl (lv_room (Nat.le_of_ble_eq_true rfl)) dX10_told_48 ⟨Nat.zero_le _, Nat.zero_le _⟩) (fun r_1 hw => ?_)
    subst hw
    exact r_iret hx hb hr hlocks (by simp [toldV, *]) hH dX10_told_51
  by_cases z_1 : what = 1
  · skip
    refine lv_tableIn (off := 51) (tgt := 52) hx hb dX10_told_1 (by rw [z_1]; decide) (by rw [z_1]; decide) (by rw [z_1]; decide) (by decide) ?_
    refine lv_aload_n hx hb dX10_told_52 rfl (lv_at hl 0 rfl) ?_
    refine va_get (D := G.1) (ci := 9) (v := .ref cb) (C := RX10) (T := TX10) (N := 10) hx hb hts hin_X10_told_10 hown hK.1 hP 0 rfl rfl 5 (by decide) (hts (.fieldLink RX10 18 "MixedPredict" "coded" "LMixedPredict$Bytes;") (List.mem_cons_of_mem _ (List.mem_append_left _ (List.mem_append_left _ (List.mem_append_left _ (List.mem_of_getElem? (i := 1) rfl)))))) (fun _ h9 => h9) rfl dX10_told_53 ?_
    refine r_fin_i (va_runV (As := []) (rest := []) ⟨hx, hb, hml, hown, hts⟩ (c_X1_count l G cb ca 784 fc k1) (cwV 0 hts gX10_told_X1_count rfl rfl rfl (by decide +kernel) ⟨Nat.le_of_ble_eq_true rfl, Nat.le_of_ble_eq_true rfl⟩) (x_preV (r_pre hK hP [2, 3] rfl) hK hP (ci := 1) (q0 := 2) rfl rfl) rfl rfl hl.1 rfl (lv_room (Nat.le_of_ble_eq_true rfl)) dX10_told_56 ⟨Nat.zero_le _, Nat.zero_le _⟩) (fun r_2 hw => ?_)
    subst hw
    exact r_iret hx hb hr hlocks (by simp [toldV, *]) hH dX10_told_59
  by_cases z_2 : what = 2
  · skip
    refine lv_tableIn (off := 59) (tgt := 60) hx hb dX10_told_1 (by rw [z_2]; decide) (by rw [z_2]; decide) (by rw [z_2]; decide) (by decide) ?_
    refine lv_aload_n hx hb dX10_told_60 rfl (lv_at hl 0 rfl) ?_
    refine va_get (D := G.1) (ci := 9) (v := .ref ib) (C := RX10) (T := TX10) (N := 10) hx hb hts hin_X10_told_10 hown hK.1 hP 0 rfl rfl 6 (by decide) (hts (.fieldLink RX10 21 "MixedPredict" "unread" "LMixedPredict$Bytes;") (List.mem_cons_of_mem _ (List.mem_append_left _ (List.mem_append_left _ (List.mem_append_left _ (List.mem_of_getElem? (i := 2) rfl)))))) (fun _ h9 => h9) rfl dX10_told_61 ?_
    refine r_fin_i (va_runV (As := []) (rest := []) ⟨hx, hb, hml, hown, hts⟩ (c_X1_count l G ib iar 4000 gr k2) (cwV 0 hts gX10_told_X1_count rfl rfl rfl (by decide +kernel) ⟨Nat.le_of_ble_eq_true rfl, Nat.le_of_ble_eq_true rfl⟩) (x_preV (r_pre hK hP [4, 5] rfl) hK hP (ci := 1) (q0 := 4) rfl rfl) rfl rfl hl.1 rfl (lv_room (Nat.le_of_ble_eq_true rfl)) dX10_told_64 ⟨Nat.zero_le _, Nat.zero_le _⟩) (fun r_3 hw => ?_)
    subst hw
    exact r_iret hx hb hr hlocks (by simp [toldV, *]) hH dX10_told_67
  by_cases z_3 : what = 3
  · skip
    refine lv_tableIn (off := 67) (tgt := 68) hx hb dX10_told_1 (by rw [z_3]; decide) (by rw [z_3]; decide) (by rw [z_3]; decide) (by decide) ?_
    refine lv_aload_n hx hb dX10_told_68 rfl (lv_at hl 0 rfl) ?_
    refine va_get (D := G.1) (ci := 9) (v := .ref pm) (C := RX10) (T := TX10) (N := 10) hx hb hts hin_X10_told_10 hown hK.1 hP 0 rfl rfl 0 (by decide) (hts (.fieldLink RX10 56 "MixedPredict" "picture" "LMixedPredict$Picture;") (List.mem_cons_of_mem _ (List.mem_append_left _ (List.mem_append_left _ (List.mem_append_left _ (List.mem_of_getElem? (i := 0) rfl)))))) (fun _ h9 => h9) rfl dX10_told_69 ?_
    refine va_get (D := G.1) (ci := 3) (v := .int (nI w)) (C := RX4) (T := TX4) (N := 8) hx hb hts hin_X10_told_4 hown hK.1 hP 1 rfl rfl 0 (by decide) (hts (.fieldLink RX10 106 "MixedPredict$Picture" "width" "I") (List.mem_cons_of_mem _ (List.mem_append_left _ (List.mem_append_left _ (List.mem_append_left _ (List.mem_of_getElem? (i := 3) rfl)))))) (fun _ h9 => h9) rfl dX10_told_72 ?_
    exact r_iret hx hb hr hlocks (by simp [toldV, *]) hH dX10_told_75
  by_cases z_4 : what = 4
  · skip
    refine lv_tableIn (off := 75) (tgt := 76) hx hb dX10_told_1 (by rw [z_4]; decide) (by rw [z_4]; decide) (by rw [z_4]; decide) (by decide) ?_
    refine lv_aload_n hx hb dX10_told_76 rfl (lv_at hl 0 rfl) ?_
    refine va_get (D := G.1) (ci := 9) (v := .ref pm) (C := RX10) (T := TX10) (N := 10) hx hb hts hin_X10_told_10 hown hK.1 hP 0 rfl rfl 0 (by decide) (hts (.fieldLink RX10 56 "MixedPredict" "picture" "LMixedPredict$Picture;") (List.mem_cons_of_mem _ (List.mem_append_left _ (List.mem_append_left _ (List.mem_append_left _ (List.mem_of_getElem? (i := 0) rfl)))))) (fun _ h9 => h9) rfl dX10_told_77 ?_
    refine va_get (D := G.1) (ci := 3) (v := .int (nI h)) (C := RX4) (T := TX4) (N := 8) hx hb hts hin_X10_told_4 hown hK.1 hP 1 rfl rfl 1 (by decide) (hts (.fieldLink RX10 103 "MixedPredict$Picture" "height" "I") (List.mem_cons_of_mem _ (List.mem_append_left _ (List.mem_append_left _ (List.mem_append_left _ (List.mem_of_getElem? (i := 4) rfl)))))) (fun _ h9 => h9) rfl dX10_told_80 ?_
    exact r_iret hx hb hr hlocks (by simp [toldV, *]) hH dX10_told_83
  by_cases z_5 : what = 5
  · skip
    refine lv_tableIn (off := 83) (tgt := 84) hx hb dX10_told_1 (by rw [z_5]; decide) (by rw [z_5]; decide) (by rw [z_5]; decide) (by decide) ?_
    refine lv_aload_n hx hb dX10_told_84 rfl (lv_at hl 0 rfl) ?_
    refine va_get (D := G.1) (ci := 9) (v := .ref pm) (C := RX10) (T := TX10) (N := 10) hx hb hts hin_X10_told_10 hown hK.1 hP 0 rfl rfl 0 (by decide) (hts (.fieldLink RX10 56 "MixedPredict" "picture" "LMixedPredict$Picture;") (List.mem_cons_of_mem _ (List.mem_append_left _ (List.mem_append_left _ (List.mem_append_left _ (List.mem_of_getElem? (i := 0) rfl)))))) (fun _ h9 => h9) rfl dX10_told_85 ?_
    refine va_get (D := G.1) (ci := 3) (v := .int (nI b)) (C := RX4) (T := TX4) (N := 8) hx hb hts hin_X10_told_4 hown hK.1 hP 1 rfl rfl 2 (by decide) (hts (.fieldLink RX10 233 "MixedPredict$Picture" "bits" "I") (List.mem_cons_of_mem _ (List.mem_append_left _ (List.mem_append_left _ (List.mem_append_left _ (List.mem_of_getElem? (i := 5) rfl)))))) (fun _ h9 => h9) rfl dX10_told_88 ?_
    exact r_iret hx hb hr hlocks (by simp [toldV, *]) hH dX10_told_91
  by_cases z_6 : what = 6
  · skip
    refine lv_tableIn (off := 91) (tgt := 92) hx hb dX10_told_1 (by rw [z_6]; decide) (by rw [z_6]; decide) (by rw [z_6]; decide) (by decide) ?_
    refine lv_aload_n hx hb dX10_told_92 rfl (lv_at hl 0 rfl) ?_
    refine va_get (D := G.1) (ci := 9) (v := .ref pm) (C := RX10) (T := TX10) (N := 10) hx hb hts hin_X10_told_10 hown hK.1 hP 0 rfl rfl 0 (by decide) (hts (.fieldLink RX10 56 "MixedPredict" "picture" "LMixedPredict$Picture;") (List.mem_cons_of_mem _ (List.mem_append_left _ (List.mem_append_left _ (List.mem_append_left _ (List.mem_of_getElem? (i := 0) rfl)))))) (fun _ h9 => h9) rfl dX10_told_93 ?_
    refine va_get (D := G.1) (ci := 3) (v := .int (nI c)) (C := RX4) (T := TX4) (N := 8) hx hb hts hin_X10_told_4 hown hK.1 hP 1 rfl rfl 3 (by decide) (hts (.fieldLink RX10 109 "MixedPredict$Picture" "channels" "I") (List.mem_cons_of_mem _ (List.mem_append_left _ (List.mem_append_left _ (List.mem_append_left _ (List.mem_of_getElem? (i := 6) rfl)))))) (fun _ h9 => h9) rfl dX10_told_96 ?_
    exact r_iret hx hb hr hlocks (by simp [toldV, *]) hH dX10_told_99
  refine lv_tableOut (tgt := 100) hx hb dX10_told_1 (by have a_0 := lv_neT (k := 0) (a := 0) z_0 rfl; have a_1 := lv_neT (k := 1) (a := 1) z_1 rfl; have a_2 := lv_neT (k := 2) (a := 2) z_2 rfl; have a_3 := lv_neT (k := 3) (a := 3) z_3 rfl; have a_4 := lv_neT (k := 4) (a := 4) z_4 rfl; have a_5 := lv_neT (k := 5) (a := 5) z_5 rfl; have a_6 := lv_neT (k := 6) (a := 6) z_6 rfl; omega) (by decide) ?_
  refine lv_iconst (v := (-1)) hx hb dX10_told_100 (by decide) ?_
  exact r_iret hx hb hr hlocks (by simp [toldV, *]) hH dX10_told_101
