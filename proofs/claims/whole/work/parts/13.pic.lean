theorem hin_X0_expected_0 : ∀ w ∈ u_ws RX0 TX0 6, w ∈ wsX0_expected := fun w h => List.mem_cons_of_mem _ (List.mem_append_left _ (List.mem_append_right _ h))
theorem hin_X0_init_0 : ∀ w ∈ u_ws RX0 TX0 6, w ∈ wsX0_init := fun w h => List.mem_cons_of_mem _ (List.mem_append_right _ h)
theorem hin_X0_look_0 : ∀ w ∈ u_ws RX0 TX0 6, w ∈ wsX0_look := fun w h => List.mem_cons_of_mem _ (List.mem_append_left _ (List.mem_append_left _ (List.mem_append_right _ h)))
theorem hin_X0_look_4 : ∀ w ∈ u_ws RX4 TX4 8, w ∈ wsX0_look := fun w h => List.mem_cons_of_mem _ (List.mem_append_left _ (List.mem_append_right _ h))
theorem hin_X0_texture_0 : ∀ w ∈ u_ws RX0 TX0 6, w ∈ wsX0_texture := fun w h => List.mem_cons_of_mem _ (List.mem_append_right _ h)
theorem hin_X4_blacken_4 : ∀ w ∈ u_ws RX4 TX4 8, w ∈ wsX4_blacken := fun w h => List.mem_cons_of_mem _ (List.mem_append_left _ (List.mem_append_right _ h))
theorem hin_X4_bottom_4 : ∀ w ∈ u_ws RX4 TX4 8, w ∈ wsX4_bottom := fun w h => List.mem_cons_of_mem _ (List.mem_append_right _ h)
theorem hin_X4_change_4 : ∀ w ∈ u_ws RX4 TX4 8, w ∈ wsX4_change := fun w h => List.mem_cons_of_mem _ (List.mem_append_left _ (List.mem_append_right _ h))
theorem hin_X4_count_4 : ∀ w ∈ u_ws RX4 TX4 8, w ∈ wsX4_count := fun w h => List.mem_cons_of_mem _ (List.mem_append_right _ h)
theorem hin_X4_countIn_4 : ∀ w ∈ u_ws RX4 TX4 8, w ∈ wsX4_countIn := fun w h => List.mem_cons_of_mem _ (List.mem_append_right _ h)
theorem hin_X4_has_4 : ∀ w ∈ u_ws RX4 TX4 8, w ∈ wsX4_has := fun w h => List.mem_cons_of_mem _ (List.mem_append_right _ h)
theorem hin_X4_hasChannel_4 : ∀ w ∈ u_ws RX4 TX4 8, w ∈ wsX4_hasChannel := fun w h => List.mem_cons_of_mem _ (List.mem_append_right _ h)
theorem hin_X4_inRange_4 : ∀ w ∈ u_ws RX4 TX4 8, w ∈ wsX4_inRange := fun w h => List.mem_cons_of_mem _ (List.mem_append_right _ h)
theorem hin_X4_init_4 : ∀ w ∈ u_ws RX4 TX4 8, w ∈ wsX4_init := fun w h => List.mem_cons_of_mem _ (List.mem_append_left _ (List.mem_append_right _ h))
theorem hin_X4_init_6 : ∀ w ∈ u_ws RX6 TX6 1, w ∈ wsX4_init := fun w h => List.mem_cons_of_mem _ (List.mem_append_right _ h)
theorem hin_X4_left_4 : ∀ w ∈ u_ws RX4 TX4 8, w ∈ wsX4_left := fun w h => List.mem_cons_of_mem _ (List.mem_append_right _ h)
theorem hin_X4_right_4 : ∀ w ∈ u_ws RX4 TX4 8, w ∈ wsX4_right := fun w h => List.mem_cons_of_mem _ (List.mem_append_right _ h)
theorem hin_X4_sample_4 : ∀ w ∈ u_ws RX4 TX4 8, w ∈ wsX4_sample := fun w h => List.mem_cons_of_mem _ (List.mem_append_left _ (List.mem_append_right _ h))
theorem hin_X4_tiles_4 : ∀ w ∈ u_ws RX4 TX4 8, w ∈ wsX4_tiles := fun w h => List.mem_cons_of_mem _ (List.mem_append_right _ h)
theorem hin_X4_top_4 : ∀ w ∈ u_ws RX4 TX4 8, w ∈ wsX4_top := fun w h => List.mem_cons_of_mem _ (List.mem_append_right _ h)
set_option maxHeartbeats 4000000 in
set_option maxRecDepth 100000 in
theorem c_X4_count (l : Launch) (G : GG) (pm rs : Nat) (w h b c md : Nat) (hd : DIM w h b c md)  : Met l yX4_count wsX4_count ({ frames := 0, cells := 0, slots := 0, locals := 0 } : Room) (r_Pc G [.ref pm] [(pm, .inr (3, [.int (nI w), .int (nI h), .int (nI b), .int (nI c), .int (nI (2 * md - 1)), .int (nI md), .int (nI ((w + 7) / 8)), .ref rs]))]) (vp_Si (fun r => r = (nI ((w * h) * c)))) 0 0 (fun _ => False) := by
  refine r_ofW (cc := cX4_count) (maxL := 1) (ret := (some .int)) (by decide) rfl (Nat.le_of_ble_eq_true rfl) ?_
  intro pZ eZ sZ mZ bZ tZ cZ hx hb hr hts hown hlocks hml hK H hH hP ls hl
  have hown : sZ.vm.findClass RX4 = some mZ.cls := hown
  have hl : lv_has ls 1 [(0, .ref pm)] := hl
  refine lv_aload_n hx hb dX4_count_0 rfl (lv_at hl 0 rfl) ?_
  refine va_get (D := G.1) (ci := 3) (v := .int (nI w)) (C := RX4) (T := TX4) (N := 8) hx hb hts hin_X4_count_4 hown hK.1 hP 0 rfl rfl 0 (by decide) (hts (.fieldLink RX4 9 "MixedPredict$Picture" "width" "I") (List.mem_cons_of_mem _ (List.mem_append_left _ (List.mem_of_getElem? (i := 0) rfl)))) (fun _ h9 => h9) rfl dX4_count_1 ?_
  refine lv_aload_n hx hb dX4_count_4 rfl (lv_at hl 0 rfl) ?_
  refine va_get (D := G.1) (ci := 3) (v := .int (nI h)) (C := RX4) (T := TX4) (N := 8) hx hb hts hin_X4_count_4 hown hK.1 hP 0 rfl rfl 1 (by decide) (hts (.fieldLink RX4 15 "MixedPredict$Picture" "height" "I") (List.mem_cons_of_mem _ (List.mem_append_left _ (List.mem_of_getElem? (i := 1) rfl)))) (fun _ h9 => h9) rfl dX4_count_5 ?_
  refine lv_imul hx hb dX4_count_8 ?_
  refine x_top (y := nI (w * h)) (pk_mul _ _) ?_
  refine lv_aload_n hx hb dX4_count_9 rfl (lv_at hl 0 rfl) ?_
  refine va_get (D := G.1) (ci := 3) (v := .int (nI c)) (C := RX4) (T := TX4) (N := 8) hx hb hts hin_X4_count_4 hown hK.1 hP 0 rfl rfl 3 (by decide) (hts (.fieldLink RX4 21 "MixedPredict$Picture" "channels" "I") (List.mem_cons_of_mem _ (List.mem_append_left _ (List.mem_of_getElem? (i := 2) rfl)))) (fun _ h9 => h9) rfl dX4_count_10 ?_
  refine lv_imul hx hb dX4_count_13 ?_
  refine x_top (y := nI ((w * h) * c)) (pk_mul _ _) ?_
  exact r_iret hx hb hr hlocks (rfl) hH dX4_count_14

set_option maxHeartbeats 4000000 in
set_option maxRecDepth 100000 in
theorem c_X4_hasChannel (l : Launch) (G : GG) (pm rs : Nat) (w h b c md : Nat) (hd : DIM w h b c md) (i : Int32) : Met l yX4_hasChannel wsX4_hasChannel ({ frames := 0, cells := 0, slots := 0, locals := 0 } : Room) (r_Pc G [.ref pm, .int i] [(pm, .inr (3, [.int (nI w), .int (nI h), .int (nI b), .int (nI c), .int (nI (2 * md - 1)), .int (nI md), .int (nI ((w + 7) / 8)), .ref rs]))]) (vp_Si (fun r => r = (if (0 ≤ i ∧ i < nI c) then 1 else 0))) 0 0 (fun _ => False) := by
  refine r_ofW (cc := cX4_hasChannel) (maxL := 2) (ret := (some .boolean)) (by decide) rfl (Nat.le_of_ble_eq_true rfl) ?_
  intro pZ eZ sZ mZ bZ tZ cZ hx hb hr hts hown hlocks hml hK H hH hP ls hl
  have hown : sZ.vm.findClass RX4 = some mZ.cls := hown
  have hl : lv_has ls 2 [(0, .ref pm), (1, .int i)] := hl
  refine lv_iload_n hx hb dX4_hasChannel_0 rfl (lv_at hl 1 rfl) ?_
  refine lv_if_lt (tgt := 16) hx hb dX4_hasChannel_1 (by decide) (fun c_1 => ?_) (fun c_1 => ?_)
  · skip
    refine lv_iconst (v := 0) hx hb dX4_hasChannel_16 (by decide) ?_
    exact r_zret hx hb hr hlocks (rfl) (by rw [if_neg (fun h => Int32.not_lt.mpr h.1 c_1)]) hH dX4_hasChannel_17
  · skip
    refine lv_iload_n hx hb dX4_hasChannel_4 rfl (lv_at hl 1 rfl) ?_
    refine lv_aload_n hx hb dX4_hasChannel_5 rfl (lv_at hl 0 rfl) ?_
    refine va_get (D := G.1) (ci := 3) (v := .int (nI c)) (C := RX4) (T := TX4) (N := 8) hx hb hts hin_X4_hasChannel_4 hown hK.1 hP 0 rfl rfl 3 (by decide) (hts (.fieldLink RX4 21 "MixedPredict$Picture" "channels" "I") (List.mem_cons_of_mem _ (List.mem_append_left _ (List.mem_of_getElem? (i := 0) rfl)))) (fun _ h9 => h9) rfl dX4_hasChannel_6 ?_
    refine lv_icmp_ge (tgt := 16) hx hb dX4_hasChannel_9 (by decide) (fun c_9 => ?_) (fun c_9 => ?_)
    · skip
      refine lv_iconst (v := 0) hx hb dX4_hasChannel_16 (by decide) ?_
      exact r_zret hx hb hr hlocks (rfl) (by rw [if_neg (fun h => Int32.not_lt.mpr c_9 h.2)]) hH dX4_hasChannel_17
    · skip
      refine lv_iconst (v := 1) hx hb dX4_hasChannel_12 (by decide) ?_
      refine lv_goto (tgt := 17) hx hb dX4_hasChannel_13 (by decide) ?_
      exact r_zret hx hb hr hlocks (rfl) (by rw [if_pos ⟨Int32.not_lt.mp c_1, Int32.not_le.mp c_9⟩]) hH dX4_hasChannel_17

set_option maxHeartbeats 4000000 in
set_option maxRecDepth 100000 in
theorem c_X4_has (l : Launch) (G : GG) (pm rs : Nat) (w h b c md : Nat) (hd : DIM w h b c md) (x y k : Int32) : Met l yX4_has wsX4_has ({ frames := 1, cells := 0, slots := 0, locals := 21 } : Room) (r_Pc G [.ref pm, .int x, .int y, .int k] [(pm, .inr (3, [.int (nI w), .int (nI h), .int (nI b), .int (nI c), .int (nI (2 * md - 1)), .int (nI md), .int (nI ((w + 7) / 8)), .ref rs]))]) (vp_Si (fun r => r = (if ((0 ≤ x ∧ x < nI w) ∧ (0 ≤ y ∧ y < nI h) ∧ (0 ≤ k ∧ k < nI c)) then 1 else 0))) 0 0 (fun _ => False) := by
  refine r_ofW (cc := cX4_has) (maxL := 4) (ret := (some .boolean)) (by decide) rfl (Nat.le_of_ble_eq_true rfl) ?_
  intro pZ eZ sZ mZ bZ tZ cZ hx hb hr hts hown hlocks hml hK H hH hP ls hl
  have hown : sZ.vm.findClass RX4 = some mZ.cls := hown
  have hl : lv_has ls 4 [(0, .ref pm), (1, .int x), (2, .int y), (3, .int k)] := hl
  refine lv_iload_n hx hb dX4_has_0 rfl (lv_at hl 1 rfl) ?_
  refine lv_if_lt (tgt := 36) hx hb dX4_has_1 (by decide) (fun c_1 => ?_) (fun c_1 => ?_)
  · skip
    refine lv_iconst (v := 0) hx hb dX4_has_36 (by decide) ?_
    exact r_zret hx hb hr hlocks (rfl) (by rw [if_neg (fun h => Int32.not_lt.mpr h.1.1 c_1)]) hH dX4_has_37
  · skip
    refine lv_iload_n hx hb dX4_has_4 rfl (lv_at hl 1 rfl) ?_
    refine lv_aload_n hx hb dX4_has_5 rfl (lv_at hl 0 rfl) ?_
    refine va_get (D := G.1) (ci := 3) (v := .int (nI w)) (C := RX4) (T := TX4) (N := 8) hx hb hts hin_X4_has_4 hown hK.1 hP 0 rfl rfl 0 (by decide) (hts (.fieldLink RX4 9 "MixedPredict$Picture" "width" "I") (List.mem_cons_of_mem _ (List.mem_append_left _ (List.mem_of_getElem? (i := 0) rfl)))) (fun _ h9 => h9) rfl dX4_has_6 ?_
    refine lv_icmp_ge (tgt := 36) hx hb dX4_has_9 (by decide) (fun c_9 => ?_) (fun c_9 => ?_)
    · skip
      refine lv_iconst (v := 0) hx hb dX4_has_36 (by decide) ?_
      exact r_zret hx hb hr hlocks (rfl) (by rw [if_neg (fun h => Int32.not_lt.mpr c_9 h.1.2)]) hH dX4_has_37
    · skip
      refine lv_iload_n hx hb dX4_has_12 rfl (lv_at hl 2 rfl) ?_
      refine lv_if_lt (tgt := 36) hx hb dX4_has_13 (by decide) (fun c_13 => ?_) (fun c_13 => ?_)
      · skip
        refine lv_iconst (v := 0) hx hb dX4_has_36 (by decide) ?_
        exact r_zret hx hb hr hlocks (rfl) (by rw [if_neg (fun h => Int32.not_lt.mpr h.2.1.1 c_13)]) hH dX4_has_37
      · skip
        refine lv_iload_n hx hb dX4_has_16 rfl (lv_at hl 2 rfl) ?_
        refine lv_aload_n hx hb dX4_has_17 rfl (lv_at hl 0 rfl) ?_
        refine va_get (D := G.1) (ci := 3) (v := .int (nI h)) (C := RX4) (T := TX4) (N := 8) hx hb hts hin_X4_has_4 hown hK.1 hP 0 rfl rfl 1 (by decide) (hts (.fieldLink RX4 15 "MixedPredict$Picture" "height" "I") (List.mem_cons_of_mem _ (List.mem_append_left _ (List.mem_of_getElem? (i := 1) rfl)))) (fun _ h9 => h9) rfl dX4_has_18 ?_
        refine lv_icmp_ge (tgt := 36) hx hb dX4_has_21 (by decide) (fun c_21 => ?_) (fun c_21 => ?_)
        · skip
          refine lv_iconst (v := 0) hx hb dX4_has_36 (by decide) ?_
          exact r_zret hx hb hr hlocks (rfl) (by rw [if_neg (fun h => Int32.not_lt.mpr c_21 h.2.1.2)]) hH dX4_has_37
        · skip
          refine lv_aload_n hx hb dX4_has_24 rfl (lv_at hl 0 rfl) ?_
          refine lv_iload_n hx hb dX4_has_25 rfl (lv_at hl 3 rfl) ?_
          refine r_fin_i (va_runV (As := [.int k]) (rest := []) ⟨hx, hb, hml, hown, hts⟩ (c_X4_hasChannel l G pm rs w h b c md (by first | assumption | omega) k) (cwV 1 hts gX4_has_X4_hasChannel rfl rfl rfl (by decide +kernel) ⟨Nat.le_of_ble_eq_true rfl, Nat.le_of_ble_eq_true rfl⟩) (x_preV (r_pre hK hP [0] rfl) hK hP (ci := 3) (q0 := 0) rfl rfl) rfl rfl hl.1 rfl (lv_room (Nat.le_of_ble_eq_true rfl)) dX4_has_26 ⟨Nat.zero_le _, Nat.zero_le _⟩) (fun r_1 hw => ?_)
          subst hw
          refine lv_if_eq (tgt := 36) hx hb dX4_has_29 (by decide) (fun c_29 => ?_) (fun c_29 => ?_)
          · skip
            have c_29 := x_b0.mp c_29
            refine lv_iconst (v := 0) hx hb dX4_has_36 (by decide) ?_
            exact r_zret hx hb hr hlocks (rfl) (by rw [if_neg (fun h => c_29 h.2.2)]) hH dX4_has_37
          · skip
            have c_29 := Decidable.not_not.mp (fun h9 => c_29 (x_b0.mpr h9))
            refine lv_iconst (v := 1) hx hb dX4_has_32 (by decide) ?_
            refine lv_goto (tgt := 37) hx hb dX4_has_33 (by decide) ?_
            exact r_zret hx hb hr hlocks (rfl) (by rw [if_pos ⟨⟨Int32.not_lt.mp c_1, Int32.not_le.mp c_9⟩, ⟨Int32.not_lt.mp c_13, Int32.not_le.mp c_21⟩, c_29⟩]) hH dX4_has_37

set_option maxHeartbeats 4000000 in
set_option maxRecDepth 100000 in
theorem c_X4_sample (l : Launch) (G : GG) (pm rs as : Nat) (w h b c md : Nat) (hd : DIM w h b c md) (f : Nat → Int32) (P : Nat → Nat → Nat → Nat) (hf : PicC w h c f P) (x y k : Nat) (qx : x < w) (qy : y < h) (qk : k < c)  : Met l yX4_sample wsX4_sample ({ frames := 1, cells := 0, slots := 0, locals := 21 } : Room) (r_Pc G [.ref pm, .int (nI x), .int (nI y), .int (nI k)] [(pm, .inr (3, [.int (nI w), .int (nI h), .int (nI b), .int (nI c), .int (nI (2 * md - 1)), .int (nI md), .int (nI ((w + 7) / 8)), .ref rs])), (rs, .inr (5, [.ref as])), (as, .inl (G.2.1, w * h * c, .inl f))]) (vp_Si (fun r => r = (nI (P x y k)))) 0 0 (fun _ => False) := by
  refine r_ofW (cc := cX4_sample) (maxL := 4) (ret := (some .int)) (by decide) rfl (Nat.le_of_ble_eq_true rfl) ?_
  intro pZ eZ sZ mZ bZ tZ cZ hx hb hr hts hown hlocks hml hK H hH hP ls hl
  have hown : sZ.vm.findClass RX4 = some mZ.cls := hown
  have hl : lv_has ls 4 [(0, .ref pm), (1, .int (nI x)), (2, .int (nI y)), (3, .int (nI k))] := hl
  obtain ⟨dw1, dw2, dh1, dh2, db1, db2, dc1, dc2, dm1, dm2, dme⟩ := id hd
  refine lv_aload_n hx hb dX4_sample_0 rfl (lv_at hl 0 rfl) ?_
  refine va_get (D := G.1) (ci := 3) (v := .ref rs) (C := RX4) (T := TX4) (N := 8) hx hb hts hin_X4_sample_4 hown hK.1 hP 0 rfl rfl 7 (by decide) (hts (.fieldLink RX4 44 "MixedPredict$Picture" "samples" "LMixedPredict$Row;") (List.mem_cons_of_mem _ (List.mem_append_left _ (List.mem_append_left _ (List.mem_of_getElem? (i := 0) rfl))))) (fun _ h9 => h9) rfl dX4_sample_1 ?_
  refine lv_iload_n hx hb dX4_sample_4 rfl (lv_at hl 2 rfl) ?_
  refine lv_aload_n hx hb dX4_sample_5 rfl (lv_at hl 0 rfl) ?_
  refine va_get (D := G.1) (ci := 3) (v := .int (nI w)) (C := RX4) (T := TX4) (N := 8) hx hb hts hin_X4_sample_4 hown hK.1 hP 0 rfl rfl 0 (by decide) (hts (.fieldLink RX4 9 "MixedPredict$Picture" "width" "I") (List.mem_cons_of_mem _ (List.mem_append_left _ (List.mem_append_left _ (List.mem_of_getElem? (i := 1) rfl))))) (fun _ h9 => h9) rfl dX4_sample_6 ?_
  refine lv_imul hx hb dX4_sample_9 ?_
  refine x_top (y := nI (y * w)) (pk_mul _ _) ?_
  refine lv_iload_n hx hb dX4_sample_10 rfl (lv_at hl 1 rfl) ?_
  refine lv_iadd hx hb dX4_sample_11 ?_
  refine x_top (y := nI (y * w + x)) (nI_add _ _) ?_
  refine lv_aload_n hx hb dX4_sample_12 rfl (lv_at hl 0 rfl) ?_
  refine va_get (D := G.1) (ci := 3) (v := .int (nI c)) (C := RX4) (T := TX4) (N := 8) hx hb hts hin_X4_sample_4 hown hK.1 hP 0 rfl rfl 3 (by decide) (hts (.fieldLink RX4 21 "MixedPredict$Picture" "channels" "I") (List.mem_cons_of_mem _ (List.mem_append_left _ (List.mem_append_left _ (List.mem_of_getElem? (i := 2) rfl))))) (fun _ h9 => h9) rfl dX4_sample_13 ?_
  refine lv_imul hx hb dX4_sample_16 ?_
  refine x_top (y := nI ((y * w + x) * c)) (pk_mul _ _) ?_
  refine lv_iload_n hx hb dX4_sample_17 rfl (lv_at hl 3 rfl) ?_
  refine lv_iadd hx hb dX4_sample_18 ?_
  refine x_top (y := nI ((y * w + x) * c + k)) (nI_add _ _) ?_
  refine r_fin_i (va_runV (As := [.int (nI ((y * w + x) * c + k))]) (rest := []) ⟨hx, hb, hml, hown, hts⟩ (c_X6_get l G rs as (w * h * c) f ((y * w + x) * c + k) (ix_lt qx qy qk) (ix_big hd)) (cwV 1 hts gX4_sample_X6_get rfl rfl rfl (by decide +kernel) ⟨Nat.le_of_ble_eq_true rfl, Nat.le_of_ble_eq_true rfl⟩) (x_preV (r_pre hK hP [1, 2] rfl) hK hP (ci := 5) (q0 := 1) rfl rfl) rfl rfl hl.1 rfl (lv_room (Nat.le_of_ble_eq_true rfl)) dX4_sample_19 ⟨Nat.zero_le _, Nat.zero_le _⟩) (fun r_1 hw => ?_)
  subst hw
  refine x_top (y := nI (P x y k)) (hf x y k qx qy qk) ?_
  exact r_iret hx hb hr hlocks (rfl) hH dX4_sample_22

set_option maxHeartbeats 4000000 in
set_option maxRecDepth 100000 in
theorem c_X4_change (l : Launch) (G : GG) (pm rs as : Nat) (w h b c md : Nat) (hd : DIM w h b c md) (f : Nat → Int32) (P : Nat → Nat → Nat → Nat) (hf : PicC w h c f P) (x y k : Nat) (qx : x < w) (qy : y < h) (qk : k < c) (v : Nat) (hv : v < 2 ^ 31) (hpb : P x y k < 2 ^ 31) (sz : Nat) : Met l yX4_change wsX4_change ({ frames := 2, cells := 0, slots := 0, locals := 44 } : Room) (w_Pc G [.ref pm, .int (nI x), .int (nI y), .int (nI k), .int (nI v)] sz [(pm, .inr (3, [.int (nI w), .int (nI h), .int (nI b), .int (nI c), .int (nI (2 * md - 1)), .int (nI md), .int (nI ((w + 7) / 8)), .ref rs])), (rs, .inr (5, [.ref as])), (as, .inl (G.2.1, w * h * c, .inl f))]) (w_Qi G (va_A [(pm, .inr (3, [.int (nI w), .int (nI h), .int (nI b), .int (nI c), .int (nI (2 * md - 1)), .int (nI md), .int (nI ((w + 7) / 8)), .ref rs])), (rs, .inr (5, [.ref as])), (as, .inl (G.2.1, w * h * c, .inl f))] sz) (fun (f2 : Nat → Int32) => [(pm, .inr (3, [.int (nI w), .int (nI h), .int (nI b), .int (nI c), .int (nI (2 * md - 1)), .int (nI md), .int (nI ((w + 7) / 8)), .ref rs])), (rs, .inr (5, [.ref as])), (as, .inl (G.2.1, w * h * c, .inl f2))]) (fun r (f2 : Nat → Int32) => r = (if ¬ P x y k = v then 1 else 0) ∧ PicC w h c f2 (updP P x y k v))) 0 0 (va_A [(pm, .inr (3, [.int (nI w), .int (nI h), .int (nI b), .int (nI c), .int (nI (2 * md - 1)), .int (nI md), .int (nI ((w + 7) / 8)), .ref rs])), (rs, .inr (5, [.ref as])), (as, .inl (G.2.1, w * h * c, .inl f))] sz) := by
  refine w_ofW (Qf := fun A => w_Qi G A (fun (f2 : Nat → Int32) => [(pm, .inr (3, [.int (nI w), .int (nI h), .int (nI b), .int (nI c), .int (nI (2 * md - 1)), .int (nI md), .int (nI ((w + 7) / 8)), .ref rs])), (rs, .inr (5, [.ref as])), (as, .inl (G.2.1, w * h * c, .inl f2))]) (fun r (f2 : Nat → Int32) => r = (if ¬ P x y k = v then 1 else 0) ∧ PicC w h c f2 (updP P x y k v))) (cc := cX4_change) (maxL := 6) (ret := (some .boolean)) (by decide) rfl (Nat.le_of_ble_eq_true rfl) ?_
  intro pZ eZ sZ mZ bZ tZ cZ A hx hb hr hts hown hlocks hml hnm hK hA H locs hP hD hS ls hl
  have hown : sZ.vm.findClass RX4 = some mZ.cls := hown
  have hl : lv_has ls 6 [(0, .ref pm), (1, .int (nI x)), (2, .int (nI y)), (3, .int (nI k)), (4, .int (nI v))] := hl
  obtain ⟨dw1, dw2, dh1, dh2, db1, db2, dc1, dc2, dm1, dm2, dme⟩ := id hd
  refine lv_aload_n hx hb dX4_change_0 rfl (lv_at hl 0 rfl) ?_
  refine lv_iload_n hx hb dX4_change_1 rfl (lv_at hl 1 rfl) ?_
  refine lv_iload_n hx hb dX4_change_2 rfl (lv_at hl 2 rfl) ?_
  refine lv_iload_n hx hb dX4_change_3 rfl (lv_at hl 3 rfl) ?_
  refine r_fin_i (va_runV (As := [.int (nI x), .int (nI y), .int (nI k)]) (rest := []) ⟨hx, hb, hml, hown, hts⟩ (c_X4_sample l G pm rs as w h b c md (by first | assumption | omega) f (by first | assumption | omega) (by first | assumption | omega) x y k (by first | assumption | omega) (by first | assumption | omega) (by first | assumption | omega)) (cwV 3 hts gX4_change_X4_sample rfl rfl rfl (by decide +kernel) ⟨Nat.le_of_ble_eq_true rfl, Nat.le_of_ble_eq_true rfl⟩) (x_preV (r_pre hK hP [0, 1, 2] rfl) hK hP (ci := 3) (q0 := 0) rfl rfl) rfl rfl hl.1 rfl (lv_room (Nat.le_of_ble_eq_true rfl)) dX4_change_4 ⟨Nat.zero_le _, Nat.zero_le _⟩) (fun r_1 hw => ?_)
  subst hw
  refine lv_iload hx hb dX4_change_7 (lv_at hl 4 rfl) ?_
  refine lv_icmp_eq (tgt := 16) hx hb dX4_change_9 (by decide) (fun c_9 => ?_) (fun c_9 => ?_)
  · skip
    have c_9 : P x y k = v := (nI_eq (a := P x y k) (b := v) (by omega) (by omega)).mp c_9
    refine lv_iconst (v := 0) hx hb dX4_change_16 (by decide) ?_
    refine lv_istore (lv' := [(5, .int 0), (0, .ref pm), (1, .int (nI x)), (2, .int (nI y)), (3, .int (nI k)), (4, .int (nI v))]) hx hb dX4_change_17 hl (by decide) rfl (fun ls hl => ?_)
    refine lv_aload_n hx hb dX4_change_19 rfl (lv_at hl 1 rfl) ?_
    refine va_get (D := G.1) (ci := 3) (v := .ref rs) (C := RX4) (T := TX4) (N := 8) hx hb hts hin_X4_change_4 hown hK.1 hP 0 rfl rfl 7 (by decide) (hts (.fieldLink RX4 44 "MixedPredict$Picture" "samples" "LMixedPredict$Row;") (List.mem_cons_of_mem _ (List.mem_append_left _ (List.mem_append_left _ (List.mem_of_getElem? (i := 0) rfl))))) (fun _ h9 => h9) rfl dX4_change_20 ?_
    refine lv_iload_n hx hb dX4_change_23 rfl (lv_at hl 3 rfl) ?_
    refine lv_aload_n hx hb dX4_change_24 rfl (lv_at hl 1 rfl) ?_
    refine va_get (D := G.1) (ci := 3) (v := .int (nI w)) (C := RX4) (T := TX4) (N := 8) hx hb hts hin_X4_change_4 hown hK.1 hP 0 rfl rfl 0 (by decide) (hts (.fieldLink RX4 9 "MixedPredict$Picture" "width" "I") (List.mem_cons_of_mem _ (List.mem_append_left _ (List.mem_append_left _ (List.mem_of_getElem? (i := 1) rfl))))) (fun _ h9 => h9) rfl dX4_change_25 ?_
    refine lv_imul hx hb dX4_change_28 ?_
    refine x_top (y := nI (y * w)) (pk_mul _ _) ?_
    refine lv_iload_n hx hb dX4_change_29 rfl (lv_at hl 2 rfl) ?_
    refine lv_iadd hx hb dX4_change_30 ?_
    refine x_top (y := nI (y * w + x)) (nI_add _ _) ?_
    refine lv_aload_n hx hb dX4_change_31 rfl (lv_at hl 1 rfl) ?_
    refine va_get (D := G.1) (ci := 3) (v := .int (nI c)) (C := RX4) (T := TX4) (N := 8) hx hb hts hin_X4_change_4 hown hK.1 hP 0 rfl rfl 3 (by decide) (hts (.fieldLink RX4 21 "MixedPredict$Picture" "channels" "I") (List.mem_cons_of_mem _ (List.mem_append_left _ (List.mem_append_left _ (List.mem_of_getElem? (i := 2) rfl))))) (fun _ h9 => h9) rfl dX4_change_32 ?_
    refine lv_imul hx hb dX4_change_35 ?_
    refine x_top (y := nI ((y * w + x) * c)) (pk_mul _ _) ?_
    refine lv_iload_n hx hb dX4_change_36 rfl (lv_at hl 4 rfl) ?_
    refine lv_iadd hx hb dX4_change_37 ?_
    refine x_top (y := nI ((y * w + x) * c + k)) (nI_add _ _) ?_
    refine lv_iload hx hb dX4_change_38 (lv_at hl 5 rfl) ?_
    refine w_fin_v (WR := [(pm, .inr (3, [.int (nI w), .int (nI h), .int (nI b), .int (nI c), .int (nI (2 * md - 1)), .int (nI md), .int (nI ((w + 7) / 8)), .ref rs]))]) (va_runV (As := [.int (nI ((y * w + x) * c + k)), .int (nI v)]) (rest := []) ⟨hx, hb, hml, hown, hts⟩ (c_X6_set l G rs as (w * h * c) f ((y * w + x) * c + k) (nI v) (ix_lt qx qy qk) (ix_big hd) H.size) (cwV 2 hts gX4_change_X6_set rfl rfl rfl (by decide +kernel) ⟨Nat.le_of_ble_eq_true rfl, Nat.le_of_ble_eq_true rfl⟩) (x_preV (w_pre hK hP hD [1, 2] (by decide) rfl) hK hP (ci := 5) (q0 := 1) rfl rfl) rfl rfl hl.1 rfl (lv_room (Nat.le_of_ble_eq_true rfl)) dX4_change_40 ⟨Nat.zero_le _, Nat.zero_le _⟩) hP hD hS hA [1, 2] [0] rfl rfl (by decide) (by decide) [0, 1, 2] (by decide) (fun (_ : Unit) => [(pm, .inr (3, [.int (nI w), .int (nI h), .int (nI b), .int (nI c), .int (nI (2 * md - 1)), .int (nI md), .int (nI ((w + 7) / 8)), .ref rs])), (rs, .inr (5, [.ref as])), (as, .inl (G.2.1, (w * h * c), .inl (upd f ((y * w + x) * c + k) (nI v))))]) (fun _ => rfl) (fun u H locs hw hP hD hS => ?_)
    have hP : va_P G.1 vwCl [(pm, .inr (3, [.int (nI w), .int (nI h), .int (nI b), .int (nI c), .int (nI (2 * md - 1)), .int (nI md), .int (nI ((w + 7) / 8)), .ref rs])), (rs, .inr (5, [.ref as])), (as, .inl (G.2.1, (w * h * c), .inl (upd f ((y * w + x) * c + k) (nI v))))] H := hP
    have hD : va_D A [(pm, .inr (3, [.int (nI w), .int (nI h), .int (nI b), .int (nI c), .int (nI (2 * md - 1)), .int (nI md), .int (nI ((w + 7) / 8)), .ref rs])), (rs, .inr (5, [.ref as])), (as, .inl (G.2.1, (w * h * c), .inl (upd f ((y * w + x) * c + k) (nI v))))] := hD
    refine lv_iload hx hb dX4_change_43 (lv_at hl 0 rfl) ?_
    exact w_zret (upd f ((y * w + x) * c + k) (nI v)) hx hb hr hlocks (rfl) (⟨by rw [if_neg (fun h => h c_9)], PicC_upd hf v qx qy qk⟩) hP hD hS dX4_change_45
  · skip
    have c_9 : ¬ (P x y k = v) := fun h9 => c_9 ((nI_eq (a := P x y k) (b := v) (by omega) (by omega)).mpr h9)
    refine lv_iconst (v := 1) hx hb dX4_change_12 (by decide) ?_
    refine lv_goto (tgt := 17) hx hb dX4_change_13 (by decide) ?_
    refine lv_istore (lv' := [(5, .int 1), (0, .ref pm), (1, .int (nI x)), (2, .int (nI y)), (3, .int (nI k)), (4, .int (nI v))]) hx hb dX4_change_17 hl (by decide) rfl (fun ls hl => ?_)
    refine lv_aload_n hx hb dX4_change_19 rfl (lv_at hl 1 rfl) ?_
    refine va_get (D := G.1) (ci := 3) (v := .ref rs) (C := RX4) (T := TX4) (N := 8) hx hb hts hin_X4_change_4 hown hK.1 hP 0 rfl rfl 7 (by decide) (hts (.fieldLink RX4 44 "MixedPredict$Picture" "samples" "LMixedPredict$Row;") (List.mem_cons_of_mem _ (List.mem_append_left _ (List.mem_append_left _ (List.mem_of_getElem? (i := 0) rfl))))) (fun _ h9 => h9) rfl dX4_change_20 ?_
    refine lv_iload_n hx hb dX4_change_23 rfl (lv_at hl 3 rfl) ?_
    refine lv_aload_n hx hb dX4_change_24 rfl (lv_at hl 1 rfl) ?_
    refine va_get (D := G.1) (ci := 3) (v := .int (nI w)) (C := RX4) (T := TX4) (N := 8) hx hb hts hin_X4_change_4 hown hK.1 hP 0 rfl rfl 0 (by decide) (hts (.fieldLink RX4 9 "MixedPredict$Picture" "width" "I") (List.mem_cons_of_mem _ (List.mem_append_left _ (List.mem_append_left _ (List.mem_of_getElem? (i := 1) rfl))))) (fun _ h9 => h9) rfl dX4_change_25 ?_
    refine lv_imul hx hb dX4_change_28 ?_
    refine x_top (y := nI (y * w)) (pk_mul _ _) ?_
    refine lv_iload_n hx hb dX4_change_29 rfl (lv_at hl 2 rfl) ?_
    refine lv_iadd hx hb dX4_change_30 ?_
    refine x_top (y := nI (y * w + x)) (nI_add _ _) ?_
    refine lv_aload_n hx hb dX4_change_31 rfl (lv_at hl 1 rfl) ?_
    refine va_get (D := G.1) (ci := 3) (v := .int (nI c)) (C := RX4) (T := TX4) (N := 8) hx hb hts hin_X4_change_4 hown hK.1 hP 0 rfl rfl 3 (by decide) (hts (.fieldLink RX4 21 "MixedPredict$Picture" "channels" "I") (List.mem_cons_of_mem _ (List.mem_append_left _ (List.mem_append_left _ (List.mem_of_getElem? (i := 2) rfl))))) (fun _ h9 => h9) rfl dX4_change_32 ?_
    refine lv_imul hx hb dX4_change_35 ?_
    refine x_top (y := nI ((y * w + x) * c)) (pk_mul _ _) ?_
    refine lv_iload_n hx hb dX4_change_36 rfl (lv_at hl 4 rfl) ?_
    refine lv_iadd hx hb dX4_change_37 ?_
    refine x_top (y := nI ((y * w + x) * c + k)) (nI_add _ _) ?_
    refine lv_iload hx hb dX4_change_38 (lv_at hl 5 rfl) ?_
    refine w_fin_v (WR := [(pm, .inr (3, [.int (nI w), .int (nI h), .int (nI b), .int (nI c), .int (nI (2 * md - 1)), .int (nI md), .int (nI ((w + 7) / 8)), .ref rs]))]) (va_runV (As := [.int (nI ((y * w + x) * c + k)), .int (nI v)]) (rest := []) ⟨hx, hb, hml, hown, hts⟩ (c_X6_set l G rs as (w * h * c) f ((y * w + x) * c + k) (nI v) (ix_lt qx qy qk) (ix_big hd) H.size) (cwV 2 hts gX4_change_X6_set rfl rfl rfl (by decide +kernel) ⟨Nat.le_of_ble_eq_true rfl, Nat.le_of_ble_eq_true rfl⟩) (x_preV (w_pre hK hP hD [1, 2] (by decide) rfl) hK hP (ci := 5) (q0 := 1) rfl rfl) rfl rfl hl.1 rfl (lv_room (Nat.le_of_ble_eq_true rfl)) dX4_change_40 ⟨Nat.zero_le _, Nat.zero_le _⟩) hP hD hS hA [1, 2] [0] rfl rfl (by decide) (by decide) [0, 1, 2] (by decide) (fun (_ : Unit) => [(pm, .inr (3, [.int (nI w), .int (nI h), .int (nI b), .int (nI c), .int (nI (2 * md - 1)), .int (nI md), .int (nI ((w + 7) / 8)), .ref rs])), (rs, .inr (5, [.ref as])), (as, .inl (G.2.1, (w * h * c), .inl (upd f ((y * w + x) * c + k) (nI v))))]) (fun _ => rfl) (fun u H locs hw hP hD hS => ?_)
    have hP : va_P G.1 vwCl [(pm, .inr (3, [.int (nI w), .int (nI h), .int (nI b), .int (nI c), .int (nI (2 * md - 1)), .int (nI md), .int (nI ((w + 7) / 8)), .ref rs])), (rs, .inr (5, [.ref as])), (as, .inl (G.2.1, (w * h * c), .inl (upd f ((y * w + x) * c + k) (nI v))))] H := hP
    have hD : va_D A [(pm, .inr (3, [.int (nI w), .int (nI h), .int (nI b), .int (nI c), .int (nI (2 * md - 1)), .int (nI md), .int (nI ((w + 7) / 8)), .ref rs])), (rs, .inr (5, [.ref as])), (as, .inl (G.2.1, (w * h * c), .inl (upd f ((y * w + x) * c + k) (nI v))))] := hD
    refine lv_iload hx hb dX4_change_43 (lv_at hl 0 rfl) ?_
    exact w_zret (upd f ((y * w + x) * c + k) (nI v)) hx hb hr hlocks (rfl) (⟨by rw [if_pos c_9], PicC_upd hf v qx qy qk⟩) hP hD hS dX4_change_45

set_option maxHeartbeats 4000000 in
set_option maxRecDepth 100000 in
theorem c_X4_blacken (l : Launch) (G : GG) (pm rs as : Nat) (w h b c md : Nat) (hd : DIM w h b c md) (f : Nat → Int32)  (sz : Nat) : Met l yX4_blacken wsX4_blacken ({ frames := 2, cells := 0, slots := 0, locals := 44 } : Room) (w_Pc G [.ref pm] sz [(pm, .inr (3, [.int (nI w), .int (nI h), .int (nI b), .int (nI c), .int (nI (2 * md - 1)), .int (nI md), .int (nI ((w + 7) / 8)), .ref rs])), (rs, .inr (5, [.ref as])), (as, .inl (G.2.1, w * h * c, .inl f))]) (w_Qv G (va_A [(pm, .inr (3, [.int (nI w), .int (nI h), .int (nI b), .int (nI c), .int (nI (2 * md - 1)), .int (nI md), .int (nI ((w + 7) / 8)), .ref rs])), (rs, .inr (5, [.ref as])), (as, .inl (G.2.1, w * h * c, .inl f))] sz) (fun (f2 : Nat → Int32) => [(pm, .inr (3, [.int (nI w), .int (nI h), .int (nI b), .int (nI c), .int (nI (2 * md - 1)), .int (nI md), .int (nI ((w + 7) / 8)), .ref rs])), (rs, .inr (5, [.ref as])), (as, .inl (G.2.1, w * h * c, .inl f2))]) (fun (f2 : Nat → Int32) => PicC w h c f2 (fun _ _ _ => 0))) 0 0 (va_A [(pm, .inr (3, [.int (nI w), .int (nI h), .int (nI b), .int (nI c), .int (nI (2 * md - 1)), .int (nI md), .int (nI ((w + 7) / 8)), .ref rs])), (rs, .inr (5, [.ref as])), (as, .inl (G.2.1, w * h * c, .inl f))] sz) := by
  refine w_ofW (Qf := fun A => w_Qv G A (fun (f2 : Nat → Int32) => [(pm, .inr (3, [.int (nI w), .int (nI h), .int (nI b), .int (nI c), .int (nI (2 * md - 1)), .int (nI md), .int (nI ((w + 7) / 8)), .ref rs])), (rs, .inr (5, [.ref as])), (as, .inl (G.2.1, w * h * c, .inl f2))]) (fun (f2 : Nat → Int32) => PicC w h c f2 (fun _ _ _ => 0))) (cc := cX4_blacken) (maxL := 1) (ret := none) (by decide) rfl (Nat.le_of_ble_eq_true rfl) ?_
  intro pZ eZ sZ mZ bZ tZ cZ A hx hb hr hts hown hlocks hml hnm hK hA H locs hP hD hS ls hl
  have hown : sZ.vm.findClass RX4 = some mZ.cls := hown
  have hl : lv_has ls 1 [(0, .ref pm)] := hl
  refine lv_aload_n hx hb dX4_blacken_0 rfl (lv_at hl 0 rfl) ?_
  refine va_get (D := G.1) (ci := 3) (v := .ref rs) (C := RX4) (T := TX4) (N := 8) hx hb hts hin_X4_blacken_4 hown hK.1 hP 0 rfl rfl 7 (by decide) (hts (.fieldLink RX4 44 "MixedPredict$Picture" "samples" "LMixedPredict$Row;") (List.mem_cons_of_mem _ (List.mem_append_left _ (List.mem_append_left _ (List.mem_of_getElem? (i := 0) rfl))))) (fun _ h9 => h9) rfl dX4_blacken_1 ?_
  refine lv_iconst (v := 0) hx hb dX4_blacken_4 (by decide) ?_
  refine w_fin_v (WR := [(pm, .inr (3, [.int (nI w), .int (nI h), .int (nI b), .int (nI c), .int (nI (2 * md - 1)), .int (nI md), .int (nI ((w + 7) / 8)), .ref rs]))]) (va_runV (As := [.int 0]) (rest := []) ⟨hx, hb, hml, hown, hts⟩ (c_X6_fill l G rs as (w * h * c) f 0 (ix_big hd) H.size) (cwV 1 hts gX4_blacken_X6_fill rfl rfl rfl (by decide +kernel) ⟨Nat.le_of_ble_eq_true rfl, Nat.le_of_ble_eq_true rfl⟩) (x_preV (w_pre hK hP hD [1, 2] (by decide) rfl) hK hP (ci := 5) (q0 := 1) rfl rfl) rfl rfl hl.1 rfl (lv_room (Nat.le_of_ble_eq_true rfl)) dX4_blacken_5 ⟨Nat.zero_le _, Nat.zero_le _⟩) hP hD hS hA [1, 2] [0] rfl rfl (by decide) (by decide) [0, 1, 2] (by decide) (fun (_ : Unit) => [(pm, .inr (3, [.int (nI w), .int (nI h), .int (nI b), .int (nI c), .int (nI (2 * md - 1)), .int (nI md), .int (nI ((w + 7) / 8)), .ref rs])), (rs, .inr (5, [.ref as])), (as, .inl (G.2.1, (w * h * c), .inl (fillN (w * h * c) 0 f)))]) (fun _ => rfl) (fun u H locs hw hP hD hS => ?_)
  have hP : va_P G.1 vwCl [(pm, .inr (3, [.int (nI w), .int (nI h), .int (nI b), .int (nI c), .int (nI (2 * md - 1)), .int (nI md), .int (nI ((w + 7) / 8)), .ref rs])), (rs, .inr (5, [.ref as])), (as, .inl (G.2.1, (w * h * c), .inl (fillN (w * h * c) 0 f)))] H := hP
  have hD : va_D A [(pm, .inr (3, [.int (nI w), .int (nI h), .int (nI b), .int (nI c), .int (nI (2 * md - 1)), .int (nI md), .int (nI ((w + 7) / 8)), .ref rs])), (rs, .inr (5, [.ref as])), (as, .inl (G.2.1, (w * h * c), .inl (fillN (w * h * c) 0 f)))] := hD
  exact w_vret (fillN (w * h * c) 0 f) hx hb hr hlocks (fun x y k hx hy hk => by simp only [fillN]; rw [if_pos (ix_lt hx hy hk)]; rfl) hP hD hS dX4_blacken_8

set_option maxHeartbeats 4000000 in
set_option maxRecDepth 100000 in
theorem c_X4_inRange (l : Launch) (G : GG) (pm rs : Nat) (w h b c md : Nat) (hd : DIM w h b c md) (v : Int32) : Met l yX4_inRange wsX4_inRange ({ frames := 1, cells := 0, slots := 0, locals := 22 } : Room) (r_Pc G [.ref pm, .int v] [(pm, .inr (3, [.int (nI w), .int (nI h), .int (nI b), .int (nI c), .int (nI (2 * md - 1)), .int (nI md), .int (nI ((w + 7) / 8)), .ref rs]))]) (vp_Si (fun r => r = (br v 0 (nI (2 * md - 1))))) 0 0 (fun _ => False) := by
  refine r_ofW (cc := cX4_inRange) (maxL := 2) (ret := (some .int)) (by decide) rfl (Nat.le_of_ble_eq_true rfl) ?_
  intro pZ eZ sZ mZ bZ tZ cZ hx hb hr hts hown hlocks hml hK H hH hP ls hl
  have hown : sZ.vm.findClass RX4 = some mZ.cls := hown
  have hl : lv_has ls 2 [(0, .ref pm), (1, .int v)] := hl
  refine lv_iload_n hx hb dX4_inRange_0 rfl (lv_at hl 1 rfl) ?_
  refine lv_iconst (v := 0) hx hb dX4_inRange_1 (by decide) ?_
  refine lv_aload_n hx hb dX4_inRange_2 rfl (lv_at hl 0 rfl) ?_
  refine va_get (D := G.1) (ci := 3) (v := .int (nI (2 * md - 1))) (C := RX4) (T := TX4) (N := 8) hx hb hts hin_X4_inRange_4 hown hK.1 hP 0 rfl rfl 4 (by decide) (hts (.fieldLink RX4 24 "MixedPredict$Picture" "greatest" "I") (List.mem_cons_of_mem _ (List.mem_append_left _ (List.mem_of_getElem? (i := 0) rfl)))) (fun _ h9 => h9) rfl dX4_inRange_3 ?_
  refine r_fin_i (va_runSN (As := [.int v, .int 0, .int (nI (2 * md - 1))]) (rest := []) ⟨hx, hb, hml, hown, hts⟩ (c_X10_brought l G v 0 (nI (2 * md - 1))) ⟨va_cnB 3 hts gX4_inRange_X10_brought_n67 rfl rfl rfl (KK_nest hK 1 rfl) (hts (.initialized RX10) (List.mem_cons_of_mem _ (List.mem_append_left _ (List.mem_of_getElem? (i := 2) rfl)))) (by decide +kernel) ⟨Nat.le_of_ble_eq_true rfl, Nat.le_of_ble_eq_true rfl⟩, (hts (.static yX10_brought) (List.mem_cons_of_mem _ (List.mem_append_left _ (List.mem_of_getElem? (i := 1) rfl)))), trivial⟩ (r_pre hK hP [] rfl) rfl rfl hl.1 rfl (lv_room (Nat.le_of_ble_eq_true rfl)) dX4_inRange_6 ⟨Nat.zero_le _, Nat.zero_le _⟩) (fun r_1 hw => ?_)
  subst hw
  exact r_iret hx hb hr hlocks (rfl) hH dX4_inRange_9

set_option maxHeartbeats 4000000 in
set_option maxRecDepth 100000 in
theorem c_X4_tiles (l : Launch) (G : GG) (pm rs : Nat) (w h b c md : Nat) (hd : DIM w h b c md)  : Met l yX4_tiles wsX4_tiles ({ frames := 0, cells := 0, slots := 0, locals := 0 } : Room) (r_Pc G [.ref pm] [(pm, .inr (3, [.int (nI w), .int (nI h), .int (nI b), .int (nI c), .int (nI (2 * md - 1)), .int (nI md), .int (nI ((w + 7) / 8)), .ref rs]))]) (vp_Si (fun r => r = (nI (tln w h)))) 0 0 (fun _ => False) := by
  refine r_ofW (cc := cX4_tiles) (maxL := 1) (ret := (some .int)) (by decide) rfl (Nat.le_of_ble_eq_true rfl) ?_
  intro pZ eZ sZ mZ bZ tZ cZ hx hb hr hts hown hlocks hml hK H hH hP ls hl
  have hown : sZ.vm.findClass RX4 = some mZ.cls := hown
  have hl : lv_has ls 1 [(0, .ref pm)] := hl
  obtain ⟨dw1, dw2, dh1, dh2, db1, db2, dc1, dc2, dm1, dm2, dme⟩ := id hd
  refine lv_aload_n hx hb dX4_tiles_0 rfl (lv_at hl 0 rfl) ?_
  refine va_get (D := G.1) (ci := 3) (v := .int (nI ((w + 7) / 8))) (C := RX4) (T := TX4) (N := 8) hx hb hts hin_X4_tiles_4 hown hK.1 hP 0 rfl rfl 6 (by decide) (hts (.fieldLink RX4 36 "MixedPredict$Picture" "tilesAcross" "I") (List.mem_cons_of_mem _ (List.mem_append_left _ (List.mem_of_getElem? (i := 0) rfl)))) (fun _ h9 => h9) rfl dX4_tiles_1 ?_
  refine lv_aload_n hx hb dX4_tiles_4 rfl (lv_at hl 0 rfl) ?_
  refine va_get (D := G.1) (ci := 3) (v := .int (nI h)) (C := RX4) (T := TX4) (N := 8) hx hb hts hin_X4_tiles_4 hown hK.1 hP 0 rfl rfl 1 (by decide) (hts (.fieldLink RX4 15 "MixedPredict$Picture" "height" "I") (List.mem_cons_of_mem _ (List.mem_append_left _ (List.mem_of_getElem? (i := 1) rfl)))) (fun _ h9 => h9) rfl dX4_tiles_5 ?_
  refine lv_bipush (v := 8) hx hb dX4_tiles_8 (by decide) ?_
  refine lv_iadd hx hb dX4_tiles_10 ?_
  refine x_top (y := nI (h + 8)) (nI_add _ _) ?_
  refine lv_iconst (v := 1) hx hb dX4_tiles_11 (by decide) ?_
  refine lv_isub hx hb dX4_tiles_12 ?_
  refine x_top (y := nI (h + 8 - 1)) (pk_sub (a := h + 8) (b := 1) (by omega)) ?_
  refine lv_bipush (v := 8) hx hb dX4_tiles_13 (by decide) ?_
  refine lv_idiv hx hb dX4_tiles_15 (by decide) ?_
  refine x_top (y := nI ((h + 8 - 1) / 8)) (pk_div (a := h + 8 - 1) (d := 8) (by omega) (by omega) (by omega)) ?_
  refine x_top (y := nI ((h + 7) / 8)) (congrArg nI (by omega)) ?_
  refine lv_imul hx hb dX4_tiles_16 ?_
  refine x_top (y := nI (((w + 7) / 8) * ((h + 7) / 8))) (pk_mul _ _) ?_
  refine x_top (y := nI (tln w h)) (rfl) ?_
  exact r_iret hx hb hr hlocks (rfl) hH dX4_tiles_17

set_option maxHeartbeats 4000000 in
set_option maxRecDepth 100000 in
theorem c_X4_left (l : Launch) (G : GG) (pm rs : Nat) (w h b c md : Nat) (hd : DIM w h b c md) (t : Nat) (ht : t < 2 ^ 20) : Met l yX4_left wsX4_left ({ frames := 0, cells := 0, slots := 0, locals := 0 } : Room) (r_Pc G [.ref pm, .int (nI t)] [(pm, .inr (3, [.int (nI w), .int (nI h), .int (nI b), .int (nI c), .int (nI (2 * md - 1)), .int (nI md), .int (nI ((w + 7) / 8)), .ref rs]))]) (vp_Si (fun r => r = (nI (lft w t)))) 0 0 (fun _ => False) := by
  refine r_ofW (cc := cX4_left) (maxL := 2) (ret := (some .int)) (by decide) rfl (Nat.le_of_ble_eq_true rfl) ?_
  intro pZ eZ sZ mZ bZ tZ cZ hx hb hr hts hown hlocks hml hK H hH hP ls hl
  have hown : sZ.vm.findClass RX4 = some mZ.cls := hown
  have hl : lv_has ls 2 [(0, .ref pm), (1, .int (nI t))] := hl
  obtain ⟨dw1, dw2, dh1, dh2, db1, db2, dc1, dc2, dm1, dm2, dme⟩ := id hd
  refine lv_aload_n hx hb dX4_left_0 rfl (lv_at hl 0 rfl) ?_
  refine va_get (D := G.1) (ci := 3) (v := .int (nI ((w + 7) / 8))) (C := RX4) (T := TX4) (N := 8) hx hb hts hin_X4_left_4 hown hK.1 hP 0 rfl rfl 6 (by decide) (hts (.fieldLink RX4 36 "MixedPredict$Picture" "tilesAcross" "I") (List.mem_cons_of_mem _ (List.mem_append_left _ (List.mem_of_getElem? (i := 0) rfl)))) (fun _ h9 => h9) rfl dX4_left_1 ?_
  refine lv_if_le (tgt := 19) hx hb dX4_left_4 (by decide) (fun c_4 => ?_) (fun c_4 => ?_)
  · skip
    have c_4 : (w + 7) / 8 ≤ 0 := (nI_leI (a := (w + 7) / 8) (b := 0) (by omega) (by omega)).mp c_4
    exfalso; omega
  · skip
    have c_4 : ¬ ((w + 7) / 8 ≤ 0) := fun h9 => c_4 ((nI_leI (a := (w + 7) / 8) (b := 0) (by omega) (by omega)).mpr h9)
    refine lv_iload_n hx hb dX4_left_7 rfl (lv_at hl 1 rfl) ?_
    refine lv_aload_n hx hb dX4_left_8 rfl (lv_at hl 0 rfl) ?_
    refine va_get (D := G.1) (ci := 3) (v := .int (nI ((w + 7) / 8))) (C := RX4) (T := TX4) (N := 8) hx hb hts hin_X4_left_4 hown hK.1 hP 0 rfl rfl 6 (by decide) (hts (.fieldLink RX4 36 "MixedPredict$Picture" "tilesAcross" "I") (List.mem_cons_of_mem _ (List.mem_append_left _ (List.mem_of_getElem? (i := 0) rfl)))) (fun _ h9 => h9) rfl dX4_left_9 ?_
    refine lv_irem hx hb dX4_left_12 (nI_ne0 (by omega) (by omega)) ?_
    refine x_top (y := nI (t % ((w + 7) / 8))) (pk_rem (a := t) (d := (w + 7) / 8) (by omega) (by omega) (by omega)) ?_
    refine lv_bipush (v := 8) hx hb dX4_left_13 (by decide) ?_
    refine lv_imul hx hb dX4_left_15 ?_
    refine x_top (y := nI ((t % ((w + 7) / 8)) * 8)) (pk_mul _ _) ?_
    refine lv_goto (tgt := 20) hx hb dX4_left_16 (by decide) ?_
    refine x_top (y := nI (lft w t)) (rfl) ?_
    exact r_iret hx hb hr hlocks (rfl) hH dX4_left_20

set_option maxHeartbeats 4000000 in
set_option maxRecDepth 100000 in
theorem c_X4_top (l : Launch) (G : GG) (pm rs : Nat) (w h b c md : Nat) (hd : DIM w h b c md) (t : Nat) (ht : t < 2 ^ 20) : Met l yX4_top wsX4_top ({ frames := 0, cells := 0, slots := 0, locals := 0 } : Room) (r_Pc G [.ref pm, .int (nI t)] [(pm, .inr (3, [.int (nI w), .int (nI h), .int (nI b), .int (nI c), .int (nI (2 * md - 1)), .int (nI md), .int (nI ((w + 7) / 8)), .ref rs]))]) (vp_Si (fun r => r = (nI (tpp w t)))) 0 0 (fun _ => False) := by
  refine r_ofW (cc := cX4_top) (maxL := 2) (ret := (some .int)) (by decide) rfl (Nat.le_of_ble_eq_true rfl) ?_
  intro pZ eZ sZ mZ bZ tZ cZ hx hb hr hts hown hlocks hml hK H hH hP ls hl
  have hown : sZ.vm.findClass RX4 = some mZ.cls := hown
  have hl : lv_has ls 2 [(0, .ref pm), (1, .int (nI t))] := hl
  obtain ⟨dw1, dw2, dh1, dh2, db1, db2, dc1, dc2, dm1, dm2, dme⟩ := id hd
  refine lv_aload_n hx hb dX4_top_0 rfl (lv_at hl 0 rfl) ?_
  refine va_get (D := G.1) (ci := 3) (v := .int (nI ((w + 7) / 8))) (C := RX4) (T := TX4) (N := 8) hx hb hts hin_X4_top_4 hown hK.1 hP 0 rfl rfl 6 (by decide) (hts (.fieldLink RX4 36 "MixedPredict$Picture" "tilesAcross" "I") (List.mem_cons_of_mem _ (List.mem_append_left _ (List.mem_of_getElem? (i := 0) rfl)))) (fun _ h9 => h9) rfl dX4_top_1 ?_
  refine lv_if_le (tgt := 19) hx hb dX4_top_4 (by decide) (fun c_4 => ?_) (fun c_4 => ?_)
  · skip
    have c_4 : (w + 7) / 8 ≤ 0 := (nI_leI (a := (w + 7) / 8) (b := 0) (by omega) (by omega)).mp c_4
    exfalso; omega
  · skip
    have c_4 : ¬ ((w + 7) / 8 ≤ 0) := fun h9 => c_4 ((nI_leI (a := (w + 7) / 8) (b := 0) (by omega) (by omega)).mpr h9)
    refine lv_iload_n hx hb dX4_top_7 rfl (lv_at hl 1 rfl) ?_
    refine lv_aload_n hx hb dX4_top_8 rfl (lv_at hl 0 rfl) ?_
    refine va_get (D := G.1) (ci := 3) (v := .int (nI ((w + 7) / 8))) (C := RX4) (T := TX4) (N := 8) hx hb hts hin_X4_top_4 hown hK.1 hP 0 rfl rfl 6 (by decide) (hts (.fieldLink RX4 36 "MixedPredict$Picture" "tilesAcross" "I") (List.mem_cons_of_mem _ (List.mem_append_left _ (List.mem_of_getElem? (i := 0) rfl)))) (fun _ h9 => h9) rfl dX4_top_9 ?_
    refine lv_idiv hx hb dX4_top_12 (nI_ne0 (by omega) (by omega)) ?_
    refine x_top (y := nI (t / ((w + 7) / 8))) (pk_div (a := t) (d := (w + 7) / 8) (by omega) (by omega) (by omega)) ?_
    refine lv_bipush (v := 8) hx hb dX4_top_13 (by decide) ?_
    refine lv_imul hx hb dX4_top_15 ?_
    refine x_top (y := nI ((t / ((w + 7) / 8)) * 8)) (pk_mul _ _) ?_
    refine lv_goto (tgt := 20) hx hb dX4_top_16 (by decide) ?_
    refine x_top (y := nI (tpp w t)) (rfl) ?_
    exact r_iret hx hb hr hlocks (rfl) hH dX4_top_20

set_option maxHeartbeats 4000000 in
set_option maxRecDepth 100000 in
theorem c_X4_right (l : Launch) (G : GG) (pm rs : Nat) (w h b c md : Nat) (hd : DIM w h b c md) (t : Nat) (ht : t < tln w h) : Met l yX4_right wsX4_right ({ frames := 1, cells := 0, slots := 0, locals := 21 } : Room) (r_Pc G [.ref pm, .int (nI t)] [(pm, .inr (3, [.int (nI w), .int (nI h), .int (nI b), .int (nI c), .int (nI (2 * md - 1)), .int (nI md), .int (nI ((w + 7) / 8)), .ref rs]))]) (vp_Si (fun r => r = (nI (rgt w t)))) 0 0 (fun _ => False) := by
  refine r_ofW (cc := cX4_right) (maxL := 2) (ret := (some .int)) (by decide) rfl (Nat.le_of_ble_eq_true rfl) ?_
  intro pZ eZ sZ mZ bZ tZ cZ hx hb hr hts hown hlocks hml hK H hH hP ls hl
  have hown : sZ.vm.findClass RX4 = some mZ.cls := hown
  have hl : lv_has ls 2 [(0, .ref pm), (1, .int (nI t))] := hl
  obtain ⟨dw1, dw2, dh1, dh2, db1, db2, dc1, dc2, dm1, dm2, dme⟩ := id hd
  have q1 := lft_lt hd t
  have q2 := tln_le hd
  refine lv_aload_n hx hb dX4_right_0 rfl (lv_at hl 0 rfl) ?_
  refine va_get (D := G.1) (ci := 3) (v := .int (nI w)) (C := RX4) (T := TX4) (N := 8) hx hb hts hin_X4_right_4 hown hK.1 hP 0 rfl rfl 0 (by decide) (hts (.fieldLink RX4 9 "MixedPredict$Picture" "width" "I") (List.mem_cons_of_mem _ (List.mem_append_left _ (List.mem_of_getElem? (i := 0) rfl)))) (fun _ h9 => h9) rfl dX4_right_1 ?_
  refine lv_aload_n hx hb dX4_right_4 rfl (lv_at hl 0 rfl) ?_
  refine lv_iload_n hx hb dX4_right_5 rfl (lv_at hl 1 rfl) ?_
  refine r_fin_i (va_runV (As := [.int (nI t)]) (rest := [.int (nI w)]) ⟨hx, hb, hml, hown, hts⟩ (c_X4_left l G pm rs w h b c md (by first | assumption | omega) t (by first | assumption | omega)) (cwV 1 hts gX4_right_X4_left rfl rfl rfl (by decide +kernel) ⟨Nat.le_of_ble_eq_true rfl, Nat.le_of_ble_eq_true rfl⟩) (x_preV (r_pre hK hP [0] rfl) hK hP (ci := 3) (q0 := 0) rfl rfl) rfl rfl hl.1 rfl (lv_room (Nat.le_of_ble_eq_true rfl)) dX4_right_6 ⟨Nat.zero_le _, Nat.zero_le _⟩) (fun r_1 hw => ?_)
  subst hw
  refine lv_bipush (v := 8) hx hb dX4_right_9 (by decide) ?_
  refine lv_iadd hx hb dX4_right_11 ?_
  refine x_top (y := nI (lft w t + 8)) (nI_add _ _) ?_
  refine va_mmin hx hb (hml.trans hl.1.symm) hown (hts (.methodLink RX4 73 Lib.Math.min.name) (List.mem_cons_of_mem _ (List.mem_append_left _ (List.mem_of_getElem? (i := 1) rfl)))) (hts (.static Lib.Math.min.name) (List.mem_cons_of_mem _ (List.mem_append_left _ (List.mem_of_getElem? (i := 2) rfl)))) (hts (.initialized "java/lang/Math") (List.mem_cons_of_mem _ (List.mem_append_left _ (List.mem_of_getElem? (i := 3) rfl)))) (hts (.code Lib.Math.min.name Lib.Math.min.code 2 (some .int)) (List.mem_cons_of_mem _ (List.mem_append_left _ (List.mem_of_getElem? (i := 4) rfl)))) (Nat.le_of_ble_eq_true rfl) (Nat.le_of_ble_eq_true rfl) (Nat.zero_le _) (Nat.zero_le _) dX4_right_12 ?_
  refine x_top (y := nI (min w (lft w t + 8))) (mm_min (a := w) (b := lft w t + 8) (by omega) (by omega)) ?_
  refine x_top (y := nI (rgt w t)) (rfl) ?_
  exact r_iret hx hb hr hlocks (rfl) hH dX4_right_15

set_option maxHeartbeats 4000000 in
set_option maxRecDepth 100000 in
theorem c_X4_bottom (l : Launch) (G : GG) (pm rs : Nat) (w h b c md : Nat) (hd : DIM w h b c md) (t : Nat) (ht : t < tln w h) : Met l yX4_bottom wsX4_bottom ({ frames := 1, cells := 0, slots := 0, locals := 21 } : Room) (r_Pc G [.ref pm, .int (nI t)] [(pm, .inr (3, [.int (nI w), .int (nI h), .int (nI b), .int (nI c), .int (nI (2 * md - 1)), .int (nI md), .int (nI ((w + 7) / 8)), .ref rs]))]) (vp_Si (fun r => r = (nI (btm w h t)))) 0 0 (fun _ => False) := by
  refine r_ofW (cc := cX4_bottom) (maxL := 2) (ret := (some .int)) (by decide) rfl (Nat.le_of_ble_eq_true rfl) ?_
  intro pZ eZ sZ mZ bZ tZ cZ hx hb hr hts hown hlocks hml hK H hH hP ls hl
  have hown : sZ.vm.findClass RX4 = some mZ.cls := hown
  have hl : lv_has ls 2 [(0, .ref pm), (1, .int (nI t))] := hl
  obtain ⟨dw1, dw2, dh1, dh2, db1, db2, dc1, dc2, dm1, dm2, dme⟩ := id hd
  have q1 := tpp_lt hd ht
  have q2 := tln_le hd
  refine lv_aload_n hx hb dX4_bottom_0 rfl (lv_at hl 0 rfl) ?_
  refine va_get (D := G.1) (ci := 3) (v := .int (nI h)) (C := RX4) (T := TX4) (N := 8) hx hb hts hin_X4_bottom_4 hown hK.1 hP 0 rfl rfl 1 (by decide) (hts (.fieldLink RX4 15 "MixedPredict$Picture" "height" "I") (List.mem_cons_of_mem _ (List.mem_append_left _ (List.mem_of_getElem? (i := 0) rfl)))) (fun _ h9 => h9) rfl dX4_bottom_1 ?_
  refine lv_aload_n hx hb dX4_bottom_4 rfl (lv_at hl 0 rfl) ?_
  refine lv_iload_n hx hb dX4_bottom_5 rfl (lv_at hl 1 rfl) ?_
  refine r_fin_i (va_runV (As := [.int (nI t)]) (rest := [.int (nI h)]) ⟨hx, hb, hml, hown, hts⟩ (c_X4_top l G pm rs w h b c md (by first | assumption | omega) t (by first | assumption | omega)) (cwV 1 hts gX4_bottom_X4_top rfl rfl rfl (by decide +kernel) ⟨Nat.le_of_ble_eq_true rfl, Nat.le_of_ble_eq_true rfl⟩) (x_preV (r_pre hK hP [0] rfl) hK hP (ci := 3) (q0 := 0) rfl rfl) rfl rfl hl.1 rfl (lv_room (Nat.le_of_ble_eq_true rfl)) dX4_bottom_6 ⟨Nat.zero_le _, Nat.zero_le _⟩) (fun r_1 hw => ?_)
  subst hw
  refine lv_bipush (v := 8) hx hb dX4_bottom_9 (by decide) ?_
  refine lv_iadd hx hb dX4_bottom_11 ?_
  refine x_top (y := nI (tpp w t + 8)) (nI_add _ _) ?_
  refine va_mmin hx hb (hml.trans hl.1.symm) hown (hts (.methodLink RX4 73 Lib.Math.min.name) (List.mem_cons_of_mem _ (List.mem_append_left _ (List.mem_of_getElem? (i := 1) rfl)))) (hts (.static Lib.Math.min.name) (List.mem_cons_of_mem _ (List.mem_append_left _ (List.mem_of_getElem? (i := 2) rfl)))) (hts (.initialized "java/lang/Math") (List.mem_cons_of_mem _ (List.mem_append_left _ (List.mem_of_getElem? (i := 3) rfl)))) (hts (.code Lib.Math.min.name Lib.Math.min.code 2 (some .int)) (List.mem_cons_of_mem _ (List.mem_append_left _ (List.mem_of_getElem? (i := 4) rfl)))) (Nat.le_of_ble_eq_true rfl) (Nat.le_of_ble_eq_true rfl) (Nat.zero_le _) (Nat.zero_le _) dX4_bottom_12 ?_
  refine x_top (y := nI (min h (tpp w t + 8))) (mm_min (a := h) (b := tpp w t + 8) (by omega) (by omega)) ?_
  refine x_top (y := nI (btm w h t)) (rfl) ?_
  exact r_iret hx hb hr hlocks (rfl) hH dX4_bottom_15

set_option maxHeartbeats 4000000 in
set_option maxRecDepth 100000 in
theorem c_X4_countIn (l : Launch) (G : GG) (pm rs : Nat) (w h b c md : Nat) (hd : DIM w h b c md) (t : Nat) (ht : t < tln w h) : Met l yX4_countIn wsX4_countIn ({ frames := 2, cells := 0, slots := 0, locals := 42 } : Room) (r_Pc G [.ref pm, .int (nI t)] [(pm, .inr (3, [.int (nI w), .int (nI h), .int (nI b), .int (nI c), .int (nI (2 * md - 1)), .int (nI md), .int (nI ((w + 7) / 8)), .ref rs]))]) (vp_Si (fun r => r = (nI (((rgt w t - lft w t) * (btm w h t - tpp w t)) * c)))) 0 0 (fun _ => False) := by
  refine r_ofW (cc := cX4_countIn) (maxL := 2) (ret := (some .int)) (by decide) rfl (Nat.le_of_ble_eq_true rfl) ?_
  intro pZ eZ sZ mZ bZ tZ cZ hx hb hr hts hown hlocks hml hK H hH hP ls hl
  have hown : sZ.vm.findClass RX4 = some mZ.cls := hown
  have hl : lv_has ls 2 [(0, .ref pm), (1, .int (nI t))] := hl
  obtain ⟨dw1, dw2, dh1, dh2, db1, db2, dc1, dc2, dm1, dm2, dme⟩ := id hd
  have q1 := lft_lt hd t
  have q2 := tln_le hd
  have q3 := tpp_lt hd ht
  have q4 : rgt w t = min w (lft w t + 8) := rfl
  have q5 : btm w h t = min h (tpp w t + 8) := rfl
  refine lv_aload_n hx hb dX4_countIn_0 rfl (lv_at hl 0 rfl) ?_
  refine lv_iload_n hx hb dX4_countIn_1 rfl (lv_at hl 1 rfl) ?_
  refine r_fin_i (va_runV (As := [.int (nI t)]) (rest := []) ⟨hx, hb, hml, hown, hts⟩ (c_X4_right l G pm rs w h b c md (by first | assumption | omega) t (by first | assumption | omega)) (cwV 1 hts gX4_countIn_X4_right rfl rfl rfl (by decide +kernel) ⟨Nat.le_of_ble_eq_true rfl, Nat.le_of_ble_eq_true rfl⟩) (x_preV (r_pre hK hP [0] rfl) hK hP (ci := 3) (q0 := 0) rfl rfl) rfl rfl hl.1 rfl (lv_room (Nat.le_of_ble_eq_true rfl)) dX4_countIn_2 ⟨Nat.zero_le _, Nat.zero_le _⟩) (fun r_1 hw => ?_)
  subst hw
  refine lv_aload_n hx hb dX4_countIn_5 rfl (lv_at hl 0 rfl) ?_
  refine lv_iload_n hx hb dX4_countIn_6 rfl (lv_at hl 1 rfl) ?_
  refine r_fin_i (va_runV (As := [.int (nI t)]) (rest := [.int (nI (rgt w t))]) ⟨hx, hb, hml, hown, hts⟩ (c_X4_left l G pm rs w h b c md (by first | assumption | omega) t (by first | assumption | omega)) (cwV 1 hts gX4_countIn_X4_left rfl rfl rfl (by decide +kernel) ⟨Nat.le_of_ble_eq_true rfl, Nat.le_of_ble_eq_true rfl⟩) (x_preV (r_pre hK hP [0] rfl) hK hP (ci := 3) (q0 := 0) rfl rfl) rfl rfl hl.1 rfl (lv_room (Nat.le_of_ble_eq_true rfl)) dX4_countIn_7 ⟨Nat.zero_le _, Nat.zero_le _⟩) (fun r_2 hw => ?_)
  subst hw
  refine lv_isub hx hb dX4_countIn_10 ?_
  refine x_top (y := nI (rgt w t - (lft w t))) (pk_sub (a := rgt w t) (b := lft w t) (by omega)) ?_
  refine lv_aload_n hx hb dX4_countIn_11 rfl (lv_at hl 0 rfl) ?_
  refine lv_iload_n hx hb dX4_countIn_12 rfl (lv_at hl 1 rfl) ?_
  refine r_fin_i (va_runV (As := [.int (nI t)]) (rest := [.int (nI (rgt w t - (lft w t)))]) ⟨hx, hb, hml, hown, hts⟩ (c_X4_bottom l G pm rs w h b c md (by first | assumption | omega) t (by first | assumption | omega)) (cwV 1 hts gX4_countIn_X4_bottom rfl rfl rfl (by decide +kernel) ⟨Nat.le_of_ble_eq_true rfl, Nat.le_of_ble_eq_true rfl⟩) (x_preV (r_pre hK hP [0] rfl) hK hP (ci := 3) (q0 := 0) rfl rfl) rfl rfl hl.1 rfl (lv_room (Nat.le_of_ble_eq_true rfl)) dX4_countIn_13 ⟨Nat.zero_le _, Nat.zero_le _⟩) (fun r_3 hw => ?_)
  subst hw
  refine lv_aload_n hx hb dX4_countIn_16 rfl (lv_at hl 0 rfl) ?_
  refine lv_iload_n hx hb dX4_countIn_17 rfl (lv_at hl 1 rfl) ?_
  refine r_fin_i (va_runV (As := [.int (nI t)]) (rest := [.int (nI (btm w h t)), .int (nI (rgt w t - (lft w t)))]) ⟨hx, hb, hml, hown, hts⟩ (c_X4_top l G pm rs w h b c md (by first | assumption | omega) t (by first | assumption | omega)) (cwV 1 hts gX4_countIn_X4_top rfl rfl rfl (by decide +kernel) ⟨Nat.le_of_ble_eq_true rfl, Nat.le_of_ble_eq_true rfl⟩) (x_preV (r_pre hK hP [0] rfl) hK hP (ci := 3) (q0 := 0) rfl rfl) rfl rfl hl.1 rfl (lv_room (Nat.le_of_ble_eq_true rfl)) dX4_countIn_18 ⟨Nat.zero_le _, Nat.zero_le _⟩) (fun r_4 hw => ?_)
  subst hw
  refine lv_isub hx hb dX4_countIn_21 ?_
  refine x_top (y := nI (btm w h t - (tpp w t))) (pk_sub (a := btm w h t) (b := tpp w t) (by omega)) ?_
  refine lv_imul hx hb dX4_countIn_22 ?_
  refine x_top (y := nI ((rgt w t - (lft w t)) * (btm w h t - (tpp w t)))) (pk_mul _ _) ?_
  refine lv_aload_n hx hb dX4_countIn_23 rfl (lv_at hl 0 rfl) ?_
  refine va_get (D := G.1) (ci := 3) (v := .int (nI c)) (C := RX4) (T := TX4) (N := 8) hx hb hts hin_X4_countIn_4 hown hK.1 hP 0 rfl rfl 3 (by decide) (hts (.fieldLink RX4 21 "MixedPredict$Picture" "channels" "I") (List.mem_cons_of_mem _ (List.mem_append_left _ (List.mem_append_left _ (List.mem_of_getElem? (i := 0) rfl))))) (fun _ h9 => h9) rfl dX4_countIn_24 ?_
  refine lv_imul hx hb dX4_countIn_27 ?_
  refine x_top (y := nI (((rgt w t - (lft w t)) * (btm w h t - (tpp w t))) * c)) (pk_mul _ _) ?_
  exact r_iret hx hb hr hlocks (rfl) hH dX4_countIn_28

set_option maxHeartbeats 4000000 in
set_option maxRecDepth 100000 in
theorem c_X4_init (l : Launch) (G : GG) (pm : Nat) (w h b c md : Nat) (hd : DIM w h b c md)  (sz : Nat) : Met l yX4_init wsX4_init ({ frames := 2, cells := 2, slots := 1 + w * h * c, locals := 35 } : Room) (w_Pc G [.ref pm, .int (nI w), .int (nI h), .int (nI b), .int (nI c)] sz [(pm, .inr (3, [.int 0, .int 0, .int 0, .int 0, .int 0, .int 0, .int 0, .null]))]) (w_Qv G (va_A [(pm, .inr (3, [.int 0, .int 0, .int 0, .int 0, .int 0, .int 0, .int 0, .null]))] sz) (fun (u9 : Nat × Nat) => [(pm, .inr (3, [.int (nI w), .int (nI h), .int (nI b), .int (nI c), .int (nI (2 * md - 1)), .int (nI md), .int (nI ((w + 7) / 8)), .ref u9.1])), (u9.1, .inr (5, [.ref u9.2])), (u9.2, .inl (G.2.1, w * h * c, .inl (fun _ => 0)))]) (fun (u9 : Nat × Nat) => True)) 2 (1 + w * h * c) (va_A [(pm, .inr (3, [.int 0, .int 0, .int 0, .int 0, .int 0, .int 0, .int 0, .null]))] sz) := by
  refine w_ofW (Qf := fun A => w_Qv G A (fun (u9 : Nat × Nat) => [(pm, .inr (3, [.int (nI w), .int (nI h), .int (nI b), .int (nI c), .int (nI (2 * md - 1)), .int (nI md), .int (nI ((w + 7) / 8)), .ref u9.1])), (u9.1, .inr (5, [.ref u9.2])), (u9.2, .inl (G.2.1, w * h * c, .inl (fun _ => 0)))]) (fun (u9 : Nat × Nat) => True)) (cc := cX4_init) (maxL := 5) (ret := none) (by decide) rfl (Nat.le_of_ble_eq_true rfl) ?_
  intro pZ eZ sZ mZ bZ tZ cZ A hx hb hr hts hown hlocks hml hnm hK hA H locs hP hD hS ls hl
  have hown : sZ.vm.findClass RX4 = some mZ.cls := hown
  have hl : lv_has ls 5 [(0, .ref pm), (1, .int (nI w)), (2, .int (nI h)), (3, .int (nI b)), (4, .int (nI c))] := hl
  obtain ⟨dw1, dw2, dh1, dh2, db1, db2, dc1, dc2, dm1, dm2, dme⟩ := id hd
  have q1 := ix_768 hd
  refine lv_aload_n hx hb dX4_init_0 rfl (lv_at hl 0 rfl) ?_
  refine W.objInit hx hb hown (hts (.methodLink RX4 3 objectInit) (List.mem_cons_of_mem _ (List.mem_append_left _ (List.mem_append_left _ (List.mem_append_left _ (List.mem_of_getElem? (i := 0) rfl)))))) (hts (.instanceMethod objectInit) (List.mem_cons_of_mem _ (List.mem_append_left _ (List.mem_append_left _ (List.mem_append_left _ (List.mem_of_getElem? (i := 1) rfl)))))) (hts (.code objectInit ⟨#[0xb1]⟩ 1 none) (List.mem_cons_of_mem _ (List.mem_append_left _ (List.mem_append_left _ (List.mem_append_left _ (List.mem_of_getElem? (i := 2) rfl)))))) rfl (by rw [hml]; exact hl.1) rfl dX4_init_1 (Nat.le_of_ble_eq_true rfl) (Nat.le_of_ble_eq_true rfl) ?_
  refine W.eq (g2 := F0 mZ 4 ls []) rfl ?_
  refine lv_aload_n hx hb dX4_init_4 rfl (lv_at hl 0 rfl) ?_
  refine lv_iload_n hx hb dX4_init_5 rfl (lv_at hl 1 rfl) ?_
  refine va_putF (D := G.1) (ci := 3) (v := .int (nI w)) (ty := tyX4 0) (C := RX4) (T := TX4) (N := 8) hx hb hts hin_X4_init_4 tyX4 tyX4_ok nmX4 hown hK.1 hP hD hS 0 rfl rfl 0 (by decide) (hts (.fieldLink RX4 9 "MixedPredict$Picture" "width" "I") (List.mem_cons_of_mem _ (List.mem_append_left _ (List.mem_append_left _ (List.mem_append_left _ (List.mem_of_getElem? (i := 3) rfl)))))) (fun _ h9 => h9) rfl hnm rfl (tyX4_ok 0 (by decide)) rfl rfl (Nat.le_of_ble_eq_true rfl) dX4_init_6 (fun H locs hP hD hS => ?_)
  have hP : va_P G.1 vwCl [(pm, .inr (3, [.int (nI w), .int 0, .int 0, .int 0, .int 0, .int 0, .int 0, .null]))] H := hP
  have hD : va_D A [(pm, .inr (3, [.int (nI w), .int 0, .int 0, .int 0, .int 0, .int 0, .int 0, .null]))] := hD
  refine lv_aload_n hx hb dX4_init_9 rfl (lv_at hl 0 rfl) ?_
  refine lv_iload_n hx hb dX4_init_10 rfl (lv_at hl 2 rfl) ?_
  refine va_putF (D := G.1) (ci := 3) (v := .int (nI h)) (ty := tyX4 1) (C := RX4) (T := TX4) (N := 8) hx hb hts hin_X4_init_4 tyX4 tyX4_ok nmX4 hown hK.1 hP hD hS 0 rfl rfl 1 (by decide) (hts (.fieldLink RX4 15 "MixedPredict$Picture" "height" "I") (List.mem_cons_of_mem _ (List.mem_append_left _ (List.mem_append_left _ (List.mem_append_left _ (List.mem_of_getElem? (i := 4) rfl)))))) (fun _ h9 => h9) rfl hnm rfl (tyX4_ok 1 (by decide)) rfl rfl (Nat.le_of_ble_eq_true rfl) dX4_init_11 (fun H locs hP hD hS => ?_)
  have hP : va_P G.1 vwCl [(pm, .inr (3, [.int (nI w), .int (nI h), .int 0, .int 0, .int 0, .int 0, .int 0, .null]))] H := hP
  have hD : va_D A [(pm, .inr (3, [.int (nI w), .int (nI h), .int 0, .int 0, .int 0, .int 0, .int 0, .null]))] := hD
  refine lv_aload_n hx hb dX4_init_14 rfl (lv_at hl 0 rfl) ?_
  refine lv_iload_n hx hb dX4_init_15 rfl (lv_at hl 3 rfl) ?_
  refine va_putF (D := G.1) (ci := 3) (v := .int (nI b)) (ty := tyX4 2) (C := RX4) (T := TX4) (N := 8) hx hb hts hin_X4_init_4 tyX4 tyX4_ok nmX4 hown hK.1 hP hD hS 0 rfl rfl 2 (by decide) (hts (.fieldLink RX4 18 "MixedPredict$Picture" "bits" "I") (List.mem_cons_of_mem _ (List.mem_append_left _ (List.mem_append_left _ (List.mem_append_left _ (List.mem_of_getElem? (i := 5) rfl)))))) (fun _ h9 => h9) rfl hnm rfl (tyX4_ok 2 (by decide)) rfl rfl (Nat.le_of_ble_eq_true rfl) dX4_init_16 (fun H locs hP hD hS => ?_)
  have hP : va_P G.1 vwCl [(pm, .inr (3, [.int (nI w), .int (nI h), .int (nI b), .int 0, .int 0, .int 0, .int 0, .null]))] H := hP
  have hD : va_D A [(pm, .inr (3, [.int (nI w), .int (nI h), .int (nI b), .int 0, .int 0, .int 0, .int 0, .null]))] := hD
  refine lv_aload_n hx hb dX4_init_19 rfl (lv_at hl 0 rfl) ?_
  refine lv_iload hx hb dX4_init_20 (lv_at hl 4 rfl) ?_
  refine va_putF (D := G.1) (ci := 3) (v := .int (nI c)) (ty := tyX4 3) (C := RX4) (T := TX4) (N := 8) hx hb hts hin_X4_init_4 tyX4 tyX4_ok nmX4 hown hK.1 hP hD hS 0 rfl rfl 3 (by decide) (hts (.fieldLink RX4 21 "MixedPredict$Picture" "channels" "I") (List.mem_cons_of_mem _ (List.mem_append_left _ (List.mem_append_left _ (List.mem_append_left _ (List.mem_of_getElem? (i := 6) rfl)))))) (fun _ h9 => h9) rfl hnm rfl (tyX4_ok 3 (by decide)) rfl rfl (Nat.le_of_ble_eq_true rfl) dX4_init_22 (fun H locs hP hD hS => ?_)
  have hP : va_P G.1 vwCl [(pm, .inr (3, [.int (nI w), .int (nI h), .int (nI b), .int (nI c), .int 0, .int 0, .int 0, .null]))] H := hP
  have hD : va_D A [(pm, .inr (3, [.int (nI w), .int (nI h), .int (nI b), .int (nI c), .int 0, .int 0, .int 0, .null]))] := hD
  refine lv_aload_n hx hb dX4_init_25 rfl (lv_at hl 0 rfl) ?_
  refine lv_iconst (v := 1) hx hb dX4_init_26 (by decide) ?_
  refine lv_iload_n hx hb dX4_init_27 rfl (lv_at hl 3 rfl) ?_
  refine lv_ishl hx hb dX4_init_28 ?_
  refine x_top (y := nI (2 * md)) (shl_b hd) ?_
  refine lv_iconst (v := 1) hx hb dX4_init_29 (by decide) ?_
  refine lv_isub hx hb dX4_init_30 ?_
  refine x_top (y := nI (2 * md - 1)) (pk_sub (a := 2 * md) (b := 1) (by omega)) ?_
  refine va_putF (D := G.1) (ci := 3) (v := .int (nI (2 * md - 1))) (ty := tyX4 4) (C := RX4) (T := TX4) (N := 8) hx hb hts hin_X4_init_4 tyX4 tyX4_ok nmX4 hown hK.1 hP hD hS 0 rfl rfl 4 (by decide) (hts (.fieldLink RX4 24 "MixedPredict$Picture" "greatest" "I") (List.mem_cons_of_mem _ (List.mem_append_left _ (List.mem_append_left _ (List.mem_append_left _ (List.mem_of_getElem? (i := 7) rfl)))))) (fun _ h9 => h9) rfl hnm rfl (tyX4_ok 4 (by decide)) rfl rfl (Nat.le_of_ble_eq_true rfl) dX4_init_31 (fun H locs hP hD hS => ?_)
  have hP : va_P G.1 vwCl [(pm, .inr (3, [.int (nI w), .int (nI h), .int (nI b), .int (nI c), .int (nI (2 * md - 1)), .int 0, .int 0, .null]))] H := hP
  have hD : va_D A [(pm, .inr (3, [.int (nI w), .int (nI h), .int (nI b), .int (nI c), .int (nI (2 * md - 1)), .int 0, .int 0, .null]))] := hD
  refine lv_aload_n hx hb dX4_init_34 rfl (lv_at hl 0 rfl) ?_
  refine lv_iconst (v := 1) hx hb dX4_init_35 (by decide) ?_
  refine lv_iload_n hx hb dX4_init_36 rfl (lv_at hl 3 rfl) ?_
  refine lv_iconst (v := 1) hx hb dX4_init_37 (by decide) ?_
  refine lv_isub hx hb dX4_init_38 ?_
  refine x_top (y := nI (b - 1)) (pk_sub (a := b) (b := 1) (by omega)) ?_
  refine lv_ishl hx hb dX4_init_39 ?_
  refine x_top (y := nI md) (shl_b1 hd) ?_
  refine va_putF (D := G.1) (ci := 3) (v := .int (nI md)) (ty := tyX4 5) (C := RX4) (T := TX4) (N := 8) hx hb hts hin_X4_init_4 tyX4 tyX4_ok nmX4 hown hK.1 hP hD hS 0 rfl rfl 5 (by decide) (hts (.fieldLink RX4 27 "MixedPredict$Picture" "mid" "I") (List.mem_cons_of_mem _ (List.mem_append_left _ (List.mem_append_left _ (List.mem_append_left _ (List.mem_of_getElem? (i := 8) rfl)))))) (fun _ h9 => h9) rfl hnm rfl (tyX4_ok 5 (by decide)) rfl rfl (Nat.le_of_ble_eq_true rfl) dX4_init_40 (fun H locs hP hD hS => ?_)
  have hP : va_P G.1 vwCl [(pm, .inr (3, [.int (nI w), .int (nI h), .int (nI b), .int (nI c), .int (nI (2 * md - 1)), .int (nI md), .int 0, .null]))] H := hP
  have hD : va_D A [(pm, .inr (3, [.int (nI w), .int (nI h), .int (nI b), .int (nI c), .int (nI (2 * md - 1)), .int (nI md), .int 0, .null]))] := hD
  refine lv_aload_n hx hb dX4_init_43 rfl (lv_at hl 0 rfl) ?_
  refine lv_iconst (v := 1) hx hb dX4_init_44 (by decide) ?_
  refine lv_iload_n hx hb dX4_init_45 rfl (lv_at hl 1 rfl) ?_
  refine lv_bipush (v := 8) hx hb dX4_init_46 (by decide) ?_
  refine lv_iadd hx hb dX4_init_48 ?_
  refine x_top (y := nI (w + 8)) (nI_add _ _) ?_
  refine lv_iconst (v := 1) hx hb dX4_init_49 (by decide) ?_
  refine lv_isub hx hb dX4_init_50 ?_
  refine x_top (y := nI (w + 8 - 1)) (pk_sub (a := w + 8) (b := 1) (by omega)) ?_
  refine lv_bipush (v := 8) hx hb dX4_init_51 (by decide) ?_
  refine lv_idiv hx hb dX4_init_53 (by decide) ?_
  refine x_top (y := nI ((w + 8 - 1) / 8)) (pk_div (a := w + 8 - 1) (d := 8) (by omega) (by omega) (by omega)) ?_
  refine x_top (y := nI ((w + 7) / 8)) (congrArg nI (by omega)) ?_
  refine va_mmax hx hb (hml.trans hl.1.symm) hown (hts (.methodLink RX4 30 Lib.Math.max.name) (List.mem_cons_of_mem _ (List.mem_append_left _ (List.mem_append_left _ (List.mem_append_left _ (List.mem_of_getElem? (i := 9) rfl)))))) (hts (.static Lib.Math.max.name) (List.mem_cons_of_mem _ (List.mem_append_left _ (List.mem_append_left _ (List.mem_append_left _ (List.mem_of_getElem? (i := 10) rfl)))))) (hts (.initialized "java/lang/Math") (List.mem_cons_of_mem _ (List.mem_append_left _ (List.mem_append_left _ (List.mem_append_left _ (List.mem_of_getElem? (i := 11) rfl)))))) (hts (.code Lib.Math.max.name Lib.Math.max.code 2 (some .int)) (List.mem_cons_of_mem _ (List.mem_append_left _ (List.mem_append_left _ (List.mem_append_left _ (List.mem_of_getElem? (i := 12) rfl)))))) (Nat.le_of_ble_eq_true rfl) (Nat.le_of_ble_eq_true rfl) (Nat.zero_le _) (Nat.zero_le _) dX4_init_54 ?_
  refine x_top (y := nI (max 1 ((w + 7) / 8))) (mm_max (a := 1) (b := (w + 7) / 8) (by omega) (by omega)) ?_
  refine x_top (y := nI ((w + 7) / 8)) (congrArg nI (by omega)) ?_
  refine va_putF (D := G.1) (ci := 3) (v := .int (nI ((w + 7) / 8))) (ty := tyX4 6) (C := RX4) (T := TX4) (N := 8) hx hb hts hin_X4_init_4 tyX4 tyX4_ok nmX4 hown hK.1 hP hD hS 0 rfl rfl 6 (by decide) (hts (.fieldLink RX4 36 "MixedPredict$Picture" "tilesAcross" "I") (List.mem_cons_of_mem _ (List.mem_append_left _ (List.mem_append_left _ (List.mem_append_left _ (List.mem_of_getElem? (i := 13) rfl)))))) (fun _ h9 => h9) rfl hnm rfl (tyX4_ok 6 (by decide)) rfl rfl (Nat.le_of_ble_eq_true rfl) dX4_init_57 (fun H locs hP hD hS => ?_)
  have hP : va_P G.1 vwCl [(pm, .inr (3, [.int (nI w), .int (nI h), .int (nI b), .int (nI c), .int (nI (2 * md - 1)), .int (nI md), .int (nI ((w + 7) / 8)), .null]))] H := hP
  have hD : va_D A [(pm, .inr (3, [.int (nI w), .int (nI h), .int (nI b), .int (nI c), .int (nI (2 * md - 1)), .int (nI md), .int (nI ((w + 7) / 8)), .null]))] := hD
  refine lv_aload_n hx hb dX4_init_60 rfl (lv_at hl 0 rfl) ?_
  refine va_new (ci := 5) (fs := [.null]) (C := RX6) (T := TX6) (N := 1) hx hb hts hin_X4_init_6 tyX6 tyX6_ok hown (hts (.classLink RX4 39 RX6) (List.mem_cons_of_mem _ (List.mem_append_left _ (List.mem_append_left _ (List.mem_append_left _ (List.mem_of_getElem? (i := 14) rfl)))))) (hts (.instantiable RX6 1) (List.mem_cons_of_mem _ (List.mem_append_left _ (List.mem_append_left _ (List.mem_append_left _ (List.mem_of_getElem? (i := 15) rfl)))))) (hts (.initialized RX6) (List.mem_cons_of_mem _ (List.mem_append_left _ (List.mem_append_left _ (List.mem_append_left _ (List.mem_of_getElem? (i := 16) rfl)))))) hK.1 hP hD hS hA rfl (fun j hj => by rcases (show j = 0 by omega) with rfl <;> rfl) (by show _ ≤ 2; omega) (by show _ ≤ (1 + w * h * c); omega) dX4_init_61 (fun q_1 H hP hD hS => ?_)
  have hP : va_P G.1 vwCl [(pm, .inr (3, [.int (nI w), .int (nI h), .int (nI b), .int (nI c), .int (nI (2 * md - 1)), .int (nI md), .int (nI ((w + 7) / 8)), .null])), (q_1, .inr (5, [.null]))] H := hP
  have hD : va_D A [(pm, .inr (3, [.int (nI w), .int (nI h), .int (nI b), .int (nI c), .int (nI (2 * md - 1)), .int (nI md), .int (nI ((w + 7) / 8)), .null])), (q_1, .inr (5, [.null]))] := hD
  refine lv_dup hx hb dX4_init_64 rfl ?_
  refine lv_iload_n hx hb dX4_init_65 rfl (lv_at hl 1 rfl) ?_
  refine lv_iload_n hx hb dX4_init_66 rfl (lv_at hl 2 rfl) ?_
  refine lv_imul hx hb dX4_init_67 ?_
  refine x_top (y := nI (w * h)) (pk_mul _ _) ?_
  refine lv_iload hx hb dX4_init_68 (lv_at hl 4 rfl) ?_
  refine lv_imul hx hb dX4_init_70 ?_
  refine x_top (y := nI ((w * h) * c)) (pk_mul _ _) ?_
  refine w_fin_v (WR := [(pm, .inr (3, [.int (nI w), .int (nI h), .int (nI b), .int (nI c), .int (nI (2 * md - 1)), .int (nI md), .int (nI ((w + 7) / 8)), .null]))]) (va_runI (As := [.int (nI ((w * h) * c))]) (rest := [.ref q_1, .ref pm]) ⟨hx, hb, hml, hown, hts⟩ (c_X6_init l G q_1 ((w * h) * c) (by first | assumption | omega) H.size) (cwI 1 hts gX4_init_X6_init rfl rfl rfl (hts (.initialized RX6) (List.mem_cons_of_mem _ (List.mem_append_left _ (List.mem_append_left _ (List.mem_append_left _ (List.mem_of_getElem? (i := 16) rfl)))))) (hts (.methodLink RX4 41 yX6_init) (List.mem_cons_of_mem _ (List.mem_append_left _ (List.mem_append_left _ (List.mem_append_left _ (List.mem_of_getElem? (i := 18) rfl)))))) (hts (.instanceMethod yX6_init) (List.mem_cons_of_mem _ (List.mem_append_left _ (List.mem_append_left _ (List.mem_append_left _ (List.mem_of_getElem? (i := 19) rfl)))))) rfl (by decide +kernel) ⟨Nat.le_of_ble_eq_true rfl, Nat.le_of_ble_eq_true rfl⟩) (w_pre hK hP hD [1] (by decide) rfl) rfl rfl hl.1 rfl (lv_room (Nat.le_of_ble_eq_true rfl)) dX4_init_71 ⟨by show _ ≤ 2; omega, by show _ ≤ (1 + w * h * c); omega⟩) hP hD hS hA [1] [0] rfl rfl (by decide) (by decide) [0, 1, 2] (by decide) (fun (q : Nat) => [(pm, .inr (3, [.int (nI w), .int (nI h), .int (nI b), .int (nI c), .int (nI (2 * md - 1)), .int (nI md), .int (nI ((w + 7) / 8)), .null])), (q_1, .inr (5, [.ref q])), (q, .inl (G.2.1, ((w * h) * c), .inl (fun _ => 0)))]) (fun _ => rfl) (fun u H locs hw hP hD hS => ?_)
  obtain ⟨q_2, rfl⟩ : ∃ z, z = u := ⟨_, rfl⟩
  have hP : va_P G.1 vwCl [(pm, .inr (3, [.int (nI w), .int (nI h), .int (nI b), .int (nI c), .int (nI (2 * md - 1)), .int (nI md), .int (nI ((w + 7) / 8)), .null])), (q_1, .inr (5, [.ref q_2])), (q_2, .inl (G.2.1, ((w * h) * c), .inl (fun _ => 0)))] H := hP
  have hD : va_D A [(pm, .inr (3, [.int (nI w), .int (nI h), .int (nI b), .int (nI c), .int (nI (2 * md - 1)), .int (nI md), .int (nI ((w + 7) / 8)), .null])), (q_1, .inr (5, [.ref q_2])), (q_2, .inl (G.2.1, ((w * h) * c), .inl (fun _ => 0)))] := hD
  refine va_putF (D := G.1) (ci := 3) (v := .ref q_1) (ty := tyX4 7) (C := RX4) (T := TX4) (N := 8) hx hb hts hin_X4_init_4 tyX4 tyX4_ok nmX4 hown hK.1 hP hD hS 0 rfl rfl 7 (by decide) (hts (.fieldLink RX4 44 "MixedPredict$Picture" "samples" "LMixedPredict$Row;") (List.mem_cons_of_mem _ (List.mem_append_left _ (List.mem_append_left _ (List.mem_append_left _ (List.mem_of_getElem? (i := 17) rfl)))))) (fun _ h9 => h9) rfl hnm rfl (tyX4_ok 7 (by decide)) rfl rfl (Nat.le_of_ble_eq_true rfl) dX4_init_74 (fun H locs hP hD hS => ?_)
  have hP : va_P G.1 vwCl [(pm, .inr (3, [.int (nI w), .int (nI h), .int (nI b), .int (nI c), .int (nI (2 * md - 1)), .int (nI md), .int (nI ((w + 7) / 8)), .ref q_1])), (q_1, .inr (5, [.ref q_2])), (q_2, .inl (G.2.1, ((w * h) * c), .inl (fun _ => 0)))] H := hP
  have hD : va_D A [(pm, .inr (3, [.int (nI w), .int (nI h), .int (nI b), .int (nI c), .int (nI (2 * md - 1)), .int (nI md), .int (nI ((w + 7) / 8)), .ref q_1])), (q_1, .inr (5, [.ref q_2])), (q_2, .inl (G.2.1, ((w * h) * c), .inl (fun _ => 0)))] := hD
  refine W.widen (k := 2) (n := 1 + w * h * c) (by omega) (by omega) ?_
  exact w_vret (q_1, q_2) hx hb hr hlocks (trivial) hP hD hS dX4_init_77

set_option maxHeartbeats 4000000 in
set_option maxRecDepth 100000 in
theorem c_X0_init (l : Launch) (G : GG) (ar pm : Nat) (sz : Nat) : Met l yX0_init wsX0_init ({ frames := 1, cells := 0, slots := 0, locals := 12 } : Room) (w_Pc G [.ref ar, .ref pm] sz [(ar, .inr (0, [.null, .int 0, .int 0, .int 0, .int 0, .int 0]))]) (w_Qv G (va_A [(ar, .inr (0, [.null, .int 0, .int 0, .int 0, .int 0, .int 0]))] sz) (fun (_ : Unit) => [(ar, .inr (0, [.ref pm, .int 0, .int 0, .int 0, .int 0, .int 0]))]) (fun (_ : Unit) => True)) 0 0 (va_A [(ar, .inr (0, [.null, .int 0, .int 0, .int 0, .int 0, .int 0]))] sz) := by
  refine w_ofW (Qf := fun A => w_Qv G A (fun (_ : Unit) => [(ar, .inr (0, [.ref pm, .int 0, .int 0, .int 0, .int 0, .int 0]))]) (fun (_ : Unit) => True)) (cc := cX0_init) (maxL := 2) (ret := none) (by decide) rfl (Nat.le_of_ble_eq_true rfl) ?_
  intro pZ eZ sZ mZ bZ tZ cZ A hx hb hr hts hown hlocks hml hnm hK hA H locs hP hD hS ls hl
  have hown : sZ.vm.findClass RX0 = some mZ.cls := hown
  have hl : lv_has ls 2 [(0, .ref ar), (1, .ref pm)] := hl
  refine lv_aload_n hx hb dX0_init_0 rfl (lv_at hl 0 rfl) ?_
  refine W.objInit hx hb hown (hts (.methodLink RX0 3 objectInit) (List.mem_cons_of_mem _ (List.mem_append_left _ (List.mem_of_getElem? (i := 0) rfl)))) (hts (.instanceMethod objectInit) (List.mem_cons_of_mem _ (List.mem_append_left _ (List.mem_of_getElem? (i := 1) rfl)))) (hts (.code objectInit ⟨#[0xb1]⟩ 1 none) (List.mem_cons_of_mem _ (List.mem_append_left _ (List.mem_of_getElem? (i := 2) rfl)))) rfl (by rw [hml]; exact hl.1) rfl dX0_init_1 (Nat.le_of_ble_eq_true rfl) (Nat.le_of_ble_eq_true rfl) ?_
  refine W.eq (g2 := F0 mZ 4 ls []) rfl ?_
  refine lv_aload_n hx hb dX0_init_4 rfl (lv_at hl 0 rfl) ?_
  refine lv_aload_n hx hb dX0_init_5 rfl (lv_at hl 1 rfl) ?_
  refine va_putF (D := G.1) (ci := 0) (v := .ref pm) (ty := tyX0 0) (C := RX0) (T := TX0) (N := 6) hx hb hts hin_X0_init_0 tyX0 tyX0_ok nmX0 hown hK.1 hP hD hS 0 rfl rfl 0 (by decide) (hts (.fieldLink RX0 9 "MixedPredict$Around" "picture" "LMixedPredict$Picture;") (List.mem_cons_of_mem _ (List.mem_append_left _ (List.mem_of_getElem? (i := 3) rfl)))) (fun _ h9 => h9) rfl hnm rfl (tyX0_ok 0 (by decide)) rfl rfl (Nat.le_of_ble_eq_true rfl) dX0_init_6 (fun H locs hP hD hS => ?_)
  have hP : va_P G.1 vwCl [(ar, .inr (0, [.ref pm, .int 0, .int 0, .int 0, .int 0, .int 0]))] H := hP
  have hD : va_D A [(ar, .inr (0, [.ref pm, .int 0, .int 0, .int 0, .int 0, .int 0]))] := hD
  exact w_vret () hx hb hr hlocks (trivial) hP hD hS dX0_init_9

set_option maxHeartbeats 4000000 in
set_option maxRecDepth 100000 in
theorem c_X0_look (l : Launch) (G : GG) (ar : Nat) (pm rs as : Nat) (w h b c md : Nat) (hd : DIM w h b c md) (f : Nat → Int32) (P : Nat → Nat → Nat → Nat) (ia ib ic id_ ie : Int32) (hf : PicC w h c f P) (x y k : Nat) (qx : x < w) (qy : y < h) (qk : k < c)  (sz : Nat) : Met l yX0_look wsX0_look ({ frames := 2, cells := 0, slots := 0, locals := 44 } : Room) (w_Pc G [.ref ar, .int (nI x), .int (nI y), .int (nI k)] sz [(ar, .inr (0, [.ref pm, .int ia, .int ib, .int ic, .int id_, .int ie])), (pm, .inr (3, [.int (nI w), .int (nI h), .int (nI b), .int (nI c), .int (nI (2 * md - 1)), .int (nI md), .int (nI ((w + 7) / 8)), .ref rs])), (rs, .inr (5, [.ref as])), (as, .inl (G.2.1, w * h * c, .inl f))]) (w_Qv G (va_A [(ar, .inr (0, [.ref pm, .int ia, .int ib, .int ic, .int id_, .int ie])), (pm, .inr (3, [.int (nI w), .int (nI h), .int (nI b), .int (nI c), .int (nI (2 * md - 1)), .int (nI md), .int (nI ((w + 7) / 8)), .ref rs])), (rs, .inr (5, [.ref as])), (as, .inl (G.2.1, w * h * c, .inl f))] sz) (fun (_ : Unit) => [(ar, .inr (0, [.ref pm, .int (nI (nbA P md x y k)), .int (nI (nbB P md x y k)), .int (nI (nbC P md x y k)), .int (nI (nbD P w md x y k)), .int (nI (nbE P md x y k))])), (pm, .inr (3, [.int (nI w), .int (nI h), .int (nI b), .int (nI c), .int (nI (2 * md - 1)), .int (nI md), .int (nI ((w + 7) / 8)), .ref rs])), (rs, .inr (5, [.ref as])), (as, .inl (G.2.1, w * h * c, .inl f))]) (fun (_ : Unit) => True)) 0 0 (va_A [(ar, .inr (0, [.ref pm, .int ia, .int ib, .int ic, .int id_, .int ie])), (pm, .inr (3, [.int (nI w), .int (nI h), .int (nI b), .int (nI c), .int (nI (2 * md - 1)), .int (nI md), .int (nI ((w + 7) / 8)), .ref rs])), (rs, .inr (5, [.ref as])), (as, .inl (G.2.1, w * h * c, .inl f))] sz) := by
  refine w_ofW (Qf := fun A => w_Qv G A (fun (_ : Unit) => [(ar, .inr (0, [.ref pm, .int (nI (nbA P md x y k)), .int (nI (nbB P md x y k)), .int (nI (nbC P md x y k)), .int (nI (nbD P w md x y k)), .int (nI (nbE P md x y k))])), (pm, .inr (3, [.int (nI w), .int (nI h), .int (nI b), .int (nI c), .int (nI (2 * md - 1)), .int (nI md), .int (nI ((w + 7) / 8)), .ref rs])), (rs, .inr (5, [.ref as])), (as, .inl (G.2.1, w * h * c, .inl f))]) (fun (_ : Unit) => True)) (cc := cX0_look) (maxL := 7) (ret := none) (by decide) rfl (Nat.le_of_ble_eq_true rfl) ?_
  intro pZ eZ sZ mZ bZ tZ cZ A hx hb hr hts hown hlocks hml hnm hK hA H locs hP hD hS ls hl
  have hown : sZ.vm.findClass RX0 = some mZ.cls := hown
  have hl : lv_has ls 7 [(0, .ref ar), (1, .int (nI x)), (2, .int (nI y)), (3, .int (nI k))] := hl
  obtain ⟨dw1, dw2, dh1, dh2, db1, db2, dc1, dc2, dm1, dm2, dme⟩ := id hd
  refine lv_iload_n hx hb dX0_look_0 rfl (lv_at hl 1 rfl) ?_
  refine lv_bipush (v := 8) hx hb dX0_look_1 (by decide) ?_
  refine lv_irem hx hb dX0_look_3 (by decide) ?_
  refine x_top (y := nI (x % 8)) (pk_rem (a := x) (d := 8) (by omega) (by omega) (by omega)) ?_
  refine x_join (α := (Int32)) (fun z9 => F0 mZ 12 ls [.int z9]) (fun z9 => (z9 = if 0 < x % 8 then 1 else 0)) (fun z9 hJ9 => ?_) (fun hj_1 => ?_)
  · obtain ⟨v9, rfl⟩ : ∃ z, z = z9 := ⟨_, rfl⟩
    have hj9 := hJ9
    have hj9 : v9 = if 0 < x % 8 then 1 else 0 := hj9
    subst hj9
    refine lv_istore (lv' := [(4, .int (if 0 < x % 8 then 1 else 0)), (0, .ref ar), (1, .int (nI x)), (2, .int (nI y)), (3, .int (nI k))]) hx hb dX0_look_12 hl (by decide) rfl (fun ls hl => ?_)
    refine lv_iload_n hx hb dX0_look_14 rfl (lv_at hl 3 rfl) ?_
    refine lv_bipush (v := 8) hx hb dX0_look_15 (by decide) ?_
    refine lv_irem hx hb dX0_look_17 (by decide) ?_
    refine x_top (y := nI (y % 8)) (pk_rem (a := y) (d := 8) (by omega) (by omega) (by omega)) ?_
    refine x_join (α := (Int32)) (fun z9 => F0 mZ 26 ls [.int z9]) (fun z9 => (z9 = if 0 < y % 8 then 1 else 0)) (fun z9 hJ9 => ?_) (fun hj_2 => ?_)
    · obtain ⟨v9, rfl⟩ : ∃ z, z = z9 := ⟨_, rfl⟩
      have hj9 := hJ9
      have hj9 : v9 = if 0 < y % 8 then 1 else 0 := hj9
      subst hj9
      refine lv_istore (lv' := [(5, .int (if 0 < y % 8 then 1 else 0)), (4, .int (if 0 < x % 8 then 1 else 0)), (0, .ref ar), (1, .int (nI x)), (2, .int (nI y)), (3, .int (nI k))]) hx hb dX0_look_26 hl (by decide) rfl (fun ls hl => ?_)
      refine lv_iload_n hx hb dX0_look_28 rfl (lv_at hl 3 rfl) ?_
      refine lv_bipush (v := 8) hx hb dX0_look_29 (by decide) ?_
      refine lv_irem hx hb dX0_look_31 (by decide) ?_
      refine x_top (y := nI (x % 8)) (pk_rem (a := x) (d := 8) (by omega) (by omega) (by omega)) ?_
      refine lv_bipush (v := 7) hx hb dX0_look_32 (by decide) ?_
      refine x_join (α := (Int32)) (fun z9 => F0 mZ 55 ls [.int z9]) (fun z9 => (z9 = if x % 8 < 7 ∧ x + 1 < w then 1 else 0)) (fun z9 hJ9 => ?_) (fun hj_3 => ?_)
      · obtain ⟨v9, rfl⟩ : ∃ z, z = z9 := ⟨_, rfl⟩
        have hj9 := hJ9
        have hj9 : v9 = if x % 8 < 7 ∧ x + 1 < w then 1 else 0 := hj9
        subst hj9
        refine lv_istore (lv' := [(6, .int (if x % 8 < 7 ∧ x + 1 < w then 1 else 0)), (5, .int (if 0 < y % 8 then 1 else 0)), (4, .int (if 0 < x % 8 then 1 else 0)), (0, .ref ar), (1, .int (nI x)), (2, .int (nI y)), (3, .int (nI k))]) hx hb dX0_look_55 hl (by decide) rfl (fun ls hl => ?_)
        refine lv_aload_n hx hb dX0_look_57 rfl (lv_at hl 3 rfl) ?_
        refine lv_iload hx hb dX0_look_58 (lv_at hl 2 rfl) ?_
        refine x_join (α := (Int32)) (fun z9 => F0 mZ 85 ls [.int z9, .ref ar]) (fun z9 => (z9 = nI (nbA P md x y k))) (fun z9 hJ9 => ?_) (fun hj_4 => ?_)
        · obtain ⟨v9, rfl⟩ : ∃ z, z = z9 := ⟨_, rfl⟩
          have hj9 := hJ9
          have hj9 : v9 = nI (nbA P md x y k) := hj9
          subst hj9
          refine va_put (D := G.1) (ci := 0) (v := .int (nI (nbA P md x y k))) (ty := tyX0 1) (C := RX0) (T := TX0) (N := 6) hx hb hts hin_X0_look_0 tyX0 tyX0_ok nmX0 hown hK.1 hP hD hS 0 rfl rfl 1 (by decide) (hts (.fieldLink RX0 28 "MixedPredict$Around" "a" "I") (List.mem_cons_of_mem _ (List.mem_append_left _ (List.mem_append_left _ (List.mem_append_left _ (List.mem_of_getElem? (i := 3) rfl)))))) (fun _ h9 => h9) rfl (tyX0_ok 1 (by decide)) rfl rfl (Nat.le_of_ble_eq_true rfl) dX0_look_85 (fun H locs hP hD hS => ?_)
          have hP : va_P G.1 vwCl [(ar, .inr (0, [.ref pm, .int (nI (nbA P md x y k)), .int ib, .int ic, .int id_, .int ie])), (pm, .inr (3, [.int (nI w), .int (nI h), .int (nI b), .int (nI c), .int (nI (2 * md - 1)), .int (nI md), .int (nI ((w + 7) / 8)), .ref rs])), (rs, .inr (5, [.ref as])), (as, .inl (G.2.1, w * h * c, .inl f))] H := hP
          have hD : va_D A [(ar, .inr (0, [.ref pm, .int (nI (nbA P md x y k)), .int ib, .int ic, .int id_, .int ie])), (pm, .inr (3, [.int (nI w), .int (nI h), .int (nI b), .int (nI c), .int (nI (2 * md - 1)), .int (nI md), .int (nI ((w + 7) / 8)), .ref rs])), (rs, .inr (5, [.ref as])), (as, .inl (G.2.1, w * h * c, .inl f))] := hD
          refine lv_aload_n hx hb dX0_look_88 rfl (lv_at hl 3 rfl) ?_
          refine lv_iload hx hb dX0_look_89 (lv_at hl 1 rfl) ?_
          refine x_join (α := (Int32)) (fun z9 => F0 mZ 116 ls [.int z9, .ref ar]) (fun z9 => (z9 = nI (nbB P md x y k))) (fun z9 hJ9 => ?_) (fun hj_5 => ?_)
          · obtain ⟨v9, rfl⟩ : ∃ z, z = z9 := ⟨_, rfl⟩
            have hj9 := hJ9
            have hj9 : v9 = nI (nbB P md x y k) := hj9
            subst hj9
            refine va_put (D := G.1) (ci := 0) (v := .int (nI (nbB P md x y k))) (ty := tyX0 2) (C := RX0) (T := TX0) (N := 6) hx hb hts hin_X0_look_0 tyX0 tyX0_ok nmX0 hown hK.1 hP hD hS 0 rfl rfl 2 (by decide) (hts (.fieldLink RX0 31 "MixedPredict$Around" "b" "I") (List.mem_cons_of_mem _ (List.mem_append_left _ (List.mem_append_left _ (List.mem_append_left _ (List.mem_of_getElem? (i := 4) rfl)))))) (fun _ h9 => h9) rfl (tyX0_ok 2 (by decide)) rfl rfl (Nat.le_of_ble_eq_true rfl) dX0_look_116 (fun H locs hP hD hS => ?_)
            have hP : va_P G.1 vwCl [(ar, .inr (0, [.ref pm, .int (nI (nbA P md x y k)), .int (nI (nbB P md x y k)), .int ic, .int id_, .int ie])), (pm, .inr (3, [.int (nI w), .int (nI h), .int (nI b), .int (nI c), .int (nI (2 * md - 1)), .int (nI md), .int (nI ((w + 7) / 8)), .ref rs])), (rs, .inr (5, [.ref as])), (as, .inl (G.2.1, w * h * c, .inl f))] H := hP
            have hD : va_D A [(ar, .inr (0, [.ref pm, .int (nI (nbA P md x y k)), .int (nI (nbB P md x y k)), .int ic, .int id_, .int ie])), (pm, .inr (3, [.int (nI w), .int (nI h), .int (nI b), .int (nI c), .int (nI (2 * md - 1)), .int (nI md), .int (nI ((w + 7) / 8)), .ref rs])), (rs, .inr (5, [.ref as])), (as, .inl (G.2.1, w * h * c, .inl f))] := hD
            refine lv_aload_n hx hb dX0_look_119 rfl (lv_at hl 3 rfl) ?_
            refine lv_iload hx hb dX0_look_120 (lv_at hl 2 rfl) ?_
            refine x_join (α := (Int32)) (fun z9 => F0 mZ 154 ls [.int z9, .ref ar]) (fun z9 => (z9 = nI (nbC P md x y k))) (fun z9 hJ9 => ?_) (fun hj_6 => ?_)
            · obtain ⟨v9, rfl⟩ : ∃ z, z = z9 := ⟨_, rfl⟩
              have hj9 := hJ9
              have hj9 : v9 = nI (nbC P md x y k) := hj9
              subst hj9
              refine va_put (D := G.1) (ci := 0) (v := .int (nI (nbC P md x y k))) (ty := tyX0 3) (C := RX0) (T := TX0) (N := 6) hx hb hts hin_X0_look_0 tyX0 tyX0_ok nmX0 hown hK.1 hP hD hS 0 rfl rfl 3 (by decide) (hts (.fieldLink RX0 34 "MixedPredict$Around" "c" "I") (List.mem_cons_of_mem _ (List.mem_append_left _ (List.mem_append_left _ (List.mem_append_left _ (List.mem_of_getElem? (i := 5) rfl)))))) (fun _ h9 => h9) rfl (tyX0_ok 3 (by decide)) rfl rfl (Nat.le_of_ble_eq_true rfl) dX0_look_154 (fun H locs hP hD hS => ?_)
              have hP : va_P G.1 vwCl [(ar, .inr (0, [.ref pm, .int (nI (nbA P md x y k)), .int (nI (nbB P md x y k)), .int (nI (nbC P md x y k)), .int id_, .int ie])), (pm, .inr (3, [.int (nI w), .int (nI h), .int (nI b), .int (nI c), .int (nI (2 * md - 1)), .int (nI md), .int (nI ((w + 7) / 8)), .ref rs])), (rs, .inr (5, [.ref as])), (as, .inl (G.2.1, w * h * c, .inl f))] H := hP
              have hD : va_D A [(ar, .inr (0, [.ref pm, .int (nI (nbA P md x y k)), .int (nI (nbB P md x y k)), .int (nI (nbC P md x y k)), .int id_, .int ie])), (pm, .inr (3, [.int (nI w), .int (nI h), .int (nI b), .int (nI c), .int (nI (2 * md - 1)), .int (nI md), .int (nI ((w + 7) / 8)), .ref rs])), (rs, .inr (5, [.ref as])), (as, .inl (G.2.1, w * h * c, .inl f))] := hD
              refine lv_aload_n hx hb dX0_look_157 rfl (lv_at hl 3 rfl) ?_
              refine lv_iload hx hb dX0_look_158 (lv_at hl 0 rfl) ?_
              refine x_join (α := (Int32)) (fun z9 => F0 mZ 192 ls [.int z9, .ref ar]) (fun z9 => (z9 = nI (nbD P w md x y k))) (fun z9 hJ9 => ?_) (fun hj_7 => ?_)
              · obtain ⟨v9, rfl⟩ : ∃ z, z = z9 := ⟨_, rfl⟩
                have hj9 := hJ9
                have hj9 : v9 = nI (nbD P w md x y k) := hj9
                subst hj9
                refine va_put (D := G.1) (ci := 0) (v := .int (nI (nbD P w md x y k))) (ty := tyX0 4) (C := RX0) (T := TX0) (N := 6) hx hb hts hin_X0_look_0 tyX0 tyX0_ok nmX0 hown hK.1 hP hD hS 0 rfl rfl 4 (by decide) (hts (.fieldLink RX0 37 "MixedPredict$Around" "d" "I") (List.mem_cons_of_mem _ (List.mem_append_left _ (List.mem_append_left _ (List.mem_append_left _ (List.mem_of_getElem? (i := 6) rfl)))))) (fun _ h9 => h9) rfl (tyX0_ok 4 (by decide)) rfl rfl (Nat.le_of_ble_eq_true rfl) dX0_look_192 (fun H locs hP hD hS => ?_)
                have hP : va_P G.1 vwCl [(ar, .inr (0, [.ref pm, .int (nI (nbA P md x y k)), .int (nI (nbB P md x y k)), .int (nI (nbC P md x y k)), .int (nI (nbD P w md x y k)), .int ie])), (pm, .inr (3, [.int (nI w), .int (nI h), .int (nI b), .int (nI c), .int (nI (2 * md - 1)), .int (nI md), .int (nI ((w + 7) / 8)), .ref rs])), (rs, .inr (5, [.ref as])), (as, .inl (G.2.1, w * h * c, .inl f))] H := hP
                have hD : va_D A [(ar, .inr (0, [.ref pm, .int (nI (nbA P md x y k)), .int (nI (nbB P md x y k)), .int (nI (nbC P md x y k)), .int (nI (nbD P w md x y k)), .int ie])), (pm, .inr (3, [.int (nI w), .int (nI h), .int (nI b), .int (nI c), .int (nI (2 * md - 1)), .int (nI md), .int (nI ((w + 7) / 8)), .ref rs])), (rs, .inr (5, [.ref as])), (as, .inl (G.2.1, w * h * c, .inl f))] := hD
                refine lv_aload_n hx hb dX0_look_195 rfl (lv_at hl 3 rfl) ?_
                refine lv_iload_n hx hb dX0_look_196 rfl (lv_at hl 6 rfl) ?_
                refine x_join (α := (Int32)) (fun z9 => F0 mZ 222 ls [.int z9, .ref ar]) (fun z9 => (z9 = nI (nbE P md x y k))) (fun z9 hJ9 => ?_) (fun hj_8 => ?_)
                · obtain ⟨v9, rfl⟩ : ∃ z, z = z9 := ⟨_, rfl⟩
                  have hj9 := hJ9
                  have hj9 : v9 = nI (nbE P md x y k) := hj9
                  subst hj9
                  refine va_put (D := G.1) (ci := 0) (v := .int (nI (nbE P md x y k))) (ty := tyX0 5) (C := RX0) (T := TX0) (N := 6) hx hb hts hin_X0_look_0 tyX0 tyX0_ok nmX0 hown hK.1 hP hD hS 0 rfl rfl 5 (by decide) (hts (.fieldLink RX0 40 "MixedPredict$Around" "before" "I") (List.mem_cons_of_mem _ (List.mem_append_left _ (List.mem_append_left _ (List.mem_append_left _ (List.mem_of_getElem? (i := 7) rfl)))))) (fun _ h9 => h9) rfl (tyX0_ok 5 (by decide)) rfl rfl (Nat.le_of_ble_eq_true rfl) dX0_look_222 (fun H locs hP hD hS => ?_)
                  have hP : va_P G.1 vwCl [(ar, .inr (0, [.ref pm, .int (nI (nbA P md x y k)), .int (nI (nbB P md x y k)), .int (nI (nbC P md x y k)), .int (nI (nbD P w md x y k)), .int (nI (nbE P md x y k))])), (pm, .inr (3, [.int (nI w), .int (nI h), .int (nI b), .int (nI c), .int (nI (2 * md - 1)), .int (nI md), .int (nI ((w + 7) / 8)), .ref rs])), (rs, .inr (5, [.ref as])), (as, .inl (G.2.1, w * h * c, .inl f))] H := hP
                  have hD : va_D A [(ar, .inr (0, [.ref pm, .int (nI (nbA P md x y k)), .int (nI (nbB P md x y k)), .int (nI (nbC P md x y k)), .int (nI (nbD P w md x y k)), .int (nI (nbE P md x y k))])), (pm, .inr (3, [.int (nI w), .int (nI h), .int (nI b), .int (nI c), .int (nI (2 * md - 1)), .int (nI md), .int (nI ((w + 7) / 8)), .ref rs])), (rs, .inr (5, [.ref as])), (as, .inl (G.2.1, w * h * c, .inl f))] := hD
                  exact w_vret () hx hb hr hlocks (trivial) hP hD hS dX0_look_225
                · skip
                  refine lv_if_le (tgt := 215) hx hb dX0_look_197 (by decide) (fun c_197 => ?_) (fun c_197 => ?_)
                  · skip
                    have c_197 : k ≤ 0 := (nI_leI (a := k) (b := 0) (by omega) (by omega)).mp c_197
                    refine lv_aload_n hx hb dX0_look_215 rfl (lv_at hl 3 rfl) ?_
                    refine va_get (D := G.1) (ci := 0) (v := .ref pm) (C := RX0) (T := TX0) (N := 6) hx hb hts hin_X0_look_0 hown hK.1 hP 0 rfl rfl 0 (by decide) (hts (.fieldLink RX0 9 "MixedPredict$Around" "picture" "LMixedPredict$Picture;") (List.mem_cons_of_mem _ (List.mem_append_left _ (List.mem_append_left _ (List.mem_append_left _ (List.mem_of_getElem? (i := 0) rfl)))))) (fun _ h9 => h9) rfl dX0_look_216 ?_
                    refine va_get (D := G.1) (ci := 3) (v := .int (nI md)) (C := RX4) (T := TX4) (N := 8) hx hb hts hin_X0_look_4 hown hK.1 hP 1 rfl rfl 5 (by decide) (hts (.fieldLink RX0 25 "MixedPredict$Picture" "mid" "I") (List.mem_cons_of_mem _ (List.mem_append_left _ (List.mem_append_left _ (List.mem_append_left _ (List.mem_of_getElem? (i := 2) rfl)))))) (fun _ h9 => h9) rfl dX0_look_219 ?_
                    exact hj_8 (nI md) ((show (nI md) = nI (nbE P md x y k) from by rw [nbE]; split <;> first | rfl | omega))
                  · skip
                    have c_197 : ¬ (k ≤ 0) := fun h9 => c_197 ((nI_leI (a := k) (b := 0) (by omega) (by omega)).mpr h9)
                    refine lv_aload_n hx hb dX0_look_200 rfl (lv_at hl 3 rfl) ?_
                    refine va_get (D := G.1) (ci := 0) (v := .ref pm) (C := RX0) (T := TX0) (N := 6) hx hb hts hin_X0_look_0 hown hK.1 hP 0 rfl rfl 0 (by decide) (hts (.fieldLink RX0 9 "MixedPredict$Around" "picture" "LMixedPredict$Picture;") (List.mem_cons_of_mem _ (List.mem_append_left _ (List.mem_append_left _ (List.mem_append_left _ (List.mem_of_getElem? (i := 0) rfl)))))) (fun _ h9 => h9) rfl dX0_look_201 ?_
                    refine lv_iload_n hx hb dX0_look_204 rfl (lv_at hl 4 rfl) ?_
                    refine lv_iload_n hx hb dX0_look_205 rfl (lv_at hl 5 rfl) ?_
                    refine lv_iload_n hx hb dX0_look_206 rfl (lv_at hl 6 rfl) ?_
                    refine lv_iconst (v := 1) hx hb dX0_look_207 (by decide) ?_
                    refine lv_isub hx hb dX0_look_208 ?_
                    refine x_top (y := nI (k - 1)) (pk_sub (a := k) (b := 1) (by omega)) ?_
                    refine r_fin_i (va_runV (As := [.int (nI x), .int (nI y), .int (nI (k - 1))]) (rest := [.ref ar]) ⟨hx, hb, hml, hown, hts⟩ (c_X4_sample l G pm rs as w h b c md (by first | assumption | omega) f (by first | assumption | omega) (by first | assumption | omega) x y (k - 1) (by first | assumption | omega) (by first | assumption | omega) (by first | assumption | omega)) (cwV 3 hts gX0_look_X4_sample rfl rfl rfl (by decide +kernel) ⟨Nat.le_of_ble_eq_true rfl, Nat.le_of_ble_eq_true rfl⟩) (x_preV (r_pre hK hP [1, 2, 3] rfl) hK hP (ci := 3) (q0 := 1) rfl rfl) rfl rfl hl.1 rfl (lv_room (Nat.le_of_ble_eq_true rfl)) dX0_look_209 ⟨Nat.zero_le _, Nat.zero_le _⟩) (fun r_9 hw => ?_)
                    subst hw
                    refine lv_goto (tgt := 222) hx hb dX0_look_212 (by decide) ?_
                    exact hj_8 (nI (P x y (k - 1))) ((show (nI (P x y (k - 1))) = nI (nbE P md x y k) from by rw [nbE]; split <;> first | rfl | omega))
              · skip
                refine lv_if_eq (tgt := 185) hx hb dX0_look_160 (by decide) (fun c_160 => ?_) (fun c_160 => ?_)
                · skip
                  have c_160 := x_b0.mp c_160
                  refine lv_aload_n hx hb dX0_look_185 rfl (lv_at hl 3 rfl) ?_
                  refine va_get (D := G.1) (ci := 0) (v := .ref pm) (C := RX0) (T := TX0) (N := 6) hx hb hts hin_X0_look_0 hown hK.1 hP 0 rfl rfl 0 (by decide) (hts (.fieldLink RX0 9 "MixedPredict$Around" "picture" "LMixedPredict$Picture;") (List.mem_cons_of_mem _ (List.mem_append_left _ (List.mem_append_left _ (List.mem_append_left _ (List.mem_of_getElem? (i := 0) rfl)))))) (fun _ h9 => h9) rfl dX0_look_186 ?_
                  refine va_get (D := G.1) (ci := 3) (v := .int (nI md)) (C := RX4) (T := TX4) (N := 8) hx hb hts hin_X0_look_4 hown hK.1 hP 1 rfl rfl 5 (by decide) (hts (.fieldLink RX0 25 "MixedPredict$Picture" "mid" "I") (List.mem_cons_of_mem _ (List.mem_append_left _ (List.mem_append_left _ (List.mem_append_left _ (List.mem_of_getElem? (i := 2) rfl)))))) (fun _ h9 => h9) rfl dX0_look_189 ?_
                  exact hj_7 (nI md) ((show (nI md) = nI (nbD P w md x y k) from by rw [nbD]; split <;> first | rfl | omega))
                · skip
                  have c_160 := Decidable.not_not.mp (fun h9 => c_160 (x_b0.mpr h9))
                  refine lv_iload hx hb dX0_look_163 (lv_at hl 1 rfl) ?_
                  refine lv_if_eq (tgt := 185) hx hb dX0_look_165 (by decide) (fun c_165 => ?_) (fun c_165 => ?_)
                  · skip
                    have c_165 := x_b0.mp c_165
                    refine lv_aload_n hx hb dX0_look_185 rfl (lv_at hl 3 rfl) ?_
                    refine va_get (D := G.1) (ci := 0) (v := .ref pm) (C := RX0) (T := TX0) (N := 6) hx hb hts hin_X0_look_0 hown hK.1 hP 0 rfl rfl 0 (by decide) (hts (.fieldLink RX0 9 "MixedPredict$Around" "picture" "LMixedPredict$Picture;") (List.mem_cons_of_mem _ (List.mem_append_left _ (List.mem_append_left _ (List.mem_append_left _ (List.mem_of_getElem? (i := 0) rfl)))))) (fun _ h9 => h9) rfl dX0_look_186 ?_
                    refine va_get (D := G.1) (ci := 3) (v := .int (nI md)) (C := RX4) (T := TX4) (N := 8) hx hb hts hin_X0_look_4 hown hK.1 hP 1 rfl rfl 5 (by decide) (hts (.fieldLink RX0 25 "MixedPredict$Picture" "mid" "I") (List.mem_cons_of_mem _ (List.mem_append_left _ (List.mem_append_left _ (List.mem_append_left _ (List.mem_of_getElem? (i := 2) rfl)))))) (fun _ h9 => h9) rfl dX0_look_189 ?_
                    exact hj_7 (nI md) ((show (nI md) = nI (nbD P w md x y k) from by rw [nbD]; split <;> first | rfl | omega))
                  · skip
                    have c_165 := Decidable.not_not.mp (fun h9 => c_165 (x_b0.mpr h9))
                    refine lv_aload_n hx hb dX0_look_168 rfl (lv_at hl 3 rfl) ?_
                    refine va_get (D := G.1) (ci := 0) (v := .ref pm) (C := RX0) (T := TX0) (N := 6) hx hb hts hin_X0_look_0 hown hK.1 hP 0 rfl rfl 0 (by decide) (hts (.fieldLink RX0 9 "MixedPredict$Around" "picture" "LMixedPredict$Picture;") (List.mem_cons_of_mem _ (List.mem_append_left _ (List.mem_append_left _ (List.mem_append_left _ (List.mem_of_getElem? (i := 0) rfl)))))) (fun _ h9 => h9) rfl dX0_look_169 ?_
                    refine lv_iload_n hx hb dX0_look_172 rfl (lv_at hl 4 rfl) ?_
                    refine lv_iconst (v := 1) hx hb dX0_look_173 (by decide) ?_
                    refine lv_iadd hx hb dX0_look_174 ?_
                    refine x_top (y := nI (x + 1)) (nI_add _ _) ?_
                    refine lv_iload_n hx hb dX0_look_175 rfl (lv_at hl 5 rfl) ?_
                    refine lv_iconst (v := 1) hx hb dX0_look_176 (by decide) ?_
                    refine lv_isub hx hb dX0_look_177 ?_
                    refine x_top (y := nI (y - 1)) (pk_sub (a := y) (b := 1) (by omega)) ?_
                    refine lv_iload_n hx hb dX0_look_178 rfl (lv_at hl 6 rfl) ?_
                    refine r_fin_i (va_runV (As := [.int (nI (x + 1)), .int (nI (y - 1)), .int (nI k)]) (rest := [.ref ar]) ⟨hx, hb, hml, hown, hts⟩ (c_X4_sample l G pm rs as w h b c md (by first | assumption | omega) f (by first | assumption | omega) (by first | assumption | omega) (x + 1) (y - 1) k (by first | assumption | omega) (by first | assumption | omega) (by first | assumption | omega)) (cwV 3 hts gX0_look_X4_sample rfl rfl rfl (by decide +kernel) ⟨Nat.le_of_ble_eq_true rfl, Nat.le_of_ble_eq_true rfl⟩) (x_preV (r_pre hK hP [1, 2, 3] rfl) hK hP (ci := 3) (q0 := 1) rfl rfl) rfl rfl hl.1 rfl (lv_room (Nat.le_of_ble_eq_true rfl)) dX0_look_179 ⟨Nat.zero_le _, Nat.zero_le _⟩) (fun r_10 hw => ?_)
                    subst hw
                    refine lv_goto (tgt := 192) hx hb dX0_look_182 (by decide) ?_
                    exact hj_7 (nI (P (x + 1) (y - 1) k)) ((show (nI (P (x + 1) (y - 1) k)) = nI (nbD P w md x y k) from by rw [nbD]; split <;> first | rfl | omega))
            · skip
              refine lv_if_eq (tgt := 147) hx hb dX0_look_122 (by decide) (fun c_122 => ?_) (fun c_122 => ?_)
              · skip
                have c_122 := x_b0.mp c_122
                refine lv_aload_n hx hb dX0_look_147 rfl (lv_at hl 3 rfl) ?_
                refine va_get (D := G.1) (ci := 0) (v := .ref pm) (C := RX0) (T := TX0) (N := 6) hx hb hts hin_X0_look_0 hown hK.1 hP 0 rfl rfl 0 (by decide) (hts (.fieldLink RX0 9 "MixedPredict$Around" "picture" "LMixedPredict$Picture;") (List.mem_cons_of_mem _ (List.mem_append_left _ (List.mem_append_left _ (List.mem_append_left _ (List.mem_of_getElem? (i := 0) rfl)))))) (fun _ h9 => h9) rfl dX0_look_148 ?_
                refine va_get (D := G.1) (ci := 3) (v := .int (nI md)) (C := RX4) (T := TX4) (N := 8) hx hb hts hin_X0_look_4 hown hK.1 hP 1 rfl rfl 5 (by decide) (hts (.fieldLink RX0 25 "MixedPredict$Picture" "mid" "I") (List.mem_cons_of_mem _ (List.mem_append_left _ (List.mem_append_left _ (List.mem_append_left _ (List.mem_of_getElem? (i := 2) rfl)))))) (fun _ h9 => h9) rfl dX0_look_151 ?_
                exact hj_6 (nI md) ((show (nI md) = nI (nbC P md x y k) from by rw [nbC]; split <;> first | rfl | omega))
              · skip
                have c_122 := Decidable.not_not.mp (fun h9 => c_122 (x_b0.mpr h9))
                refine lv_iload hx hb dX0_look_125 (lv_at hl 1 rfl) ?_
                refine lv_if_eq (tgt := 147) hx hb dX0_look_127 (by decide) (fun c_127 => ?_) (fun c_127 => ?_)
                · skip
                  have c_127 := x_b0.mp c_127
                  refine lv_aload_n hx hb dX0_look_147 rfl (lv_at hl 3 rfl) ?_
                  refine va_get (D := G.1) (ci := 0) (v := .ref pm) (C := RX0) (T := TX0) (N := 6) hx hb hts hin_X0_look_0 hown hK.1 hP 0 rfl rfl 0 (by decide) (hts (.fieldLink RX0 9 "MixedPredict$Around" "picture" "LMixedPredict$Picture;") (List.mem_cons_of_mem _ (List.mem_append_left _ (List.mem_append_left _ (List.mem_append_left _ (List.mem_of_getElem? (i := 0) rfl)))))) (fun _ h9 => h9) rfl dX0_look_148 ?_
                  refine va_get (D := G.1) (ci := 3) (v := .int (nI md)) (C := RX4) (T := TX4) (N := 8) hx hb hts hin_X0_look_4 hown hK.1 hP 1 rfl rfl 5 (by decide) (hts (.fieldLink RX0 25 "MixedPredict$Picture" "mid" "I") (List.mem_cons_of_mem _ (List.mem_append_left _ (List.mem_append_left _ (List.mem_append_left _ (List.mem_of_getElem? (i := 2) rfl)))))) (fun _ h9 => h9) rfl dX0_look_151 ?_
                  exact hj_6 (nI md) ((show (nI md) = nI (nbC P md x y k) from by rw [nbC]; split <;> first | rfl | omega))
                · skip
                  have c_127 := Decidable.not_not.mp (fun h9 => c_127 (x_b0.mpr h9))
                  refine lv_aload_n hx hb dX0_look_130 rfl (lv_at hl 3 rfl) ?_
                  refine va_get (D := G.1) (ci := 0) (v := .ref pm) (C := RX0) (T := TX0) (N := 6) hx hb hts hin_X0_look_0 hown hK.1 hP 0 rfl rfl 0 (by decide) (hts (.fieldLink RX0 9 "MixedPredict$Around" "picture" "LMixedPredict$Picture;") (List.mem_cons_of_mem _ (List.mem_append_left _ (List.mem_append_left _ (List.mem_append_left _ (List.mem_of_getElem? (i := 0) rfl)))))) (fun _ h9 => h9) rfl dX0_look_131 ?_
                  refine lv_iload_n hx hb dX0_look_134 rfl (lv_at hl 4 rfl) ?_
                  refine lv_iconst (v := 1) hx hb dX0_look_135 (by decide) ?_
                  refine lv_isub hx hb dX0_look_136 ?_
                  refine x_top (y := nI (x - 1)) (pk_sub (a := x) (b := 1) (by omega)) ?_
                  refine lv_iload_n hx hb dX0_look_137 rfl (lv_at hl 5 rfl) ?_
                  refine lv_iconst (v := 1) hx hb dX0_look_138 (by decide) ?_
                  refine lv_isub hx hb dX0_look_139 ?_
                  refine x_top (y := nI (y - 1)) (pk_sub (a := y) (b := 1) (by omega)) ?_
                  refine lv_iload_n hx hb dX0_look_140 rfl (lv_at hl 6 rfl) ?_
                  refine r_fin_i (va_runV (As := [.int (nI (x - 1)), .int (nI (y - 1)), .int (nI k)]) (rest := [.ref ar]) ⟨hx, hb, hml, hown, hts⟩ (c_X4_sample l G pm rs as w h b c md (by first | assumption | omega) f (by first | assumption | omega) (by first | assumption | omega) (x - 1) (y - 1) k (by first | assumption | omega) (by first | assumption | omega) (by first | assumption | omega)) (cwV 3 hts gX0_look_X4_sample rfl rfl rfl (by decide +kernel) ⟨Nat.le_of_ble_eq_true rfl, Nat.le_of_ble_eq_true rfl⟩) (x_preV (r_pre hK hP [1, 2, 3] rfl) hK hP (ci := 3) (q0 := 1) rfl rfl) rfl rfl hl.1 rfl (lv_room (Nat.le_of_ble_eq_true rfl)) dX0_look_141 ⟨Nat.zero_le _, Nat.zero_le _⟩) (fun r_11 hw => ?_)
                  subst hw
                  refine lv_goto (tgt := 154) hx hb dX0_look_144 (by decide) ?_
                  exact hj_6 (nI (P (x - 1) (y - 1) k)) ((show (nI (P (x - 1) (y - 1) k)) = nI (nbC P md x y k) from by rw [nbC]; split <;> first | rfl | omega))
          · skip
            refine lv_if_eq (tgt := 109) hx hb dX0_look_91 (by decide) (fun c_91 => ?_) (fun c_91 => ?_)
            · skip
              have c_91 := x_b0.mp c_91
              refine lv_aload_n hx hb dX0_look_109 rfl (lv_at hl 3 rfl) ?_
              refine va_get (D := G.1) (ci := 0) (v := .ref pm) (C := RX0) (T := TX0) (N := 6) hx hb hts hin_X0_look_0 hown hK.1 hP 0 rfl rfl 0 (by decide) (hts (.fieldLink RX0 9 "MixedPredict$Around" "picture" "LMixedPredict$Picture;") (List.mem_cons_of_mem _ (List.mem_append_left _ (List.mem_append_left _ (List.mem_append_left _ (List.mem_of_getElem? (i := 0) rfl)))))) (fun _ h9 => h9) rfl dX0_look_110 ?_
              refine va_get (D := G.1) (ci := 3) (v := .int (nI md)) (C := RX4) (T := TX4) (N := 8) hx hb hts hin_X0_look_4 hown hK.1 hP 1 rfl rfl 5 (by decide) (hts (.fieldLink RX0 25 "MixedPredict$Picture" "mid" "I") (List.mem_cons_of_mem _ (List.mem_append_left _ (List.mem_append_left _ (List.mem_append_left _ (List.mem_of_getElem? (i := 2) rfl)))))) (fun _ h9 => h9) rfl dX0_look_113 ?_
              exact hj_5 (nI md) ((show (nI md) = nI (nbB P md x y k) from by rw [nbB]; split <;> first | rfl | omega))
            · skip
              have c_91 := Decidable.not_not.mp (fun h9 => c_91 (x_b0.mpr h9))
              refine lv_aload_n hx hb dX0_look_94 rfl (lv_at hl 3 rfl) ?_
              refine va_get (D := G.1) (ci := 0) (v := .ref pm) (C := RX0) (T := TX0) (N := 6) hx hb hts hin_X0_look_0 hown hK.1 hP 0 rfl rfl 0 (by decide) (hts (.fieldLink RX0 9 "MixedPredict$Around" "picture" "LMixedPredict$Picture;") (List.mem_cons_of_mem _ (List.mem_append_left _ (List.mem_append_left _ (List.mem_append_left _ (List.mem_of_getElem? (i := 0) rfl)))))) (fun _ h9 => h9) rfl dX0_look_95 ?_
              refine lv_iload_n hx hb dX0_look_98 rfl (lv_at hl 4 rfl) ?_
              refine lv_iload_n hx hb dX0_look_99 rfl (lv_at hl 5 rfl) ?_
              refine lv_iconst (v := 1) hx hb dX0_look_100 (by decide) ?_
              refine lv_isub hx hb dX0_look_101 ?_
              refine x_top (y := nI (y - 1)) (pk_sub (a := y) (b := 1) (by omega)) ?_
              refine lv_iload_n hx hb dX0_look_102 rfl (lv_at hl 6 rfl) ?_
              refine r_fin_i (va_runV (As := [.int (nI x), .int (nI (y - 1)), .int (nI k)]) (rest := [.ref ar]) ⟨hx, hb, hml, hown, hts⟩ (c_X4_sample l G pm rs as w h b c md (by first | assumption | omega) f (by first | assumption | omega) (by first | assumption | omega) x (y - 1) k (by first | assumption | omega) (by first | assumption | omega) (by first | assumption | omega)) (cwV 3 hts gX0_look_X4_sample rfl rfl rfl (by decide +kernel) ⟨Nat.le_of_ble_eq_true rfl, Nat.le_of_ble_eq_true rfl⟩) (x_preV (r_pre hK hP [1, 2, 3] rfl) hK hP (ci := 3) (q0 := 1) rfl rfl) rfl rfl hl.1 rfl (lv_room (Nat.le_of_ble_eq_true rfl)) dX0_look_103 ⟨Nat.zero_le _, Nat.zero_le _⟩) (fun r_12 hw => ?_)
              subst hw
              refine lv_goto (tgt := 116) hx hb dX0_look_106 (by decide) ?_
              exact hj_5 (nI (P x (y - 1) k)) ((show (nI (P x (y - 1) k)) = nI (nbB P md x y k) from by rw [nbB]; split <;> first | rfl | omega))
        · skip
          refine lv_if_eq (tgt := 78) hx hb dX0_look_60 (by decide) (fun c_60 => ?_) (fun c_60 => ?_)
          · skip
            have c_60 := x_b0.mp c_60
            refine lv_aload_n hx hb dX0_look_78 rfl (lv_at hl 3 rfl) ?_
            refine va_get (D := G.1) (ci := 0) (v := .ref pm) (C := RX0) (T := TX0) (N := 6) hx hb hts hin_X0_look_0 hown hK.1 hP 0 rfl rfl 0 (by decide) (hts (.fieldLink RX0 9 "MixedPredict$Around" "picture" "LMixedPredict$Picture;") (List.mem_cons_of_mem _ (List.mem_append_left _ (List.mem_append_left _ (List.mem_append_left _ (List.mem_of_getElem? (i := 0) rfl)))))) (fun _ h9 => h9) rfl dX0_look_79 ?_
            refine va_get (D := G.1) (ci := 3) (v := .int (nI md)) (C := RX4) (T := TX4) (N := 8) hx hb hts hin_X0_look_4 hown hK.1 hP 1 rfl rfl 5 (by decide) (hts (.fieldLink RX0 25 "MixedPredict$Picture" "mid" "I") (List.mem_cons_of_mem _ (List.mem_append_left _ (List.mem_append_left _ (List.mem_append_left _ (List.mem_of_getElem? (i := 2) rfl)))))) (fun _ h9 => h9) rfl dX0_look_82 ?_
            exact hj_4 (nI md) ((show (nI md) = nI (nbA P md x y k) from by rw [nbA]; split <;> first | rfl | omega))
          · skip
            have c_60 := Decidable.not_not.mp (fun h9 => c_60 (x_b0.mpr h9))
            refine lv_aload_n hx hb dX0_look_63 rfl (lv_at hl 3 rfl) ?_
            refine va_get (D := G.1) (ci := 0) (v := .ref pm) (C := RX0) (T := TX0) (N := 6) hx hb hts hin_X0_look_0 hown hK.1 hP 0 rfl rfl 0 (by decide) (hts (.fieldLink RX0 9 "MixedPredict$Around" "picture" "LMixedPredict$Picture;") (List.mem_cons_of_mem _ (List.mem_append_left _ (List.mem_append_left _ (List.mem_append_left _ (List.mem_of_getElem? (i := 0) rfl)))))) (fun _ h9 => h9) rfl dX0_look_64 ?_
            refine lv_iload_n hx hb dX0_look_67 rfl (lv_at hl 4 rfl) ?_
            refine lv_iconst (v := 1) hx hb dX0_look_68 (by decide) ?_
            refine lv_isub hx hb dX0_look_69 ?_
            refine x_top (y := nI (x - 1)) (pk_sub (a := x) (b := 1) (by omega)) ?_
            refine lv_iload_n hx hb dX0_look_70 rfl (lv_at hl 5 rfl) ?_
            refine lv_iload_n hx hb dX0_look_71 rfl (lv_at hl 6 rfl) ?_
            refine r_fin_i (va_runV (As := [.int (nI (x - 1)), .int (nI y), .int (nI k)]) (rest := [.ref ar]) ⟨hx, hb, hml, hown, hts⟩ (c_X4_sample l G pm rs as w h b c md (by first | assumption | omega) f (by first | assumption | omega) (by first | assumption | omega) (x - 1) y k (by first | assumption | omega) (by first | assumption | omega) (by first | assumption | omega)) (cwV 3 hts gX0_look_X4_sample rfl rfl rfl (by decide +kernel) ⟨Nat.le_of_ble_eq_true rfl, Nat.le_of_ble_eq_true rfl⟩) (x_preV (r_pre hK hP [1, 2, 3] rfl) hK hP (ci := 3) (q0 := 1) rfl rfl) rfl rfl hl.1 rfl (lv_room (Nat.le_of_ble_eq_true rfl)) dX0_look_72 ⟨Nat.zero_le _, Nat.zero_le _⟩) (fun r_13 hw => ?_)
            subst hw
            refine lv_goto (tgt := 85) hx hb dX0_look_75 (by decide) ?_
            exact hj_4 (nI (P (x - 1) y k)) ((show (nI (P (x - 1) y k)) = nI (nbA P md x y k) from by rw [nbA]; split <;> first | rfl | omega))
      · skip
        refine lv_icmp_ge (tgt := 54) hx hb dX0_look_34 (by decide) (fun c_34 => ?_) (fun c_34 => ?_)
        · skip
          have c_34 : 7 ≤ x % 8 := (nI_leI (a := 7) (b := x % 8) (by omega) (by omega)).mp c_34
          refine lv_iconst (v := 0) hx hb dX0_look_54 (by decide) ?_
          exact hj_3 0 ((show 0 = if x % 8 < 7 ∧ x + 1 < w then 1 else 0 from by first | rfl | (split <;> first | rfl | omega)))
        · skip
          have c_34 : ¬ (7 ≤ x % 8) := fun h9 => c_34 ((nI_leI (a := 7) (b := x % 8) (by omega) (by omega)).mpr h9)
          refine lv_iload_n hx hb dX0_look_37 rfl (lv_at hl 3 rfl) ?_
          refine lv_iconst (v := 1) hx hb dX0_look_38 (by decide) ?_
          refine lv_iadd hx hb dX0_look_39 ?_
          refine x_top (y := nI (x + 1)) (nI_add _ _) ?_
          refine lv_aload_n hx hb dX0_look_40 rfl (lv_at hl 2 rfl) ?_
          refine va_get (D := G.1) (ci := 0) (v := .ref pm) (C := RX0) (T := TX0) (N := 6) hx hb hts hin_X0_look_0 hown hK.1 hP 0 rfl rfl 0 (by decide) (hts (.fieldLink RX0 9 "MixedPredict$Around" "picture" "LMixedPredict$Picture;") (List.mem_cons_of_mem _ (List.mem_append_left _ (List.mem_append_left _ (List.mem_append_left _ (List.mem_of_getElem? (i := 0) rfl)))))) (fun _ h9 => h9) rfl dX0_look_41 ?_
          refine va_get (D := G.1) (ci := 3) (v := .int (nI w)) (C := RX4) (T := TX4) (N := 8) hx hb hts hin_X0_look_4 hown hK.1 hP 1 rfl rfl 0 (by decide) (hts (.fieldLink RX0 15 "MixedPredict$Picture" "width" "I") (List.mem_cons_of_mem _ (List.mem_append_left _ (List.mem_append_left _ (List.mem_append_left _ (List.mem_of_getElem? (i := 1) rfl)))))) (fun _ h9 => h9) rfl dX0_look_44 ?_
          refine lv_icmp_ge (tgt := 54) hx hb dX0_look_47 (by decide) (fun c_47 => ?_) (fun c_47 => ?_)
          · skip
            have c_47 : w ≤ x + 1 := (nI_leI (a := w) (b := x + 1) (by omega) (by omega)).mp c_47
            refine lv_iconst (v := 0) hx hb dX0_look_54 (by decide) ?_
            exact hj_3 0 ((show 0 = if x % 8 < 7 ∧ x + 1 < w then 1 else 0 from by first | rfl | (split <;> first | rfl | omega)))
          · skip
            have c_47 : ¬ (w ≤ x + 1) := fun h9 => c_47 ((nI_leI (a := w) (b := x + 1) (by omega) (by omega)).mpr h9)
            refine lv_iconst (v := 1) hx hb dX0_look_50 (by decide) ?_
            refine lv_goto (tgt := 55) hx hb dX0_look_51 (by decide) ?_
            exact hj_3 1 ((show 1 = if x % 8 < 7 ∧ x + 1 < w then 1 else 0 from by first | rfl | (split <;> first | rfl | omega)))
    · skip
      refine lv_if_le (tgt := 25) hx hb dX0_look_18 (by decide) (fun c_18 => ?_) (fun c_18 => ?_)
      · skip
        have c_18 : y % 8 ≤ 0 := (nI_leI (a := y % 8) (b := 0) (by omega) (by omega)).mp c_18
        refine lv_iconst (v := 0) hx hb dX0_look_25 (by decide) ?_
        exact hj_2 0 ((show 0 = if 0 < y % 8 then 1 else 0 from by first | rfl | (split <;> first | rfl | omega)))
      · skip
        have c_18 : ¬ (y % 8 ≤ 0) := fun h9 => c_18 ((nI_leI (a := y % 8) (b := 0) (by omega) (by omega)).mpr h9)
        refine lv_iconst (v := 1) hx hb dX0_look_21 (by decide) ?_
        refine lv_goto (tgt := 26) hx hb dX0_look_22 (by decide) ?_
        exact hj_2 1 ((show 1 = if 0 < y % 8 then 1 else 0 from by first | rfl | (split <;> first | rfl | omega)))
  · skip
    refine lv_if_le (tgt := 11) hx hb dX0_look_4 (by decide) (fun c_4 => ?_) (fun c_4 => ?_)
    · skip
      have c_4 : x % 8 ≤ 0 := (nI_leI (a := x % 8) (b := 0) (by omega) (by omega)).mp c_4
      refine lv_iconst (v := 0) hx hb dX0_look_11 (by decide) ?_
      exact hj_1 0 ((show 0 = if 0 < x % 8 then 1 else 0 from by first | rfl | (split <;> first | rfl | omega)))
    · skip
      have c_4 : ¬ (x % 8 ≤ 0) := fun h9 => c_4 ((nI_leI (a := x % 8) (b := 0) (by omega) (by omega)).mpr h9)
      refine lv_iconst (v := 1) hx hb dX0_look_7 (by decide) ?_
      refine lv_goto (tgt := 12) hx hb dX0_look_8 (by decide) ?_
      exact hj_1 1 ((show 1 = if 0 < x % 8 then 1 else 0 from by first | rfl | (split <;> first | rfl | omega)))

set_option maxHeartbeats 4000000 in
set_option maxRecDepth 100000 in
theorem c_X0_expected (l : Launch) (G : GG) (ar : Nat) (pm rs : Nat) (w h b c md : Nat) (hd : DIM w h b c md) (a0 b0 c0 d0 e0 way : Nat) (hway : way < 9) : Met l yX0_expected wsX0_expected ({ frames := 2, cells := 0, slots := 0, locals := 43 } : Room) (r_Pc G [.ref ar, .int (nI way)] [(ar, .inr (0, [.ref pm, .int (nI a0), .int (nI b0), .int (nI c0), .int (nI d0), .int (nI e0)])), (pm, .inr (3, [.int (nI w), .int (nI h), .int (nI b), .int (nI c), .int (nI (2 * md - 1)), .int (nI md), .int (nI ((w + 7) / 8)), .ref rs]))]) (vp_Si (fun r => r = (exq a0 b0 c0 d0 e0 (2 * md - 1) way))) 0 0 (fun _ => False) := by
  refine r_ofW (cc := cX0_expected) (maxL := 2) (ret := (some .int)) (by decide) rfl (Nat.le_of_ble_eq_true rfl) ?_
  intro pZ eZ sZ mZ bZ tZ cZ hx hb hr hts hown hlocks hml hK H hH hP ls hl
  have hown : sZ.vm.findClass RX0 = some mZ.cls := hown
  have hl : lv_has ls 2 [(0, .ref ar), (1, .int (nI way))] := hl
  refine lv_iload_n hx hb dX0_expected_0 rfl (lv_at hl 1 rfl) ?_
  rcases (show way = 0 ∨ way = 1 ∨ way = 2 ∨ way = 3 ∨ way = 4 ∨ way = 5 ∨ way = 6 ∨ way = 7 ∨ way = 8 by omega) with rfl | rfl | rfl | rfl | rfl | rfl | rfl | rfl | rfl
  · skip
    refine lv_tableIn (off := 47) (tgt := 48) hx hb dX0_expected_1 (by decide) (by decide) (by decide) (by decide) ?_
    refine lv_aload_n hx hb dX0_expected_48 rfl (lv_at hl 0 rfl) ?_
    refine va_get (D := G.1) (ci := 0) (v := .int (nI a0)) (C := RX0) (T := TX0) (N := 6) hx hb hts hin_X0_expected_0 hown hK.1 hP 0 rfl rfl 1 (by decide) (hts (.fieldLink RX0 28 "MixedPredict$Around" "a" "I") (List.mem_cons_of_mem _ (List.mem_append_left _ (List.mem_append_left _ (List.mem_of_getElem? (i := 0) rfl))))) (fun _ h9 => h9) rfl dX0_expected_49 ?_
    exact r_iret hx hb hr hlocks (by simp [exq]) hH dX0_expected_52
  · skip
    refine lv_tableIn (off := 52) (tgt := 53) hx hb dX0_expected_1 (by decide) (by decide) (by decide) (by decide) ?_
    refine lv_aload_n hx hb dX0_expected_53 rfl (lv_at hl 0 rfl) ?_
    refine va_get (D := G.1) (ci := 0) (v := .int (nI b0)) (C := RX0) (T := TX0) (N := 6) hx hb hts hin_X0_expected_0 hown hK.1 hP 0 rfl rfl 2 (by decide) (hts (.fieldLink RX0 31 "MixedPredict$Around" "b" "I") (List.mem_cons_of_mem _ (List.mem_append_left _ (List.mem_append_left _ (List.mem_of_getElem? (i := 1) rfl))))) (fun _ h9 => h9) rfl dX0_expected_54 ?_
    exact r_iret hx hb hr hlocks (by simp [exq]) hH dX0_expected_57
  · skip
    refine lv_tableIn (off := 57) (tgt := 58) hx hb dX0_expected_1 (by decide) (by decide) (by decide) (by decide) ?_
    refine lv_aload_n hx hb dX0_expected_58 rfl (lv_at hl 0 rfl) ?_
    refine va_get (D := G.1) (ci := 0) (v := .int (nI c0)) (C := RX0) (T := TX0) (N := 6) hx hb hts hin_X0_expected_0 hown hK.1 hP 0 rfl rfl 3 (by decide) (hts (.fieldLink RX0 34 "MixedPredict$Around" "c" "I") (List.mem_cons_of_mem _ (List.mem_append_left _ (List.mem_append_left _ (List.mem_of_getElem? (i := 2) rfl))))) (fun _ h9 => h9) rfl dX0_expected_59 ?_
    exact r_iret hx hb hr hlocks (by simp [exq]) hH dX0_expected_62
  · skip
    refine lv_tableIn (off := 62) (tgt := 63) hx hb dX0_expected_1 (by decide) (by decide) (by decide) (by decide) ?_
    refine lv_aload_n hx hb dX0_expected_63 rfl (lv_at hl 0 rfl) ?_
    refine va_get (D := G.1) (ci := 0) (v := .int (nI d0)) (C := RX0) (T := TX0) (N := 6) hx hb hts hin_X0_expected_0 hown hK.1 hP 0 rfl rfl 4 (by decide) (hts (.fieldLink RX0 37 "MixedPredict$Around" "d" "I") (List.mem_cons_of_mem _ (List.mem_append_left _ (List.mem_append_left _ (List.mem_of_getElem? (i := 3) rfl))))) (fun _ h9 => h9) rfl dX0_expected_64 ?_
    exact r_iret hx hb hr hlocks (by simp [exq]) hH dX0_expected_67
  · skip
    refine lv_tableIn (off := 67) (tgt := 68) hx hb dX0_expected_1 (by decide) (by decide) (by decide) (by decide) ?_
    refine lv_aload_n hx hb dX0_expected_68 rfl (lv_at hl 0 rfl) ?_
    refine va_get (D := G.1) (ci := 0) (v := .ref pm) (C := RX0) (T := TX0) (N := 6) hx hb hts hin_X0_expected_0 hown hK.1 hP 0 rfl rfl 0 (by decide) (hts (.fieldLink RX0 9 "MixedPredict$Around" "picture" "LMixedPredict$Picture;") (List.mem_cons_of_mem _ (List.mem_append_left _ (List.mem_append_left _ (List.mem_of_getElem? (i := 4) rfl))))) (fun _ h9 => h9) rfl dX0_expected_69 ?_
    refine lv_aload_n hx hb dX0_expected_72 rfl (lv_at hl 0 rfl) ?_
    refine va_get (D := G.1) (ci := 0) (v := .int (nI a0)) (C := RX0) (T := TX0) (N := 6) hx hb hts hin_X0_expected_0 hown hK.1 hP 0 rfl rfl 1 (by decide) (hts (.fieldLink RX0 28 "MixedPredict$Around" "a" "I") (List.mem_cons_of_mem _ (List.mem_append_left _ (List.mem_append_left _ (List.mem_of_getElem? (i := 0) rfl))))) (fun _ h9 => h9) rfl dX0_expected_73 ?_
    refine lv_aload_n hx hb dX0_expected_76 rfl (lv_at hl 0 rfl) ?_
    refine va_get (D := G.1) (ci := 0) (v := .int (nI b0)) (C := RX0) (T := TX0) (N := 6) hx hb hts hin_X0_expected_0 hown hK.1 hP 0 rfl rfl 2 (by decide) (hts (.fieldLink RX0 31 "MixedPredict$Around" "b" "I") (List.mem_cons_of_mem _ (List.mem_append_left _ (List.mem_append_left _ (List.mem_of_getElem? (i := 1) rfl))))) (fun _ h9 => h9) rfl dX0_expected_77 ?_
    refine lv_iadd hx hb dX0_expected_80 ?_
    refine x_top (y := nI (a0 + b0)) (nI_add _ _) ?_
    refine lv_aload_n hx hb dX0_expected_81 rfl (lv_at hl 0 rfl) ?_
    refine va_get (D := G.1) (ci := 0) (v := .int (nI c0)) (C := RX0) (T := TX0) (N := 6) hx hb hts hin_X0_expected_0 hown hK.1 hP 0 rfl rfl 3 (by decide) (hts (.fieldLink RX0 34 "MixedPredict$Around" "c" "I") (List.mem_cons_of_mem _ (List.mem_append_left _ (List.mem_append_left _ (List.mem_of_getElem? (i := 2) rfl))))) (fun _ h9 => h9) rfl dX0_expected_82 ?_
    refine lv_isub hx hb dX0_expected_85 ?_
    refine r_fin_i (va_runV (As := [.int ((nI (a0 + b0)) - (nI c0))]) (rest := []) ⟨hx, hb, hml, hown, hts⟩ (c_X4_inRange l G pm rs w h b c md (by first | assumption | omega) ((nI (a0 + b0)) - (nI c0))) (cwV 1 hts gX0_expected_X4_inRange rfl rfl rfl (by decide +kernel) ⟨Nat.le_of_ble_eq_true rfl, Nat.le_of_ble_eq_true rfl⟩) (x_preV (r_pre hK hP [1] rfl) hK hP (ci := 3) (q0 := 1) rfl rfl) rfl rfl hl.1 rfl (lv_room (Nat.le_of_ble_eq_true rfl)) dX0_expected_86 ⟨Nat.zero_le _, Nat.zero_le _⟩) (fun r_1 hw => ?_)
    subst hw
    exact r_iret hx hb hr hlocks (by simp [exq]) hH dX0_expected_89
  · skip
    refine lv_tableIn (off := 89) (tgt := 90) hx hb dX0_expected_1 (by decide) (by decide) (by decide) (by decide) ?_
    refine lv_aload_n hx hb dX0_expected_90 rfl (lv_at hl 0 rfl) ?_
    refine va_get (D := G.1) (ci := 0) (v := .int (nI a0)) (C := RX0) (T := TX0) (N := 6) hx hb hts hin_X0_expected_0 hown hK.1 hP 0 rfl rfl 1 (by decide) (hts (.fieldLink RX0 28 "MixedPredict$Around" "a" "I") (List.mem_cons_of_mem _ (List.mem_append_left _ (List.mem_append_left _ (List.mem_of_getElem? (i := 0) rfl))))) (fun _ h9 => h9) rfl dX0_expected_91 ?_
    refine lv_aload_n hx hb dX0_expected_94 rfl (lv_at hl 0 rfl) ?_
    refine va_get (D := G.1) (ci := 0) (v := .int (nI b0)) (C := RX0) (T := TX0) (N := 6) hx hb hts hin_X0_expected_0 hown hK.1 hP 0 rfl rfl 2 (by decide) (hts (.fieldLink RX0 31 "MixedPredict$Around" "b" "I") (List.mem_cons_of_mem _ (List.mem_append_left _ (List.mem_append_left _ (List.mem_of_getElem? (i := 1) rfl))))) (fun _ h9 => h9) rfl dX0_expected_95 ?_
    refine lv_iadd hx hb dX0_expected_98 ?_
    refine x_top (y := nI (a0 + b0)) (nI_add _ _) ?_
    refine lv_iconst (v := 1) hx hb dX0_expected_99 (by decide) ?_
    refine lv_ishr hx hb dX0_expected_100 ?_
    exact r_iret hx hb hr hlocks (by simp [exq]) hH dX0_expected_101
  · skip
    refine lv_tableIn (off := 101) (tgt := 102) hx hb dX0_expected_1 (by decide) (by decide) (by decide) (by decide) ?_
    refine lv_aload_n hx hb dX0_expected_102 rfl (lv_at hl 0 rfl) ?_
    refine va_get (D := G.1) (ci := 0) (v := .ref pm) (C := RX0) (T := TX0) (N := 6) hx hb hts hin_X0_expected_0 hown hK.1 hP 0 rfl rfl 0 (by decide) (hts (.fieldLink RX0 9 "MixedPredict$Around" "picture" "LMixedPredict$Picture;") (List.mem_cons_of_mem _ (List.mem_append_left _ (List.mem_append_left _ (List.mem_of_getElem? (i := 4) rfl))))) (fun _ h9 => h9) rfl dX0_expected_103 ?_
    refine lv_aload_n hx hb dX0_expected_106 rfl (lv_at hl 0 rfl) ?_
    refine va_get (D := G.1) (ci := 0) (v := .int (nI a0)) (C := RX0) (T := TX0) (N := 6) hx hb hts hin_X0_expected_0 hown hK.1 hP 0 rfl rfl 1 (by decide) (hts (.fieldLink RX0 28 "MixedPredict$Around" "a" "I") (List.mem_cons_of_mem _ (List.mem_append_left _ (List.mem_append_left _ (List.mem_of_getElem? (i := 0) rfl))))) (fun _ h9 => h9) rfl dX0_expected_107 ?_
    refine lv_aload_n hx hb dX0_expected_110 rfl (lv_at hl 0 rfl) ?_
    refine va_get (D := G.1) (ci := 0) (v := .int (nI b0)) (C := RX0) (T := TX0) (N := 6) hx hb hts hin_X0_expected_0 hown hK.1 hP 0 rfl rfl 2 (by decide) (hts (.fieldLink RX0 31 "MixedPredict$Around" "b" "I") (List.mem_cons_of_mem _ (List.mem_append_left _ (List.mem_append_left _ (List.mem_of_getElem? (i := 1) rfl))))) (fun _ h9 => h9) rfl dX0_expected_111 ?_
    refine lv_aload_n hx hb dX0_expected_114 rfl (lv_at hl 0 rfl) ?_
    refine va_get (D := G.1) (ci := 0) (v := .int (nI c0)) (C := RX0) (T := TX0) (N := 6) hx hb hts hin_X0_expected_0 hown hK.1 hP 0 rfl rfl 3 (by decide) (hts (.fieldLink RX0 34 "MixedPredict$Around" "c" "I") (List.mem_cons_of_mem _ (List.mem_append_left _ (List.mem_append_left _ (List.mem_of_getElem? (i := 2) rfl))))) (fun _ h9 => h9) rfl dX0_expected_115 ?_
    refine lv_isub hx hb dX0_expected_118 ?_
    refine lv_iconst (v := 1) hx hb dX0_expected_119 (by decide) ?_
    refine lv_ishr hx hb dX0_expected_120 ?_
    refine lv_iadd hx hb dX0_expected_121 ?_
    refine r_fin_i (va_runV (As := [.int ((nI a0) + (((nI b0) - (nI c0)) >>> (1 &&& 31)))]) (rest := []) ⟨hx, hb, hml, hown, hts⟩ (c_X4_inRange l G pm rs w h b c md (by first | assumption | omega) ((nI a0) + (((nI b0) - (nI c0)) >>> (1 &&& 31)))) (cwV 1 hts gX0_expected_X4_inRange rfl rfl rfl (by decide +kernel) ⟨Nat.le_of_ble_eq_true rfl, Nat.le_of_ble_eq_true rfl⟩) (x_preV (r_pre hK hP [1] rfl) hK hP (ci := 3) (q0 := 1) rfl rfl) rfl rfl hl.1 rfl (lv_room (Nat.le_of_ble_eq_true rfl)) dX0_expected_122 ⟨Nat.zero_le _, Nat.zero_le _⟩) (fun r_2 hw => ?_)
    subst hw
    exact r_iret hx hb hr hlocks (by simp [exq]) hH dX0_expected_125
  · skip
    refine lv_tableIn (off := 125) (tgt := 126) hx hb dX0_expected_1 (by decide) (by decide) (by decide) (by decide) ?_
    refine lv_aload_n hx hb dX0_expected_126 rfl (lv_at hl 0 rfl) ?_
    refine va_get (D := G.1) (ci := 0) (v := .ref pm) (C := RX0) (T := TX0) (N := 6) hx hb hts hin_X0_expected_0 hown hK.1 hP 0 rfl rfl 0 (by decide) (hts (.fieldLink RX0 9 "MixedPredict$Around" "picture" "LMixedPredict$Picture;") (List.mem_cons_of_mem _ (List.mem_append_left _ (List.mem_append_left _ (List.mem_of_getElem? (i := 4) rfl))))) (fun _ h9 => h9) rfl dX0_expected_127 ?_
    refine lv_aload_n hx hb dX0_expected_130 rfl (lv_at hl 0 rfl) ?_
    refine va_get (D := G.1) (ci := 0) (v := .int (nI b0)) (C := RX0) (T := TX0) (N := 6) hx hb hts hin_X0_expected_0 hown hK.1 hP 0 rfl rfl 2 (by decide) (hts (.fieldLink RX0 31 "MixedPredict$Around" "b" "I") (List.mem_cons_of_mem _ (List.mem_append_left _ (List.mem_append_left _ (List.mem_of_getElem? (i := 1) rfl))))) (fun _ h9 => h9) rfl dX0_expected_131 ?_
    refine lv_aload_n hx hb dX0_expected_134 rfl (lv_at hl 0 rfl) ?_
    refine va_get (D := G.1) (ci := 0) (v := .int (nI a0)) (C := RX0) (T := TX0) (N := 6) hx hb hts hin_X0_expected_0 hown hK.1 hP 0 rfl rfl 1 (by decide) (hts (.fieldLink RX0 28 "MixedPredict$Around" "a" "I") (List.mem_cons_of_mem _ (List.mem_append_left _ (List.mem_append_left _ (List.mem_of_getElem? (i := 0) rfl))))) (fun _ h9 => h9) rfl dX0_expected_135 ?_
    refine lv_aload_n hx hb dX0_expected_138 rfl (lv_at hl 0 rfl) ?_
    refine va_get (D := G.1) (ci := 0) (v := .int (nI c0)) (C := RX0) (T := TX0) (N := 6) hx hb hts hin_X0_expected_0 hown hK.1 hP 0 rfl rfl 3 (by decide) (hts (.fieldLink RX0 34 "MixedPredict$Around" "c" "I") (List.mem_cons_of_mem _ (List.mem_append_left _ (List.mem_append_left _ (List.mem_of_getElem? (i := 2) rfl))))) (fun _ h9 => h9) rfl dX0_expected_139 ?_
    refine lv_isub hx hb dX0_expected_142 ?_
    refine lv_iconst (v := 1) hx hb dX0_expected_143 (by decide) ?_
    refine lv_ishr hx hb dX0_expected_144 ?_
    refine lv_iadd hx hb dX0_expected_145 ?_
    refine r_fin_i (va_runV (As := [.int ((nI b0) + (((nI a0) - (nI c0)) >>> (1 &&& 31)))]) (rest := []) ⟨hx, hb, hml, hown, hts⟩ (c_X4_inRange l G pm rs w h b c md (by first | assumption | omega) ((nI b0) + (((nI a0) - (nI c0)) >>> (1 &&& 31)))) (cwV 1 hts gX0_expected_X4_inRange rfl rfl rfl (by decide +kernel) ⟨Nat.le_of_ble_eq_true rfl, Nat.le_of_ble_eq_true rfl⟩) (x_preV (r_pre hK hP [1] rfl) hK hP (ci := 3) (q0 := 1) rfl rfl) rfl rfl hl.1 rfl (lv_room (Nat.le_of_ble_eq_true rfl)) dX0_expected_146 ⟨Nat.zero_le _, Nat.zero_le _⟩) (fun r_3 hw => ?_)
    subst hw
    exact r_iret hx hb hr hlocks (by simp [exq]) hH dX0_expected_149
  · skip
    refine lv_tableOut (tgt := 150) hx hb dX0_expected_1 (Or.inr (by decide)) (by decide) ?_
    refine lv_aload_n hx hb dX0_expected_150 rfl (lv_at hl 0 rfl) ?_
    refine va_get (D := G.1) (ci := 0) (v := .int (nI e0)) (C := RX0) (T := TX0) (N := 6) hx hb hts hin_X0_expected_0 hown hK.1 hP 0 rfl rfl 5 (by decide) (hts (.fieldLink RX0 40 "MixedPredict$Around" "before" "I") (List.mem_cons_of_mem _ (List.mem_append_left _ (List.mem_append_left _ (List.mem_of_getElem? (i := 5) rfl))))) (fun _ h9 => h9) rfl dX0_expected_151 ?_
    exact r_iret hx hb hr hlocks (by simp [exq]) hH dX0_expected_154

set_option maxHeartbeats 4000000 in
set_option maxRecDepth 100000 in
theorem c_X0_texture (l : Launch) (G : GG) (ar pm a0 b0 c0 d0 e0 : Nat) (ha : a0 < 2 ^ 28) (hb0 : b0 < 2 ^ 28) (hc : c0 < 2 ^ 28) : Met l yX0_texture wsX0_texture ({ frames := 1, cells := 0, slots := 0, locals := 15 } : Room) (r_Pc G [.ref ar] [(ar, .inr (0, [.ref pm, .int (nI a0), .int (nI b0), .int (nI c0), .int (nI d0), .int (nI e0)]))]) (vp_Si (fun r => r = (nI (tex a0 b0 c0)))) 0 0 (fun _ => False) := by
  refine r_ofW (cc := cX0_texture) (maxL := 1) (ret := (some .int)) (by decide) rfl (Nat.le_of_ble_eq_true rfl) ?_
  intro pZ eZ sZ mZ bZ tZ cZ hx hb hr hts hown hlocks hml hK H hH hP ls hl
  have hown : sZ.vm.findClass RX0 = some mZ.cls := hown
  have hl : lv_has ls 1 [(0, .ref ar)] := hl
  have q1 : dst a0 c0 < 2 ^ 29 := by simp only [dst]; omega
  have q2 : dst b0 c0 < 2 ^ 29 := by simp only [dst]; omega
  refine lv_iconst (v := 3) hx hb dX0_texture_0 (by decide) ?_
  refine lv_aload_n hx hb dX0_texture_1 rfl (lv_at hl 0 rfl) ?_
  refine va_get (D := G.1) (ci := 0) (v := .int (nI a0)) (C := RX0) (T := TX0) (N := 6) hx hb hts hin_X0_texture_0 hown hK.1 hP 0 rfl rfl 1 (by decide) (hts (.fieldLink RX0 28 "MixedPredict$Around" "a" "I") (List.mem_cons_of_mem _ (List.mem_append_left _ (List.mem_of_getElem? (i := 0) rfl)))) (fun _ h9 => h9) rfl dX0_texture_2 ?_
  refine lv_aload_n hx hb dX0_texture_5 rfl (lv_at hl 0 rfl) ?_
  refine va_get (D := G.1) (ci := 0) (v := .int (nI c0)) (C := RX0) (T := TX0) (N := 6) hx hb hts hin_X0_texture_0 hown hK.1 hP 0 rfl rfl 3 (by decide) (hts (.fieldLink RX0 34 "MixedPredict$Around" "c" "I") (List.mem_cons_of_mem _ (List.mem_append_left _ (List.mem_of_getElem? (i := 1) rfl)))) (fun _ h9 => h9) rfl dX0_texture_6 ?_
  refine lv_isub hx hb dX0_texture_9 ?_
  refine va_mabs hx hb (hml.trans hl.1.symm) hown (hts (.methodLink RX0 47 Lib.Math.abs.name) (List.mem_cons_of_mem _ (List.mem_append_left _ (List.mem_of_getElem? (i := 2) rfl)))) (hts (.static Lib.Math.abs.name) (List.mem_cons_of_mem _ (List.mem_append_left _ (List.mem_of_getElem? (i := 3) rfl)))) (hts (.initialized "java/lang/Math") (List.mem_cons_of_mem _ (List.mem_append_left _ (List.mem_of_getElem? (i := 4) rfl)))) (hts (.code Lib.Math.abs.name Lib.Math.abs.code 1 (some .int)) (List.mem_cons_of_mem _ (List.mem_append_left _ (List.mem_of_getElem? (i := 5) rfl)))) (Nat.le_of_ble_eq_true rfl) (Nat.le_of_ble_eq_true rfl) (Nat.zero_le _) (Nat.zero_le _) dX0_texture_10 ?_
  refine x_top (y := nI (dst a0 c0)) (mm_abs (by omega) (by omega)) ?_
  refine lv_aload_n hx hb dX0_texture_13 rfl (lv_at hl 0 rfl) ?_
  refine va_get (D := G.1) (ci := 0) (v := .int (nI b0)) (C := RX0) (T := TX0) (N := 6) hx hb hts hin_X0_texture_0 hown hK.1 hP 0 rfl rfl 2 (by decide) (hts (.fieldLink RX0 31 "MixedPredict$Around" "b" "I") (List.mem_cons_of_mem _ (List.mem_append_left _ (List.mem_of_getElem? (i := 6) rfl)))) (fun _ h9 => h9) rfl dX0_texture_14 ?_
  refine lv_aload_n hx hb dX0_texture_17 rfl (lv_at hl 0 rfl) ?_
  refine va_get (D := G.1) (ci := 0) (v := .int (nI c0)) (C := RX0) (T := TX0) (N := 6) hx hb hts hin_X0_texture_0 hown hK.1 hP 0 rfl rfl 3 (by decide) (hts (.fieldLink RX0 34 "MixedPredict$Around" "c" "I") (List.mem_cons_of_mem _ (List.mem_append_left _ (List.mem_of_getElem? (i := 1) rfl)))) (fun _ h9 => h9) rfl dX0_texture_18 ?_
  refine lv_isub hx hb dX0_texture_21 ?_
  refine va_mabs hx hb (hml.trans hl.1.symm) hown (hts (.methodLink RX0 47 Lib.Math.abs.name) (List.mem_cons_of_mem _ (List.mem_append_left _ (List.mem_of_getElem? (i := 2) rfl)))) (hts (.static Lib.Math.abs.name) (List.mem_cons_of_mem _ (List.mem_append_left _ (List.mem_of_getElem? (i := 3) rfl)))) (hts (.initialized "java/lang/Math") (List.mem_cons_of_mem _ (List.mem_append_left _ (List.mem_of_getElem? (i := 4) rfl)))) (hts (.code Lib.Math.abs.name Lib.Math.abs.code 1 (some .int)) (List.mem_cons_of_mem _ (List.mem_append_left _ (List.mem_of_getElem? (i := 5) rfl)))) (Nat.le_of_ble_eq_true rfl) (Nat.le_of_ble_eq_true rfl) (Nat.zero_le _) (Nat.zero_le _) dX0_texture_22 ?_
  refine x_top (y := nI (dst b0 c0)) (mm_abs (by omega) (by omega)) ?_
  refine lv_iadd hx hb dX0_texture_25 ?_
  refine x_top (y := nI (dst a0 c0 + (dst b0 c0))) (nI_add _ _) ?_
  refine lv_iconst (v := 4) hx hb dX0_texture_26 (by decide) ?_
  refine lv_idiv hx hb dX0_texture_27 (by decide) ?_
  refine x_top (y := nI ((dst a0 c0 + (dst b0 c0)) / 4)) (pk_div (a := dst a0 c0 + (dst b0 c0)) (d := 4) (by omega) (by omega) (by omega)) ?_
  refine va_mmin hx hb (hml.trans hl.1.symm) hown (hts (.methodLink RX0 52 Lib.Math.min.name) (List.mem_cons_of_mem _ (List.mem_append_left _ (List.mem_of_getElem? (i := 7) rfl)))) (hts (.static Lib.Math.min.name) (List.mem_cons_of_mem _ (List.mem_append_left _ (List.mem_of_getElem? (i := 8) rfl)))) (hts (.initialized "java/lang/Math") (List.mem_cons_of_mem _ (List.mem_append_left _ (List.mem_of_getElem? (i := 4) rfl)))) (hts (.code Lib.Math.min.name Lib.Math.min.code 2 (some .int)) (List.mem_cons_of_mem _ (List.mem_append_left _ (List.mem_of_getElem? (i := 9) rfl)))) (Nat.le_of_ble_eq_true rfl) (Nat.le_of_ble_eq_true rfl) (Nat.zero_le _) (Nat.zero_le _) dX0_texture_28 ?_
  refine x_top (y := nI (min 3 ((dst a0 c0 + (dst b0 c0)) / 4))) (mm_min (a := 3) (b := (dst a0 c0 + (dst b0 c0)) / 4) (by omega) (by omega)) ?_
  refine x_top (y := nI (tex a0 b0 c0)) (rfl) ?_
  exact r_iret hx hb hr hlocks (rfl) hH dX0_texture_31
