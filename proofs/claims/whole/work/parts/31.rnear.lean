theorem hin_X11_isPlace_11 : ∀ w ∈ u_ws RX11 TX11 32, w ∈ wsX11_isPlace := fun w h => List.mem_cons_of_mem _ (List.mem_append_right _ h)
theorem hin_X11_near_11 : ∀ w ∈ u_ws RX11 TX11 32, w ∈ wsX11_near := fun w h => List.mem_cons_of_mem _ (List.mem_append_right _ h)
theorem hin_X11_thrown_11 : ∀ w ∈ u_ws RX11 TX11 32, w ∈ wsX11_thrown := fun w h => List.mem_cons_of_mem _ (List.mem_append_right _ h)
set_option maxHeartbeats 4000000 in
set_option maxRecDepth 100000 in
theorem c_X11_nearest (l : Launch) (G : GG) (v m9 : Int32) : Met l yX11_nearest wsX11_nearest ({ frames := 0, cells := 0, slots := 0, locals := 0 } : Room) (r_Pc G [.int v, .int m9] []) (vp_Si (fun r => r = (br v 1 m9))) 0 0 (fun _ => False) := by
  refine r_ofW (cc := cX11_nearest) (maxL := 2) (ret := (some .int)) (by decide) rfl (Nat.le_of_ble_eq_true rfl) ?_
  intro pZ eZ sZ mZ bZ tZ cZ hx hb hr hts hown hlocks hml hK H hH hP ls hl
  have hown : sZ.vm.findClass RX11 = some mZ.cls := hown
  have hl : lv_has ls 2 [(0, .int v), (1, .int m9)] := hl
  refine lv_iload_n hx hb dX11_nearest_0 rfl (lv_at hl 0 rfl) ?_
  refine lv_iconst (v := 1) hx hb dX11_nearest_1 (by decide) ?_
  refine lv_icmp_ge (tgt := 9) hx hb dX11_nearest_2 (by decide) (fun c_2 => ?_) (fun c_2 => ?_)
  · skip
    refine lv_iload_n hx hb dX11_nearest_9 rfl (lv_at hl 0 rfl) ?_
    refine lv_iload_n hx hb dX11_nearest_10 rfl (lv_at hl 1 rfl) ?_
    refine lv_icmp_le (tgt := 18) hx hb dX11_nearest_11 (by decide) (fun c_11 => ?_) (fun c_11 => ?_)
    · skip
      refine lv_iload_n hx hb dX11_nearest_18 rfl (lv_at hl 0 rfl) ?_
      exact r_iret hx hb hr hlocks (by rw [br, if_neg (Int32.not_lt.mpr c_2), if_neg (Int32.not_lt.mpr c_11)]) hH dX11_nearest_19
    · skip
      refine lv_iload_n hx hb dX11_nearest_14 rfl (lv_at hl 1 rfl) ?_
      refine lv_goto (tgt := 19) hx hb dX11_nearest_15 (by decide) ?_
      exact r_iret hx hb hr hlocks (by rw [br, if_neg (Int32.not_lt.mpr c_2), if_pos (Int32.not_le.mp c_11)]) hH dX11_nearest_19
  · skip
    refine lv_iconst (v := 1) hx hb dX11_nearest_5 (by decide) ?_
    refine lv_goto (tgt := 19) hx hb dX11_nearest_6 (by decide) ?_
    exact r_iret hx hb hr hlocks (by rw [br, if_pos (Int32.not_le.mp c_2)]) hH dX11_nearest_19

set_option maxHeartbeats 4000000 in
set_option maxRecDepth 100000 in
theorem c_X11_in (l : Launch) (G : GG) (v lo9 hi9 : Int32) : Met l yX11_in wsX11_in ({ frames := 0, cells := 0, slots := 0, locals := 0 } : Room) (r_Pc G [.int v, .int lo9, .int hi9] []) (vp_Si (fun r => r = (if (lo9 ≤ v ∧ v ≤ hi9) then 1 else 0))) 0 0 (fun _ => False) := by
  refine r_ofW (cc := cX11_in) (maxL := 3) (ret := (some .boolean)) (by decide) rfl (Nat.le_of_ble_eq_true rfl) ?_
  intro pZ eZ sZ mZ bZ tZ cZ hx hb hr hts hown hlocks hml hK H hH hP ls hl
  have hown : sZ.vm.findClass RX11 = some mZ.cls := hown
  have hl : lv_has ls 3 [(0, .int v), (1, .int lo9), (2, .int hi9)] := hl
  refine lv_iload_n hx hb dX11_in_0 rfl (lv_at hl 0 rfl) ?_
  refine lv_iload_n hx hb dX11_in_1 rfl (lv_at hl 1 rfl) ?_
  refine lv_icmp_lt (tgt := 14) hx hb dX11_in_2 (by decide) (fun c_2 => ?_) (fun c_2 => ?_)
  · skip
    refine lv_iconst (v := 0) hx hb dX11_in_14 (by decide) ?_
    exact r_zret hx hb hr hlocks (rfl) (by rw [if_neg (fun z8 => Int32.not_lt.mpr z8.1 c_2)]) hH dX11_in_15
  · skip
    refine lv_iload_n hx hb dX11_in_5 rfl (lv_at hl 0 rfl) ?_
    refine lv_iload_n hx hb dX11_in_6 rfl (lv_at hl 2 rfl) ?_
    refine lv_icmp_gt (tgt := 14) hx hb dX11_in_7 (by decide) (fun c_7 => ?_) (fun c_7 => ?_)
    · skip
      refine lv_iconst (v := 0) hx hb dX11_in_14 (by decide) ?_
      exact r_zret hx hb hr hlocks (rfl) (by rw [if_neg (fun z8 => Int32.not_lt.mpr z8.2 c_7)]) hH dX11_in_15
    · skip
      refine lv_iconst (v := 1) hx hb dX11_in_10 (by decide) ?_
      refine lv_goto (tgt := 15) hx hb dX11_in_11 (by decide) ?_
      exact r_zret hx hb hr hlocks (rfl) (by rw [if_pos ⟨Int32.not_lt.mp c_2, Int32.not_lt.mp c_7⟩]) hH dX11_in_15

set_option maxHeartbeats 4000000 in
set_option maxRecDepth 100000 in
theorem c_X11_thrown (l : Launch) (G : GG) (mo mS mW mF mG mH mA kW kF kG kH mE mL mO mC mR : Nat) (w h b c md : Nat) (hd : DIM w h b c md) (code oc cc rc wrs frm enn mxx : Int32) (low hig wrd : Int64)  : Met l yX11_thrown wsX11_thrown ({ frames := 0, cells := 0, slots := 0, locals := 0 } : Room) (r_Pc G [.ref mo] [(mo, .inr (10, [.int code, .int (nI w), .int (nI h), .int (nI b), .int (nI c), .int (nI md), .int (nI (2 * md)), .ref mS, .ref mW, .ref mF, .ref mG, .ref mH, .ref mA, .ref kW, .ref kF, .ref kG, .ref kH, .ref mE, .ref mL, .ref mO, .int oc, .ref mC, .int cc, .ref mR, .int rc, .long low, .long hig, .long wrd, .int wrs, .int frm, .int enn, .int mxx]))]) (vp_Si (fun r => r = code)) 0 0 (fun _ => False) := by
  refine r_ofW (cc := cX11_thrown) (maxL := 1) (ret := (some .int)) (by decide) rfl (Nat.le_of_ble_eq_true rfl) ?_
  intro pZ eZ sZ mZ bZ tZ cZ hx hb hr hts hown hlocks hml hK H hH hP ls hl
  have hown : sZ.vm.findClass RX11 = some mZ.cls := hown
  have hl : lv_has ls 1 [(0, .ref mo)] := hl
  refine lv_aload_n hx hb dX11_thrown_0 rfl (lv_at hl 0 rfl) ?_
  refine va_get (D := G.1) (ci := 10) (v := .int code) (C := RX11) (T := TX11) (N := 32) hx hb hts hin_X11_thrown_11 hown hK.1 hP 0 rfl rfl 0 (by decide) (hts (.fieldLink RX11 82 "MixedPredictModel" "code" "I") (List.mem_cons_of_mem _ (List.mem_append_left _ (List.mem_of_getElem? (i := 0) rfl)))) (fun _ h9 => h9) rfl dX11_thrown_1 ?_
  exact r_iret hx hb hr hlocks (rfl) hH dX11_thrown_4

set_option maxHeartbeats 4000000 in
set_option maxRecDepth 100000 in
theorem c_X11_spot (l : Launch) (G : GG) (x y k : Nat) : Met l yX11_spot wsX11_spot ({ frames := 0, cells := 0, slots := 0, locals := 0 } : Room) (r_Pc G [.int (nI x), .int (nI y), .int (nI k)] []) (vp_Si (fun r => r = (nI (3 * (16 * y + x) + k)))) 0 0 (fun _ => False) := by
  refine r_ofW (cc := cX11_spot) (maxL := 3) (ret := (some .int)) (by decide) rfl (Nat.le_of_ble_eq_true rfl) ?_
  intro pZ eZ sZ mZ bZ tZ cZ hx hb hr hts hown hlocks hml hK H hH hP ls hl
  have hown : sZ.vm.findClass RX11 = some mZ.cls := hown
  have hl : lv_has ls 3 [(0, .int (nI x)), (1, .int (nI y)), (2, .int (nI k))] := hl
  refine lv_iconst (v := 3) hx hb dX11_spot_0 (by decide) ?_
  refine lv_bipush (v := 16) hx hb dX11_spot_1 (by decide) ?_
  refine lv_iload_n hx hb dX11_spot_3 rfl (lv_at hl 1 rfl) ?_
  refine lv_imul hx hb dX11_spot_4 ?_
  refine x_top (y := nI (16 * y)) (pk_mul _ _) ?_
  refine lv_iload_n hx hb dX11_spot_5 rfl (lv_at hl 0 rfl) ?_
  refine lv_iadd hx hb dX11_spot_6 ?_
  refine x_top (y := nI (16 * y + x)) (nI_add _ _) ?_
  refine lv_imul hx hb dX11_spot_7 ?_
  refine x_top (y := nI (3 * (16 * y + x))) (pk_mul _ _) ?_
  refine lv_iload_n hx hb dX11_spot_8 rfl (lv_at hl 2 rfl) ?_
  refine lv_iadd hx hb dX11_spot_9 ?_
  refine x_top (y := nI (3 * (16 * y + x) + k)) (nI_add _ _) ?_
  exact r_iret hx hb hr hlocks (rfl) hH dX11_spot_10

set_option maxHeartbeats 4000000 in
set_option maxRecDepth 100000 in
theorem c_X11_halfOf (l : Launch) (G : GG) (v : Int32) : Met l yX11_halfOf wsX11_halfOf ({ frames := 0, cells := 0, slots := 0, locals := 0 } : Room) (r_Pc G [.int v] []) (vp_Si (fun r => r = (v >>> ((1 : Int32) &&& 31)))) 0 0 (fun _ => False) := by
  refine r_ofW (cc := cX11_halfOf) (maxL := 1) (ret := (some .int)) (by decide) rfl (Nat.le_of_ble_eq_true rfl) ?_
  intro pZ eZ sZ mZ bZ tZ cZ hx hb hr hts hown hlocks hml hK H hH hP ls hl
  have hown : sZ.vm.findClass RX11 = some mZ.cls := hown
  have hl : lv_has ls 1 [(0, .int v)] := hl
  refine lv_iload_n hx hb dX11_halfOf_0 rfl (lv_at hl 0 rfl) ?_
  refine lv_iconst (v := 1) hx hb dX11_halfOf_1 (by decide) ?_
  refine lv_ishr hx hb dX11_halfOf_2 ?_
  exact r_iret hx hb hr hlocks (rfl) hH dX11_halfOf_3

set_option maxHeartbeats 4000000 in
set_option maxRecDepth 100000 in
theorem c_X11_lesser (l : Launch) (G : GG) (a b9 : Nat) (qa : a < 2 ^ 30) (qb : b9 < 2 ^ 30) : Met l yX11_lesser wsX11_lesser ({ frames := 0, cells := 0, slots := 0, locals := 0 } : Room) (r_Pc G [.int (nI a), .int (nI b9)] []) (vp_Si (fun r => r = (nI (min a b9)))) 0 0 (fun _ => False) := by
  refine r_ofW (cc := cX11_lesser) (maxL := 2) (ret := (some .int)) (by decide) rfl (Nat.le_of_ble_eq_true rfl) ?_
  intro pZ eZ sZ mZ bZ tZ cZ hx hb hr hts hown hlocks hml hK H hH hP ls hl
  have hown : sZ.vm.findClass RX11 = some mZ.cls := hown
  have hl : lv_has ls 2 [(0, .int (nI a)), (1, .int (nI b9))] := hl
  refine lv_iload_n hx hb dX11_lesser_0 rfl (lv_at hl 0 rfl) ?_
  refine lv_iload_n hx hb dX11_lesser_1 rfl (lv_at hl 1 rfl) ?_
  refine lv_icmp_ge (tgt := 9) hx hb dX11_lesser_2 (by decide) (fun c_2 => ?_) (fun c_2 => ?_)
  · skip
    have c_2 : b9 ≤ a := (nI_leI (a := b9) (b := a) (by omega) (by omega)).mp c_2
    refine lv_iload_n hx hb dX11_lesser_9 rfl (lv_at hl 1 rfl) ?_
    exact r_iret hx hb hr hlocks (congrArg nI (by omega)) hH dX11_lesser_10
  · skip
    have c_2 : ¬ (b9 ≤ a) := fun z8 => c_2 ((nI_leI (a := b9) (b := a) (by omega) (by omega)).mpr z8)
    refine lv_iload_n hx hb dX11_lesser_5 rfl (lv_at hl 0 rfl) ?_
    refine lv_goto (tgt := 10) hx hb dX11_lesser_6 (by decide) ?_
    exact r_iret hx hb hr hlocks (congrArg nI (by omega)) hH dX11_lesser_10

set_option maxHeartbeats 4000000 in
set_option maxRecDepth 100000 in
theorem c_X11_off (l : Launch) (G : GG) (a b9 : Nat) (qa : a < 2 ^ 30) (qb : b9 < 2 ^ 30) : Met l yX11_off wsX11_off ({ frames := 0, cells := 0, slots := 0, locals := 0 } : Room) (r_Pc G [.int (nI a), .int (nI b9)] []) (vp_Si (fun r => r = (nI (dst a b9)))) 0 0 (fun _ => False) := by
  refine r_ofW (cc := cX11_off) (maxL := 2) (ret := (some .int)) (by decide) rfl (Nat.le_of_ble_eq_true rfl) ?_
  intro pZ eZ sZ mZ bZ tZ cZ hx hb hr hts hown hlocks hml hK H hH hP ls hl
  have hown : sZ.vm.findClass RX11 = some mZ.cls := hown
  have hl : lv_has ls 2 [(0, .int (nI a)), (1, .int (nI b9))] := hl
  refine lv_iload_n hx hb dX11_off_0 rfl (lv_at hl 0 rfl) ?_
  refine lv_iload_n hx hb dX11_off_1 rfl (lv_at hl 1 rfl) ?_
  refine lv_icmp_ge (tgt := 11) hx hb dX11_off_2 (by decide) (fun c_2 => ?_) (fun c_2 => ?_)
  · skip
    have c_2 : b9 ≤ a := (nI_leI (a := b9) (b := a) (by omega) (by omega)).mp c_2
    refine lv_iload_n hx hb dX11_off_11 rfl (lv_at hl 0 rfl) ?_
    refine lv_iload_n hx hb dX11_off_12 rfl (lv_at hl 1 rfl) ?_
    refine lv_isub hx hb dX11_off_13 ?_
    refine x_top (y := nI (a - b9)) (pk_sub (a := a) (b := b9) (by omega)) ?_
    exact r_iret hx hb hr hlocks (congrArg nI (by simp only [dst]; omega)) hH dX11_off_14
  · skip
    have c_2 : ¬ (b9 ≤ a) := fun z8 => c_2 ((nI_leI (a := b9) (b := a) (by omega) (by omega)).mpr z8)
    refine lv_iload_n hx hb dX11_off_5 rfl (lv_at hl 1 rfl) ?_
    refine lv_iload_n hx hb dX11_off_6 rfl (lv_at hl 0 rfl) ?_
    refine lv_isub hx hb dX11_off_7 ?_
    refine x_top (y := nI (b9 - a)) (pk_sub (a := b9) (b := a) (by omega)) ?_
    refine lv_goto (tgt := 14) hx hb dX11_off_8 (by decide) ?_
    exact r_iret hx hb hr hlocks (congrArg nI (by simp only [dst]; omega)) hH dX11_off_14

set_option maxHeartbeats 4000000 in
set_option maxRecDepth 100000 in
theorem c_X11_isPlace (l : Launch) (G : GG) (mo mS mW mF mG mH mA kW kF kG kH mE mL mO mC mR : Nat) (w h b c md : Nat) (hd : DIM w h b c md) (code oc cc rc wrs frm enn mxx : Int32) (low hig wrd : Int64) (x y k : Int32) : Met l yX11_isPlace wsX11_isPlace ({ frames := 1, cells := 0, slots := 0, locals := 22 } : Room) (r_Pc G [.ref mo, .int x, .int y, .int k] [(mo, .inr (10, [.int code, .int (nI w), .int (nI h), .int (nI b), .int (nI c), .int (nI md), .int (nI (2 * md)), .ref mS, .ref mW, .ref mF, .ref mG, .ref mH, .ref mA, .ref kW, .ref kF, .ref kG, .ref kH, .ref mE, .ref mL, .ref mO, .int oc, .ref mC, .int cc, .ref mR, .int rc, .long low, .long hig, .long wrd, .int wrs, .int frm, .int enn, .int mxx]))]) (vp_Si (fun r => r = (if ((0 ≤ x ∧ x < nI w) ∧ (0 ≤ y ∧ y < nI h) ∧ (0 ≤ k ∧ k < nI c)) then 1 else 0))) 0 0 (fun _ => False) := by
  refine r_ofW (cc := cX11_isPlace) (maxL := 4) (ret := (some .boolean)) (by decide) rfl (Nat.le_of_ble_eq_true rfl) ?_
  intro pZ eZ sZ mZ bZ tZ cZ hx hb hr hts hown hlocks hml hK H hH hP ls hl
  have hown : sZ.vm.findClass RX11 = some mZ.cls := hown
  have hl : lv_has ls 4 [(0, .ref mo), (1, .int x), (2, .int y), (3, .int k)] := hl
  obtain ⟨dw1, dw2, dh1, dh2, db1, db2, dc1, dc2, dm1, dm2, dme⟩ := id hd
  refine lv_iload_n hx hb dX11_isPlace_0 rfl (lv_at hl 1 rfl) ?_
  refine lv_iconst (v := 0) hx hb dX11_isPlace_1 (by decide) ?_
  refine lv_aload_n hx hb dX11_isPlace_2 rfl (lv_at hl 0 rfl) ?_
  refine va_get (D := G.1) (ci := 10) (v := .int (nI w)) (C := RX11) (T := TX11) (N := 32) hx hb hts hin_X11_isPlace_11 hown hK.1 hP 0 rfl rfl 1 (by decide) (hts (.fieldLink RX11 60 "MixedPredictModel" "width" "I") (List.mem_cons_of_mem _ (List.mem_append_left _ (List.mem_of_getElem? (i := 0) rfl)))) (fun _ h9 => h9) rfl dX11_isPlace_3 ?_
  refine lv_iconst (v := 1) hx hb dX11_isPlace_6 (by decide) ?_
  refine lv_isub hx hb dX11_isPlace_7 ?_
  refine x_top (y := nI (w - 1)) (pk_sub (a := w) (b := 1) (by omega)) ?_
  refine r_fin_i (va_runS (As := [.int x, .int 0, .int (nI (w - 1))]) (rest := []) ⟨hx, hb, hml, hown, hts⟩ (c_X11_in l G x 0 (nI (w - 1))) (va_cwS 3 hts gX11_isPlace_X11_in rfl rfl rfl (by decide +kernel) ⟨Nat.le_of_ble_eq_true rfl, Nat.le_of_ble_eq_true rfl⟩) (r_pre hK hP [] rfl) rfl rfl hl.1 rfl (lv_room (Nat.le_of_ble_eq_true rfl)) dX11_isPlace_8 ⟨Nat.zero_le _, Nat.zero_le _⟩) (fun r_1 hw => ?_)
  subst hw
  refine lv_if_eq (tgt := 46) hx hb dX11_isPlace_11 (by decide) (fun c_11 => ?_) (fun c_11 => ?_)
  · skip
    have c_11 := x_b0.mp c_11
    refine lv_iconst (v := 0) hx hb dX11_isPlace_46 (by decide) ?_
    exact r_zret hx hb hr hlocks (rfl) (by rw [if_neg (fun z8 => c_11 ⟨z8.1.1, (le_pred dw1 (by omega)).mpr z8.1.2⟩)]) hH dX11_isPlace_47
  · skip
    have c_11 := Decidable.not_not.mp (fun z8 => c_11 (x_b0.mpr z8))
    refine lv_iload_n hx hb dX11_isPlace_14 rfl (lv_at hl 2 rfl) ?_
    refine lv_iconst (v := 0) hx hb dX11_isPlace_15 (by decide) ?_
    refine lv_aload_n hx hb dX11_isPlace_16 rfl (lv_at hl 0 rfl) ?_
    refine va_get (D := G.1) (ci := 10) (v := .int (nI h)) (C := RX11) (T := TX11) (N := 32) hx hb hts hin_X11_isPlace_11 hown hK.1 hP 0 rfl rfl 2 (by decide) (hts (.fieldLink RX11 64 "MixedPredictModel" "height" "I") (List.mem_cons_of_mem _ (List.mem_append_left _ (List.mem_of_getElem? (i := 1) rfl)))) (fun _ h9 => h9) rfl dX11_isPlace_17 ?_
    refine lv_iconst (v := 1) hx hb dX11_isPlace_20 (by decide) ?_
    refine lv_isub hx hb dX11_isPlace_21 ?_
    refine x_top (y := nI (h - 1)) (pk_sub (a := h) (b := 1) (by omega)) ?_
    refine r_fin_i (va_runS (As := [.int y, .int 0, .int (nI (h - 1))]) (rest := []) ⟨hx, hb, hml, hown, hts⟩ (c_X11_in l G y 0 (nI (h - 1))) (va_cwS 3 hts gX11_isPlace_X11_in rfl rfl rfl (by decide +kernel) ⟨Nat.le_of_ble_eq_true rfl, Nat.le_of_ble_eq_true rfl⟩) (r_pre hK hP [] rfl) rfl rfl hl.1 rfl (lv_room (Nat.le_of_ble_eq_true rfl)) dX11_isPlace_22 ⟨Nat.zero_le _, Nat.zero_le _⟩) (fun r_2 hw => ?_)
    subst hw
    refine lv_if_eq (tgt := 46) hx hb dX11_isPlace_25 (by decide) (fun c_25 => ?_) (fun c_25 => ?_)
    · skip
      have c_25 := x_b0.mp c_25
      refine lv_iconst (v := 0) hx hb dX11_isPlace_46 (by decide) ?_
      exact r_zret hx hb hr hlocks (rfl) (by rw [if_neg (fun z8 => c_25 ⟨z8.2.1.1, (le_pred dh1 (by omega)).mpr z8.2.1.2⟩)]) hH dX11_isPlace_47
    · skip
      have c_25 := Decidable.not_not.mp (fun z8 => c_25 (x_b0.mpr z8))
      refine lv_iload_n hx hb dX11_isPlace_28 rfl (lv_at hl 3 rfl) ?_
      refine lv_iconst (v := 0) hx hb dX11_isPlace_29 (by decide) ?_
      refine lv_aload_n hx hb dX11_isPlace_30 rfl (lv_at hl 0 rfl) ?_
      refine va_get (D := G.1) (ci := 10) (v := .int (nI c)) (C := RX11) (T := TX11) (N := 32) hx hb hts hin_X11_isPlace_11 hown hK.1 hP 0 rfl rfl 4 (by decide) (hts (.fieldLink RX11 70 "MixedPredictModel" "channels" "I") (List.mem_cons_of_mem _ (List.mem_append_left _ (List.mem_of_getElem? (i := 2) rfl)))) (fun _ h9 => h9) rfl dX11_isPlace_31 ?_
      refine lv_iconst (v := 1) hx hb dX11_isPlace_34 (by decide) ?_
      refine lv_isub hx hb dX11_isPlace_35 ?_
      refine x_top (y := nI (c - 1)) (pk_sub (a := c) (b := 1) (by omega)) ?_
      refine r_fin_i (va_runS (As := [.int k, .int 0, .int (nI (c - 1))]) (rest := []) ⟨hx, hb, hml, hown, hts⟩ (c_X11_in l G k 0 (nI (c - 1))) (va_cwS 3 hts gX11_isPlace_X11_in rfl rfl rfl (by decide +kernel) ⟨Nat.le_of_ble_eq_true rfl, Nat.le_of_ble_eq_true rfl⟩) (r_pre hK hP [] rfl) rfl rfl hl.1 rfl (lv_room (Nat.le_of_ble_eq_true rfl)) dX11_isPlace_36 ⟨Nat.zero_le _, Nat.zero_le _⟩) (fun r_3 hw => ?_)
      subst hw
      refine lv_if_eq (tgt := 46) hx hb dX11_isPlace_39 (by decide) (fun c_39 => ?_) (fun c_39 => ?_)
      · skip
        have c_39 := x_b0.mp c_39
        refine lv_iconst (v := 0) hx hb dX11_isPlace_46 (by decide) ?_
        exact r_zret hx hb hr hlocks (rfl) (by rw [if_neg (fun z8 => c_39 ⟨z8.2.2.1, (le_pred dc1 (by omega)).mpr z8.2.2.2⟩)]) hH dX11_isPlace_47
      · skip
        have c_39 := Decidable.not_not.mp (fun z8 => c_39 (x_b0.mpr z8))
        refine lv_iconst (v := 1) hx hb dX11_isPlace_42 (by decide) ?_
        refine lv_goto (tgt := 47) hx hb dX11_isPlace_43 (by decide) ?_
        exact r_zret hx hb hr hlocks (rfl) (by rw [if_pos ⟨⟨c_11.1, (le_pred dw1 (by omega)).mp c_11.2⟩, ⟨c_25.1, (le_pred dh1 (by omega)).mp c_25.2⟩, ⟨c_39.1, (le_pred dc1 (by omega)).mp c_39.2⟩⟩]) hH dX11_isPlace_47

set_option maxHeartbeats 4000000 in
set_option maxRecDepth 100000 in
theorem c_X11_near_A (l : Launch) (G : GG) (mo mS mW mF mG mH mA kW kF kG kH mE mL mO mC mR : Nat) (w h b c md : Nat) (hd : DIM w h b c md) (code oc cc rc wrs frm enn mxx : Int32) (low hig wrd : Int64) (P : Nat → Nat → Nat → Nat) (f : Nat → Int32) (qP : PicR w h c f P) (x y k : Nat) (qx : x < w) (qy : y < h) (qk : k < c)  : Met l yX11_near wsX11_near ({ frames := 1, cells := 0, slots := 0, locals := 22 } : Room) (r_Pc G [.ref mo, .int (nI x), .int (nI y), .int (nI k), .int (-1), .int 0] [(mo, .inr (10, [.int code, .int (nI w), .int (nI h), .int (nI b), .int (nI c), .int (nI md), .int (nI (2 * md)), .ref mS, .ref mW, .ref mF, .ref mG, .ref mH, .ref mA, .ref kW, .ref kF, .ref kG, .ref kH, .ref mE, .ref mL, .ref mO, .int oc, .ref mC, .int cc, .ref mR, .int rc, .long low, .long hig, .long wrd, .int wrs, .int frm, .int enn, .int mxx])), (mS, .inl (G.2.1, 768, .inl f))]) (vp_Si (fun r => r = (nI (nbA P md x y k)))) 0 0 (fun _ => False) := by
  refine r_ofW (cc := cX11_near) (maxL := 9) (ret := (some .int)) (by decide) rfl (Nat.le_of_ble_eq_true rfl) ?_
  intro pZ eZ sZ mZ bZ tZ cZ hx hb hr hts hown hlocks hml hK H hH hP ls hl
  have hown : sZ.vm.findClass RX11 = some mZ.cls := hown
  have hl : lv_has ls 9 [(0, .ref mo), (1, .int (nI x)), (2, .int (nI y)), (3, .int (nI k)), (4, .int (-1)), (5, .int 0)] := hl
  obtain ⟨dw1, dw2, dh1, dh2, db1, db2, dc1, dc2, dm1, dm2, dme⟩ := id hd
  refine lv_iload_n hx hb dX11_near_0 rfl (lv_at hl 1 rfl) ?_
  refine lv_iload hx hb dX11_near_1 (lv_at hl 4 rfl) ?_
  refine lv_iadd hx hb dX11_near_3 ?_
  by_cases zx : x = 0
  · skip
    refine x_top (y := (-1)) (by rw [zx]; decide) ?_
    refine lv_istore (lv' := [(6, .int (-1)), (0, .ref mo), (1, .int (nI x)), (2, .int (nI y)), (3, .int (nI k)), (4, .int (-1)), (5, .int 0)]) hx hb dX11_near_4 hl (by decide) rfl (fun ls hl => ?_)
    refine lv_iload_n hx hb dX11_near_6 rfl (lv_at hl 3 rfl) ?_
    refine lv_iload hx hb dX11_near_7 (lv_at hl 6 rfl) ?_
    refine lv_iadd hx hb dX11_near_9 ?_
    refine x_top (y := nI (y + 0)) (nI_add _ _) ?_
    refine lv_istore (lv' := [(7, .int (nI (y + 0))), (6, .int (-1)), (0, .ref mo), (1, .int (nI x)), (2, .int (nI y)), (3, .int (nI k)), (4, .int (-1)), (5, .int 0)]) hx hb dX11_near_10 hl (by decide) rfl (fun ls hl => ?_)
    refine lv_iload hx hb dX11_near_12 (lv_at hl 1 rfl) ?_
    refine lv_if_lt (tgt := 68) hx hb dX11_near_14 (by decide) (fun c_14 => ?_) (fun c_14 => ?_)
    · skip
      refine lv_iconst (v := 0) hx hb dX11_near_68 (by decide) ?_
      refine lv_istore (lv' := [(8, .int 0), (7, .int (nI (y + 0))), (6, .int (-1)), (0, .ref mo), (1, .int (nI x)), (2, .int (nI y)), (3, .int (nI k)), (4, .int (-1)), (5, .int 0)]) hx hb dX11_near_69 hl (by decide) rfl (fun ls hl => ?_)
      refine lv_iload hx hb dX11_near_71 (lv_at hl 0 rfl) ?_
      refine lv_if_eq (tgt := 92) hx hb dX11_near_73 (by decide) (fun c_73 => ?_) (fun c_73 => ?_)
      · skip
        refine lv_aload_n hx hb dX11_near_92 rfl (lv_at hl 3 rfl) ?_
        refine va_get (D := G.1) (ci := 10) (v := .int (nI md)) (C := RX11) (T := TX11) (N := 32) hx hb hts hin_X11_near_11 hown hK.1 hP 0 rfl rfl 5 (by decide) (hts (.fieldLink RX11 73 "MixedPredictModel" "mid" "I") (List.mem_cons_of_mem _ (List.mem_append_left _ (List.mem_of_getElem? (i := 3) rfl)))) (fun _ h9 => h9) rfl dX11_near_93 ?_
        refine x_top (y := nI (nbA P md x y k)) (by rw [nbA, if_pos (by omega)]) ?_
        exact r_iret hx hb hr hlocks (rfl) hH dX11_near_96
      · skip
        exfalso; first | exact absurd (by decide) c_73 | exact absurd c_73 (by decide)
    · skip
      exfalso; first | exact absurd (by decide) c_14 | exact absurd c_14 (by decide)
  · skip
    refine x_top (y := nI (x - 1)) (by rw [show x = (x - 1) + 1 by omega]; exact pk_m1 _) ?_
    refine lv_istore (lv' := [(6, .int (nI (x - 1))), (0, .ref mo), (1, .int (nI x)), (2, .int (nI y)), (3, .int (nI k)), (4, .int (-1)), (5, .int 0)]) hx hb dX11_near_4 hl (by decide) rfl (fun ls hl => ?_)
    refine lv_iload_n hx hb dX11_near_6 rfl (lv_at hl 3 rfl) ?_
    refine lv_iload hx hb dX11_near_7 (lv_at hl 6 rfl) ?_
    refine lv_iadd hx hb dX11_near_9 ?_
    refine x_top (y := nI (y + 0)) (nI_add _ _) ?_
    refine lv_istore (lv' := [(7, .int (nI (y + 0))), (6, .int (nI (x - 1))), (0, .ref mo), (1, .int (nI x)), (2, .int (nI y)), (3, .int (nI k)), (4, .int (-1)), (5, .int 0)]) hx hb dX11_near_10 hl (by decide) rfl (fun ls hl => ?_)
    refine lv_iload hx hb dX11_near_12 (lv_at hl 1 rfl) ?_
    refine lv_if_lt (tgt := 68) hx hb dX11_near_14 (by decide) (fun c_14 => ?_) (fun c_14 => ?_)
    · skip
      have c_14 : x - 1 < 0 := (nI_ltI (a := x - 1) (b := 0) (by omega) (by omega)).mp c_14
      exfalso; omega
    · skip
      have c_14 : ¬ (x - 1 < 0) := fun z8 => c_14 ((nI_ltI (a := x - 1) (b := 0) (by omega) (by omega)).mpr z8)
      refine lv_iload hx hb dX11_near_17 (lv_at hl 0 rfl) ?_
      refine lv_if_lt (tgt := 68) hx hb dX11_near_19 (by decide) (fun c_19 => ?_) (fun c_19 => ?_)
      · skip
        have c_19 : y + 0 < 0 := (nI_ltI (a := y + 0) (b := 0) (by omega) (by omega)).mp c_19
        exfalso; omega
      · skip
        have c_19 : ¬ (y + 0 < 0) := fun z8 => c_19 ((nI_ltI (a := y + 0) (b := 0) (by omega) (by omega)).mpr z8)
        refine lv_iload hx hb dX11_near_22 (lv_at hl 1 rfl) ?_
        refine lv_aload_n hx hb dX11_near_24 rfl (lv_at hl 2 rfl) ?_
        refine va_get (D := G.1) (ci := 10) (v := .int (nI w)) (C := RX11) (T := TX11) (N := 32) hx hb hts hin_X11_near_11 hown hK.1 hP 0 rfl rfl 1 (by decide) (hts (.fieldLink RX11 60 "MixedPredictModel" "width" "I") (List.mem_cons_of_mem _ (List.mem_append_left _ (List.mem_of_getElem? (i := 0) rfl)))) (fun _ h9 => h9) rfl dX11_near_25 ?_
        refine lv_icmp_ge (tgt := 68) hx hb dX11_near_28 (by decide) (fun c_28 => ?_) (fun c_28 => ?_)
        · skip
          have c_28 : w ≤ x - 1 := (nI_leI (a := w) (b := x - 1) (by omega) (by omega)).mp c_28
          refine lv_iconst (v := 0) hx hb dX11_near_68 (by decide) ?_
          refine lv_istore (lv' := [(8, .int 0), (7, .int (nI (y + 0))), (6, .int (nI (x - 1))), (0, .ref mo), (1, .int (nI x)), (2, .int (nI y)), (3, .int (nI k)), (4, .int (-1)), (5, .int 0)]) hx hb dX11_near_69 hl (by decide) rfl (fun ls hl => ?_)
          refine lv_iload hx hb dX11_near_71 (lv_at hl 0 rfl) ?_
          refine lv_if_eq (tgt := 92) hx hb dX11_near_73 (by decide) (fun c_73 => ?_) (fun c_73 => ?_)
          · skip
            refine lv_aload_n hx hb dX11_near_92 rfl (lv_at hl 3 rfl) ?_
            refine va_get (D := G.1) (ci := 10) (v := .int (nI md)) (C := RX11) (T := TX11) (N := 32) hx hb hts hin_X11_near_11 hown hK.1 hP 0 rfl rfl 5 (by decide) (hts (.fieldLink RX11 73 "MixedPredictModel" "mid" "I") (List.mem_cons_of_mem _ (List.mem_append_left _ (List.mem_of_getElem? (i := 3) rfl)))) (fun _ h9 => h9) rfl dX11_near_93 ?_
            refine x_top (y := nI (nbA P md x y k)) (by rw [nbA, if_pos (by omega)]) ?_
            exact r_iret hx hb hr hlocks (rfl) hH dX11_near_96
          · skip
            exfalso; first | exact absurd (by decide) c_73 | exact absurd c_73 (by decide)
        · skip
          have c_28 : ¬ (w ≤ x - 1) := fun z8 => c_28 ((nI_leI (a := w) (b := x - 1) (by omega) (by omega)).mpr z8)
          refine lv_iload hx hb dX11_near_31 (lv_at hl 0 rfl) ?_
          refine lv_aload_n hx hb dX11_near_33 rfl (lv_at hl 2 rfl) ?_
          refine va_get (D := G.1) (ci := 10) (v := .int (nI h)) (C := RX11) (T := TX11) (N := 32) hx hb hts hin_X11_near_11 hown hK.1 hP 0 rfl rfl 2 (by decide) (hts (.fieldLink RX11 64 "MixedPredictModel" "height" "I") (List.mem_cons_of_mem _ (List.mem_append_left _ (List.mem_of_getElem? (i := 1) rfl)))) (fun _ h9 => h9) rfl dX11_near_34 ?_
          refine lv_icmp_ge (tgt := 68) hx hb dX11_near_37 (by decide) (fun c_37 => ?_) (fun c_37 => ?_)
          · skip
            have c_37 : h ≤ y + 0 := (nI_leI (a := h) (b := y + 0) (by omega) (by omega)).mp c_37
            refine lv_iconst (v := 0) hx hb dX11_near_68 (by decide) ?_
            refine lv_istore (lv' := [(8, .int 0), (7, .int (nI (y + 0))), (6, .int (nI (x - 1))), (0, .ref mo), (1, .int (nI x)), (2, .int (nI y)), (3, .int (nI k)), (4, .int (-1)), (5, .int 0)]) hx hb dX11_near_69 hl (by decide) rfl (fun ls hl => ?_)
            refine lv_iload hx hb dX11_near_71 (lv_at hl 0 rfl) ?_
            refine lv_if_eq (tgt := 92) hx hb dX11_near_73 (by decide) (fun c_73 => ?_) (fun c_73 => ?_)
            · skip
              refine lv_aload_n hx hb dX11_near_92 rfl (lv_at hl 3 rfl) ?_
              refine va_get (D := G.1) (ci := 10) (v := .int (nI md)) (C := RX11) (T := TX11) (N := 32) hx hb hts hin_X11_near_11 hown hK.1 hP 0 rfl rfl 5 (by decide) (hts (.fieldLink RX11 73 "MixedPredictModel" "mid" "I") (List.mem_cons_of_mem _ (List.mem_append_left _ (List.mem_of_getElem? (i := 3) rfl)))) (fun _ h9 => h9) rfl dX11_near_93 ?_
              refine x_top (y := nI (nbA P md x y k)) (by rw [nbA, if_pos (by omega)]) ?_
              exact r_iret hx hb hr hlocks (rfl) hH dX11_near_96
            · skip
              exfalso; first | exact absurd (by decide) c_73 | exact absurd c_73 (by decide)
          · skip
            have c_37 : ¬ (h ≤ y + 0) := fun z8 => c_37 ((nI_leI (a := h) (b := y + 0) (by omega) (by omega)).mpr z8)
            refine lv_iload hx hb dX11_near_40 (lv_at hl 1 rfl) ?_
            refine lv_bipush (v := 8) hx hb dX11_near_42 (by decide) ?_
            refine lv_idiv hx hb dX11_near_44 (by decide) ?_
            refine x_top (y := nI ((x - 1) / 8)) (pk_div (a := x - 1) (d := 8) (by omega) (by omega) (by omega)) ?_
            refine lv_iload_n hx hb dX11_near_45 rfl (lv_at hl 3 rfl) ?_
            refine lv_bipush (v := 8) hx hb dX11_near_46 (by decide) ?_
            refine lv_idiv hx hb dX11_near_48 (by decide) ?_
            refine x_top (y := nI (x / 8)) (pk_div (a := x) (d := 8) (by omega) (by omega) (by omega)) ?_
            refine lv_icmp_ne (tgt := 68) hx hb dX11_near_49 (by decide) (fun c_49 => ?_) (fun c_49 => ?_)
            · skip
              have c_49 : ¬ ((x - 1) / 8 = x / 8) := fun z8 => c_49 ((nI_eq (a := (x - 1) / 8) (b := x / 8) (by omega) (by omega)).mpr z8)
              refine lv_iconst (v := 0) hx hb dX11_near_68 (by decide) ?_
              refine lv_istore (lv' := [(8, .int 0), (7, .int (nI (y + 0))), (6, .int (nI (x - 1))), (0, .ref mo), (1, .int (nI x)), (2, .int (nI y)), (3, .int (nI k)), (4, .int (-1)), (5, .int 0)]) hx hb dX11_near_69 hl (by decide) rfl (fun ls hl => ?_)
              refine lv_iload hx hb dX11_near_71 (lv_at hl 0 rfl) ?_
              refine lv_if_eq (tgt := 92) hx hb dX11_near_73 (by decide) (fun c_73 => ?_) (fun c_73 => ?_)
              · skip
                refine lv_aload_n hx hb dX11_near_92 rfl (lv_at hl 3 rfl) ?_
                refine va_get (D := G.1) (ci := 10) (v := .int (nI md)) (C := RX11) (T := TX11) (N := 32) hx hb hts hin_X11_near_11 hown hK.1 hP 0 rfl rfl 5 (by decide) (hts (.fieldLink RX11 73 "MixedPredictModel" "mid" "I") (List.mem_cons_of_mem _ (List.mem_append_left _ (List.mem_of_getElem? (i := 3) rfl)))) (fun _ h9 => h9) rfl dX11_near_93 ?_
                refine x_top (y := nI (nbA P md x y k)) (by rw [nbA, if_pos (by omega)]) ?_
                exact r_iret hx hb hr hlocks (rfl) hH dX11_near_96
              · skip
                exfalso; first | exact absurd (by decide) c_73 | exact absurd c_73 (by decide)
            · skip
              have c_49 : (x - 1) / 8 = x / 8 := (nI_eq (a := (x - 1) / 8) (b := x / 8) (by omega) (by omega)).mp c_49
              refine lv_iload hx hb dX11_near_52 (lv_at hl 0 rfl) ?_
              refine lv_bipush (v := 8) hx hb dX11_near_54 (by decide) ?_
              refine lv_idiv hx hb dX11_near_56 (by decide) ?_
              refine x_top (y := nI ((y + 0) / 8)) (pk_div (a := y + 0) (d := 8) (by omega) (by omega) (by omega)) ?_
              refine lv_iload_n hx hb dX11_near_57 rfl (lv_at hl 4 rfl) ?_
              refine lv_bipush (v := 8) hx hb dX11_near_58 (by decide) ?_
              refine lv_idiv hx hb dX11_near_60 (by decide) ?_
              refine x_top (y := nI (y / 8)) (pk_div (a := y) (d := 8) (by omega) (by omega) (by omega)) ?_
              refine lv_icmp_ne (tgt := 68) hx hb dX11_near_61 (by decide) (fun c_61 => ?_) (fun c_61 => ?_)
              · skip
                have c_61 : ¬ ((y + 0) / 8 = y / 8) := fun z8 => c_61 ((nI_eq (a := (y + 0) / 8) (b := y / 8) (by omega) (by omega)).mpr z8)
                refine lv_iconst (v := 0) hx hb dX11_near_68 (by decide) ?_
                refine lv_istore (lv' := [(8, .int 0), (7, .int (nI (y + 0))), (6, .int (nI (x - 1))), (0, .ref mo), (1, .int (nI x)), (2, .int (nI y)), (3, .int (nI k)), (4, .int (-1)), (5, .int 0)]) hx hb dX11_near_69 hl (by decide) rfl (fun ls hl => ?_)
                refine lv_iload hx hb dX11_near_71 (lv_at hl 0 rfl) ?_
                refine lv_if_eq (tgt := 92) hx hb dX11_near_73 (by decide) (fun c_73 => ?_) (fun c_73 => ?_)
                · skip
                  refine lv_aload_n hx hb dX11_near_92 rfl (lv_at hl 3 rfl) ?_
                  refine va_get (D := G.1) (ci := 10) (v := .int (nI md)) (C := RX11) (T := TX11) (N := 32) hx hb hts hin_X11_near_11 hown hK.1 hP 0 rfl rfl 5 (by decide) (hts (.fieldLink RX11 73 "MixedPredictModel" "mid" "I") (List.mem_cons_of_mem _ (List.mem_append_left _ (List.mem_of_getElem? (i := 3) rfl)))) (fun _ h9 => h9) rfl dX11_near_93 ?_
                  refine x_top (y := nI (nbA P md x y k)) (by rw [nbA, if_pos (by omega)]) ?_
                  exact r_iret hx hb hr hlocks (rfl) hH dX11_near_96
                · skip
                  exfalso; first | exact absurd (by decide) c_73 | exact absurd c_73 (by decide)
              · skip
                have c_61 : (y + 0) / 8 = y / 8 := (nI_eq (a := (y + 0) / 8) (b := y / 8) (by omega) (by omega)).mp c_61
                refine lv_iconst (v := 1) hx hb dX11_near_64 (by decide) ?_
                refine lv_goto (tgt := 69) hx hb dX11_near_65 (by decide) ?_
                refine lv_istore (lv' := [(8, .int 1), (7, .int (nI (y + 0))), (6, .int (nI (x - 1))), (0, .ref mo), (1, .int (nI x)), (2, .int (nI y)), (3, .int (nI k)), (4, .int (-1)), (5, .int 0)]) hx hb dX11_near_69 hl (by decide) rfl (fun ls hl => ?_)
                refine lv_iload hx hb dX11_near_71 (lv_at hl 0 rfl) ?_
                refine lv_if_eq (tgt := 92) hx hb dX11_near_73 (by decide) (fun c_73 => ?_) (fun c_73 => ?_)
                · skip
                  exfalso; first | exact absurd (by decide) c_73 | exact absurd c_73 (by decide)
                · skip
                  refine lv_aload_n hx hb dX11_near_76 rfl (lv_at hl 3 rfl) ?_
                  refine va_get (D := G.1) (ci := 10) (v := .ref mS) (C := RX11) (T := TX11) (N := 32) hx hb hts hin_X11_near_11 hown hK.1 hP 0 rfl rfl 7 (by decide) (hts (.fieldLink RX11 7 "MixedPredictModel" "samples" "[I") (List.mem_cons_of_mem _ (List.mem_append_left _ (List.mem_of_getElem? (i := 2) rfl)))) (fun _ h9 => h9) rfl dX11_near_77 ?_
                  refine lv_iload hx hb dX11_near_80 (lv_at hl 2 rfl) ?_
                  refine lv_iload hx hb dX11_near_82 (lv_at hl 1 rfl) ?_
                  refine lv_iload_n hx hb dX11_near_84 rfl (lv_at hl 6 rfl) ?_
                  refine r_fin_i (va_runS (As := [.int (nI (x - 1)), .int (nI (y + 0)), .int (nI k)]) (rest := [.ref mS]) ⟨hx, hb, hml, hown, hts⟩ (c_X11_spot l G (x - 1) (y + 0) k) (va_cwS 3 hts gX11_near_X11_spot rfl rfl rfl (by decide +kernel) ⟨Nat.le_of_ble_eq_true rfl, Nat.le_of_ble_eq_true rfl⟩) (r_pre hK hP [] rfl) rfl rfl hl.1 rfl (lv_room (Nat.le_of_ble_eq_true rfl)) dX11_near_85 ⟨Nat.zero_le _, Nat.zero_le _⟩) (fun r_1 hw => ?_)
                  subst hw
                  refine x_iald (i := 3 * (16 * (y + 0) + (x - 1)) + k) hx hb hK.1 hP 1 0 rfl rfl (by omega) (by omega) dX11_near_88 ?_
                  refine x_top (y := nI (nbA P md x y k)) (by rw [nbA, if_neg (by omega)]; exact qP (x - 1) (y + 0) k (by omega) (by omega) qk) ?_
                  refine lv_goto (tgt := 96) hx hb dX11_near_89 (by decide) ?_
                  exact r_iret hx hb hr hlocks (rfl) hH dX11_near_96

set_option maxHeartbeats 4000000 in
set_option maxRecDepth 100000 in
theorem c_X11_near_B (l : Launch) (G : GG) (mo mS mW mF mG mH mA kW kF kG kH mE mL mO mC mR : Nat) (w h b c md : Nat) (hd : DIM w h b c md) (code oc cc rc wrs frm enn mxx : Int32) (low hig wrd : Int64) (P : Nat → Nat → Nat → Nat) (f : Nat → Int32) (qP : PicR w h c f P) (x y k : Nat) (qx : x < w) (qy : y < h) (qk : k < c)  : Met l yX11_near wsX11_near ({ frames := 1, cells := 0, slots := 0, locals := 22 } : Room) (r_Pc G [.ref mo, .int (nI x), .int (nI y), .int (nI k), .int 0, .int (-1)] [(mo, .inr (10, [.int code, .int (nI w), .int (nI h), .int (nI b), .int (nI c), .int (nI md), .int (nI (2 * md)), .ref mS, .ref mW, .ref mF, .ref mG, .ref mH, .ref mA, .ref kW, .ref kF, .ref kG, .ref kH, .ref mE, .ref mL, .ref mO, .int oc, .ref mC, .int cc, .ref mR, .int rc, .long low, .long hig, .long wrd, .int wrs, .int frm, .int enn, .int mxx])), (mS, .inl (G.2.1, 768, .inl f))]) (vp_Si (fun r => r = (nI (nbB P md x y k)))) 0 0 (fun _ => False) := by
  refine r_ofW (cc := cX11_near) (maxL := 9) (ret := (some .int)) (by decide) rfl (Nat.le_of_ble_eq_true rfl) ?_
  intro pZ eZ sZ mZ bZ tZ cZ hx hb hr hts hown hlocks hml hK H hH hP ls hl
  have hown : sZ.vm.findClass RX11 = some mZ.cls := hown
  have hl : lv_has ls 9 [(0, .ref mo), (1, .int (nI x)), (2, .int (nI y)), (3, .int (nI k)), (4, .int 0), (5, .int (-1))] := hl
  obtain ⟨dw1, dw2, dh1, dh2, db1, db2, dc1, dc2, dm1, dm2, dme⟩ := id hd
  refine lv_iload_n hx hb dX11_near_0 rfl (lv_at hl 1 rfl) ?_
  refine lv_iload hx hb dX11_near_1 (lv_at hl 4 rfl) ?_
  refine lv_iadd hx hb dX11_near_3 ?_
  refine x_top (y := nI (x + 0)) (nI_add _ _) ?_
  refine lv_istore (lv' := [(6, .int (nI (x + 0))), (0, .ref mo), (1, .int (nI x)), (2, .int (nI y)), (3, .int (nI k)), (4, .int 0), (5, .int (-1))]) hx hb dX11_near_4 hl (by decide) rfl (fun ls hl => ?_)
  refine lv_iload_n hx hb dX11_near_6 rfl (lv_at hl 3 rfl) ?_
  refine lv_iload hx hb dX11_near_7 (lv_at hl 6 rfl) ?_
  refine lv_iadd hx hb dX11_near_9 ?_
  by_cases zy : y = 0
  · skip
    refine x_top (y := (-1)) (by rw [zy]; decide) ?_
    refine lv_istore (lv' := [(7, .int (-1)), (6, .int (nI (x + 0))), (0, .ref mo), (1, .int (nI x)), (2, .int (nI y)), (3, .int (nI k)), (4, .int 0), (5, .int (-1))]) hx hb dX11_near_10 hl (by decide) rfl (fun ls hl => ?_)
    refine lv_iload hx hb dX11_near_12 (lv_at hl 1 rfl) ?_
    refine lv_if_lt (tgt := 68) hx hb dX11_near_14 (by decide) (fun c_14 => ?_) (fun c_14 => ?_)
    · skip
      have c_14 : x + 0 < 0 := (nI_ltI (a := x + 0) (b := 0) (by omega) (by omega)).mp c_14
      exfalso; omega
    · skip
      have c_14 : ¬ (x + 0 < 0) := fun z8 => c_14 ((nI_ltI (a := x + 0) (b := 0) (by omega) (by omega)).mpr z8)
      refine lv_iload hx hb dX11_near_17 (lv_at hl 0 rfl) ?_
      refine lv_if_lt (tgt := 68) hx hb dX11_near_19 (by decide) (fun c_19 => ?_) (fun c_19 => ?_)
      · skip
        refine lv_iconst (v := 0) hx hb dX11_near_68 (by decide) ?_
        refine lv_istore (lv' := [(8, .int 0), (7, .int (-1)), (6, .int (nI (x + 0))), (0, .ref mo), (1, .int (nI x)), (2, .int (nI y)), (3, .int (nI k)), (4, .int 0), (5, .int (-1))]) hx hb dX11_near_69 hl (by decide) rfl (fun ls hl => ?_)
        refine lv_iload hx hb dX11_near_71 (lv_at hl 0 rfl) ?_
        refine lv_if_eq (tgt := 92) hx hb dX11_near_73 (by decide) (fun c_73 => ?_) (fun c_73 => ?_)
        · skip
          refine lv_aload_n hx hb dX11_near_92 rfl (lv_at hl 3 rfl) ?_
          refine va_get (D := G.1) (ci := 10) (v := .int (nI md)) (C := RX11) (T := TX11) (N := 32) hx hb hts hin_X11_near_11 hown hK.1 hP 0 rfl rfl 5 (by decide) (hts (.fieldLink RX11 73 "MixedPredictModel" "mid" "I") (List.mem_cons_of_mem _ (List.mem_append_left _ (List.mem_of_getElem? (i := 3) rfl)))) (fun _ h9 => h9) rfl dX11_near_93 ?_
          refine x_top (y := nI (nbB P md x y k)) (by rw [nbB, if_pos (by omega)]) ?_
          exact r_iret hx hb hr hlocks (rfl) hH dX11_near_96
        · skip
          exfalso; first | exact absurd (by decide) c_73 | exact absurd c_73 (by decide)
      · skip
        exfalso; first | exact absurd (by decide) c_19 | exact absurd c_19 (by decide)
  · skip
    refine x_top (y := nI (y - 1)) (by rw [show y = (y - 1) + 1 by omega]; exact pk_m1 _) ?_
    refine lv_istore (lv' := [(7, .int (nI (y - 1))), (6, .int (nI (x + 0))), (0, .ref mo), (1, .int (nI x)), (2, .int (nI y)), (3, .int (nI k)), (4, .int 0), (5, .int (-1))]) hx hb dX11_near_10 hl (by decide) rfl (fun ls hl => ?_)
    refine lv_iload hx hb dX11_near_12 (lv_at hl 1 rfl) ?_
    refine lv_if_lt (tgt := 68) hx hb dX11_near_14 (by decide) (fun c_14 => ?_) (fun c_14 => ?_)
    · skip
      have c_14 : x + 0 < 0 := (nI_ltI (a := x + 0) (b := 0) (by omega) (by omega)).mp c_14
      exfalso; omega
    · skip
      have c_14 : ¬ (x + 0 < 0) := fun z8 => c_14 ((nI_ltI (a := x + 0) (b := 0) (by omega) (by omega)).mpr z8)
      refine lv_iload hx hb dX11_near_17 (lv_at hl 0 rfl) ?_
      refine lv_if_lt (tgt := 68) hx hb dX11_near_19 (by decide) (fun c_19 => ?_) (fun c_19 => ?_)
      · skip
        have c_19 : y - 1 < 0 := (nI_ltI (a := y - 1) (b := 0) (by omega) (by omega)).mp c_19
        exfalso; omega
      · skip
        have c_19 : ¬ (y - 1 < 0) := fun z8 => c_19 ((nI_ltI (a := y - 1) (b := 0) (by omega) (by omega)).mpr z8)
        refine lv_iload hx hb dX11_near_22 (lv_at hl 1 rfl) ?_
        refine lv_aload_n hx hb dX11_near_24 rfl (lv_at hl 2 rfl) ?_
        refine va_get (D := G.1) (ci := 10) (v := .int (nI w)) (C := RX11) (T := TX11) (N := 32) hx hb hts hin_X11_near_11 hown hK.1 hP 0 rfl rfl 1 (by decide) (hts (.fieldLink RX11 60 "MixedPredictModel" "width" "I") (List.mem_cons_of_mem _ (List.mem_append_left _ (List.mem_of_getElem? (i := 0) rfl)))) (fun _ h9 => h9) rfl dX11_near_25 ?_
        refine lv_icmp_ge (tgt := 68) hx hb dX11_near_28 (by decide) (fun c_28 => ?_) (fun c_28 => ?_)
        · skip
          have c_28 : w ≤ x + 0 := (nI_leI (a := w) (b := x + 0) (by omega) (by omega)).mp c_28
          refine lv_iconst (v := 0) hx hb dX11_near_68 (by decide) ?_
          refine lv_istore (lv' := [(8, .int 0), (7, .int (nI (y - 1))), (6, .int (nI (x + 0))), (0, .ref mo), (1, .int (nI x)), (2, .int (nI y)), (3, .int (nI k)), (4, .int 0), (5, .int (-1))]) hx hb dX11_near_69 hl (by decide) rfl (fun ls hl => ?_)
          refine lv_iload hx hb dX11_near_71 (lv_at hl 0 rfl) ?_
          refine lv_if_eq (tgt := 92) hx hb dX11_near_73 (by decide) (fun c_73 => ?_) (fun c_73 => ?_)
          · skip
            refine lv_aload_n hx hb dX11_near_92 rfl (lv_at hl 3 rfl) ?_
            refine va_get (D := G.1) (ci := 10) (v := .int (nI md)) (C := RX11) (T := TX11) (N := 32) hx hb hts hin_X11_near_11 hown hK.1 hP 0 rfl rfl 5 (by decide) (hts (.fieldLink RX11 73 "MixedPredictModel" "mid" "I") (List.mem_cons_of_mem _ (List.mem_append_left _ (List.mem_of_getElem? (i := 3) rfl)))) (fun _ h9 => h9) rfl dX11_near_93 ?_
            refine x_top (y := nI (nbB P md x y k)) (by rw [nbB, if_pos (by omega)]) ?_
            exact r_iret hx hb hr hlocks (rfl) hH dX11_near_96
          · skip
            exfalso; first | exact absurd (by decide) c_73 | exact absurd c_73 (by decide)
        · skip
          have c_28 : ¬ (w ≤ x + 0) := fun z8 => c_28 ((nI_leI (a := w) (b := x + 0) (by omega) (by omega)).mpr z8)
          refine lv_iload hx hb dX11_near_31 (lv_at hl 0 rfl) ?_
          refine lv_aload_n hx hb dX11_near_33 rfl (lv_at hl 2 rfl) ?_
          refine va_get (D := G.1) (ci := 10) (v := .int (nI h)) (C := RX11) (T := TX11) (N := 32) hx hb hts hin_X11_near_11 hown hK.1 hP 0 rfl rfl 2 (by decide) (hts (.fieldLink RX11 64 "MixedPredictModel" "height" "I") (List.mem_cons_of_mem _ (List.mem_append_left _ (List.mem_of_getElem? (i := 1) rfl)))) (fun _ h9 => h9) rfl dX11_near_34 ?_
          refine lv_icmp_ge (tgt := 68) hx hb dX11_near_37 (by decide) (fun c_37 => ?_) (fun c_37 => ?_)
          · skip
            have c_37 : h ≤ y - 1 := (nI_leI (a := h) (b := y - 1) (by omega) (by omega)).mp c_37
            refine lv_iconst (v := 0) hx hb dX11_near_68 (by decide) ?_
            refine lv_istore (lv' := [(8, .int 0), (7, .int (nI (y - 1))), (6, .int (nI (x + 0))), (0, .ref mo), (1, .int (nI x)), (2, .int (nI y)), (3, .int (nI k)), (4, .int 0), (5, .int (-1))]) hx hb dX11_near_69 hl (by decide) rfl (fun ls hl => ?_)
            refine lv_iload hx hb dX11_near_71 (lv_at hl 0 rfl) ?_
            refine lv_if_eq (tgt := 92) hx hb dX11_near_73 (by decide) (fun c_73 => ?_) (fun c_73 => ?_)
            · skip
              refine lv_aload_n hx hb dX11_near_92 rfl (lv_at hl 3 rfl) ?_
              refine va_get (D := G.1) (ci := 10) (v := .int (nI md)) (C := RX11) (T := TX11) (N := 32) hx hb hts hin_X11_near_11 hown hK.1 hP 0 rfl rfl 5 (by decide) (hts (.fieldLink RX11 73 "MixedPredictModel" "mid" "I") (List.mem_cons_of_mem _ (List.mem_append_left _ (List.mem_of_getElem? (i := 3) rfl)))) (fun _ h9 => h9) rfl dX11_near_93 ?_
              refine x_top (y := nI (nbB P md x y k)) (by rw [nbB, if_pos (by omega)]) ?_
              exact r_iret hx hb hr hlocks (rfl) hH dX11_near_96
            · skip
              exfalso; first | exact absurd (by decide) c_73 | exact absurd c_73 (by decide)
          · skip
            have c_37 : ¬ (h ≤ y - 1) := fun z8 => c_37 ((nI_leI (a := h) (b := y - 1) (by omega) (by omega)).mpr z8)
            refine lv_iload hx hb dX11_near_40 (lv_at hl 1 rfl) ?_
            refine lv_bipush (v := 8) hx hb dX11_near_42 (by decide) ?_
            refine lv_idiv hx hb dX11_near_44 (by decide) ?_
            refine x_top (y := nI ((x + 0) / 8)) (pk_div (a := x + 0) (d := 8) (by omega) (by omega) (by omega)) ?_
            refine lv_iload_n hx hb dX11_near_45 rfl (lv_at hl 3 rfl) ?_
            refine lv_bipush (v := 8) hx hb dX11_near_46 (by decide) ?_
            refine lv_idiv hx hb dX11_near_48 (by decide) ?_
            refine x_top (y := nI (x / 8)) (pk_div (a := x) (d := 8) (by omega) (by omega) (by omega)) ?_
            refine lv_icmp_ne (tgt := 68) hx hb dX11_near_49 (by decide) (fun c_49 => ?_) (fun c_49 => ?_)
            · skip
              have c_49 : ¬ ((x + 0) / 8 = x / 8) := fun z8 => c_49 ((nI_eq (a := (x + 0) / 8) (b := x / 8) (by omega) (by omega)).mpr z8)
              refine lv_iconst (v := 0) hx hb dX11_near_68 (by decide) ?_
              refine lv_istore (lv' := [(8, .int 0), (7, .int (nI (y - 1))), (6, .int (nI (x + 0))), (0, .ref mo), (1, .int (nI x)), (2, .int (nI y)), (3, .int (nI k)), (4, .int 0), (5, .int (-1))]) hx hb dX11_near_69 hl (by decide) rfl (fun ls hl => ?_)
              refine lv_iload hx hb dX11_near_71 (lv_at hl 0 rfl) ?_
              refine lv_if_eq (tgt := 92) hx hb dX11_near_73 (by decide) (fun c_73 => ?_) (fun c_73 => ?_)
              · skip
                refine lv_aload_n hx hb dX11_near_92 rfl (lv_at hl 3 rfl) ?_
                refine va_get (D := G.1) (ci := 10) (v := .int (nI md)) (C := RX11) (T := TX11) (N := 32) hx hb hts hin_X11_near_11 hown hK.1 hP 0 rfl rfl 5 (by decide) (hts (.fieldLink RX11 73 "MixedPredictModel" "mid" "I") (List.mem_cons_of_mem _ (List.mem_append_left _ (List.mem_of_getElem? (i := 3) rfl)))) (fun _ h9 => h9) rfl dX11_near_93 ?_
                refine x_top (y := nI (nbB P md x y k)) (by rw [nbB, if_pos (by omega)]) ?_
                exact r_iret hx hb hr hlocks (rfl) hH dX11_near_96
              · skip
                exfalso; first | exact absurd (by decide) c_73 | exact absurd c_73 (by decide)
            · skip
              have c_49 : (x + 0) / 8 = x / 8 := (nI_eq (a := (x + 0) / 8) (b := x / 8) (by omega) (by omega)).mp c_49
              refine lv_iload hx hb dX11_near_52 (lv_at hl 0 rfl) ?_
              refine lv_bipush (v := 8) hx hb dX11_near_54 (by decide) ?_
              refine lv_idiv hx hb dX11_near_56 (by decide) ?_
              refine x_top (y := nI ((y - 1) / 8)) (pk_div (a := y - 1) (d := 8) (by omega) (by omega) (by omega)) ?_
              refine lv_iload_n hx hb dX11_near_57 rfl (lv_at hl 4 rfl) ?_
              refine lv_bipush (v := 8) hx hb dX11_near_58 (by decide) ?_
              refine lv_idiv hx hb dX11_near_60 (by decide) ?_
              refine x_top (y := nI (y / 8)) (pk_div (a := y) (d := 8) (by omega) (by omega) (by omega)) ?_
              refine lv_icmp_ne (tgt := 68) hx hb dX11_near_61 (by decide) (fun c_61 => ?_) (fun c_61 => ?_)
              · skip
                have c_61 : ¬ ((y - 1) / 8 = y / 8) := fun z8 => c_61 ((nI_eq (a := (y - 1) / 8) (b := y / 8) (by omega) (by omega)).mpr z8)
                refine lv_iconst (v := 0) hx hb dX11_near_68 (by decide) ?_
                refine lv_istore (lv' := [(8, .int 0), (7, .int (nI (y - 1))), (6, .int (nI (x + 0))), (0, .ref mo), (1, .int (nI x)), (2, .int (nI y)), (3, .int (nI k)), (4, .int 0), (5, .int (-1))]) hx hb dX11_near_69 hl (by decide) rfl (fun ls hl => ?_)
                refine lv_iload hx hb dX11_near_71 (lv_at hl 0 rfl) ?_
                refine lv_if_eq (tgt := 92) hx hb dX11_near_73 (by decide) (fun c_73 => ?_) (fun c_73 => ?_)
                · skip
                  refine lv_aload_n hx hb dX11_near_92 rfl (lv_at hl 3 rfl) ?_
                  refine va_get (D := G.1) (ci := 10) (v := .int (nI md)) (C := RX11) (T := TX11) (N := 32) hx hb hts hin_X11_near_11 hown hK.1 hP 0 rfl rfl 5 (by decide) (hts (.fieldLink RX11 73 "MixedPredictModel" "mid" "I") (List.mem_cons_of_mem _ (List.mem_append_left _ (List.mem_of_getElem? (i := 3) rfl)))) (fun _ h9 => h9) rfl dX11_near_93 ?_
                  refine x_top (y := nI (nbB P md x y k)) (by rw [nbB, if_pos (by omega)]) ?_
                  exact r_iret hx hb hr hlocks (rfl) hH dX11_near_96
                · skip
                  exfalso; first | exact absurd (by decide) c_73 | exact absurd c_73 (by decide)
              · skip
                have c_61 : (y - 1) / 8 = y / 8 := (nI_eq (a := (y - 1) / 8) (b := y / 8) (by omega) (by omega)).mp c_61
                refine lv_iconst (v := 1) hx hb dX11_near_64 (by decide) ?_
                refine lv_goto (tgt := 69) hx hb dX11_near_65 (by decide) ?_
                refine lv_istore (lv' := [(8, .int 1), (7, .int (nI (y - 1))), (6, .int (nI (x + 0))), (0, .ref mo), (1, .int (nI x)), (2, .int (nI y)), (3, .int (nI k)), (4, .int 0), (5, .int (-1))]) hx hb dX11_near_69 hl (by decide) rfl (fun ls hl => ?_)
                refine lv_iload hx hb dX11_near_71 (lv_at hl 0 rfl) ?_
                refine lv_if_eq (tgt := 92) hx hb dX11_near_73 (by decide) (fun c_73 => ?_) (fun c_73 => ?_)
                · skip
                  exfalso; first | exact absurd (by decide) c_73 | exact absurd c_73 (by decide)
                · skip
                  refine lv_aload_n hx hb dX11_near_76 rfl (lv_at hl 3 rfl) ?_
                  refine va_get (D := G.1) (ci := 10) (v := .ref mS) (C := RX11) (T := TX11) (N := 32) hx hb hts hin_X11_near_11 hown hK.1 hP 0 rfl rfl 7 (by decide) (hts (.fieldLink RX11 7 "MixedPredictModel" "samples" "[I") (List.mem_cons_of_mem _ (List.mem_append_left _ (List.mem_of_getElem? (i := 2) rfl)))) (fun _ h9 => h9) rfl dX11_near_77 ?_
                  refine lv_iload hx hb dX11_near_80 (lv_at hl 2 rfl) ?_
                  refine lv_iload hx hb dX11_near_82 (lv_at hl 1 rfl) ?_
                  refine lv_iload_n hx hb dX11_near_84 rfl (lv_at hl 6 rfl) ?_
                  refine r_fin_i (va_runS (As := [.int (nI (x + 0)), .int (nI (y - 1)), .int (nI k)]) (rest := [.ref mS]) ⟨hx, hb, hml, hown, hts⟩ (c_X11_spot l G (x + 0) (y - 1) k) (va_cwS 3 hts gX11_near_X11_spot rfl rfl rfl (by decide +kernel) ⟨Nat.le_of_ble_eq_true rfl, Nat.le_of_ble_eq_true rfl⟩) (r_pre hK hP [] rfl) rfl rfl hl.1 rfl (lv_room (Nat.le_of_ble_eq_true rfl)) dX11_near_85 ⟨Nat.zero_le _, Nat.zero_le _⟩) (fun r_1 hw => ?_)
                  subst hw
                  refine x_iald (i := 3 * (16 * (y - 1) + (x + 0)) + k) hx hb hK.1 hP 1 0 rfl rfl (by omega) (by omega) dX11_near_88 ?_
                  refine x_top (y := nI (nbB P md x y k)) (by rw [nbB, if_neg (by omega)]; exact qP (x + 0) (y - 1) k (by omega) (by omega) qk) ?_
                  refine lv_goto (tgt := 96) hx hb dX11_near_89 (by decide) ?_
                  exact r_iret hx hb hr hlocks (rfl) hH dX11_near_96

set_option maxHeartbeats 4000000 in
set_option maxRecDepth 100000 in
theorem c_X11_near_C (l : Launch) (G : GG) (mo mS mW mF mG mH mA kW kF kG kH mE mL mO mC mR : Nat) (w h b c md : Nat) (hd : DIM w h b c md) (code oc cc rc wrs frm enn mxx : Int32) (low hig wrd : Int64) (P : Nat → Nat → Nat → Nat) (f : Nat → Int32) (qP : PicR w h c f P) (x y k : Nat) (qx : x < w) (qy : y < h) (qk : k < c)  : Met l yX11_near wsX11_near ({ frames := 1, cells := 0, slots := 0, locals := 22 } : Room) (r_Pc G [.ref mo, .int (nI x), .int (nI y), .int (nI k), .int (-1), .int (-1)] [(mo, .inr (10, [.int code, .int (nI w), .int (nI h), .int (nI b), .int (nI c), .int (nI md), .int (nI (2 * md)), .ref mS, .ref mW, .ref mF, .ref mG, .ref mH, .ref mA, .ref kW, .ref kF, .ref kG, .ref kH, .ref mE, .ref mL, .ref mO, .int oc, .ref mC, .int cc, .ref mR, .int rc, .long low, .long hig, .long wrd, .int wrs, .int frm, .int enn, .int mxx])), (mS, .inl (G.2.1, 768, .inl f))]) (vp_Si (fun r => r = (nI (nbC P md x y k)))) 0 0 (fun _ => False) := by
  refine r_ofW (cc := cX11_near) (maxL := 9) (ret := (some .int)) (by decide) rfl (Nat.le_of_ble_eq_true rfl) ?_
  intro pZ eZ sZ mZ bZ tZ cZ hx hb hr hts hown hlocks hml hK H hH hP ls hl
  have hown : sZ.vm.findClass RX11 = some mZ.cls := hown
  have hl : lv_has ls 9 [(0, .ref mo), (1, .int (nI x)), (2, .int (nI y)), (3, .int (nI k)), (4, .int (-1)), (5, .int (-1))] := hl
  obtain ⟨dw1, dw2, dh1, dh2, db1, db2, dc1, dc2, dm1, dm2, dme⟩ := id hd
  refine lv_iload_n hx hb dX11_near_0 rfl (lv_at hl 1 rfl) ?_
  refine lv_iload hx hb dX11_near_1 (lv_at hl 4 rfl) ?_
  refine lv_iadd hx hb dX11_near_3 ?_
  by_cases zx : x = 0
  · skip
    refine x_top (y := (-1)) (by rw [zx]; decide) ?_
    refine lv_istore (lv' := [(6, .int (-1)), (0, .ref mo), (1, .int (nI x)), (2, .int (nI y)), (3, .int (nI k)), (4, .int (-1)), (5, .int (-1))]) hx hb dX11_near_4 hl (by decide) rfl (fun ls hl => ?_)
    refine lv_iload_n hx hb dX11_near_6 rfl (lv_at hl 3 rfl) ?_
    refine lv_iload hx hb dX11_near_7 (lv_at hl 6 rfl) ?_
    refine lv_iadd hx hb dX11_near_9 ?_
    by_cases zy : y = 0
    · skip
      refine x_top (y := (-1)) (by rw [zy]; decide) ?_
      refine lv_istore (lv' := [(7, .int (-1)), (6, .int (-1)), (0, .ref mo), (1, .int (nI x)), (2, .int (nI y)), (3, .int (nI k)), (4, .int (-1)), (5, .int (-1))]) hx hb dX11_near_10 hl (by decide) rfl (fun ls hl => ?_)
      refine lv_iload hx hb dX11_near_12 (lv_at hl 1 rfl) ?_
      refine lv_if_lt (tgt := 68) hx hb dX11_near_14 (by decide) (fun c_14 => ?_) (fun c_14 => ?_)
      · skip
        refine lv_iconst (v := 0) hx hb dX11_near_68 (by decide) ?_
        refine lv_istore (lv' := [(8, .int 0), (7, .int (-1)), (6, .int (-1)), (0, .ref mo), (1, .int (nI x)), (2, .int (nI y)), (3, .int (nI k)), (4, .int (-1)), (5, .int (-1))]) hx hb dX11_near_69 hl (by decide) rfl (fun ls hl => ?_)
        refine lv_iload hx hb dX11_near_71 (lv_at hl 0 rfl) ?_
        refine lv_if_eq (tgt := 92) hx hb dX11_near_73 (by decide) (fun c_73 => ?_) (fun c_73 => ?_)
        · skip
          refine lv_aload_n hx hb dX11_near_92 rfl (lv_at hl 3 rfl) ?_
          refine va_get (D := G.1) (ci := 10) (v := .int (nI md)) (C := RX11) (T := TX11) (N := 32) hx hb hts hin_X11_near_11 hown hK.1 hP 0 rfl rfl 5 (by decide) (hts (.fieldLink RX11 73 "MixedPredictModel" "mid" "I") (List.mem_cons_of_mem _ (List.mem_append_left _ (List.mem_of_getElem? (i := 3) rfl)))) (fun _ h9 => h9) rfl dX11_near_93 ?_
          refine x_top (y := nI (nbC P md x y k)) (by rw [nbC, if_pos (by omega)]) ?_
          exact r_iret hx hb hr hlocks (rfl) hH dX11_near_96
        · skip
          exfalso; first | exact absurd (by decide) c_73 | exact absurd c_73 (by decide)
      · skip
        exfalso; first | exact absurd (by decide) c_14 | exact absurd c_14 (by decide)
    · skip
      refine x_top (y := nI (y - 1)) (by rw [show y = (y - 1) + 1 by omega]; exact pk_m1 _) ?_
      refine lv_istore (lv' := [(7, .int (nI (y - 1))), (6, .int (-1)), (0, .ref mo), (1, .int (nI x)), (2, .int (nI y)), (3, .int (nI k)), (4, .int (-1)), (5, .int (-1))]) hx hb dX11_near_10 hl (by decide) rfl (fun ls hl => ?_)
      refine lv_iload hx hb dX11_near_12 (lv_at hl 1 rfl) ?_
      refine lv_if_lt (tgt := 68) hx hb dX11_near_14 (by decide) (fun c_14 => ?_) (fun c_14 => ?_)
      · skip
        refine lv_iconst (v := 0) hx hb dX11_near_68 (by decide) ?_
        refine lv_istore (lv' := [(8, .int 0), (7, .int (nI (y - 1))), (6, .int (-1)), (0, .ref mo), (1, .int (nI x)), (2, .int (nI y)), (3, .int (nI k)), (4, .int (-1)), (5, .int (-1))]) hx hb dX11_near_69 hl (by decide) rfl (fun ls hl => ?_)
        refine lv_iload hx hb dX11_near_71 (lv_at hl 0 rfl) ?_
        refine lv_if_eq (tgt := 92) hx hb dX11_near_73 (by decide) (fun c_73 => ?_) (fun c_73 => ?_)
        · skip
          refine lv_aload_n hx hb dX11_near_92 rfl (lv_at hl 3 rfl) ?_
          refine va_get (D := G.1) (ci := 10) (v := .int (nI md)) (C := RX11) (T := TX11) (N := 32) hx hb hts hin_X11_near_11 hown hK.1 hP 0 rfl rfl 5 (by decide) (hts (.fieldLink RX11 73 "MixedPredictModel" "mid" "I") (List.mem_cons_of_mem _ (List.mem_append_left _ (List.mem_of_getElem? (i := 3) rfl)))) (fun _ h9 => h9) rfl dX11_near_93 ?_
          refine x_top (y := nI (nbC P md x y k)) (by rw [nbC, if_pos (by omega)]) ?_
          exact r_iret hx hb hr hlocks (rfl) hH dX11_near_96
        · skip
          exfalso; first | exact absurd (by decide) c_73 | exact absurd c_73 (by decide)
      · skip
        exfalso; first | exact absurd (by decide) c_14 | exact absurd c_14 (by decide)
  · skip
    refine x_top (y := nI (x - 1)) (by rw [show x = (x - 1) + 1 by omega]; exact pk_m1 _) ?_
    refine lv_istore (lv' := [(6, .int (nI (x - 1))), (0, .ref mo), (1, .int (nI x)), (2, .int (nI y)), (3, .int (nI k)), (4, .int (-1)), (5, .int (-1))]) hx hb dX11_near_4 hl (by decide) rfl (fun ls hl => ?_)
    refine lv_iload_n hx hb dX11_near_6 rfl (lv_at hl 3 rfl) ?_
    refine lv_iload hx hb dX11_near_7 (lv_at hl 6 rfl) ?_
    refine lv_iadd hx hb dX11_near_9 ?_
    by_cases zy : y = 0
    · skip
      refine x_top (y := (-1)) (by rw [zy]; decide) ?_
      refine lv_istore (lv' := [(7, .int (-1)), (6, .int (nI (x - 1))), (0, .ref mo), (1, .int (nI x)), (2, .int (nI y)), (3, .int (nI k)), (4, .int (-1)), (5, .int (-1))]) hx hb dX11_near_10 hl (by decide) rfl (fun ls hl => ?_)
      refine lv_iload hx hb dX11_near_12 (lv_at hl 1 rfl) ?_
      refine lv_if_lt (tgt := 68) hx hb dX11_near_14 (by decide) (fun c_14 => ?_) (fun c_14 => ?_)
      · skip
        have c_14 : x - 1 < 0 := (nI_ltI (a := x - 1) (b := 0) (by omega) (by omega)).mp c_14
        exfalso; omega
      · skip
        have c_14 : ¬ (x - 1 < 0) := fun z8 => c_14 ((nI_ltI (a := x - 1) (b := 0) (by omega) (by omega)).mpr z8)
        refine lv_iload hx hb dX11_near_17 (lv_at hl 0 rfl) ?_
        refine lv_if_lt (tgt := 68) hx hb dX11_near_19 (by decide) (fun c_19 => ?_) (fun c_19 => ?_)
        · skip
          refine lv_iconst (v := 0) hx hb dX11_near_68 (by decide) ?_
          refine lv_istore (lv' := [(8, .int 0), (7, .int (-1)), (6, .int (nI (x - 1))), (0, .ref mo), (1, .int (nI x)), (2, .int (nI y)), (3, .int (nI k)), (4, .int (-1)), (5, .int (-1))]) hx hb dX11_near_69 hl (by decide) rfl (fun ls hl => ?_)
          refine lv_iload hx hb dX11_near_71 (lv_at hl 0 rfl) ?_
          refine lv_if_eq (tgt := 92) hx hb dX11_near_73 (by decide) (fun c_73 => ?_) (fun c_73 => ?_)
          · skip
            refine lv_aload_n hx hb dX11_near_92 rfl (lv_at hl 3 rfl) ?_
            refine va_get (D := G.1) (ci := 10) (v := .int (nI md)) (C := RX11) (T := TX11) (N := 32) hx hb hts hin_X11_near_11 hown hK.1 hP 0 rfl rfl 5 (by decide) (hts (.fieldLink RX11 73 "MixedPredictModel" "mid" "I") (List.mem_cons_of_mem _ (List.mem_append_left _ (List.mem_of_getElem? (i := 3) rfl)))) (fun _ h9 => h9) rfl dX11_near_93 ?_
            refine x_top (y := nI (nbC P md x y k)) (by rw [nbC, if_pos (by omega)]) ?_
            exact r_iret hx hb hr hlocks (rfl) hH dX11_near_96
          · skip
            exfalso; first | exact absurd (by decide) c_73 | exact absurd c_73 (by decide)
        · skip
          exfalso; first | exact absurd (by decide) c_19 | exact absurd c_19 (by decide)
    · skip
      refine x_top (y := nI (y - 1)) (by rw [show y = (y - 1) + 1 by omega]; exact pk_m1 _) ?_
      refine lv_istore (lv' := [(7, .int (nI (y - 1))), (6, .int (nI (x - 1))), (0, .ref mo), (1, .int (nI x)), (2, .int (nI y)), (3, .int (nI k)), (4, .int (-1)), (5, .int (-1))]) hx hb dX11_near_10 hl (by decide) rfl (fun ls hl => ?_)
      refine lv_iload hx hb dX11_near_12 (lv_at hl 1 rfl) ?_
      refine lv_if_lt (tgt := 68) hx hb dX11_near_14 (by decide) (fun c_14 => ?_) (fun c_14 => ?_)
      · skip
        have c_14 : x - 1 < 0 := (nI_ltI (a := x - 1) (b := 0) (by omega) (by omega)).mp c_14
        exfalso; omega
      · skip
        have c_14 : ¬ (x - 1 < 0) := fun z8 => c_14 ((nI_ltI (a := x - 1) (b := 0) (by omega) (by omega)).mpr z8)
        refine lv_iload hx hb dX11_near_17 (lv_at hl 0 rfl) ?_
        refine lv_if_lt (tgt := 68) hx hb dX11_near_19 (by decide) (fun c_19 => ?_) (fun c_19 => ?_)
        · skip
          have c_19 : y - 1 < 0 := (nI_ltI (a := y - 1) (b := 0) (by omega) (by omega)).mp c_19
          exfalso; omega
        · skip
          have c_19 : ¬ (y - 1 < 0) := fun z8 => c_19 ((nI_ltI (a := y - 1) (b := 0) (by omega) (by omega)).mpr z8)
          refine lv_iload hx hb dX11_near_22 (lv_at hl 1 rfl) ?_
          refine lv_aload_n hx hb dX11_near_24 rfl (lv_at hl 2 rfl) ?_
          refine va_get (D := G.1) (ci := 10) (v := .int (nI w)) (C := RX11) (T := TX11) (N := 32) hx hb hts hin_X11_near_11 hown hK.1 hP 0 rfl rfl 1 (by decide) (hts (.fieldLink RX11 60 "MixedPredictModel" "width" "I") (List.mem_cons_of_mem _ (List.mem_append_left _ (List.mem_of_getElem? (i := 0) rfl)))) (fun _ h9 => h9) rfl dX11_near_25 ?_
          refine lv_icmp_ge (tgt := 68) hx hb dX11_near_28 (by decide) (fun c_28 => ?_) (fun c_28 => ?_)
          · skip
            have c_28 : w ≤ x - 1 := (nI_leI (a := w) (b := x - 1) (by omega) (by omega)).mp c_28
            refine lv_iconst (v := 0) hx hb dX11_near_68 (by decide) ?_
            refine lv_istore (lv' := [(8, .int 0), (7, .int (nI (y - 1))), (6, .int (nI (x - 1))), (0, .ref mo), (1, .int (nI x)), (2, .int (nI y)), (3, .int (nI k)), (4, .int (-1)), (5, .int (-1))]) hx hb dX11_near_69 hl (by decide) rfl (fun ls hl => ?_)
            refine lv_iload hx hb dX11_near_71 (lv_at hl 0 rfl) ?_
            refine lv_if_eq (tgt := 92) hx hb dX11_near_73 (by decide) (fun c_73 => ?_) (fun c_73 => ?_)
            · skip
              refine lv_aload_n hx hb dX11_near_92 rfl (lv_at hl 3 rfl) ?_
              refine va_get (D := G.1) (ci := 10) (v := .int (nI md)) (C := RX11) (T := TX11) (N := 32) hx hb hts hin_X11_near_11 hown hK.1 hP 0 rfl rfl 5 (by decide) (hts (.fieldLink RX11 73 "MixedPredictModel" "mid" "I") (List.mem_cons_of_mem _ (List.mem_append_left _ (List.mem_of_getElem? (i := 3) rfl)))) (fun _ h9 => h9) rfl dX11_near_93 ?_
              refine x_top (y := nI (nbC P md x y k)) (by rw [nbC, if_pos (by omega)]) ?_
              exact r_iret hx hb hr hlocks (rfl) hH dX11_near_96
            · skip
              exfalso; first | exact absurd (by decide) c_73 | exact absurd c_73 (by decide)
          · skip
            have c_28 : ¬ (w ≤ x - 1) := fun z8 => c_28 ((nI_leI (a := w) (b := x - 1) (by omega) (by omega)).mpr z8)
            refine lv_iload hx hb dX11_near_31 (lv_at hl 0 rfl) ?_
            refine lv_aload_n hx hb dX11_near_33 rfl (lv_at hl 2 rfl) ?_
            refine va_get (D := G.1) (ci := 10) (v := .int (nI h)) (C := RX11) (T := TX11) (N := 32) hx hb hts hin_X11_near_11 hown hK.1 hP 0 rfl rfl 2 (by decide) (hts (.fieldLink RX11 64 "MixedPredictModel" "height" "I") (List.mem_cons_of_mem _ (List.mem_append_left _ (List.mem_of_getElem? (i := 1) rfl)))) (fun _ h9 => h9) rfl dX11_near_34 ?_
            refine lv_icmp_ge (tgt := 68) hx hb dX11_near_37 (by decide) (fun c_37 => ?_) (fun c_37 => ?_)
            · skip
              have c_37 : h ≤ y - 1 := (nI_leI (a := h) (b := y - 1) (by omega) (by omega)).mp c_37
              refine lv_iconst (v := 0) hx hb dX11_near_68 (by decide) ?_
              refine lv_istore (lv' := [(8, .int 0), (7, .int (nI (y - 1))), (6, .int (nI (x - 1))), (0, .ref mo), (1, .int (nI x)), (2, .int (nI y)), (3, .int (nI k)), (4, .int (-1)), (5, .int (-1))]) hx hb dX11_near_69 hl (by decide) rfl (fun ls hl => ?_)
              refine lv_iload hx hb dX11_near_71 (lv_at hl 0 rfl) ?_
              refine lv_if_eq (tgt := 92) hx hb dX11_near_73 (by decide) (fun c_73 => ?_) (fun c_73 => ?_)
              · skip
                refine lv_aload_n hx hb dX11_near_92 rfl (lv_at hl 3 rfl) ?_
                refine va_get (D := G.1) (ci := 10) (v := .int (nI md)) (C := RX11) (T := TX11) (N := 32) hx hb hts hin_X11_near_11 hown hK.1 hP 0 rfl rfl 5 (by decide) (hts (.fieldLink RX11 73 "MixedPredictModel" "mid" "I") (List.mem_cons_of_mem _ (List.mem_append_left _ (List.mem_of_getElem? (i := 3) rfl)))) (fun _ h9 => h9) rfl dX11_near_93 ?_
                refine x_top (y := nI (nbC P md x y k)) (by rw [nbC, if_pos (by omega)]) ?_
                exact r_iret hx hb hr hlocks (rfl) hH dX11_near_96
              · skip
                exfalso; first | exact absurd (by decide) c_73 | exact absurd c_73 (by decide)
            · skip
              have c_37 : ¬ (h ≤ y - 1) := fun z8 => c_37 ((nI_leI (a := h) (b := y - 1) (by omega) (by omega)).mpr z8)
              refine lv_iload hx hb dX11_near_40 (lv_at hl 1 rfl) ?_
              refine lv_bipush (v := 8) hx hb dX11_near_42 (by decide) ?_
              refine lv_idiv hx hb dX11_near_44 (by decide) ?_
              refine x_top (y := nI ((x - 1) / 8)) (pk_div (a := x - 1) (d := 8) (by omega) (by omega) (by omega)) ?_
              refine lv_iload_n hx hb dX11_near_45 rfl (lv_at hl 3 rfl) ?_
              refine lv_bipush (v := 8) hx hb dX11_near_46 (by decide) ?_
              refine lv_idiv hx hb dX11_near_48 (by decide) ?_
              refine x_top (y := nI (x / 8)) (pk_div (a := x) (d := 8) (by omega) (by omega) (by omega)) ?_
              refine lv_icmp_ne (tgt := 68) hx hb dX11_near_49 (by decide) (fun c_49 => ?_) (fun c_49 => ?_)
              · skip
                have c_49 : ¬ ((x - 1) / 8 = x / 8) := fun z8 => c_49 ((nI_eq (a := (x - 1) / 8) (b := x / 8) (by omega) (by omega)).mpr z8)
                refine lv_iconst (v := 0) hx hb dX11_near_68 (by decide) ?_
                refine lv_istore (lv' := [(8, .int 0), (7, .int (nI (y - 1))), (6, .int (nI (x - 1))), (0, .ref mo), (1, .int (nI x)), (2, .int (nI y)), (3, .int (nI k)), (4, .int (-1)), (5, .int (-1))]) hx hb dX11_near_69 hl (by decide) rfl (fun ls hl => ?_)
                refine lv_iload hx hb dX11_near_71 (lv_at hl 0 rfl) ?_
                refine lv_if_eq (tgt := 92) hx hb dX11_near_73 (by decide) (fun c_73 => ?_) (fun c_73 => ?_)
                · skip
                  refine lv_aload_n hx hb dX11_near_92 rfl (lv_at hl 3 rfl) ?_
                  refine va_get (D := G.1) (ci := 10) (v := .int (nI md)) (C := RX11) (T := TX11) (N := 32) hx hb hts hin_X11_near_11 hown hK.1 hP 0 rfl rfl 5 (by decide) (hts (.fieldLink RX11 73 "MixedPredictModel" "mid" "I") (List.mem_cons_of_mem _ (List.mem_append_left _ (List.mem_of_getElem? (i := 3) rfl)))) (fun _ h9 => h9) rfl dX11_near_93 ?_
                  refine x_top (y := nI (nbC P md x y k)) (by rw [nbC, if_pos (by omega)]) ?_
                  exact r_iret hx hb hr hlocks (rfl) hH dX11_near_96
                · skip
                  exfalso; first | exact absurd (by decide) c_73 | exact absurd c_73 (by decide)
              · skip
                have c_49 : (x - 1) / 8 = x / 8 := (nI_eq (a := (x - 1) / 8) (b := x / 8) (by omega) (by omega)).mp c_49
                refine lv_iload hx hb dX11_near_52 (lv_at hl 0 rfl) ?_
                refine lv_bipush (v := 8) hx hb dX11_near_54 (by decide) ?_
                refine lv_idiv hx hb dX11_near_56 (by decide) ?_
                refine x_top (y := nI ((y - 1) / 8)) (pk_div (a := y - 1) (d := 8) (by omega) (by omega) (by omega)) ?_
                refine lv_iload_n hx hb dX11_near_57 rfl (lv_at hl 4 rfl) ?_
                refine lv_bipush (v := 8) hx hb dX11_near_58 (by decide) ?_
                refine lv_idiv hx hb dX11_near_60 (by decide) ?_
                refine x_top (y := nI (y / 8)) (pk_div (a := y) (d := 8) (by omega) (by omega) (by omega)) ?_
                refine lv_icmp_ne (tgt := 68) hx hb dX11_near_61 (by decide) (fun c_61 => ?_) (fun c_61 => ?_)
                · skip
                  have c_61 : ¬ ((y - 1) / 8 = y / 8) := fun z8 => c_61 ((nI_eq (a := (y - 1) / 8) (b := y / 8) (by omega) (by omega)).mpr z8)
                  refine lv_iconst (v := 0) hx hb dX11_near_68 (by decide) ?_
                  refine lv_istore (lv' := [(8, .int 0), (7, .int (nI (y - 1))), (6, .int (nI (x - 1))), (0, .ref mo), (1, .int (nI x)), (2, .int (nI y)), (3, .int (nI k)), (4, .int (-1)), (5, .int (-1))]) hx hb dX11_near_69 hl (by decide) rfl (fun ls hl => ?_)
                  refine lv_iload hx hb dX11_near_71 (lv_at hl 0 rfl) ?_
                  refine lv_if_eq (tgt := 92) hx hb dX11_near_73 (by decide) (fun c_73 => ?_) (fun c_73 => ?_)
                  · skip
                    refine lv_aload_n hx hb dX11_near_92 rfl (lv_at hl 3 rfl) ?_
                    refine va_get (D := G.1) (ci := 10) (v := .int (nI md)) (C := RX11) (T := TX11) (N := 32) hx hb hts hin_X11_near_11 hown hK.1 hP 0 rfl rfl 5 (by decide) (hts (.fieldLink RX11 73 "MixedPredictModel" "mid" "I") (List.mem_cons_of_mem _ (List.mem_append_left _ (List.mem_of_getElem? (i := 3) rfl)))) (fun _ h9 => h9) rfl dX11_near_93 ?_
                    refine x_top (y := nI (nbC P md x y k)) (by rw [nbC, if_pos (by omega)]) ?_
                    exact r_iret hx hb hr hlocks (rfl) hH dX11_near_96
                  · skip
                    exfalso; first | exact absurd (by decide) c_73 | exact absurd c_73 (by decide)
                · skip
                  have c_61 : (y - 1) / 8 = y / 8 := (nI_eq (a := (y - 1) / 8) (b := y / 8) (by omega) (by omega)).mp c_61
                  refine lv_iconst (v := 1) hx hb dX11_near_64 (by decide) ?_
                  refine lv_goto (tgt := 69) hx hb dX11_near_65 (by decide) ?_
                  refine lv_istore (lv' := [(8, .int 1), (7, .int (nI (y - 1))), (6, .int (nI (x - 1))), (0, .ref mo), (1, .int (nI x)), (2, .int (nI y)), (3, .int (nI k)), (4, .int (-1)), (5, .int (-1))]) hx hb dX11_near_69 hl (by decide) rfl (fun ls hl => ?_)
                  refine lv_iload hx hb dX11_near_71 (lv_at hl 0 rfl) ?_
                  refine lv_if_eq (tgt := 92) hx hb dX11_near_73 (by decide) (fun c_73 => ?_) (fun c_73 => ?_)
                  · skip
                    exfalso; first | exact absurd (by decide) c_73 | exact absurd c_73 (by decide)
                  · skip
                    refine lv_aload_n hx hb dX11_near_76 rfl (lv_at hl 3 rfl) ?_
                    refine va_get (D := G.1) (ci := 10) (v := .ref mS) (C := RX11) (T := TX11) (N := 32) hx hb hts hin_X11_near_11 hown hK.1 hP 0 rfl rfl 7 (by decide) (hts (.fieldLink RX11 7 "MixedPredictModel" "samples" "[I") (List.mem_cons_of_mem _ (List.mem_append_left _ (List.mem_of_getElem? (i := 2) rfl)))) (fun _ h9 => h9) rfl dX11_near_77 ?_
                    refine lv_iload hx hb dX11_near_80 (lv_at hl 2 rfl) ?_
                    refine lv_iload hx hb dX11_near_82 (lv_at hl 1 rfl) ?_
                    refine lv_iload_n hx hb dX11_near_84 rfl (lv_at hl 6 rfl) ?_
                    refine r_fin_i (va_runS (As := [.int (nI (x - 1)), .int (nI (y - 1)), .int (nI k)]) (rest := [.ref mS]) ⟨hx, hb, hml, hown, hts⟩ (c_X11_spot l G (x - 1) (y - 1) k) (va_cwS 3 hts gX11_near_X11_spot rfl rfl rfl (by decide +kernel) ⟨Nat.le_of_ble_eq_true rfl, Nat.le_of_ble_eq_true rfl⟩) (r_pre hK hP [] rfl) rfl rfl hl.1 rfl (lv_room (Nat.le_of_ble_eq_true rfl)) dX11_near_85 ⟨Nat.zero_le _, Nat.zero_le _⟩) (fun r_1 hw => ?_)
                    subst hw
                    refine x_iald (i := 3 * (16 * (y - 1) + (x - 1)) + k) hx hb hK.1 hP 1 0 rfl rfl (by omega) (by omega) dX11_near_88 ?_
                    refine x_top (y := nI (nbC P md x y k)) (by rw [nbC, if_neg (by omega)]; exact qP (x - 1) (y - 1) k (by omega) (by omega) qk) ?_
                    refine lv_goto (tgt := 96) hx hb dX11_near_89 (by decide) ?_
                    exact r_iret hx hb hr hlocks (rfl) hH dX11_near_96

set_option maxHeartbeats 4000000 in
set_option maxRecDepth 100000 in
theorem c_X11_near_D (l : Launch) (G : GG) (mo mS mW mF mG mH mA kW kF kG kH mE mL mO mC mR : Nat) (w h b c md : Nat) (hd : DIM w h b c md) (code oc cc rc wrs frm enn mxx : Int32) (low hig wrd : Int64) (P : Nat → Nat → Nat → Nat) (f : Nat → Int32) (qP : PicR w h c f P) (x y k : Nat) (qx : x < w) (qy : y < h) (qk : k < c)  : Met l yX11_near wsX11_near ({ frames := 1, cells := 0, slots := 0, locals := 22 } : Room) (r_Pc G [.ref mo, .int (nI x), .int (nI y), .int (nI k), .int 1, .int (-1)] [(mo, .inr (10, [.int code, .int (nI w), .int (nI h), .int (nI b), .int (nI c), .int (nI md), .int (nI (2 * md)), .ref mS, .ref mW, .ref mF, .ref mG, .ref mH, .ref mA, .ref kW, .ref kF, .ref kG, .ref kH, .ref mE, .ref mL, .ref mO, .int oc, .ref mC, .int cc, .ref mR, .int rc, .long low, .long hig, .long wrd, .int wrs, .int frm, .int enn, .int mxx])), (mS, .inl (G.2.1, 768, .inl f))]) (vp_Si (fun r => r = (nI (nbD P w md x y k)))) 0 0 (fun _ => False) := by
  refine r_ofW (cc := cX11_near) (maxL := 9) (ret := (some .int)) (by decide) rfl (Nat.le_of_ble_eq_true rfl) ?_
  intro pZ eZ sZ mZ bZ tZ cZ hx hb hr hts hown hlocks hml hK H hH hP ls hl
  have hown : sZ.vm.findClass RX11 = some mZ.cls := hown
  have hl : lv_has ls 9 [(0, .ref mo), (1, .int (nI x)), (2, .int (nI y)), (3, .int (nI k)), (4, .int 1), (5, .int (-1))] := hl
  obtain ⟨dw1, dw2, dh1, dh2, db1, db2, dc1, dc2, dm1, dm2, dme⟩ := id hd
  refine lv_iload_n hx hb dX11_near_0 rfl (lv_at hl 1 rfl) ?_
  refine lv_iload hx hb dX11_near_1 (lv_at hl 4 rfl) ?_
  refine lv_iadd hx hb dX11_near_3 ?_
  refine x_top (y := nI (x + 1)) (nI_add _ _) ?_
  refine lv_istore (lv' := [(6, .int (nI (x + 1))), (0, .ref mo), (1, .int (nI x)), (2, .int (nI y)), (3, .int (nI k)), (4, .int 1), (5, .int (-1))]) hx hb dX11_near_4 hl (by decide) rfl (fun ls hl => ?_)
  refine lv_iload_n hx hb dX11_near_6 rfl (lv_at hl 3 rfl) ?_
  refine lv_iload hx hb dX11_near_7 (lv_at hl 6 rfl) ?_
  refine lv_iadd hx hb dX11_near_9 ?_
  by_cases zy : y = 0
  · skip
    refine x_top (y := (-1)) (by rw [zy]; decide) ?_
    refine lv_istore (lv' := [(7, .int (-1)), (6, .int (nI (x + 1))), (0, .ref mo), (1, .int (nI x)), (2, .int (nI y)), (3, .int (nI k)), (4, .int 1), (5, .int (-1))]) hx hb dX11_near_10 hl (by decide) rfl (fun ls hl => ?_)
    refine lv_iload hx hb dX11_near_12 (lv_at hl 1 rfl) ?_
    refine lv_if_lt (tgt := 68) hx hb dX11_near_14 (by decide) (fun c_14 => ?_) (fun c_14 => ?_)
    · skip
      have c_14 : x + 1 < 0 := (nI_ltI (a := x + 1) (b := 0) (by omega) (by omega)).mp c_14
      exfalso; omega
    · skip
      have c_14 : ¬ (x + 1 < 0) := fun z8 => c_14 ((nI_ltI (a := x + 1) (b := 0) (by omega) (by omega)).mpr z8)
      refine lv_iload hx hb dX11_near_17 (lv_at hl 0 rfl) ?_
      refine lv_if_lt (tgt := 68) hx hb dX11_near_19 (by decide) (fun c_19 => ?_) (fun c_19 => ?_)
      · skip
        refine lv_iconst (v := 0) hx hb dX11_near_68 (by decide) ?_
        refine lv_istore (lv' := [(8, .int 0), (7, .int (-1)), (6, .int (nI (x + 1))), (0, .ref mo), (1, .int (nI x)), (2, .int (nI y)), (3, .int (nI k)), (4, .int 1), (5, .int (-1))]) hx hb dX11_near_69 hl (by decide) rfl (fun ls hl => ?_)
        refine lv_iload hx hb dX11_near_71 (lv_at hl 0 rfl) ?_
        refine lv_if_eq (tgt := 92) hx hb dX11_near_73 (by decide) (fun c_73 => ?_) (fun c_73 => ?_)
        · skip
          refine lv_aload_n hx hb dX11_near_92 rfl (lv_at hl 3 rfl) ?_
          refine va_get (D := G.1) (ci := 10) (v := .int (nI md)) (C := RX11) (T := TX11) (N := 32) hx hb hts hin_X11_near_11 hown hK.1 hP 0 rfl rfl 5 (by decide) (hts (.fieldLink RX11 73 "MixedPredictModel" "mid" "I") (List.mem_cons_of_mem _ (List.mem_append_left _ (List.mem_of_getElem? (i := 3) rfl)))) (fun _ h9 => h9) rfl dX11_near_93 ?_
          refine x_top (y := nI (nbD P w md x y k)) (by rw [nbD, if_pos (by omega)]) ?_
          exact r_iret hx hb hr hlocks (rfl) hH dX11_near_96
        · skip
          exfalso; first | exact absurd (by decide) c_73 | exact absurd c_73 (by decide)
      · skip
        exfalso; first | exact absurd (by decide) c_19 | exact absurd c_19 (by decide)
  · skip
    refine x_top (y := nI (y - 1)) (by rw [show y = (y - 1) + 1 by omega]; exact pk_m1 _) ?_
    refine lv_istore (lv' := [(7, .int (nI (y - 1))), (6, .int (nI (x + 1))), (0, .ref mo), (1, .int (nI x)), (2, .int (nI y)), (3, .int (nI k)), (4, .int 1), (5, .int (-1))]) hx hb dX11_near_10 hl (by decide) rfl (fun ls hl => ?_)
    refine lv_iload hx hb dX11_near_12 (lv_at hl 1 rfl) ?_
    refine lv_if_lt (tgt := 68) hx hb dX11_near_14 (by decide) (fun c_14 => ?_) (fun c_14 => ?_)
    · skip
      have c_14 : x + 1 < 0 := (nI_ltI (a := x + 1) (b := 0) (by omega) (by omega)).mp c_14
      exfalso; omega
    · skip
      have c_14 : ¬ (x + 1 < 0) := fun z8 => c_14 ((nI_ltI (a := x + 1) (b := 0) (by omega) (by omega)).mpr z8)
      refine lv_iload hx hb dX11_near_17 (lv_at hl 0 rfl) ?_
      refine lv_if_lt (tgt := 68) hx hb dX11_near_19 (by decide) (fun c_19 => ?_) (fun c_19 => ?_)
      · skip
        have c_19 : y - 1 < 0 := (nI_ltI (a := y - 1) (b := 0) (by omega) (by omega)).mp c_19
        exfalso; omega
      · skip
        have c_19 : ¬ (y - 1 < 0) := fun z8 => c_19 ((nI_ltI (a := y - 1) (b := 0) (by omega) (by omega)).mpr z8)
        refine lv_iload hx hb dX11_near_22 (lv_at hl 1 rfl) ?_
        refine lv_aload_n hx hb dX11_near_24 rfl (lv_at hl 2 rfl) ?_
        refine va_get (D := G.1) (ci := 10) (v := .int (nI w)) (C := RX11) (T := TX11) (N := 32) hx hb hts hin_X11_near_11 hown hK.1 hP 0 rfl rfl 1 (by decide) (hts (.fieldLink RX11 60 "MixedPredictModel" "width" "I") (List.mem_cons_of_mem _ (List.mem_append_left _ (List.mem_of_getElem? (i := 0) rfl)))) (fun _ h9 => h9) rfl dX11_near_25 ?_
        refine lv_icmp_ge (tgt := 68) hx hb dX11_near_28 (by decide) (fun c_28 => ?_) (fun c_28 => ?_)
        · skip
          have c_28 : w ≤ x + 1 := (nI_leI (a := w) (b := x + 1) (by omega) (by omega)).mp c_28
          refine lv_iconst (v := 0) hx hb dX11_near_68 (by decide) ?_
          refine lv_istore (lv' := [(8, .int 0), (7, .int (nI (y - 1))), (6, .int (nI (x + 1))), (0, .ref mo), (1, .int (nI x)), (2, .int (nI y)), (3, .int (nI k)), (4, .int 1), (5, .int (-1))]) hx hb dX11_near_69 hl (by decide) rfl (fun ls hl => ?_)
          refine lv_iload hx hb dX11_near_71 (lv_at hl 0 rfl) ?_
          refine lv_if_eq (tgt := 92) hx hb dX11_near_73 (by decide) (fun c_73 => ?_) (fun c_73 => ?_)
          · skip
            refine lv_aload_n hx hb dX11_near_92 rfl (lv_at hl 3 rfl) ?_
            refine va_get (D := G.1) (ci := 10) (v := .int (nI md)) (C := RX11) (T := TX11) (N := 32) hx hb hts hin_X11_near_11 hown hK.1 hP 0 rfl rfl 5 (by decide) (hts (.fieldLink RX11 73 "MixedPredictModel" "mid" "I") (List.mem_cons_of_mem _ (List.mem_append_left _ (List.mem_of_getElem? (i := 3) rfl)))) (fun _ h9 => h9) rfl dX11_near_93 ?_
            refine x_top (y := nI (nbD P w md x y k)) (by rw [nbD, if_pos (by omega)]) ?_
            exact r_iret hx hb hr hlocks (rfl) hH dX11_near_96
          · skip
            exfalso; first | exact absurd (by decide) c_73 | exact absurd c_73 (by decide)
        · skip
          have c_28 : ¬ (w ≤ x + 1) := fun z8 => c_28 ((nI_leI (a := w) (b := x + 1) (by omega) (by omega)).mpr z8)
          refine lv_iload hx hb dX11_near_31 (lv_at hl 0 rfl) ?_
          refine lv_aload_n hx hb dX11_near_33 rfl (lv_at hl 2 rfl) ?_
          refine va_get (D := G.1) (ci := 10) (v := .int (nI h)) (C := RX11) (T := TX11) (N := 32) hx hb hts hin_X11_near_11 hown hK.1 hP 0 rfl rfl 2 (by decide) (hts (.fieldLink RX11 64 "MixedPredictModel" "height" "I") (List.mem_cons_of_mem _ (List.mem_append_left _ (List.mem_of_getElem? (i := 1) rfl)))) (fun _ h9 => h9) rfl dX11_near_34 ?_
          refine lv_icmp_ge (tgt := 68) hx hb dX11_near_37 (by decide) (fun c_37 => ?_) (fun c_37 => ?_)
          · skip
            have c_37 : h ≤ y - 1 := (nI_leI (a := h) (b := y - 1) (by omega) (by omega)).mp c_37
            refine lv_iconst (v := 0) hx hb dX11_near_68 (by decide) ?_
            refine lv_istore (lv' := [(8, .int 0), (7, .int (nI (y - 1))), (6, .int (nI (x + 1))), (0, .ref mo), (1, .int (nI x)), (2, .int (nI y)), (3, .int (nI k)), (4, .int 1), (5, .int (-1))]) hx hb dX11_near_69 hl (by decide) rfl (fun ls hl => ?_)
            refine lv_iload hx hb dX11_near_71 (lv_at hl 0 rfl) ?_
            refine lv_if_eq (tgt := 92) hx hb dX11_near_73 (by decide) (fun c_73 => ?_) (fun c_73 => ?_)
            · skip
              refine lv_aload_n hx hb dX11_near_92 rfl (lv_at hl 3 rfl) ?_
              refine va_get (D := G.1) (ci := 10) (v := .int (nI md)) (C := RX11) (T := TX11) (N := 32) hx hb hts hin_X11_near_11 hown hK.1 hP 0 rfl rfl 5 (by decide) (hts (.fieldLink RX11 73 "MixedPredictModel" "mid" "I") (List.mem_cons_of_mem _ (List.mem_append_left _ (List.mem_of_getElem? (i := 3) rfl)))) (fun _ h9 => h9) rfl dX11_near_93 ?_
              refine x_top (y := nI (nbD P w md x y k)) (by rw [nbD, if_pos (by omega)]) ?_
              exact r_iret hx hb hr hlocks (rfl) hH dX11_near_96
            · skip
              exfalso; first | exact absurd (by decide) c_73 | exact absurd c_73 (by decide)
          · skip
            have c_37 : ¬ (h ≤ y - 1) := fun z8 => c_37 ((nI_leI (a := h) (b := y - 1) (by omega) (by omega)).mpr z8)
            refine lv_iload hx hb dX11_near_40 (lv_at hl 1 rfl) ?_
            refine lv_bipush (v := 8) hx hb dX11_near_42 (by decide) ?_
            refine lv_idiv hx hb dX11_near_44 (by decide) ?_
            refine x_top (y := nI ((x + 1) / 8)) (pk_div (a := x + 1) (d := 8) (by omega) (by omega) (by omega)) ?_
            refine lv_iload_n hx hb dX11_near_45 rfl (lv_at hl 3 rfl) ?_
            refine lv_bipush (v := 8) hx hb dX11_near_46 (by decide) ?_
            refine lv_idiv hx hb dX11_near_48 (by decide) ?_
            refine x_top (y := nI (x / 8)) (pk_div (a := x) (d := 8) (by omega) (by omega) (by omega)) ?_
            refine lv_icmp_ne (tgt := 68) hx hb dX11_near_49 (by decide) (fun c_49 => ?_) (fun c_49 => ?_)
            · skip
              have c_49 : ¬ ((x + 1) / 8 = x / 8) := fun z8 => c_49 ((nI_eq (a := (x + 1) / 8) (b := x / 8) (by omega) (by omega)).mpr z8)
              refine lv_iconst (v := 0) hx hb dX11_near_68 (by decide) ?_
              refine lv_istore (lv' := [(8, .int 0), (7, .int (nI (y - 1))), (6, .int (nI (x + 1))), (0, .ref mo), (1, .int (nI x)), (2, .int (nI y)), (3, .int (nI k)), (4, .int 1), (5, .int (-1))]) hx hb dX11_near_69 hl (by decide) rfl (fun ls hl => ?_)
              refine lv_iload hx hb dX11_near_71 (lv_at hl 0 rfl) ?_
              refine lv_if_eq (tgt := 92) hx hb dX11_near_73 (by decide) (fun c_73 => ?_) (fun c_73 => ?_)
              · skip
                refine lv_aload_n hx hb dX11_near_92 rfl (lv_at hl 3 rfl) ?_
                refine va_get (D := G.1) (ci := 10) (v := .int (nI md)) (C := RX11) (T := TX11) (N := 32) hx hb hts hin_X11_near_11 hown hK.1 hP 0 rfl rfl 5 (by decide) (hts (.fieldLink RX11 73 "MixedPredictModel" "mid" "I") (List.mem_cons_of_mem _ (List.mem_append_left _ (List.mem_of_getElem? (i := 3) rfl)))) (fun _ h9 => h9) rfl dX11_near_93 ?_
                refine x_top (y := nI (nbD P w md x y k)) (by rw [nbD, if_pos (by omega)]) ?_
                exact r_iret hx hb hr hlocks (rfl) hH dX11_near_96
              · skip
                exfalso; first | exact absurd (by decide) c_73 | exact absurd c_73 (by decide)
            · skip
              have c_49 : (x + 1) / 8 = x / 8 := (nI_eq (a := (x + 1) / 8) (b := x / 8) (by omega) (by omega)).mp c_49
              refine lv_iload hx hb dX11_near_52 (lv_at hl 0 rfl) ?_
              refine lv_bipush (v := 8) hx hb dX11_near_54 (by decide) ?_
              refine lv_idiv hx hb dX11_near_56 (by decide) ?_
              refine x_top (y := nI ((y - 1) / 8)) (pk_div (a := y - 1) (d := 8) (by omega) (by omega) (by omega)) ?_
              refine lv_iload_n hx hb dX11_near_57 rfl (lv_at hl 4 rfl) ?_
              refine lv_bipush (v := 8) hx hb dX11_near_58 (by decide) ?_
              refine lv_idiv hx hb dX11_near_60 (by decide) ?_
              refine x_top (y := nI (y / 8)) (pk_div (a := y) (d := 8) (by omega) (by omega) (by omega)) ?_
              refine lv_icmp_ne (tgt := 68) hx hb dX11_near_61 (by decide) (fun c_61 => ?_) (fun c_61 => ?_)
              · skip
                have c_61 : ¬ ((y - 1) / 8 = y / 8) := fun z8 => c_61 ((nI_eq (a := (y - 1) / 8) (b := y / 8) (by omega) (by omega)).mpr z8)
                refine lv_iconst (v := 0) hx hb dX11_near_68 (by decide) ?_
                refine lv_istore (lv' := [(8, .int 0), (7, .int (nI (y - 1))), (6, .int (nI (x + 1))), (0, .ref mo), (1, .int (nI x)), (2, .int (nI y)), (3, .int (nI k)), (4, .int 1), (5, .int (-1))]) hx hb dX11_near_69 hl (by decide) rfl (fun ls hl => ?_)
                refine lv_iload hx hb dX11_near_71 (lv_at hl 0 rfl) ?_
                refine lv_if_eq (tgt := 92) hx hb dX11_near_73 (by decide) (fun c_73 => ?_) (fun c_73 => ?_)
                · skip
                  refine lv_aload_n hx hb dX11_near_92 rfl (lv_at hl 3 rfl) ?_
                  refine va_get (D := G.1) (ci := 10) (v := .int (nI md)) (C := RX11) (T := TX11) (N := 32) hx hb hts hin_X11_near_11 hown hK.1 hP 0 rfl rfl 5 (by decide) (hts (.fieldLink RX11 73 "MixedPredictModel" "mid" "I") (List.mem_cons_of_mem _ (List.mem_append_left _ (List.mem_of_getElem? (i := 3) rfl)))) (fun _ h9 => h9) rfl dX11_near_93 ?_
                  refine x_top (y := nI (nbD P w md x y k)) (by rw [nbD, if_pos (by omega)]) ?_
                  exact r_iret hx hb hr hlocks (rfl) hH dX11_near_96
                · skip
                  exfalso; first | exact absurd (by decide) c_73 | exact absurd c_73 (by decide)
              · skip
                have c_61 : (y - 1) / 8 = y / 8 := (nI_eq (a := (y - 1) / 8) (b := y / 8) (by omega) (by omega)).mp c_61
                refine lv_iconst (v := 1) hx hb dX11_near_64 (by decide) ?_
                refine lv_goto (tgt := 69) hx hb dX11_near_65 (by decide) ?_
                refine lv_istore (lv' := [(8, .int 1), (7, .int (nI (y - 1))), (6, .int (nI (x + 1))), (0, .ref mo), (1, .int (nI x)), (2, .int (nI y)), (3, .int (nI k)), (4, .int 1), (5, .int (-1))]) hx hb dX11_near_69 hl (by decide) rfl (fun ls hl => ?_)
                refine lv_iload hx hb dX11_near_71 (lv_at hl 0 rfl) ?_
                refine lv_if_eq (tgt := 92) hx hb dX11_near_73 (by decide) (fun c_73 => ?_) (fun c_73 => ?_)
                · skip
                  exfalso; first | exact absurd (by decide) c_73 | exact absurd c_73 (by decide)
                · skip
                  refine lv_aload_n hx hb dX11_near_76 rfl (lv_at hl 3 rfl) ?_
                  refine va_get (D := G.1) (ci := 10) (v := .ref mS) (C := RX11) (T := TX11) (N := 32) hx hb hts hin_X11_near_11 hown hK.1 hP 0 rfl rfl 7 (by decide) (hts (.fieldLink RX11 7 "MixedPredictModel" "samples" "[I") (List.mem_cons_of_mem _ (List.mem_append_left _ (List.mem_of_getElem? (i := 2) rfl)))) (fun _ h9 => h9) rfl dX11_near_77 ?_
                  refine lv_iload hx hb dX11_near_80 (lv_at hl 2 rfl) ?_
                  refine lv_iload hx hb dX11_near_82 (lv_at hl 1 rfl) ?_
                  refine lv_iload_n hx hb dX11_near_84 rfl (lv_at hl 6 rfl) ?_
                  refine r_fin_i (va_runS (As := [.int (nI (x + 1)), .int (nI (y - 1)), .int (nI k)]) (rest := [.ref mS]) ⟨hx, hb, hml, hown, hts⟩ (c_X11_spot l G (x + 1) (y - 1) k) (va_cwS 3 hts gX11_near_X11_spot rfl rfl rfl (by decide +kernel) ⟨Nat.le_of_ble_eq_true rfl, Nat.le_of_ble_eq_true rfl⟩) (r_pre hK hP [] rfl) rfl rfl hl.1 rfl (lv_room (Nat.le_of_ble_eq_true rfl)) dX11_near_85 ⟨Nat.zero_le _, Nat.zero_le _⟩) (fun r_1 hw => ?_)
                  subst hw
                  refine x_iald (i := 3 * (16 * (y - 1) + (x + 1)) + k) hx hb hK.1 hP 1 0 rfl rfl (by omega) (by omega) dX11_near_88 ?_
                  refine x_top (y := nI (nbD P w md x y k)) (by rw [nbD, if_neg (by omega)]; exact qP (x + 1) (y - 1) k (by omega) (by omega) qk) ?_
                  refine lv_goto (tgt := 96) hx hb dX11_near_89 (by decide) ?_
                  exact r_iret hx hb hr hlocks (rfl) hH dX11_near_96
