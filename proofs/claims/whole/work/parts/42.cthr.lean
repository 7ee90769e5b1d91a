theorem hin_X10_at_10 : ∀ w ∈ u_ws RX10 TX10 10, w ∈ wsX10_at := fun w h => List.mem_cons_of_mem _ (List.mem_append_left _ (List.mem_append_left _ (List.mem_append_left _ (List.mem_append_right _ h))))
theorem hin_X10_byteAt_10 : ∀ w ∈ u_ws RX10 TX10 10, w ∈ wsX10_byteAt := fun w h => List.mem_cons_of_mem _ (List.mem_append_left _ (List.mem_append_left _ (List.mem_append_right _ h)))
theorem hin_X10_chance_2 : ∀ w ∈ u_ws RX2 TX2 4, w ∈ wsX10_chance := fun w h => List.mem_cons_of_mem _ (List.mem_append_left _ (List.mem_append_left _ (List.mem_append_left _ (List.mem_append_right _ h))))
theorem hin_X10_chance_4 : ∀ w ∈ u_ws RX4 TX4 8, w ∈ wsX10_chance := fun w h => List.mem_cons_of_mem _ (List.mem_append_left _ (List.mem_append_left _ (List.mem_append_left _ (List.mem_append_left _ (List.mem_append_left _ (List.mem_append_right _ h))))))
theorem hin_X10_chance_7 : ∀ w ∈ u_ws RX7 TX7 5, w ∈ wsX10_chance := fun w h => List.mem_cons_of_mem _ (List.mem_append_left _ (List.mem_append_left _ (List.mem_append_left _ (List.mem_append_left _ (List.mem_append_right _ h)))))
theorem hin_X10_chance_10 : ∀ w ∈ u_ws RX10 TX10 10, w ∈ wsX10_chance := fun w h => List.mem_cons_of_mem _ (List.mem_append_left _ (List.mem_append_left _ (List.mem_append_left _ (List.mem_append_left _ (List.mem_append_left _ (List.mem_append_left _ (List.mem_append_right _ h)))))))
theorem hin_X10_feed_10 : ∀ w ∈ u_ws RX10 TX10 10, w ∈ wsX10_feed := fun w h => List.mem_cons_of_mem _ (List.mem_append_left _ (List.mem_append_left _ (List.mem_append_left _ (List.mem_append_right _ h))))
theorem hin_X10_pass_10 : ∀ w ∈ u_ws RX10 TX10 10, w ∈ wsX10_pass := fun w h => List.mem_cons_of_mem _ (List.mem_append_left _ (List.mem_append_left _ (List.mem_append_right _ h)))
theorem hin_X10_plain_10 : ∀ w ∈ u_ws RX10 TX10 10, w ∈ wsX10_plain := fun w h => List.mem_cons_of_mem _ (List.mem_append_left _ (List.mem_append_left _ (List.mem_append_left _ (List.mem_append_right _ h))))
theorem hin_X10_poke_10 : ∀ w ∈ u_ws RX10 TX10 10, w ∈ wsX10_poke := fun w h => List.mem_cons_of_mem _ (List.mem_append_left _ (List.mem_append_left _ (List.mem_append_left _ (List.mem_append_right _ h))))
theorem hin_X10_predicted_10 : ∀ w ∈ u_ws RX10 TX10 10, w ∈ wsX10_predicted := fun w h => List.mem_cons_of_mem _ (List.mem_append_left _ (List.mem_append_left _ (List.mem_append_left _ (List.mem_append_left _ (List.mem_append_right _ h)))))
theorem hin_X10_put_4 : ∀ w ∈ u_ws RX4 TX4 8, w ∈ wsX10_put := fun w h => List.mem_cons_of_mem _ (List.mem_append_left _ (List.mem_append_left _ (List.mem_append_left _ (List.mem_append_right _ h))))
theorem hin_X10_put_10 : ∀ w ∈ u_ws RX10 TX10 10, w ∈ wsX10_put := fun w h => List.mem_cons_of_mem _ (List.mem_append_left _ (List.mem_append_left _ (List.mem_append_left _ (List.mem_append_left _ (List.mem_append_right _ h)))))
theorem hin_X10_share_2 : ∀ w ∈ u_ws RX2 TX2 4, w ∈ wsX10_share := fun w h => List.mem_cons_of_mem _ (List.mem_append_left _ (List.mem_append_left _ (List.mem_append_left _ (List.mem_append_right _ h))))
theorem hin_X10_share_7 : ∀ w ∈ u_ws RX7 TX7 5, w ∈ wsX10_share := fun w h => List.mem_cons_of_mem _ (List.mem_append_left _ (List.mem_append_left _ (List.mem_append_left _ (List.mem_append_left _ (List.mem_append_right _ h)))))
theorem hin_X10_share_10 : ∀ w ∈ u_ws RX10 TX10 10, w ∈ wsX10_share := fun w h => List.mem_cons_of_mem _ (List.mem_append_left _ (List.mem_append_left _ (List.mem_append_left _ (List.mem_append_left _ (List.mem_append_left _ (List.mem_append_right _ h))))))
theorem hin_X10_weight_7 : ∀ w ∈ u_ws RX7 TX7 5, w ∈ wsX10_weight := fun w h => List.mem_cons_of_mem _ (List.mem_append_left _ (List.mem_append_left _ (List.mem_append_left _ (List.mem_append_right _ h))))
theorem hin_X10_weight_10 : ∀ w ∈ u_ws RX10 TX10 10, w ∈ wsX10_weight := fun w h => List.mem_cons_of_mem _ (List.mem_append_left _ (List.mem_append_left _ (List.mem_append_left _ (List.mem_append_left _ (List.mem_append_right _ h)))))
set_option maxHeartbeats 4000000 in
set_option maxRecDepth 100000 in
theorem c_X10_put_1 (l : Launch) (G : GG) (xm am te tD ob cb ib it ri pt : Nat) (pm rs : Nat) (w h b c md : Nat) (hd : DIM w h b c md) (x y k v : Int32) (qn : ¬ ((0 ≤ x ∧ x < nI w) ∧ (0 ≤ y ∧ y < nI h) ∧ (0 ≤ k ∧ k < nI c))) (hst : l.stackTraces = false) : vx_Met l yX10_put wsX10_put ({ frames := 6, cells := 1, slots := 6, locals := 82 } : Room) (tx_Pc G [.ref xm, .int x, .int y, .int k, .int v] [(xm, .inr (9, [.ref pm, .ref am, .ref te, .ref tD, .ref ob, .ref cb, .ref ib, .ref it, .ref ri, .ref pt])), (pm, .inr (3, [.int (nI w), .int (nI h), .int (nI b), .int (nI c), .int (nI (2 * md - 1)), .int (nI md), .int (nI ((w + 7) / 8)), .ref rs]))]) tx_Qc (tx_XC "java/lang/IndexOutOfBoundsException") 1 6 (fun _ => False) := by
  refine t_ofW (E := "java/lang/IndexOutOfBoundsException") (cc := cX10_put) (maxL := 5) (ret := (some .boolean)) (by decide) rfl (Nat.le_of_ble_eq_true rfl) ?_
  intro pZ eZ sZ mZ bZ tZ cZ hx hb hr hts hown hlocks hml hK hTH hex H hH hP ls hl
  have hown : sZ.vm.findClass RX10 = some mZ.cls := hown
  have hl : lv_has ls 5 [(0, .ref xm), (1, .int x), (2, .int y), (3, .int k), (4, .int v)] := hl
  refine lv_aload_n hx hb dX10_put_0 rfl (lv_at hl 0 rfl) ?_
  refine va_get (D := G.1) (ci := 9) (v := .ref pm) (C := RX10) (T := TX10) (N := 10) hx hb hts hin_X10_put_10 hown hK.1 hP 0 rfl rfl 0 (by decide) (hts (.fieldLink RX10 56 "MixedPredict" "picture" "LMixedPredict$Picture;") (List.mem_cons_of_mem _ (List.mem_append_left _ (List.mem_append_left _ (List.mem_append_left _ (List.mem_append_left _ (List.mem_append_left _ (List.mem_append_left _ (List.mem_of_getElem? (i := 4) rfl))))))))) (fun _ h9 => h9) rfl dX10_put_1 ?_
  refine lv_iload_n hx hb dX10_put_4 rfl (lv_at hl 1 rfl) ?_
  refine lv_iload_n hx hb dX10_put_5 rfl (lv_at hl 2 rfl) ?_
  refine lv_iload_n hx hb dX10_put_6 rfl (lv_at hl 3 rfl) ?_
  refine r_fin_i (va_runV (As := [.int x, .int y, .int k]) (rest := []) ⟨hx, hb, hml, hown, hts⟩ (c_X4_has l G pm rs w h b c md hd x y k) (cwV 3 hts gX10_put_X4_has rfl rfl rfl (by decide +kernel) ⟨Nat.le_of_ble_eq_true rfl, Nat.le_of_ble_eq_true rfl⟩) (x_preV (r_pre hK hP [1] rfl) hK hP (ci := 3) (q0 := 1) rfl rfl) rfl rfl hl.1 rfl (lv_room (Nat.le_of_ble_eq_true rfl)) dX10_put_7 ⟨by show _ ≤ 1; omega, by show _ ≤ 6; omega⟩) (fun r_1 hw => ?_)
  subst hw
  refine lv_if_ne (tgt := 23) hx hb dX10_put_10 (by decide) (fun c_10 => ?_) (fun c_10 => ?_)
  · skip
    have c_10 := Decidable.not_not.mp (fun z8 => c_10 (x_b0.mpr z8))
    exfalso; exact qn c_10
  · skip
    have c_10 := x_b0.mp c_10
    exact t_throw hx hb hst hown (by decide +kernel) (hts (.classLink RX10 83 "java/lang/IndexOutOfBoundsException") (List.mem_cons_of_mem _ (List.mem_append_left _ (List.mem_append_left _ (List.mem_append_left _ (List.mem_append_left _ (List.mem_append_left _ (List.mem_append_left _ (List.mem_of_getElem? (i := 0) rfl))))))))) (hts (.initialized "java/lang/IndexOutOfBoundsException") (List.mem_cons_of_mem _ (List.mem_append_left _ (List.mem_append_left _ (List.mem_append_left _ (List.mem_append_left _ (List.mem_append_left _ (List.mem_append_left _ (List.mem_of_getElem? (i := 1) rfl))))))))) (List.mem_of_getElem? (i := 0) rfl) hTH (fun w h => hts w (List.mem_cons_of_mem _ (List.mem_append_left _ (List.mem_append_right _ h)))) xb_87 xg_87 hH (hl.1.trans hml.symm) dX10_put_13 dX10_put_16 dX10_put_17 dX10_put_19 dX10_put_22 hex (by decide) (Nat.le_of_ble_eq_true rfl) (by decide) (by decide) hlocks

set_option maxHeartbeats 4000000 in
set_option maxRecDepth 100000 in
theorem c_X10_put_2 (l : Launch) (G : GG) (xm am te tD ob cb ib it ri pt : Nat) (pm rs : Nat) (w h b c md : Nat) (hd : DIM w h b c md) (x y k v : Int32) (qy9 : ((0 ≤ x ∧ x < nI w) ∧ (0 ≤ y ∧ y < nI h) ∧ (0 ≤ k ∧ k < nI c))) (qn : ¬ (0 ≤ v ∧ v ≤ nI (2 * md - 1))) (hst : l.stackTraces = false) : vx_Met l yX10_put wsX10_put ({ frames := 6, cells := 1, slots := 6, locals := 82 } : Room) (tx_Pc G [.ref xm, .int x, .int y, .int k, .int v] [(xm, .inr (9, [.ref pm, .ref am, .ref te, .ref tD, .ref ob, .ref cb, .ref ib, .ref it, .ref ri, .ref pt])), (pm, .inr (3, [.int (nI w), .int (nI h), .int (nI b), .int (nI c), .int (nI (2 * md - 1)), .int (nI md), .int (nI ((w + 7) / 8)), .ref rs]))]) tx_Qc (tx_XC "java/lang/IllegalArgumentException") 1 6 (fun _ => False) := by
  refine t_ofW (E := "java/lang/IllegalArgumentException") (cc := cX10_put) (maxL := 5) (ret := (some .boolean)) (by decide) rfl (Nat.le_of_ble_eq_true rfl) ?_
  intro pZ eZ sZ mZ bZ tZ cZ hx hb hr hts hown hlocks hml hK hTH hex H hH hP ls hl
  have hown : sZ.vm.findClass RX10 = some mZ.cls := hown
  have hl : lv_has ls 5 [(0, .ref xm), (1, .int x), (2, .int y), (3, .int k), (4, .int v)] := hl
  refine lv_aload_n hx hb dX10_put_0 rfl (lv_at hl 0 rfl) ?_
  refine va_get (D := G.1) (ci := 9) (v := .ref pm) (C := RX10) (T := TX10) (N := 10) hx hb hts hin_X10_put_10 hown hK.1 hP 0 rfl rfl 0 (by decide) (hts (.fieldLink RX10 56 "MixedPredict" "picture" "LMixedPredict$Picture;") (List.mem_cons_of_mem _ (List.mem_append_left _ (List.mem_append_left _ (List.mem_append_left _ (List.mem_append_left _ (List.mem_append_left _ (List.mem_append_left _ (List.mem_of_getElem? (i := 4) rfl))))))))) (fun _ h9 => h9) rfl dX10_put_1 ?_
  refine lv_iload_n hx hb dX10_put_4 rfl (lv_at hl 1 rfl) ?_
  refine lv_iload_n hx hb dX10_put_5 rfl (lv_at hl 2 rfl) ?_
  refine lv_iload_n hx hb dX10_put_6 rfl (lv_at hl 3 rfl) ?_
  refine r_fin_i (va_runV (As := [.int x, .int y, .int k]) (rest := []) ⟨hx, hb, hml, hown, hts⟩ (c_X4_has l G pm rs w h b c md hd x y k) (cwV 3 hts gX10_put_X4_has rfl rfl rfl (by decide +kernel) ⟨Nat.le_of_ble_eq_true rfl, Nat.le_of_ble_eq_true rfl⟩) (x_preV (r_pre hK hP [1] rfl) hK hP (ci := 3) (q0 := 1) rfl rfl) rfl rfl hl.1 rfl (lv_room (Nat.le_of_ble_eq_true rfl)) dX10_put_7 ⟨by show _ ≤ 1; omega, by show _ ≤ 6; omega⟩) (fun r_1 hw => ?_)
  subst hw
  refine lv_if_ne (tgt := 23) hx hb dX10_put_10 (by decide) (fun c_10 => ?_) (fun c_10 => ?_)
  · skip
    have c_10 := Decidable.not_not.mp (fun z8 => c_10 (x_b0.mpr z8))
    refine lv_iload hx hb dX10_put_23 (lv_at hl 4 rfl) ?_
    refine lv_if_lt (tgt := 40) hx hb dX10_put_25 (by decide) (fun c_25 => ?_) (fun c_25 => ?_)
    · skip
      exact t_throw hx hb hst hown (by decide +kernel) (hts (.classLink RX10 94 "java/lang/IllegalArgumentException") (List.mem_cons_of_mem _ (List.mem_append_left _ (List.mem_append_left _ (List.mem_append_left _ (List.mem_append_left _ (List.mem_append_left _ (List.mem_append_left _ (List.mem_of_getElem? (i := 2) rfl))))))))) (hts (.initialized "java/lang/IllegalArgumentException") (List.mem_cons_of_mem _ (List.mem_append_left _ (List.mem_append_left _ (List.mem_append_left _ (List.mem_append_left _ (List.mem_append_left _ (List.mem_append_left _ (List.mem_of_getElem? (i := 3) rfl))))))))) (List.mem_of_getElem? (i := 1) rfl) hTH (fun w h => hts w (List.mem_cons_of_mem _ (List.mem_append_right _ h))) xb_98 xg_98 hH (hl.1.trans hml.symm) dX10_put_40 dX10_put_43 dX10_put_44 dX10_put_46 dX10_put_49 hex (by decide) (Nat.le_of_ble_eq_true rfl) (by decide) (by decide) hlocks
    · skip
      refine lv_iload hx hb dX10_put_28 (lv_at hl 4 rfl) ?_
      refine lv_aload_n hx hb dX10_put_30 rfl (lv_at hl 0 rfl) ?_
      refine va_get (D := G.1) (ci := 9) (v := .ref pm) (C := RX10) (T := TX10) (N := 10) hx hb hts hin_X10_put_10 hown hK.1 hP 0 rfl rfl 0 (by decide) (hts (.fieldLink RX10 56 "MixedPredict" "picture" "LMixedPredict$Picture;") (List.mem_cons_of_mem _ (List.mem_append_left _ (List.mem_append_left _ (List.mem_append_left _ (List.mem_append_left _ (List.mem_append_left _ (List.mem_append_left _ (List.mem_of_getElem? (i := 4) rfl))))))))) (fun _ h9 => h9) rfl dX10_put_31 ?_
      refine va_get (D := G.1) (ci := 3) (v := .int (nI (2 * md - 1))) (C := RX4) (T := TX4) (N := 8) hx hb hts hin_X10_put_4 hown hK.1 hP 1 rfl rfl 4 (by decide) (hts (.fieldLink RX10 90 "MixedPredict$Picture" "greatest" "I") (List.mem_cons_of_mem _ (List.mem_append_left _ (List.mem_append_left _ (List.mem_append_left _ (List.mem_append_left _ (List.mem_append_left _ (List.mem_append_left _ (List.mem_of_getElem? (i := 5) rfl))))))))) (fun _ h9 => h9) rfl dX10_put_34 ?_
      refine lv_icmp_le (tgt := 50) hx hb dX10_put_37 (by decide) (fun c_37 => ?_) (fun c_37 => ?_)
      · skip
        exfalso; exact qn ⟨Int32.not_lt.mp c_25, c_37⟩
      · skip
        exact t_throw hx hb hst hown (by decide +kernel) (hts (.classLink RX10 94 "java/lang/IllegalArgumentException") (List.mem_cons_of_mem _ (List.mem_append_left _ (List.mem_append_left _ (List.mem_append_left _ (List.mem_append_left _ (List.mem_append_left _ (List.mem_append_left _ (List.mem_of_getElem? (i := 2) rfl))))))))) (hts (.initialized "java/lang/IllegalArgumentException") (List.mem_cons_of_mem _ (List.mem_append_left _ (List.mem_append_left _ (List.mem_append_left _ (List.mem_append_left _ (List.mem_append_left _ (List.mem_append_left _ (List.mem_of_getElem? (i := 3) rfl))))))))) (List.mem_of_getElem? (i := 1) rfl) hTH (fun w h => hts w (List.mem_cons_of_mem _ (List.mem_append_right _ h))) xb_98 xg_98 hH (hl.1.trans hml.symm) dX10_put_40 dX10_put_43 dX10_put_44 dX10_put_46 dX10_put_49 hex (by decide) (Nat.le_of_ble_eq_true rfl) (by decide) (by decide) hlocks
  · skip
    have c_10 := x_b0.mp c_10
    exfalso; exact c_10 qy9

set_option maxHeartbeats 4000000 in
set_option maxRecDepth 100000 in
theorem c_X10_put_0 (l : Launch) (G : GG) (xm am te tD ob cb ib it ri pt : Nat) (pm rs as : Nat) (w h b c md : Nat) (hd : DIM w h b c md) (f : Nat → Int32) (P : Nat → Nat → Nat → Nat) (qP : PicC w h c f P) (qB : PicB w h c md P) (x y k : Nat) (qx : x < w) (qy : y < h) (qk : k < c) (v : Nat) (qv : v < 2 * md) (sz : Nat) : Met l yX10_put wsX10_put ({ frames := 3, cells := 0, slots := 0, locals := 69 } : Room) (w_Pc G [.ref xm, .int (nI x), .int (nI y), .int (nI k), .int (nI v)] sz [(xm, .inr (9, [.ref pm, .ref am, .ref te, .ref tD, .ref ob, .ref cb, .ref ib, .ref it, .ref ri, .ref pt])), (pm, .inr (3, [.int (nI w), .int (nI h), .int (nI b), .int (nI c), .int (nI (2 * md - 1)), .int (nI md), .int (nI ((w + 7) / 8)), .ref rs])), (rs, .inr (5, [.ref as])), (as, .inl (G.2.1, w * h * c, .inl f))]) (w_Qi G (va_A [(xm, .inr (9, [.ref pm, .ref am, .ref te, .ref tD, .ref ob, .ref cb, .ref ib, .ref it, .ref ri, .ref pt])), (pm, .inr (3, [.int (nI w), .int (nI h), .int (nI b), .int (nI c), .int (nI (2 * md - 1)), .int (nI md), .int (nI ((w + 7) / 8)), .ref rs])), (rs, .inr (5, [.ref as])), (as, .inl (G.2.1, w * h * c, .inl f))] sz) (fun (u9 : Nat → Int32) => [(xm, .inr (9, [.ref pm, .ref am, .ref te, .ref tD, .ref ob, .ref cb, .ref ib, .ref it, .ref ri, .ref pt])), (pm, .inr (3, [.int (nI w), .int (nI h), .int (nI b), .int (nI c), .int (nI (2 * md - 1)), .int (nI md), .int (nI ((w + 7) / 8)), .ref rs])), (rs, .inr (5, [.ref as])), (as, .inl (G.2.1, w * h * c, .inl u9))]) (fun r (u9 : Nat → Int32) => r = (if ¬ P x y k = v then 1 else 0) ∧ PicC w h c u9 (updP P x y k v))) 0 0 (va_A [(xm, .inr (9, [.ref pm, .ref am, .ref te, .ref tD, .ref ob, .ref cb, .ref ib, .ref it, .ref ri, .ref pt])), (pm, .inr (3, [.int (nI w), .int (nI h), .int (nI b), .int (nI c), .int (nI (2 * md - 1)), .int (nI md), .int (nI ((w + 7) / 8)), .ref rs])), (rs, .inr (5, [.ref as])), (as, .inl (G.2.1, w * h * c, .inl f))] sz) := by
  refine w_ofW (y := yX10_put) (ws := wsX10_put) (rm := ({ frames := 3, cells := 0, slots := 0, locals := 69 } : Room)) (av := [.ref xm, .int (nI x), .int (nI y), .int (nI k), .int (nI v)]) (WC := [(xm, .inr (9, [.ref pm, .ref am, .ref te, .ref tD, .ref ob, .ref cb, .ref ib, .ref it, .ref ri, .ref pt])), (pm, .inr (3, [.int (nI w), .int (nI h), .int (nI b), .int (nI c), .int (nI (2 * md - 1)), .int (nI md), .int (nI ((w + 7) / 8)), .ref rs])), (rs, .inr (5, [.ref as])), (as, .inl (G.2.1, w * h * c, .inl f))]) (mc := 0) (ms := 0) (Qf := fun A => w_Qi G A (fun (u9 : Nat → Int32) => [(xm, .inr (9, [.ref pm, .ref am, .ref te, .ref tD, .ref ob, .ref cb, .ref ib, .ref it, .ref ri, .ref pt])), (pm, .inr (3, [.int (nI w), .int (nI h), .int (nI b), .int (nI c), .int (nI (2 * md - 1)), .int (nI md), .int (nI ((w + 7) / 8)), .ref rs])), (rs, .inr (5, [.ref as])), (as, .inl (G.2.1, w * h * c, .inl u9))]) (fun r (u9 : Nat → Int32) => r = (if ¬ P x y k = v then 1 else 0) ∧ PicC w h c u9 (updP P x y k v))) (cc := cX10_put) (maxL := 5) (ret := (some .boolean)) (by decide) rfl (Nat.le_of_ble_eq_true rfl) ?_
  intro pZ eZ sZ mZ bZ tZ cZ A hx hb hr hts hown hlocks hml hnm hK hA H locs hP hD hS ls hl
  have hown : sZ.vm.findClass RX10 = some mZ.cls := hown
  have hl : lv_has ls 5 [(0, .ref xm), (1, .int (nI x)), (2, .int (nI y)), (3, .int (nI k)), (4, .int (nI v))] := hl
  obtain ⟨dw1, dw2, dh1, dh2, db1, db2, dc1, dc2, dm1, dm2, dme⟩ := id hd
  have qpl := place_n hd qx qy qk
  have qpb := qB x y k qx qy qk
  refine lv_aload_n hx hb dX10_put_0 rfl (lv_at hl 0 rfl) ?_
  refine va_get (D := G.1) (ci := 9) (v := .ref pm) (C := RX10) (T := TX10) (N := 10) hx hb hts hin_X10_put_10 hown hK.1 hP 0 rfl rfl 0 (by decide) (hts (.fieldLink RX10 56 "MixedPredict" "picture" "LMixedPredict$Picture;") (List.mem_cons_of_mem _ (List.mem_append_left _ (List.mem_append_left _ (List.mem_append_left _ (List.mem_append_left _ (List.mem_append_left _ (List.mem_append_left _ (List.mem_of_getElem? (i := 4) rfl))))))))) (fun _ h9 => h9) rfl dX10_put_1 ?_
  refine lv_iload_n hx hb dX10_put_4 rfl (lv_at hl 1 rfl) ?_
  refine lv_iload_n hx hb dX10_put_5 rfl (lv_at hl 2 rfl) ?_
  refine lv_iload_n hx hb dX10_put_6 rfl (lv_at hl 3 rfl) ?_
  refine r_fin_i (va_runV (As := [.int (nI x), .int (nI y), .int (nI k)]) (rest := []) ⟨hx, hb, hml, hown, hts⟩ (c_X4_has l G pm rs w h b c md hd (nI x) (nI y) (nI k)) (cwV 3 hts gX10_put_X4_has rfl rfl rfl (by decide +kernel) ⟨Nat.le_of_ble_eq_true rfl, Nat.le_of_ble_eq_true rfl⟩) (x_preV (r_pre hK hP [1] rfl) hK hP (ci := 3) (q0 := 1) rfl rfl) rfl rfl hl.1 rfl (lv_room (Nat.le_of_ble_eq_true rfl)) dX10_put_7 ⟨Nat.zero_le _, Nat.zero_le _⟩) (fun r_1 hw => ?_)
  subst hw
  refine lv_if_ne (tgt := 23) hx hb dX10_put_10 (by decide) (fun c_10 => ?_) (fun c_10 => ?_)
  · skip
    have c_10 := Decidable.not_not.mp (fun z8 => c_10 (x_b0.mpr z8))
    refine lv_iload hx hb dX10_put_23 (lv_at hl 4 rfl) ?_
    refine lv_if_lt (tgt := 40) hx hb dX10_put_25 (by decide) (fun c_25 => ?_) (fun c_25 => ?_)
    · skip
      have c_25 : v < 0 := (nI_ltI (a := v) (b := 0) (by omega) (by omega)).mp c_25
      exfalso; omega
    · skip
      have c_25 : ¬ (v < 0) := fun z8 => c_25 ((nI_ltI (a := v) (b := 0) (by omega) (by omega)).mpr z8)
      refine lv_iload hx hb dX10_put_28 (lv_at hl 4 rfl) ?_
      refine lv_aload_n hx hb dX10_put_30 rfl (lv_at hl 0 rfl) ?_
      refine va_get (D := G.1) (ci := 9) (v := .ref pm) (C := RX10) (T := TX10) (N := 10) hx hb hts hin_X10_put_10 hown hK.1 hP 0 rfl rfl 0 (by decide) (hts (.fieldLink RX10 56 "MixedPredict" "picture" "LMixedPredict$Picture;") (List.mem_cons_of_mem _ (List.mem_append_left _ (List.mem_append_left _ (List.mem_append_left _ (List.mem_append_left _ (List.mem_append_left _ (List.mem_append_left _ (List.mem_of_getElem? (i := 4) rfl))))))))) (fun _ h9 => h9) rfl dX10_put_31 ?_
      refine va_get (D := G.1) (ci := 3) (v := .int (nI (2 * md - 1))) (C := RX4) (T := TX4) (N := 8) hx hb hts hin_X10_put_4 hown hK.1 hP 1 rfl rfl 4 (by decide) (hts (.fieldLink RX10 90 "MixedPredict$Picture" "greatest" "I") (List.mem_cons_of_mem _ (List.mem_append_left _ (List.mem_append_left _ (List.mem_append_left _ (List.mem_append_left _ (List.mem_append_left _ (List.mem_append_left _ (List.mem_of_getElem? (i := 5) rfl))))))))) (fun _ h9 => h9) rfl dX10_put_34 ?_
      refine lv_icmp_le (tgt := 50) hx hb dX10_put_37 (by decide) (fun c_37 => ?_) (fun c_37 => ?_)
      · skip
        have c_37 : v ≤ 2 * md - 1 := (nI_leI (a := v) (b := 2 * md - 1) (by omega) (by omega)).mp c_37
        refine lv_aload_n hx hb dX10_put_50 rfl (lv_at hl 0 rfl) ?_
        refine va_get (D := G.1) (ci := 9) (v := .ref pm) (C := RX10) (T := TX10) (N := 10) hx hb hts hin_X10_put_10 hown hK.1 hP 0 rfl rfl 0 (by decide) (hts (.fieldLink RX10 56 "MixedPredict" "picture" "LMixedPredict$Picture;") (List.mem_cons_of_mem _ (List.mem_append_left _ (List.mem_append_left _ (List.mem_append_left _ (List.mem_append_left _ (List.mem_append_left _ (List.mem_append_left _ (List.mem_of_getElem? (i := 4) rfl))))))))) (fun _ h9 => h9) rfl dX10_put_51 ?_
        refine lv_iload_n hx hb dX10_put_54 rfl (lv_at hl 1 rfl) ?_
        refine lv_iload_n hx hb dX10_put_55 rfl (lv_at hl 2 rfl) ?_
        refine lv_iload_n hx hb dX10_put_56 rfl (lv_at hl 3 rfl) ?_
        refine lv_iload hx hb dX10_put_57 (lv_at hl 4 rfl) ?_
        refine w_fin_i (WR := [(xm, .inr (9, [.ref pm, .ref am, .ref te, .ref tD, .ref ob, .ref cb, .ref ib, .ref it, .ref ri, .ref pt]))]) (va_runV (As := [.int (nI x), .int (nI y), .int (nI k), .int (nI v)]) (rest := []) ⟨hx, hb, hml, hown, hts⟩ (c_X4_change l G pm rs as w h b c md hd f P (qP) x y k (by first | assumption | omega) (by first | assumption | omega) (by first | assumption | omega) v (by omega) (by omega) H.size) (cwV 4 hts gX10_put_X4_change rfl rfl rfl (by decide +kernel) ⟨Nat.le_of_ble_eq_true rfl, Nat.le_of_ble_eq_true rfl⟩) (x_preV (w_pre hK hP hD [1, 2, 3] (by decide) rfl) hK hP (ci := 3) (q0 := 1) rfl rfl) rfl rfl hl.1 rfl (lv_room (Nat.le_of_ble_eq_true rfl)) dX10_put_59 ⟨Nat.zero_le _, Nat.zero_le _⟩) hP hD hS hA [1, 2, 3] [0] rfl rfl (by decide) (by decide) [0, 1, 2, 3] (by decide) (fun (u9 : Nat → Int32) => [(xm, .inr (9, [.ref pm, .ref am, .ref te, .ref tD, .ref ob, .ref cb, .ref ib, .ref it, .ref ri, .ref pt])), (pm, .inr (3, [.int (nI w), .int (nI h), .int (nI b), .int (nI c), .int (nI (2 * md - 1)), .int (nI md), .int (nI ((w + 7) / 8)), .ref rs])), (rs, .inr (5, [.ref as])), (as, .inl (G.2.1, w * h * c, .inl u9))]) (fun _ => rfl) (fun r_3 u H locs hw hP hD hS => ?_)
        obtain ⟨f2_2, rfl⟩ : ∃ z, z = u := ⟨_, rfl⟩
        have hP : va_P G.1 vwCl [(xm, .inr (9, [.ref pm, .ref am, .ref te, .ref tD, .ref ob, .ref cb, .ref ib, .ref it, .ref ri, .ref pt])), (pm, .inr (3, [.int (nI w), .int (nI h), .int (nI b), .int (nI c), .int (nI (2 * md - 1)), .int (nI md), .int (nI ((w + 7) / 8)), .ref rs])), (rs, .inr (5, [.ref as])), (as, .inl (G.2.1, w * h * c, .inl f2_2))] H := hP
        have hD : va_D A [(xm, .inr (9, [.ref pm, .ref am, .ref te, .ref tD, .ref ob, .ref cb, .ref ib, .ref it, .ref ri, .ref pt])), (pm, .inr (3, [.int (nI w), .int (nI h), .int (nI b), .int (nI c), .int (nI (2 * md - 1)), .int (nI md), .int (nI ((w + 7) / 8)), .ref rs])), (rs, .inr (5, [.ref as])), (as, .inl (G.2.1, w * h * c, .inl f2_2))] := hD
        obtain ⟨rfl, hwC⟩ := hw
        have hwC : PicC w h c f2_2 (updP P x y k v) := hwC
        exact w_zret f2_2 hx hb hr hlocks (x_bn) (⟨rfl, hwC⟩) hP hD hS dX10_put_62
      · skip
        have c_37 : ¬ (v ≤ 2 * md - 1) := fun z8 => c_37 ((nI_leI (a := v) (b := 2 * md - 1) (by omega) (by omega)).mpr z8)
        exfalso; omega
  · skip
    have c_10 := x_b0.mp c_10
    exfalso; exact c_10 qpl

set_option maxHeartbeats 4000000 in
set_option maxRecDepth 100000 in
theorem c_X10_at_1 (l : Launch) (G : GG) (xm am te tD ob cb ib it ri pt : Nat) (pm rs : Nat) (w h b c md : Nat) (hd : DIM w h b c md) (x y k : Int32) (qn : ¬ ((0 ≤ x ∧ x < nI w) ∧ (0 ≤ y ∧ y < nI h) ∧ (0 ≤ k ∧ k < nI c))) (hst : l.stackTraces = false) : vx_Met l yX10_at wsX10_at ({ frames := 6, cells := 1, slots := 6, locals := 82 } : Room) (tx_Pc G [.ref xm, .int x, .int y, .int k] [(xm, .inr (9, [.ref pm, .ref am, .ref te, .ref tD, .ref ob, .ref cb, .ref ib, .ref it, .ref ri, .ref pt])), (pm, .inr (3, [.int (nI w), .int (nI h), .int (nI b), .int (nI c), .int (nI (2 * md - 1)), .int (nI md), .int (nI ((w + 7) / 8)), .ref rs]))]) tx_Qc (tx_XC "java/lang/IndexOutOfBoundsException") 1 6 (fun _ => False) := by
  refine t_ofW (E := "java/lang/IndexOutOfBoundsException") (cc := cX10_at) (maxL := 4) (ret := (some .int)) (by decide) rfl (Nat.le_of_ble_eq_true rfl) ?_
  intro pZ eZ sZ mZ bZ tZ cZ hx hb hr hts hown hlocks hml hK hTH hex H hH hP ls hl
  have hown : sZ.vm.findClass RX10 = some mZ.cls := hown
  have hl : lv_has ls 4 [(0, .ref xm), (1, .int x), (2, .int y), (3, .int k)] := hl
  refine lv_aload_n hx hb dX10_at_0 rfl (lv_at hl 0 rfl) ?_
  refine va_get (D := G.1) (ci := 9) (v := .ref pm) (C := RX10) (T := TX10) (N := 10) hx hb hts hin_X10_at_10 hown hK.1 hP 0 rfl rfl 0 (by decide) (hts (.fieldLink RX10 56 "MixedPredict" "picture" "LMixedPredict$Picture;") (List.mem_cons_of_mem _ (List.mem_append_left _ (List.mem_append_left _ (List.mem_append_left _ (List.mem_append_left _ (List.mem_append_left _ (List.mem_of_getElem? (i := 2) rfl)))))))) (fun _ h9 => h9) rfl dX10_at_1 ?_
  refine lv_iload_n hx hb dX10_at_4 rfl (lv_at hl 1 rfl) ?_
  refine lv_iload_n hx hb dX10_at_5 rfl (lv_at hl 2 rfl) ?_
  refine lv_iload_n hx hb dX10_at_6 rfl (lv_at hl 3 rfl) ?_
  refine r_fin_i (va_runV (As := [.int x, .int y, .int k]) (rest := []) ⟨hx, hb, hml, hown, hts⟩ (c_X4_has l G pm rs w h b c md hd x y k) (cwV 3 hts gX10_at_X4_has rfl rfl rfl (by decide +kernel) ⟨Nat.le_of_ble_eq_true rfl, Nat.le_of_ble_eq_true rfl⟩) (x_preV (r_pre hK hP [1] rfl) hK hP (ci := 3) (q0 := 1) rfl rfl) rfl rfl hl.1 rfl (lv_room (Nat.le_of_ble_eq_true rfl)) dX10_at_7 ⟨by show _ ≤ 1; omega, by show _ ≤ 6; omega⟩) (fun r_1 hw => ?_)
  subst hw
  refine lv_if_ne (tgt := 23) hx hb dX10_at_10 (by decide) (fun c_10 => ?_) (fun c_10 => ?_)
  · skip
    have c_10 := Decidable.not_not.mp (fun z8 => c_10 (x_b0.mpr z8))
    exfalso; exact qn c_10
  · skip
    have c_10 := x_b0.mp c_10
    exact t_throw hx hb hst hown (by decide +kernel) (hts (.classLink RX10 83 "java/lang/IndexOutOfBoundsException") (List.mem_cons_of_mem _ (List.mem_append_left _ (List.mem_append_left _ (List.mem_append_left _ (List.mem_append_left _ (List.mem_append_left _ (List.mem_of_getElem? (i := 0) rfl)))))))) (hts (.initialized "java/lang/IndexOutOfBoundsException") (List.mem_cons_of_mem _ (List.mem_append_left _ (List.mem_append_left _ (List.mem_append_left _ (List.mem_append_left _ (List.mem_append_left _ (List.mem_of_getElem? (i := 1) rfl)))))))) (List.mem_of_getElem? (i := 0) rfl) hTH (fun w h => hts w (List.mem_cons_of_mem _ (List.mem_append_right _ h))) xb_87 xg_87 hH (hl.1.trans hml.symm) dX10_at_13 dX10_at_16 dX10_at_17 dX10_at_19 dX10_at_22 hex (by decide) (Nat.le_of_ble_eq_true rfl) (by decide) (by decide) hlocks

set_option maxHeartbeats 4000000 in
set_option maxRecDepth 100000 in
theorem c_X10_at_0 (l : Launch) (G : GG) (xm am te tD ob cb ib it ri pt : Nat) (pm rs as : Nat) (w h b c md : Nat) (hd : DIM w h b c md) (f : Nat → Int32) (P : Nat → Nat → Nat → Nat) (qP : PicC w h c f P) (x y k : Nat) (qx : x < w) (qy : y < h) (qk : k < c)  : Met l yX10_at wsX10_at ({ frames := 2, cells := 0, slots := 0, locals := 44 } : Room) (r_Pc G [.ref xm, .int (nI x), .int (nI y), .int (nI k)] [(xm, .inr (9, [.ref pm, .ref am, .ref te, .ref tD, .ref ob, .ref cb, .ref ib, .ref it, .ref ri, .ref pt])), (pm, .inr (3, [.int (nI w), .int (nI h), .int (nI b), .int (nI c), .int (nI (2 * md - 1)), .int (nI md), .int (nI ((w + 7) / 8)), .ref rs])), (rs, .inr (5, [.ref as])), (as, .inl (G.2.1, w * h * c, .inl f))]) (vp_Si (fun r => r = (nI (P x y k)))) 0 0 (fun _ => False) := by
  refine r_ofW (cc := cX10_at) (maxL := 4) (ret := (some .int)) (by decide) rfl (Nat.le_of_ble_eq_true rfl) ?_
  intro pZ eZ sZ mZ bZ tZ cZ hx hb hr hts hown hlocks hml hK H hH hP ls hl
  have hown : sZ.vm.findClass RX10 = some mZ.cls := hown
  have hl : lv_has ls 4 [(0, .ref xm), (1, .int (nI x)), (2, .int (nI y)), (3, .int (nI k))] := hl
  obtain ⟨dw1, dw2, dh1, dh2, db1, db2, dc1, dc2, dm1, dm2, dme⟩ := id hd
  have qpl := place_n hd qx qy qk
  refine lv_aload_n hx hb dX10_at_0 rfl (lv_at hl 0 rfl) ?_
  refine va_get (D := G.1) (ci := 9) (v := .ref pm) (C := RX10) (T := TX10) (N := 10) hx hb hts hin_X10_at_10 hown hK.1 hP 0 rfl rfl 0 (by decide) (hts (.fieldLink RX10 56 "MixedPredict" "picture" "LMixedPredict$Picture;") (List.mem_cons_of_mem _ (List.mem_append_left _ (List.mem_append_left _ (List.mem_append_left _ (List.mem_append_left _ (List.mem_append_left _ (List.mem_of_getElem? (i := 2) rfl)))))))) (fun _ h9 => h9) rfl dX10_at_1 ?_
  refine lv_iload_n hx hb dX10_at_4 rfl (lv_at hl 1 rfl) ?_
  refine lv_iload_n hx hb dX10_at_5 rfl (lv_at hl 2 rfl) ?_
  refine lv_iload_n hx hb dX10_at_6 rfl (lv_at hl 3 rfl) ?_
  refine r_fin_i (va_runV (As := [.int (nI x), .int (nI y), .int (nI k)]) (rest := []) ⟨hx, hb, hml, hown, hts⟩ (c_X4_has l G pm rs w h b c md hd (nI x) (nI y) (nI k)) (cwV 3 hts gX10_at_X4_has rfl rfl rfl (by decide +kernel) ⟨Nat.le_of_ble_eq_true rfl, Nat.le_of_ble_eq_true rfl⟩) (x_preV (r_pre hK hP [1] rfl) hK hP (ci := 3) (q0 := 1) rfl rfl) rfl rfl hl.1 rfl (lv_room (Nat.le_of_ble_eq_true rfl)) dX10_at_7 ⟨Nat.zero_le _, Nat.zero_le _⟩) (fun r_1 hw => ?_)
  subst hw
  refine lv_if_ne (tgt := 23) hx hb dX10_at_10 (by decide) (fun c_10 => ?_) (fun c_10 => ?_)
  · skip
    have c_10 := Decidable.not_not.mp (fun z8 => c_10 (x_b0.mpr z8))
    refine lv_aload_n hx hb dX10_at_23 rfl (lv_at hl 0 rfl) ?_
    refine va_get (D := G.1) (ci := 9) (v := .ref pm) (C := RX10) (T := TX10) (N := 10) hx hb hts hin_X10_at_10 hown hK.1 hP 0 rfl rfl 0 (by decide) (hts (.fieldLink RX10 56 "MixedPredict" "picture" "LMixedPredict$Picture;") (List.mem_cons_of_mem _ (List.mem_append_left _ (List.mem_append_left _ (List.mem_append_left _ (List.mem_append_left _ (List.mem_append_left _ (List.mem_of_getElem? (i := 2) rfl)))))))) (fun _ h9 => h9) rfl dX10_at_24 ?_
    refine lv_iload_n hx hb dX10_at_27 rfl (lv_at hl 1 rfl) ?_
    refine lv_iload_n hx hb dX10_at_28 rfl (lv_at hl 2 rfl) ?_
    refine lv_iload_n hx hb dX10_at_29 rfl (lv_at hl 3 rfl) ?_
    refine r_fin_i (va_runV (As := [.int (nI x), .int (nI y), .int (nI k)]) (rest := []) ⟨hx, hb, hml, hown, hts⟩ (c_X4_sample l G pm rs as w h b c md hd f P (qP) x y k (by first | assumption | omega) (by first | assumption | omega) (by first | assumption | omega)) (cwV 3 hts gX10_at_X4_sample rfl rfl rfl (by decide +kernel) ⟨Nat.le_of_ble_eq_true rfl, Nat.le_of_ble_eq_true rfl⟩) (x_preV (r_pre hK hP [1, 2, 3] rfl) hK hP (ci := 3) (q0 := 1) rfl rfl) rfl rfl hl.1 rfl (lv_room (Nat.le_of_ble_eq_true rfl)) dX10_at_30 ⟨Nat.zero_le _, Nat.zero_le _⟩) (fun r_2 hw => ?_)
    subst hw
    exact r_iret hx hb hr hlocks (rfl) hH dX10_at_33
  · skip
    have c_10 := x_b0.mp c_10
    exfalso; exact c_10 qpl

set_option maxHeartbeats 4000000 in
set_option maxRecDepth 100000 in
theorem c_X10_predicted_1 (l : Launch) (G : GG) (xm am te tD ob cb ib it ri pt : Nat) (pm rs : Nat) (w h b c md : Nat) (hd : DIM w h b c md) (x y k way9 : Int32) (qn : ¬ (((0 ≤ x ∧ x < nI w) ∧ (0 ≤ y ∧ y < nI h) ∧ (0 ≤ k ∧ k < nI c)) ∧ (0 ≤ way9 ∧ way9 ≤ 8))) (hst : l.stackTraces = false) : vx_Met l yX10_predicted wsX10_predicted ({ frames := 6, cells := 1, slots := 6, locals := 82 } : Room) (tx_Pc G [.ref xm, .int x, .int y, .int k, .int way9] [(xm, .inr (9, [.ref pm, .ref am, .ref te, .ref tD, .ref ob, .ref cb, .ref ib, .ref it, .ref ri, .ref pt])), (pm, .inr (3, [.int (nI w), .int (nI h), .int (nI b), .int (nI c), .int (nI (2 * md - 1)), .int (nI md), .int (nI ((w + 7) / 8)), .ref rs]))]) tx_Qc (tx_XC "java/lang/IndexOutOfBoundsException") 1 6 (fun _ => False) := by
  refine t_ofW (E := "java/lang/IndexOutOfBoundsException") (cc := cX10_predicted) (maxL := 5) (ret := (some .int)) (by decide) rfl (Nat.le_of_ble_eq_true rfl) ?_
  intro pZ eZ sZ mZ bZ tZ cZ hx hb hr hts hown hlocks hml hK hTH hex H hH hP ls hl
  have hown : sZ.vm.findClass RX10 = some mZ.cls := hown
  have hl : lv_has ls 5 [(0, .ref xm), (1, .int x), (2, .int y), (3, .int k), (4, .int way9)] := hl
  refine lv_aload_n hx hb dX10_predicted_0 rfl (lv_at hl 0 rfl) ?_
  refine va_get (D := G.1) (ci := 9) (v := .ref pm) (C := RX10) (T := TX10) (N := 10) hx hb hts hin_X10_predicted_10 hown hK.1 hP 0 rfl rfl 0 (by decide) (hts (.fieldLink RX10 56 "MixedPredict" "picture" "LMixedPredict$Picture;") (List.mem_cons_of_mem _ (List.mem_append_left _ (List.mem_append_left _ (List.mem_append_left _ (List.mem_append_left _ (List.mem_append_left _ (List.mem_append_left _ (List.mem_of_getElem? (i := 2) rfl))))))))) (fun _ h9 => h9) rfl dX10_predicted_1 ?_
  refine lv_iload_n hx hb dX10_predicted_4 rfl (lv_at hl 1 rfl) ?_
  refine lv_iload_n hx hb dX10_predicted_5 rfl (lv_at hl 2 rfl) ?_
  refine lv_iload_n hx hb dX10_predicted_6 rfl (lv_at hl 3 rfl) ?_
  refine r_fin_i (va_runV (As := [.int x, .int y, .int k]) (rest := []) ⟨hx, hb, hml, hown, hts⟩ (c_X4_has l G pm rs w h b c md hd x y k) (cwV 3 hts gX10_predicted_X4_has rfl rfl rfl (by decide +kernel) ⟨Nat.le_of_ble_eq_true rfl, Nat.le_of_ble_eq_true rfl⟩) (x_preV (r_pre hK hP [1] rfl) hK hP (ci := 3) (q0 := 1) rfl rfl) rfl rfl hl.1 rfl (lv_room (Nat.le_of_ble_eq_true rfl)) dX10_predicted_7 ⟨by show _ ≤ 1; omega, by show _ ≤ 6; omega⟩) (fun r_1 hw => ?_)
  subst hw
  refine lv_if_ne (tgt := 23) hx hb dX10_predicted_10 (by decide) (fun c_10 => ?_) (fun c_10 => ?_)
  · skip
    have c_10 := Decidable.not_not.mp (fun z8 => c_10 (x_b0.mpr z8))
    refine lv_iload hx hb dX10_predicted_23 (lv_at hl 4 rfl) ?_
    refine lv_if_lt (tgt := 35) hx hb dX10_predicted_25 (by decide) (fun c_25 => ?_) (fun c_25 => ?_)
    · skip
      exact t_throw hx hb hst hown (by decide +kernel) (hts (.classLink RX10 83 "java/lang/IndexOutOfBoundsException") (List.mem_cons_of_mem _ (List.mem_append_left _ (List.mem_append_left _ (List.mem_append_left _ (List.mem_append_left _ (List.mem_append_left _ (List.mem_append_left _ (List.mem_of_getElem? (i := 0) rfl))))))))) (hts (.initialized "java/lang/IndexOutOfBoundsException") (List.mem_cons_of_mem _ (List.mem_append_left _ (List.mem_append_left _ (List.mem_append_left _ (List.mem_append_left _ (List.mem_append_left _ (List.mem_append_left _ (List.mem_of_getElem? (i := 1) rfl))))))))) (List.mem_of_getElem? (i := 2) rfl) hTH (fun w h => hts w (List.mem_cons_of_mem _ (List.mem_append_right _ h))) xb_87 xg_87 hH (hl.1.trans hml.symm) dX10_predicted_35 dX10_predicted_38 dX10_predicted_39 dX10_predicted_41 dX10_predicted_44 hex (by decide) (Nat.le_of_ble_eq_true rfl) (by decide) (by decide) hlocks
    · skip
      refine lv_iload hx hb dX10_predicted_28 (lv_at hl 4 rfl) ?_
      refine lv_bipush (v := 9) hx hb dX10_predicted_30 (by decide) ?_
      refine lv_icmp_lt (tgt := 45) hx hb dX10_predicted_32 (by decide) (fun c_32 => ?_) (fun c_32 => ?_)
      · skip
        exfalso; exact qn ⟨c_10, Int32.not_lt.mp c_25, lt9_le c_32⟩
      · skip
        exact t_throw hx hb hst hown (by decide +kernel) (hts (.classLink RX10 83 "java/lang/IndexOutOfBoundsException") (List.mem_cons_of_mem _ (List.mem_append_left _ (List.mem_append_left _ (List.mem_append_left _ (List.mem_append_left _ (List.mem_append_left _ (List.mem_append_left _ (List.mem_of_getElem? (i := 0) rfl))))))))) (hts (.initialized "java/lang/IndexOutOfBoundsException") (List.mem_cons_of_mem _ (List.mem_append_left _ (List.mem_append_left _ (List.mem_append_left _ (List.mem_append_left _ (List.mem_append_left _ (List.mem_append_left _ (List.mem_of_getElem? (i := 1) rfl))))))))) (List.mem_of_getElem? (i := 2) rfl) hTH (fun w h => hts w (List.mem_cons_of_mem _ (List.mem_append_right _ h))) xb_87 xg_87 hH (hl.1.trans hml.symm) dX10_predicted_35 dX10_predicted_38 dX10_predicted_39 dX10_predicted_41 dX10_predicted_44 hex (by decide) (Nat.le_of_ble_eq_true rfl) (by decide) (by decide) hlocks
  · skip
    have c_10 := x_b0.mp c_10
    exact t_throw hx hb hst hown (by decide +kernel) (hts (.classLink RX10 83 "java/lang/IndexOutOfBoundsException") (List.mem_cons_of_mem _ (List.mem_append_left _ (List.mem_append_left _ (List.mem_append_left _ (List.mem_append_left _ (List.mem_append_left _ (List.mem_append_left _ (List.mem_of_getElem? (i := 0) rfl))))))))) (hts (.initialized "java/lang/IndexOutOfBoundsException") (List.mem_cons_of_mem _ (List.mem_append_left _ (List.mem_append_left _ (List.mem_append_left _ (List.mem_append_left _ (List.mem_append_left _ (List.mem_append_left _ (List.mem_of_getElem? (i := 1) rfl))))))))) (List.mem_of_getElem? (i := 0) rfl) hTH (fun w h => hts w (List.mem_cons_of_mem _ (List.mem_append_right _ h))) xb_87 xg_87 hH (hl.1.trans hml.symm) dX10_predicted_13 dX10_predicted_16 dX10_predicted_17 dX10_predicted_19 dX10_predicted_22 hex (by decide) (Nat.le_of_ble_eq_true rfl) (by decide) (by decide) hlocks

set_option maxHeartbeats 4000000 in
set_option maxRecDepth 100000 in
theorem c_X10_predicted_0 (l : Launch) (G : GG) (xm am te tD ob cb ib it ri pt : Nat) (pm rs as : Nat) (w h b c md : Nat) (hd : DIM w h b c md) (f : Nat → Int32) (P : Nat → Nat → Nat → Nat) (qP : PicC w h c f P) (x y k : Nat) (qx : x < w) (qy : y < h) (qk : k < c) (way9 : Nat) (hway : way9 < 9) (ia ib_ ic id_ ie : Int32) (sz : Nat) : Met l yX10_predicted wsX10_predicted ({ frames := 3, cells := 0, slots := 0, locals := 70 } : Room) (w_Pc G [.ref xm, .int (nI x), .int (nI y), .int (nI k), .int (nI way9)] sz [(xm, .inr (9, [.ref pm, .ref am, .ref te, .ref tD, .ref ob, .ref cb, .ref ib, .ref it, .ref ri, .ref pt])), (pm, .inr (3, [.int (nI w), .int (nI h), .int (nI b), .int (nI c), .int (nI (2 * md - 1)), .int (nI md), .int (nI ((w + 7) / 8)), .ref rs])), (rs, .inr (5, [.ref as])), (as, .inl (G.2.1, w * h * c, .inl f)), (am, .inr (0, [.ref pm, .int ia, .int ib_, .int ic, .int id_, .int ie]))]) (w_Qi G (va_A [(xm, .inr (9, [.ref pm, .ref am, .ref te, .ref tD, .ref ob, .ref cb, .ref ib, .ref it, .ref ri, .ref pt])), (pm, .inr (3, [.int (nI w), .int (nI h), .int (nI b), .int (nI c), .int (nI (2 * md - 1)), .int (nI md), .int (nI ((w + 7) / 8)), .ref rs])), (rs, .inr (5, [.ref as])), (as, .inl (G.2.1, w * h * c, .inl f)), (am, .inr (0, [.ref pm, .int ia, .int ib_, .int ic, .int id_, .int ie]))] sz) (fun (u9 : Int32 × Int32 × Int32 × Int32 × Int32) => [(xm, .inr (9, [.ref pm, .ref am, .ref te, .ref tD, .ref ob, .ref cb, .ref ib, .ref it, .ref ri, .ref pt])), (pm, .inr (3, [.int (nI w), .int (nI h), .int (nI b), .int (nI c), .int (nI (2 * md - 1)), .int (nI md), .int (nI ((w + 7) / 8)), .ref rs])), (rs, .inr (5, [.ref as])), (as, .inl (G.2.1, w * h * c, .inl f)), (am, .inr (0, [.ref pm, .int u9.1, .int u9.2.1, .int u9.2.2.1, .int u9.2.2.2.1, .int u9.2.2.2.2]))]) (fun r (u9 : Int32 × Int32 × Int32 × Int32 × Int32) => r = (exW P w md x y k way9))) 0 0 (va_A [(xm, .inr (9, [.ref pm, .ref am, .ref te, .ref tD, .ref ob, .ref cb, .ref ib, .ref it, .ref ri, .ref pt])), (pm, .inr (3, [.int (nI w), .int (nI h), .int (nI b), .int (nI c), .int (nI (2 * md - 1)), .int (nI md), .int (nI ((w + 7) / 8)), .ref rs])), (rs, .inr (5, [.ref as])), (as, .inl (G.2.1, w * h * c, .inl f)), (am, .inr (0, [.ref pm, .int ia, .int ib_, .int ic, .int id_, .int ie]))] sz) := by
  refine w_ofW (y := yX10_predicted) (ws := wsX10_predicted) (rm := ({ frames := 3, cells := 0, slots := 0, locals := 70 } : Room)) (av := [.ref xm, .int (nI x), .int (nI y), .int (nI k), .int (nI way9)]) (WC := [(xm, .inr (9, [.ref pm, .ref am, .ref te, .ref tD, .ref ob, .ref cb, .ref ib, .ref it, .ref ri, .ref pt])), (pm, .inr (3, [.int (nI w), .int (nI h), .int (nI b), .int (nI c), .int (nI (2 * md - 1)), .int (nI md), .int (nI ((w + 7) / 8)), .ref rs])), (rs, .inr (5, [.ref as])), (as, .inl (G.2.1, w * h * c, .inl f)), (am, .inr (0, [.ref pm, .int ia, .int ib_, .int ic, .int id_, .int ie]))]) (mc := 0) (ms := 0) (Qf := fun A => w_Qi G A (fun (u9 : Int32 × Int32 × Int32 × Int32 × Int32) => [(xm, .inr (9, [.ref pm, .ref am, .ref te, .ref tD, .ref ob, .ref cb, .ref ib, .ref it, .ref ri, .ref pt])), (pm, .inr (3, [.int (nI w), .int (nI h), .int (nI b), .int (nI c), .int (nI (2 * md - 1)), .int (nI md), .int (nI ((w + 7) / 8)), .ref rs])), (rs, .inr (5, [.ref as])), (as, .inl (G.2.1, w * h * c, .inl f)), (am, .inr (0, [.ref pm, .int u9.1, .int u9.2.1, .int u9.2.2.1, .int u9.2.2.2.1, .int u9.2.2.2.2]))]) (fun r (u9 : Int32 × Int32 × Int32 × Int32 × Int32) => r = (exW P w md x y k way9))) (cc := cX10_predicted) (maxL := 5) (ret := (some .int)) (by decide) rfl (Nat.le_of_ble_eq_true rfl) ?_
  intro pZ eZ sZ mZ bZ tZ cZ A hx hb hr hts hown hlocks hml hnm hK hA H locs hP hD hS ls hl
  have hown : sZ.vm.findClass RX10 = some mZ.cls := hown
  have hl : lv_has ls 5 [(0, .ref xm), (1, .int (nI x)), (2, .int (nI y)), (3, .int (nI k)), (4, .int (nI way9))] := hl
  obtain ⟨dw1, dw2, dh1, dh2, db1, db2, dc1, dc2, dm1, dm2, dme⟩ := id hd
  have qpl := place_n hd qx qy qk
  refine lv_aload_n hx hb dX10_predicted_0 rfl (lv_at hl 0 rfl) ?_
  refine va_get (D := G.1) (ci := 9) (v := .ref pm) (C := RX10) (T := TX10) (N := 10) hx hb hts hin_X10_predicted_10 hown hK.1 hP 0 rfl rfl 0 (by decide) (hts (.fieldLink RX10 56 "MixedPredict" "picture" "LMixedPredict$Picture;") (List.mem_cons_of_mem _ (List.mem_append_left _ (List.mem_append_left _ (List.mem_append_left _ (List.mem_append_left _ (List.mem_append_left _ (List.mem_append_left _ (List.mem_of_getElem? (i := 2) rfl))))))))) (fun _ h9 => h9) rfl dX10_predicted_1 ?_
  refine lv_iload_n hx hb dX10_predicted_4 rfl (lv_at hl 1 rfl) ?_
  refine lv_iload_n hx hb dX10_predicted_5 rfl (lv_at hl 2 rfl) ?_
  refine lv_iload_n hx hb dX10_predicted_6 rfl (lv_at hl 3 rfl) ?_
  refine r_fin_i (va_runV (As := [.int (nI x), .int (nI y), .int (nI k)]) (rest := []) ⟨hx, hb, hml, hown, hts⟩ (c_X4_has l G pm rs w h b c md hd (nI x) (nI y) (nI k)) (cwV 3 hts gX10_predicted_X4_has rfl rfl rfl (by decide +kernel) ⟨Nat.le_of_ble_eq_true rfl, Nat.le_of_ble_eq_true rfl⟩) (x_preV (r_pre hK hP [1] rfl) hK hP (ci := 3) (q0 := 1) rfl rfl) rfl rfl hl.1 rfl (lv_room (Nat.le_of_ble_eq_true rfl)) dX10_predicted_7 ⟨Nat.zero_le _, Nat.zero_le _⟩) (fun r_1 hw => ?_)
  subst hw
  refine lv_if_ne (tgt := 23) hx hb dX10_predicted_10 (by decide) (fun c_10 => ?_) (fun c_10 => ?_)
  · skip
    have c_10 := Decidable.not_not.mp (fun z8 => c_10 (x_b0.mpr z8))
    refine lv_iload hx hb dX10_predicted_23 (lv_at hl 4 rfl) ?_
    refine lv_if_lt (tgt := 35) hx hb dX10_predicted_25 (by decide) (fun c_25 => ?_) (fun c_25 => ?_)
    · skip
      have c_25 : way9 < 0 := (nI_ltI (a := way9) (b := 0) (by omega) (by omega)).mp c_25
      exfalso; omega
    · skip
      have c_25 : ¬ (way9 < 0) := fun z8 => c_25 ((nI_ltI (a := way9) (b := 0) (by omega) (by omega)).mpr z8)
      refine lv_iload hx hb dX10_predicted_28 (lv_at hl 4 rfl) ?_
      refine lv_bipush (v := 9) hx hb dX10_predicted_30 (by decide) ?_
      refine lv_icmp_lt (tgt := 45) hx hb dX10_predicted_32 (by decide) (fun c_32 => ?_) (fun c_32 => ?_)
      · skip
        have c_32 : way9 < 9 := (nI_ltI (a := way9) (b := 9) (by omega) (by omega)).mp c_32
        refine lv_aload_n hx hb dX10_predicted_45 rfl (lv_at hl 0 rfl) ?_
        refine va_get (D := G.1) (ci := 9) (v := .ref am) (C := RX10) (T := TX10) (N := 10) hx hb hts hin_X10_predicted_10 hown hK.1 hP 0 rfl rfl 1 (by decide) (hts (.fieldLink RX10 65 "MixedPredict" "around" "LMixedPredict$Around;") (List.mem_cons_of_mem _ (List.mem_append_left _ (List.mem_append_left _ (List.mem_append_left _ (List.mem_append_left _ (List.mem_append_left _ (List.mem_append_left _ (List.mem_of_getElem? (i := 3) rfl))))))))) (fun _ h9 => h9) rfl dX10_predicted_46 ?_
        refine lv_iload_n hx hb dX10_predicted_49 rfl (lv_at hl 1 rfl) ?_
        refine lv_iload_n hx hb dX10_predicted_50 rfl (lv_at hl 2 rfl) ?_
        refine lv_iload_n hx hb dX10_predicted_51 rfl (lv_at hl 3 rfl) ?_
        refine w_fin_v (WR := [(xm, .inr (9, [.ref pm, .ref am, .ref te, .ref tD, .ref ob, .ref cb, .ref ib, .ref it, .ref ri, .ref pt]))]) (va_runV (As := [.int (nI x), .int (nI y), .int (nI k)]) (rest := []) ⟨hx, hb, hml, hown, hts⟩ (c_X0_look l G am pm rs as w h b c md hd f P ia ib_ ic id_ ie (qP) x y k (by first | assumption | omega) (by first | assumption | omega) (by first | assumption | omega) H.size) (cwV 3 hts gX10_predicted_X0_look rfl rfl rfl (by decide +kernel) ⟨Nat.le_of_ble_eq_true rfl, Nat.le_of_ble_eq_true rfl⟩) (x_preV (w_pre hK hP hD [4, 1, 2, 3] (by decide) rfl) hK hP (ci := 0) (q0 := 4) rfl rfl) rfl rfl hl.1 rfl (lv_room (Nat.le_of_ble_eq_true rfl)) dX10_predicted_52 ⟨Nat.zero_le _, Nat.zero_le _⟩) hP hD hS hA [4, 1, 2, 3] [0] rfl rfl (by decide) (by decide) [0, 2, 3, 4, 1] (by decide) (fun (_ : Unit) => [(xm, .inr (9, [.ref pm, .ref am, .ref te, .ref tD, .ref ob, .ref cb, .ref ib, .ref it, .ref ri, .ref pt])), (pm, .inr (3, [.int (nI w), .int (nI h), .int (nI b), .int (nI c), .int (nI (2 * md - 1)), .int (nI md), .int (nI ((w + 7) / 8)), .ref rs])), (rs, .inr (5, [.ref as])), (as, .inl (G.2.1, w * h * c, .inl f)), (am, .inr (0, [.ref pm, .int (nI (nbA P md x y k)), .int (nI (nbB P md x y k)), .int (nI (nbC P md x y k)), .int (nI (nbD P w md x y k)), .int (nI (nbE P md x y k))]))]) (fun _ => rfl) (fun u H locs hw hP hD hS => ?_)
        have hP : va_P G.1 vwCl [(xm, .inr (9, [.ref pm, .ref am, .ref te, .ref tD, .ref ob, .ref cb, .ref ib, .ref it, .ref ri, .ref pt])), (pm, .inr (3, [.int (nI w), .int (nI h), .int (nI b), .int (nI c), .int (nI (2 * md - 1)), .int (nI md), .int (nI ((w + 7) / 8)), .ref rs])), (rs, .inr (5, [.ref as])), (as, .inl (G.2.1, w * h * c, .inl f)), (am, .inr (0, [.ref pm, .int (nI (nbA P md x y k)), .int (nI (nbB P md x y k)), .int (nI (nbC P md x y k)), .int (nI (nbD P w md x y k)), .int (nI (nbE P md x y k))]))] H := hP
        have hD : va_D A [(xm, .inr (9, [.ref pm, .ref am, .ref te, .ref tD, .ref ob, .ref cb, .ref ib, .ref it, .ref ri, .ref pt])), (pm, .inr (3, [.int (nI w), .int (nI h), .int (nI b), .int (nI c), .int (nI (2 * md - 1)), .int (nI md), .int (nI ((w + 7) / 8)), .ref rs])), (rs, .inr (5, [.ref as])), (as, .inl (G.2.1, w * h * c, .inl f)), (am, .inr (0, [.ref pm, .int (nI (nbA P md x y k)), .int (nI (nbB P md x y k)), .int (nI (nbC P md x y k)), .int (nI (nbD P w md x y k)), .int (nI (nbE P md x y k))]))] := hD
        refine lv_aload_n hx hb dX10_predicted_55 rfl (lv_at hl 0 rfl) ?_
        refine va_get (D := G.1) (ci := 9) (v := .ref am) (C := RX10) (T := TX10) (N := 10) hx hb hts hin_X10_predicted_10 hown hK.1 hP 0 rfl rfl 1 (by decide) (hts (.fieldLink RX10 65 "MixedPredict" "around" "LMixedPredict$Around;") (List.mem_cons_of_mem _ (List.mem_append_left _ (List.mem_append_left _ (List.mem_append_left _ (List.mem_append_left _ (List.mem_append_left _ (List.mem_append_left _ (List.mem_of_getElem? (i := 3) rfl))))))))) (fun _ h9 => h9) rfl dX10_predicted_56 ?_
        refine lv_iload hx hb dX10_predicted_59 (lv_at hl 4 rfl) ?_
        refine r_fin_i (va_runV (As := [.int (nI way9)]) (rest := []) ⟨hx, hb, hml, hown, hts⟩ (c_X0_expected l G am pm rs w h b c md hd (nbA P md x y k) (nbB P md x y k) (nbC P md x y k) (nbD P w md x y k) (nbE P md x y k) way9 (by first | assumption | omega)) (cwV 1 hts gX10_predicted_X0_expected rfl rfl rfl (by decide +kernel) ⟨Nat.le_of_ble_eq_true rfl, Nat.le_of_ble_eq_true rfl⟩) (x_preV (r_pre hK hP [4, 1] rfl) hK hP (ci := 0) (q0 := 4) rfl rfl) rfl rfl hl.1 rfl (lv_room (Nat.le_of_ble_eq_true rfl)) dX10_predicted_61 ⟨Nat.zero_le _, Nat.zero_le _⟩) (fun r_4 hw => ?_)
        subst hw
        exact w_iret ((nI (nbA P md x y k) : Int32), (nI (nbB P md x y k) : Int32), (nI (nbC P md x y k) : Int32), (nI (nbD P w md x y k) : Int32), (nI (nbE P md x y k) : Int32)) hx hb hr hlocks (rfl) hP hD hS dX10_predicted_64
      · skip
        have c_32 : ¬ (way9 < 9) := fun z8 => c_32 ((nI_ltI (a := way9) (b := 9) (by omega) (by omega)).mpr z8)
        exfalso; omega
  · skip
    have c_10 := x_b0.mp c_10
    exfalso; exact c_10 qpl

set_option maxHeartbeats 4000000 in
set_option maxRecDepth 100000 in
theorem c_X10_byteAt_1 (l : Launch) (G : GG) (pm : Nat) (xm am te tD ob cb ib it ri pt : Nat) (ca k1 : Nat) (fc : Nat → Int32) (i : Int32) (qn : ¬ (0 ≤ i ∧ i < nI k1)) (hst : l.stackTraces = false) : vx_Met l yX10_byteAt wsX10_byteAt ({ frames := 6, cells := 1, slots := 6, locals := 82 } : Room) (tx_Pc G [.ref xm, .int i] [(xm, .inr (9, [.ref pm, .ref am, .ref te, .ref tD, .ref ob, .ref cb, .ref ib, .ref it, .ref ri, .ref pt])), (cb, .inr (1, [.ref ca, .int (nI k1)])), (ca, .inl (G.2.1, 784, .inl fc))]) tx_Qc (tx_XC "java/lang/IndexOutOfBoundsException") 1 6 (fun _ => False) := by
  refine t_ofW (E := "java/lang/IndexOutOfBoundsException") (cc := cX10_byteAt) (maxL := 2) (ret := (some .int)) (by decide) rfl (Nat.le_of_ble_eq_true rfl) ?_
  intro pZ eZ sZ mZ bZ tZ cZ hx hb hr hts hown hlocks hml hK hTH hex H hH hP ls hl
  have hown : sZ.vm.findClass RX10 = some mZ.cls := hown
  have hl : lv_has ls 2 [(0, .ref xm), (1, .int i)] := hl
  refine lv_aload_n hx hb dX10_byteAt_0 rfl (lv_at hl 0 rfl) ?_
  refine va_get (D := G.1) (ci := 9) (v := .ref cb) (C := RX10) (T := TX10) (N := 10) hx hb hts hin_X10_byteAt_10 hown hK.1 hP 0 rfl rfl 5 (by decide) (hts (.fieldLink RX10 18 "MixedPredict" "coded" "LMixedPredict$Bytes;") (List.mem_cons_of_mem _ (List.mem_append_left _ (List.mem_append_left _ (List.mem_append_left _ (List.mem_of_getElem? (i := 2) rfl)))))) (fun _ h9 => h9) rfl dX10_byteAt_1 ?_
  refine lv_iload_n hx hb dX10_byteAt_4 rfl (lv_at hl 1 rfl) ?_
  refine r_fin_i (va_runV (As := [.int i]) (rest := []) ⟨hx, hb, hml, hown, hts⟩ (c_X1_has l G cb ca 784 fc k1 i) (cwV 1 hts gX10_byteAt_X1_has rfl rfl rfl (by decide +kernel) ⟨Nat.le_of_ble_eq_true rfl, Nat.le_of_ble_eq_true rfl⟩) (x_preV (r_pre hK hP [1, 2] rfl) hK hP (ci := 1) (q0 := 1) rfl rfl) rfl rfl hl.1 rfl (lv_room (Nat.le_of_ble_eq_true rfl)) dX10_byteAt_5 ⟨by show _ ≤ 1; omega, by show _ ≤ 6; omega⟩) (fun r_1 hw => ?_)
  subst hw
  refine lv_if_ne (tgt := 21) hx hb dX10_byteAt_8 (by decide) (fun c_8 => ?_) (fun c_8 => ?_)
  · skip
    have c_8 := Decidable.not_not.mp (fun z8 => c_8 (x_b0.mpr z8))
    exfalso; exact qn c_8
  · skip
    have c_8 := x_b0.mp c_8
    exact t_throw hx hb hst hown (by decide +kernel) (hts (.classLink RX10 83 "java/lang/IndexOutOfBoundsException") (List.mem_cons_of_mem _ (List.mem_append_left _ (List.mem_append_left _ (List.mem_append_left _ (List.mem_of_getElem? (i := 0) rfl)))))) (hts (.initialized "java/lang/IndexOutOfBoundsException") (List.mem_cons_of_mem _ (List.mem_append_left _ (List.mem_append_left _ (List.mem_append_left _ (List.mem_of_getElem? (i := 1) rfl)))))) (List.mem_of_getElem? (i := 3) rfl) hTH (fun w h => hts w (List.mem_cons_of_mem _ (List.mem_append_right _ h))) xb_87 xg_87 hH (hl.1.trans hml.symm) dX10_byteAt_11 dX10_byteAt_14 dX10_byteAt_15 dX10_byteAt_17 dX10_byteAt_20 hex (by decide) (Nat.le_of_ble_eq_true rfl) (by decide) (by decide) hlocks

set_option maxHeartbeats 4000000 in
set_option maxRecDepth 100000 in
theorem c_X10_byteAt_0 (l : Launch) (G : GG) (pm : Nat) (xm am te tD ob cb ib it ri pt : Nat) (ca k1 : Nat) (fc : Nat → Int32) (i : Nat) (qi : i < k1) (qk1 : k1 ≤ 784) : Met l yX10_byteAt wsX10_byteAt ({ frames := 1, cells := 0, slots := 0, locals := 21 } : Room) (r_Pc G [.ref xm, .int (nI i)] [(xm, .inr (9, [.ref pm, .ref am, .ref te, .ref tD, .ref ob, .ref cb, .ref ib, .ref it, .ref ri, .ref pt])), (cb, .inr (1, [.ref ca, .int (nI k1)])), (ca, .inl (G.2.1, 784, .inl fc))]) (vp_Si (fun r => r = (fc i))) 0 0 (fun _ => False) := by
  refine r_ofW (cc := cX10_byteAt) (maxL := 2) (ret := (some .int)) (by decide) rfl (Nat.le_of_ble_eq_true rfl) ?_
  intro pZ eZ sZ mZ bZ tZ cZ hx hb hr hts hown hlocks hml hK H hH hP ls hl
  have hown : sZ.vm.findClass RX10 = some mZ.cls := hown
  have hl : lv_has ls 2 [(0, .ref xm), (1, .int (nI i))] := hl
  refine lv_aload_n hx hb dX10_byteAt_0 rfl (lv_at hl 0 rfl) ?_
  refine va_get (D := G.1) (ci := 9) (v := .ref cb) (C := RX10) (T := TX10) (N := 10) hx hb hts hin_X10_byteAt_10 hown hK.1 hP 0 rfl rfl 5 (by decide) (hts (.fieldLink RX10 18 "MixedPredict" "coded" "LMixedPredict$Bytes;") (List.mem_cons_of_mem _ (List.mem_append_left _ (List.mem_append_left _ (List.mem_append_left _ (List.mem_of_getElem? (i := 2) rfl)))))) (fun _ h9 => h9) rfl dX10_byteAt_1 ?_
  refine lv_iload_n hx hb dX10_byteAt_4 rfl (lv_at hl 1 rfl) ?_
  refine r_fin_i (va_runV (As := [.int (nI i)]) (rest := []) ⟨hx, hb, hml, hown, hts⟩ (c_X1_has l G cb ca 784 fc k1 (nI i)) (cwV 1 hts gX10_byteAt_X1_has rfl rfl rfl (by decide +kernel) ⟨Nat.le_of_ble_eq_true rfl, Nat.le_of_ble_eq_true rfl⟩) (x_preV (r_pre hK hP [1, 2] rfl) hK hP (ci := 1) (q0 := 1) rfl rfl) rfl rfl hl.1 rfl (lv_room (Nat.le_of_ble_eq_true rfl)) dX10_byteAt_5 ⟨Nat.zero_le _, Nat.zero_le _⟩) (fun r_1 hw => ?_)
  subst hw
  refine lv_if_ne (tgt := 21) hx hb dX10_byteAt_8 (by decide) (fun c_8 => ?_) (fun c_8 => ?_)
  · skip
    have c_8 := Decidable.not_not.mp (fun z8 => c_8 (x_b0.mpr z8))
    refine lv_aload_n hx hb dX10_byteAt_21 rfl (lv_at hl 0 rfl) ?_
    refine va_get (D := G.1) (ci := 9) (v := .ref cb) (C := RX10) (T := TX10) (N := 10) hx hb hts hin_X10_byteAt_10 hown hK.1 hP 0 rfl rfl 5 (by decide) (hts (.fieldLink RX10 18 "MixedPredict" "coded" "LMixedPredict$Bytes;") (List.mem_cons_of_mem _ (List.mem_append_left _ (List.mem_append_left _ (List.mem_append_left _ (List.mem_of_getElem? (i := 2) rfl)))))) (fun _ h9 => h9) rfl dX10_byteAt_22 ?_
    refine lv_iload_n hx hb dX10_byteAt_25 rfl (lv_at hl 1 rfl) ?_
    refine r_fin_i (va_runV (As := [.int (nI i)]) (rest := []) ⟨hx, hb, hml, hown, hts⟩ (c_X1_get l G cb ca 784 fc k1 i (by first | assumption | omega) (by first | assumption | omega) (by first | assumption | omega)) (cwV 1 hts gX10_byteAt_X1_get rfl rfl rfl (by decide +kernel) ⟨Nat.le_of_ble_eq_true rfl, Nat.le_of_ble_eq_true rfl⟩) (x_preV (r_pre hK hP [1, 2] rfl) hK hP (ci := 1) (q0 := 1) rfl rfl) rfl rfl hl.1 rfl (lv_room (Nat.le_of_ble_eq_true rfl)) dX10_byteAt_26 ⟨Nat.zero_le _, Nat.zero_le _⟩) (fun r_2 hw => ?_)
    subst hw
    refine x_top (y := fc i) (by rw [getB, if_pos qi]) ?_
    exact r_iret hx hb hr hlocks (rfl) hH dX10_byteAt_29
  · skip
    have c_8 := x_b0.mp c_8
    exfalso; exact c_8 ⟨in_0 (by omega), in_lt qi (by omega)⟩

set_option maxHeartbeats 4000000 in
set_option maxRecDepth 100000 in
theorem c_X10_plain_1 (l : Launch) (G : GG) (xm am te tD ob cb ib it ri pt : Nat) (pm rs : Nat) (w h b c md : Nat) (hd : DIM w h b c md) (i : Int32) (qn : ¬ (0 ≤ i ∧ i < nI (tln w h))) (hst : l.stackTraces = false) : vx_Met l yX10_plain wsX10_plain ({ frames := 6, cells := 1, slots := 6, locals := 82 } : Room) (tx_Pc G [.ref xm, .int i] [(xm, .inr (9, [.ref pm, .ref am, .ref te, .ref tD, .ref ob, .ref cb, .ref ib, .ref it, .ref ri, .ref pt])), (pm, .inr (3, [.int (nI w), .int (nI h), .int (nI b), .int (nI c), .int (nI (2 * md - 1)), .int (nI md), .int (nI ((w + 7) / 8)), .ref rs]))]) tx_Qc (tx_XC "java/lang/IndexOutOfBoundsException") 1 6 (fun _ => False) := by
  refine t_ofW (E := "java/lang/IndexOutOfBoundsException") (cc := cX10_plain) (maxL := 2) (ret := (some .boolean)) (by decide) rfl (Nat.le_of_ble_eq_true rfl) ?_
  intro pZ eZ sZ mZ bZ tZ cZ hx hb hr hts hown hlocks hml hK hTH hex H hH hP ls hl
  have hown : sZ.vm.findClass RX10 = some mZ.cls := hown
  have hl : lv_has ls 2 [(0, .ref xm), (1, .int i)] := hl
  refine lv_iload_n hx hb dX10_plain_0 rfl (lv_at hl 1 rfl) ?_
  refine lv_if_lt (tgt := 15) hx hb dX10_plain_1 (by decide) (fun c_1 => ?_) (fun c_1 => ?_)
  · skip
    exact t_throw hx hb hst hown (by decide +kernel) (hts (.classLink RX10 83 "java/lang/IndexOutOfBoundsException") (List.mem_cons_of_mem _ (List.mem_append_left _ (List.mem_append_left _ (List.mem_append_left _ (List.mem_append_left _ (List.mem_of_getElem? (i := 0) rfl))))))) (hts (.initialized "java/lang/IndexOutOfBoundsException") (List.mem_cons_of_mem _ (List.mem_append_left _ (List.mem_append_left _ (List.mem_append_left _ (List.mem_append_left _ (List.mem_of_getElem? (i := 1) rfl))))))) (List.mem_of_getElem? (i := 4) rfl) hTH (fun w h => hts w (List.mem_cons_of_mem _ (List.mem_append_right _ h))) xb_87 xg_87 hH (hl.1.trans hml.symm) dX10_plain_15 dX10_plain_18 dX10_plain_19 dX10_plain_21 dX10_plain_24 hex (by decide) (Nat.le_of_ble_eq_true rfl) (by decide) (by decide) hlocks
  · skip
    refine lv_iload_n hx hb dX10_plain_4 rfl (lv_at hl 1 rfl) ?_
    refine lv_aload_n hx hb dX10_plain_5 rfl (lv_at hl 0 rfl) ?_
    refine va_get (D := G.1) (ci := 9) (v := .ref pm) (C := RX10) (T := TX10) (N := 10) hx hb hts hin_X10_plain_10 hown hK.1 hP 0 rfl rfl 0 (by decide) (hts (.fieldLink RX10 56 "MixedPredict" "picture" "LMixedPredict$Picture;") (List.mem_cons_of_mem _ (List.mem_append_left _ (List.mem_append_left _ (List.mem_append_left _ (List.mem_append_left _ (List.mem_of_getElem? (i := 2) rfl))))))) (fun _ h9 => h9) rfl dX10_plain_6 ?_
    refine r_fin_i (va_runV (As := []) (rest := [.int i]) ⟨hx, hb, hml, hown, hts⟩ (c_X4_tiles l G pm rs w h b c md hd) (cwV 0 hts gX10_plain_X4_tiles rfl rfl rfl (by decide +kernel) ⟨Nat.le_of_ble_eq_true rfl, Nat.le_of_ble_eq_true rfl⟩) (x_preV (r_pre hK hP [1] rfl) hK hP (ci := 3) (q0 := 1) rfl rfl) rfl rfl hl.1 rfl (lv_room (Nat.le_of_ble_eq_true rfl)) dX10_plain_9 ⟨by show _ ≤ 1; omega, by show _ ≤ 6; omega⟩) (fun r_1 hw => ?_)
    subst hw
    refine lv_icmp_lt (tgt := 25) hx hb dX10_plain_12 (by decide) (fun c_12 => ?_) (fun c_12 => ?_)
    · skip
      exfalso; exact qn ⟨Int32.not_lt.mp c_1, c_12⟩
    · skip
      exact t_throw hx hb hst hown (by decide +kernel) (hts (.classLink RX10 83 "java/lang/IndexOutOfBoundsException") (List.mem_cons_of_mem _ (List.mem_append_left _ (List.mem_append_left _ (List.mem_append_left _ (List.mem_append_left _ (List.mem_of_getElem? (i := 0) rfl))))))) (hts (.initialized "java/lang/IndexOutOfBoundsException") (List.mem_cons_of_mem _ (List.mem_append_left _ (List.mem_append_left _ (List.mem_append_left _ (List.mem_append_left _ (List.mem_of_getElem? (i := 1) rfl))))))) (List.mem_of_getElem? (i := 4) rfl) hTH (fun w h => hts w (List.mem_cons_of_mem _ (List.mem_append_right _ h))) xb_87 xg_87 hH (hl.1.trans hml.symm) dX10_plain_15 dX10_plain_18 dX10_plain_19 dX10_plain_21 dX10_plain_24 hex (by decide) (Nat.le_of_ble_eq_true rfl) (by decide) (by decide) hlocks

set_option maxHeartbeats 4000000 in
set_option maxRecDepth 100000 in
theorem c_X10_plain_0 (l : Launch) (G : GG) (xm am te tD ob cb ib it ri pt : Nat) (pm rs : Nat) (w h b c md : Nat) (hd : DIM w h b c md) (pta : Nat) (ft : Nat → Int32) (pl : Nat → Nat) (i : Nat) (qi : i < tln w h) (qe : ft i = nI (pl i)) (ql : pl i < 2) : Met l yX10_plain wsX10_plain ({ frames := 1, cells := 0, slots := 0, locals := 21 } : Room) (r_Pc G [.ref xm, .int (nI i)] [(xm, .inr (9, [.ref pm, .ref am, .ref te, .ref tD, .ref ob, .ref cb, .ref ib, .ref it, .ref ri, .ref pt])), (pm, .inr (3, [.int (nI w), .int (nI h), .int (nI b), .int (nI c), .int (nI (2 * md - 1)), .int (nI md), .int (nI ((w + 7) / 8)), .ref rs])), (pt, .inr (5, [.ref pta])), (pta, .inl (G.2.1, 4, .inl ft))]) (vp_Si (fun r => r = (if pl i = 1 then 1 else 0))) 0 0 (fun _ => False) := by
  refine r_ofW (cc := cX10_plain) (maxL := 2) (ret := (some .boolean)) (by decide) rfl (Nat.le_of_ble_eq_true rfl) ?_
  intro pZ eZ sZ mZ bZ tZ cZ hx hb hr hts hown hlocks hml hK H hH hP ls hl
  have hown : sZ.vm.findClass RX10 = some mZ.cls := hown
  have hl : lv_has ls 2 [(0, .ref xm), (1, .int (nI i))] := hl
  obtain ⟨dw1, dw2, dh1, dh2, db1, db2, dc1, dc2, dm1, dm2, dme⟩ := id hd
  have q3 := tln_le hd
  refine lv_iload_n hx hb dX10_plain_0 rfl (lv_at hl 1 rfl) ?_
  refine lv_if_lt (tgt := 15) hx hb dX10_plain_1 (by decide) (fun c_1 => ?_) (fun c_1 => ?_)
  · skip
    have c_1 : i < 0 := (nI_ltI (a := i) (b := 0) (by omega) (by omega)).mp c_1
    exfalso; omega
  · skip
    have c_1 : ¬ (i < 0) := fun z8 => c_1 ((nI_ltI (a := i) (b := 0) (by omega) (by omega)).mpr z8)
    refine lv_iload_n hx hb dX10_plain_4 rfl (lv_at hl 1 rfl) ?_
    refine lv_aload_n hx hb dX10_plain_5 rfl (lv_at hl 0 rfl) ?_
    refine va_get (D := G.1) (ci := 9) (v := .ref pm) (C := RX10) (T := TX10) (N := 10) hx hb hts hin_X10_plain_10 hown hK.1 hP 0 rfl rfl 0 (by decide) (hts (.fieldLink RX10 56 "MixedPredict" "picture" "LMixedPredict$Picture;") (List.mem_cons_of_mem _ (List.mem_append_left _ (List.mem_append_left _ (List.mem_append_left _ (List.mem_append_left _ (List.mem_of_getElem? (i := 2) rfl))))))) (fun _ h9 => h9) rfl dX10_plain_6 ?_
    refine r_fin_i (va_runV (As := []) (rest := [.int (nI i)]) ⟨hx, hb, hml, hown, hts⟩ (c_X4_tiles l G pm rs w h b c md hd) (cwV 0 hts gX10_plain_X4_tiles rfl rfl rfl (by decide +kernel) ⟨Nat.le_of_ble_eq_true rfl, Nat.le_of_ble_eq_true rfl⟩) (x_preV (r_pre hK hP [1] rfl) hK hP (ci := 3) (q0 := 1) rfl rfl) rfl rfl hl.1 rfl (lv_room (Nat.le_of_ble_eq_true rfl)) dX10_plain_9 ⟨Nat.zero_le _, Nat.zero_le _⟩) (fun r_1 hw => ?_)
    subst hw
    refine lv_icmp_lt (tgt := 25) hx hb dX10_plain_12 (by decide) (fun c_12 => ?_) (fun c_12 => ?_)
    · skip
      have c_12 : i < tln w h := (nI_ltI (a := i) (b := tln w h) (by omega) (by omega)).mp c_12
      refine lv_aload_n hx hb dX10_plain_25 rfl (lv_at hl 0 rfl) ?_
      refine va_get (D := G.1) (ci := 9) (v := .ref pt) (C := RX10) (T := TX10) (N := 10) hx hb hts hin_X10_plain_10 hown hK.1 hP 0 rfl rfl 9 (by decide) (hts (.fieldLink RX10 43 "MixedPredict" "plainTiles" "LMixedPredict$Row;") (List.mem_cons_of_mem _ (List.mem_append_left _ (List.mem_append_left _ (List.mem_append_left _ (List.mem_append_left _ (List.mem_of_getElem? (i := 3) rfl))))))) (fun _ h9 => h9) rfl dX10_plain_26 ?_
      refine lv_iload_n hx hb dX10_plain_29 rfl (lv_at hl 1 rfl) ?_
      refine r_fin_i (va_runV (As := [.int (nI i)]) (rest := []) ⟨hx, hb, hml, hown, hts⟩ (c_X6_get l G pt pta 4 ft i (by first | assumption | omega) (by first | assumption | omega)) (cwV 1 hts gX10_plain_X6_get rfl rfl rfl (by decide +kernel) ⟨Nat.le_of_ble_eq_true rfl, Nat.le_of_ble_eq_true rfl⟩) (x_preV (r_pre hK hP [2, 3] rfl) hK hP (ci := 5) (q0 := 2) rfl rfl) rfl rfl hl.1 rfl (lv_room (Nat.le_of_ble_eq_true rfl)) dX10_plain_30 ⟨Nat.zero_le _, Nat.zero_le _⟩) (fun r_2 hw => ?_)
      subst hw
      refine x_top (y := nI (pl i)) (qe) ?_
      refine lv_iconst (v := 1) hx hb dX10_plain_33 (by decide) ?_
      refine x_join (α := (Int32)) (fun z9 => F0 mZ 42 ls [.int z9]) (fun z9 => (z9 = if pl i = 1 then 1 else 0)) (fun z9 hJ9 => ?_) (fun hj_3 => ?_)
      · obtain ⟨v9, rfl⟩ : ∃ z, z = z9 := ⟨_, rfl⟩
        have hj9 := hJ9
        have hj9 : v9 = if pl i = 1 then 1 else 0 := hj9
        subst hj9
        exact r_zret hx hb hr hlocks (x_bn) (rfl) hH dX10_plain_42
      · skip
        refine lv_icmp_ne (tgt := 41) hx hb dX10_plain_34 (by decide) (fun c_34 => ?_) (fun c_34 => ?_)
        · skip
          have c_34 : ¬ (pl i = 1) := fun z8 => c_34 ((nI_eq (a := pl i) (b := 1) (by omega) (by omega)).mpr z8)
          refine lv_iconst (v := 0) hx hb dX10_plain_41 (by decide) ?_
          exact hj_3 0 ((show 0 = if pl i = 1 then 1 else 0 from by rw [if_neg c_34]))
        · skip
          have c_34 : pl i = 1 := (nI_eq (a := pl i) (b := 1) (by omega) (by omega)).mp c_34
          refine lv_iconst (v := 1) hx hb dX10_plain_37 (by decide) ?_
          refine lv_goto (tgt := 42) hx hb dX10_plain_38 (by decide) ?_
          exact hj_3 1 ((show 1 = if pl i = 1 then 1 else 0 from by rw [if_pos c_34]))
    · skip
      have c_12 : ¬ (i < tln w h) := fun z8 => c_12 ((nI_ltI (a := i) (b := tln w h) (by omega) (by omega)).mpr z8)
      exfalso; omega

set_option maxHeartbeats 4000000 in
set_option maxRecDepth 100000 in
theorem c_X10_weight_1 (l : Launch) (G : GG) (pm : Nat) (xm am te tD ob cb ib it ri pt : Nat) (i : Int32) (qn : ¬ (0 ≤ i ∧ i ≤ 8)) (hst : l.stackTraces = false) : vx_Met l yX10_weight wsX10_weight ({ frames := 6, cells := 1, slots := 6, locals := 82 } : Room) (tx_Pc G [.ref xm, .int i] [(xm, .inr (9, [.ref pm, .ref am, .ref te, .ref tD, .ref ob, .ref cb, .ref ib, .ref it, .ref ri, .ref pt]))]) tx_Qc (tx_XC "java/lang/IndexOutOfBoundsException") 1 6 (fun _ => False) := by
  refine t_ofW (E := "java/lang/IndexOutOfBoundsException") (cc := cX10_weight) (maxL := 2) (ret := (some .int)) (by decide) rfl (Nat.le_of_ble_eq_true rfl) ?_
  intro pZ eZ sZ mZ bZ tZ cZ hx hb hr hts hown hlocks hml hK hTH hex H hH hP ls hl
  have hown : sZ.vm.findClass RX10 = some mZ.cls := hown
  have hl : lv_has ls 2 [(0, .ref xm), (1, .int i)] := hl
  refine lv_iload_n hx hb dX10_weight_0 rfl (lv_at hl 1 rfl) ?_
  refine lv_if_lt (tgt := 10) hx hb dX10_weight_1 (by decide) (fun c_1 => ?_) (fun c_1 => ?_)
  · skip
    exact t_throw hx hb hst hown (by decide +kernel) (hts (.classLink RX10 83 "java/lang/IndexOutOfBoundsException") (List.mem_cons_of_mem _ (List.mem_append_left _ (List.mem_append_left _ (List.mem_append_left _ (List.mem_append_left _ (List.mem_append_left _ (List.mem_of_getElem? (i := 0) rfl)))))))) (hts (.initialized "java/lang/IndexOutOfBoundsException") (List.mem_cons_of_mem _ (List.mem_append_left _ (List.mem_append_left _ (List.mem_append_left _ (List.mem_append_left _ (List.mem_append_left _ (List.mem_of_getElem? (i := 1) rfl)))))))) (List.mem_of_getElem? (i := 2) rfl) hTH (fun w h => hts w (List.mem_cons_of_mem _ (List.mem_append_right _ h))) xb_87 xg_87 hH (hl.1.trans hml.symm) dX10_weight_10 dX10_weight_13 dX10_weight_14 dX10_weight_16 dX10_weight_19 hex (by decide) (Nat.le_of_ble_eq_true rfl) (by decide) (by decide) hlocks
  · skip
    refine lv_iload_n hx hb dX10_weight_4 rfl (lv_at hl 1 rfl) ?_
    refine lv_bipush (v := 9) hx hb dX10_weight_5 (by decide) ?_
    refine lv_icmp_lt (tgt := 20) hx hb dX10_weight_7 (by decide) (fun c_7 => ?_) (fun c_7 => ?_)
    · skip
      exfalso; exact qn ⟨Int32.not_lt.mp c_1, lt9_le c_7⟩
    · skip
      exact t_throw hx hb hst hown (by decide +kernel) (hts (.classLink RX10 83 "java/lang/IndexOutOfBoundsException") (List.mem_cons_of_mem _ (List.mem_append_left _ (List.mem_append_left _ (List.mem_append_left _ (List.mem_append_left _ (List.mem_append_left _ (List.mem_of_getElem? (i := 0) rfl)))))))) (hts (.initialized "java/lang/IndexOutOfBoundsException") (List.mem_cons_of_mem _ (List.mem_append_left _ (List.mem_append_left _ (List.mem_append_left _ (List.mem_append_left _ (List.mem_append_left _ (List.mem_of_getElem? (i := 1) rfl)))))))) (List.mem_of_getElem? (i := 2) rfl) hTH (fun w h => hts w (List.mem_cons_of_mem _ (List.mem_append_right _ h))) xb_87 xg_87 hH (hl.1.trans hml.symm) dX10_weight_10 dX10_weight_13 dX10_weight_14 dX10_weight_16 dX10_weight_19 hex (by decide) (Nat.le_of_ble_eq_true rfl) (by decide) (by decide) hlocks

set_option maxHeartbeats 4000000 in
set_option maxRecDepth 100000 in
theorem c_X10_weight_0 (l : Launch) (G : GG) (pm : Nat) (xm am te tD ob cb ib it ri pt : Nat) (ch ar pr : Nat) (wh wr wa er ea : Nat) (fW fE : Nat → Int32) (i : Nat) (qi : i < 9) : Met l yX10_weight wsX10_weight ({ frames := 2, cells := 0, slots := 0, locals := 42 } : Room) (r_Pc G [.ref xm, .int (nI i)] [(xm, .inr (9, [.ref pm, .ref am, .ref te, .ref tD, .ref ob, .ref cb, .ref ib, .ref it, .ref ri, .ref pt])), (te, .inr (6, [.ref wh, .ref ch, .ref pm, .ref ar, .ref pr])), (wh, .inr (7, [.ref wr, .ref er])), (wr, .inr (5, [.ref wa])), (wa, .inl (G.2.1, 9, .inl fW)), (er, .inr (5, [.ref ea])), (ea, .inl (G.2.1, 9, .inl fE))]) (vp_Si (fun r => r = (fW i))) 0 0 (fun _ => False) := by
  refine r_ofW (cc := cX10_weight) (maxL := 2) (ret := (some .int)) (by decide) rfl (Nat.le_of_ble_eq_true rfl) ?_
  intro pZ eZ sZ mZ bZ tZ cZ hx hb hr hts hown hlocks hml hK H hH hP ls hl
  have hown : sZ.vm.findClass RX10 = some mZ.cls := hown
  have hl : lv_has ls 2 [(0, .ref xm), (1, .int (nI i))] := hl
  refine lv_iload_n hx hb dX10_weight_0 rfl (lv_at hl 1 rfl) ?_
  refine lv_if_lt (tgt := 10) hx hb dX10_weight_1 (by decide) (fun c_1 => ?_) (fun c_1 => ?_)
  · skip
    have c_1 : i < 0 := (nI_ltI (a := i) (b := 0) (by omega) (by omega)).mp c_1
    exfalso; omega
  · skip
    have c_1 : ¬ (i < 0) := fun z8 => c_1 ((nI_ltI (a := i) (b := 0) (by omega) (by omega)).mpr z8)
    refine lv_iload_n hx hb dX10_weight_4 rfl (lv_at hl 1 rfl) ?_
    refine lv_bipush (v := 9) hx hb dX10_weight_5 (by decide) ?_
    refine lv_icmp_lt (tgt := 20) hx hb dX10_weight_7 (by decide) (fun c_7 => ?_) (fun c_7 => ?_)
    · skip
      have c_7 : i < 9 := (nI_ltI (a := i) (b := 9) (by omega) (by omega)).mp c_7
      refine lv_aload_n hx hb dX10_weight_20 rfl (lv_at hl 0 rfl) ?_
      refine va_get (D := G.1) (ci := 9) (v := .ref te) (C := RX10) (T := TX10) (N := 10) hx hb hts hin_X10_weight_10 hown hK.1 hP 0 rfl rfl 2 (by decide) (hts (.fieldLink RX10 72 "MixedPredict" "encodeTeller" "LMixedPredict$Teller;") (List.mem_cons_of_mem _ (List.mem_append_left _ (List.mem_append_left _ (List.mem_append_left _ (List.mem_append_left _ (List.mem_append_left _ (List.mem_of_getElem? (i := 2) rfl)))))))) (fun _ h9 => h9) rfl dX10_weight_21 ?_
      refine va_get (D := G.1) (ci := 6) (v := .ref wh) (C := RX7) (T := TX7) (N := 5) hx hb hts hin_X10_weight_7 hown hK.1 hP 1 rfl rfl 0 (by decide) (hts (.fieldLink RX10 165 "MixedPredict$Teller" "weights" "LMixedPredict$Weights;") (List.mem_cons_of_mem _ (List.mem_append_left _ (List.mem_append_left _ (List.mem_append_left _ (List.mem_append_left _ (List.mem_append_left _ (List.mem_of_getElem? (i := 3) rfl)))))))) (fun _ h9 => h9) rfl dX10_weight_24 ?_
      refine lv_iload_n hx hb dX10_weight_27 rfl (lv_at hl 1 rfl) ?_
      refine r_fin_i (va_runV (As := [.int (nI i)]) (rest := []) ⟨hx, hb, hml, hown, hts⟩ (c_X8_get l G wh wr wa er ea fW fE i (qi)) (cwV 1 hts gX10_weight_X8_get rfl rfl rfl (by decide +kernel) ⟨Nat.le_of_ble_eq_true rfl, Nat.le_of_ble_eq_true rfl⟩) (x_preV (r_pre hK hP [2, 3, 4, 5, 6] rfl) hK hP (ci := 7) (q0 := 2) rfl rfl) rfl rfl hl.1 rfl (lv_room (Nat.le_of_ble_eq_true rfl)) dX10_weight_28 ⟨Nat.zero_le _, Nat.zero_le _⟩) (fun r_1 hw => ?_)
      subst hw
      exact r_iret hx hb hr hlocks (rfl) hH dX10_weight_31
    · skip
      have c_7 : ¬ (i < 9) := fun z8 => c_7 ((nI_ltI (a := i) (b := 9) (by omega) (by omega)).mpr z8)
      exfalso; omega

set_option maxHeartbeats 4000000 in
set_option maxRecDepth 100000 in
theorem c_X10_chance_1 (l : Launch) (G : GG) (xm am te tD ob cb ib it ri pt : Nat) (pm rs : Nat) (w h b c md : Nat) (hd : DIM w h b c md) (b9 : Prop) [Decidable b9] (k q n : Int32) (qn : ¬ (0 ≤ k ∧ k < nI c)) (hst : l.stackTraces = false) : vx_Met l yX10_chance wsX10_chance ({ frames := 6, cells := 1, slots := 6, locals := 82 } : Room) (tx_Pc G [.ref xm, .int (if b9 then 1 else 0), .int k, .int q, .int n] [(xm, .inr (9, [.ref pm, .ref am, .ref te, .ref tD, .ref ob, .ref cb, .ref ib, .ref it, .ref ri, .ref pt])), (pm, .inr (3, [.int (nI w), .int (nI h), .int (nI b), .int (nI c), .int (nI (2 * md - 1)), .int (nI md), .int (nI ((w + 7) / 8)), .ref rs]))]) tx_Qc (tx_XC "java/lang/IndexOutOfBoundsException") 1 6 (fun _ => False) := by
  refine t_ofW (E := "java/lang/IndexOutOfBoundsException") (cc := cX10_chance) (maxL := 7) (ret := (some .int)) (by decide) rfl (Nat.le_of_ble_eq_true rfl) ?_
  intro pZ eZ sZ mZ bZ tZ cZ hx hb hr hts hown hlocks hml hK hTH hex H hH hP ls hl
  have hown : sZ.vm.findClass RX10 = some mZ.cls := hown
  have hl : lv_has ls 7 [(0, .ref xm), (1, .int (if b9 then 1 else 0)), (2, .int k), (3, .int q), (4, .int n)] := hl
  refine lv_aload_n hx hb dX10_chance_0 rfl (lv_at hl 0 rfl) ?_
  refine va_get (D := G.1) (ci := 9) (v := .ref pm) (C := RX10) (T := TX10) (N := 10) hx hb hts hin_X10_chance_10 hown hK.1 hP 0 rfl rfl 0 (by decide) (hts (.fieldLink RX10 56 "MixedPredict" "picture" "LMixedPredict$Picture;") (List.mem_cons_of_mem _ (List.mem_append_left _ (List.mem_append_left _ (List.mem_append_left _ (List.mem_append_left _ (List.mem_append_left _ (List.mem_append_left _ (List.mem_append_left _ (List.mem_append_left _ (List.mem_of_getElem? (i := 4) rfl))))))))))) (fun _ h9 => h9) rfl dX10_chance_1 ?_
  refine lv_iload_n hx hb dX10_chance_4 rfl (lv_at hl 2 rfl) ?_
  refine r_fin_i (va_runV (As := [.int k]) (rest := []) ⟨hx, hb, hml, hown, hts⟩ (c_X4_hasChannel l G pm rs w h b c md hd k) (cwV 1 hts gX10_chance_X4_hasChannel rfl rfl rfl (by decide +kernel) ⟨Nat.le_of_ble_eq_true rfl, Nat.le_of_ble_eq_true rfl⟩) (x_preV (r_pre hK hP [1] rfl) hK hP (ci := 3) (q0 := 1) rfl rfl) rfl rfl hl.1 rfl (lv_room (Nat.le_of_ble_eq_true rfl)) dX10_chance_5 ⟨by show _ ≤ 1; omega, by show _ ≤ 6; omega⟩) (fun r_1 hw => ?_)
  subst hw
  refine lv_if_ne (tgt := 21) hx hb dX10_chance_8 (by decide) (fun c_8 => ?_) (fun c_8 => ?_)
  · skip
    have c_8 := Decidable.not_not.mp (fun z8 => c_8 (x_b0.mpr z8))
    exfalso; exact qn c_8
  · skip
    have c_8 := x_b0.mp c_8
    exact t_throw hx hb hst hown (by decide +kernel) (hts (.classLink RX10 83 "java/lang/IndexOutOfBoundsException") (List.mem_cons_of_mem _ (List.mem_append_left _ (List.mem_append_left _ (List.mem_append_left _ (List.mem_append_left _ (List.mem_append_left _ (List.mem_append_left _ (List.mem_append_left _ (List.mem_append_left _ (List.mem_of_getElem? (i := 0) rfl))))))))))) (hts (.initialized "java/lang/IndexOutOfBoundsException") (List.mem_cons_of_mem _ (List.mem_append_left _ (List.mem_append_left _ (List.mem_append_left _ (List.mem_append_left _ (List.mem_append_left _ (List.mem_append_left _ (List.mem_append_left _ (List.mem_append_left _ (List.mem_of_getElem? (i := 1) rfl))))))))))) (List.mem_of_getElem? (i := 5) rfl) hTH (fun w h => hts w (List.mem_cons_of_mem _ (List.mem_append_left _ (List.mem_append_right _ h)))) xb_87 xg_87 hH (hl.1.trans hml.symm) dX10_chance_11 dX10_chance_14 dX10_chance_15 dX10_chance_17 dX10_chance_20 hex (by decide) (Nat.le_of_ble_eq_true rfl) (by decide) (by decide) hlocks

set_option maxHeartbeats 4000000 in
set_option maxRecDepth 100000 in
theorem c_X10_chance_2 (l : Launch) (G : GG) (xm am te tD ob cb ib it ri pt : Nat) (pm rs : Nat) (w h b c md : Nat) (hd : DIM w h b c md) (b9 : Prop) [Decidable b9] (k q n : Int32) (qy : (0 ≤ k ∧ k < nI c)) (qn : ¬ ((0 ≤ q ∧ q ≤ 3) ∧ (1 ≤ n ∧ n ≤ nI (2 * md - 1)))) (hst : l.stackTraces = false) : vx_Met l yX10_chance wsX10_chance ({ frames := 6, cells := 1, slots := 6, locals := 82 } : Room) (tx_Pc G [.ref xm, .int (if b9 then 1 else 0), .int k, .int q, .int n] [(xm, .inr (9, [.ref pm, .ref am, .ref te, .ref tD, .ref ob, .ref cb, .ref ib, .ref it, .ref ri, .ref pt])), (pm, .inr (3, [.int (nI w), .int (nI h), .int (nI b), .int (nI c), .int (nI (2 * md - 1)), .int (nI md), .int (nI ((w + 7) / 8)), .ref rs]))]) tx_Qc (tx_XC "java/lang/IllegalArgumentException") 1 6 (fun _ => False) := by
  refine t_ofW (E := "java/lang/IllegalArgumentException") (cc := cX10_chance) (maxL := 7) (ret := (some .int)) (by decide) rfl (Nat.le_of_ble_eq_true rfl) ?_
  intro pZ eZ sZ mZ bZ tZ cZ hx hb hr hts hown hlocks hml hK hTH hex H hH hP ls hl
  have hown : sZ.vm.findClass RX10 = some mZ.cls := hown
  have hl : lv_has ls 7 [(0, .ref xm), (1, .int (if b9 then 1 else 0)), (2, .int k), (3, .int q), (4, .int n)] := hl
  refine lv_aload_n hx hb dX10_chance_0 rfl (lv_at hl 0 rfl) ?_
  refine va_get (D := G.1) (ci := 9) (v := .ref pm) (C := RX10) (T := TX10) (N := 10) hx hb hts hin_X10_chance_10 hown hK.1 hP 0 rfl rfl 0 (by decide) (hts (.fieldLink RX10 56 "MixedPredict" "picture" "LMixedPredict$Picture;") (List.mem_cons_of_mem _ (List.mem_append_left _ (List.mem_append_left _ (List.mem_append_left _ (List.mem_append_left _ (List.mem_append_left _ (List.mem_append_left _ (List.mem_append_left _ (List.mem_append_left _ (List.mem_of_getElem? (i := 4) rfl))))))))))) (fun _ h9 => h9) rfl dX10_chance_1 ?_
  refine lv_iload_n hx hb dX10_chance_4 rfl (lv_at hl 2 rfl) ?_
  refine r_fin_i (va_runV (As := [.int k]) (rest := []) ⟨hx, hb, hml, hown, hts⟩ (c_X4_hasChannel l G pm rs w h b c md hd k) (cwV 1 hts gX10_chance_X4_hasChannel rfl rfl rfl (by decide +kernel) ⟨Nat.le_of_ble_eq_true rfl, Nat.le_of_ble_eq_true rfl⟩) (x_preV (r_pre hK hP [1] rfl) hK hP (ci := 3) (q0 := 1) rfl rfl) rfl rfl hl.1 rfl (lv_room (Nat.le_of_ble_eq_true rfl)) dX10_chance_5 ⟨by show _ ≤ 1; omega, by show _ ≤ 6; omega⟩) (fun r_1 hw => ?_)
  subst hw
  refine lv_if_ne (tgt := 21) hx hb dX10_chance_8 (by decide) (fun c_8 => ?_) (fun c_8 => ?_)
  · skip
    have c_8 := Decidable.not_not.mp (fun z8 => c_8 (x_b0.mpr z8))
    refine lv_iload_n hx hb dX10_chance_21 rfl (lv_at hl 3 rfl) ?_
    refine lv_if_lt (tgt := 30) hx hb dX10_chance_22 (by decide) (fun c_22 => ?_) (fun c_22 => ?_)
    · skip
      exact t_throw hx hb hst hown (by decide +kernel) (hts (.classLink RX10 94 "java/lang/IllegalArgumentException") (List.mem_cons_of_mem _ (List.mem_append_left _ (List.mem_append_left _ (List.mem_append_left _ (List.mem_append_left _ (List.mem_append_left _ (List.mem_append_left _ (List.mem_append_left _ (List.mem_append_left _ (List.mem_of_getElem? (i := 2) rfl))))))))))) (hts (.initialized "java/lang/IllegalArgumentException") (List.mem_cons_of_mem _ (List.mem_append_left _ (List.mem_append_left _ (List.mem_append_left _ (List.mem_append_left _ (List.mem_append_left _ (List.mem_append_left _ (List.mem_append_left _ (List.mem_append_left _ (List.mem_of_getElem? (i := 3) rfl))))))))))) (List.mem_of_getElem? (i := 6) rfl) hTH (fun w h => hts w (List.mem_cons_of_mem _ (List.mem_append_right _ h))) xb_98 xg_98 hH (hl.1.trans hml.symm) dX10_chance_30 dX10_chance_33 dX10_chance_34 dX10_chance_36 dX10_chance_39 hex (by decide) (Nat.le_of_ble_eq_true rfl) (by decide) (by decide) hlocks
    · skip
      refine lv_iload_n hx hb dX10_chance_25 rfl (lv_at hl 3 rfl) ?_
      refine lv_iconst (v := 4) hx hb dX10_chance_26 (by decide) ?_
      refine lv_icmp_lt (tgt := 40) hx hb dX10_chance_27 (by decide) (fun c_27 => ?_) (fun c_27 => ?_)
      · skip
        refine lv_iload hx hb dX10_chance_40 (lv_at hl 4 rfl) ?_
        refine lv_iconst (v := 1) hx hb dX10_chance_42 (by decide) ?_
        refine lv_icmp_lt (tgt := 58) hx hb dX10_chance_43 (by decide) (fun c_43 => ?_) (fun c_43 => ?_)
        · skip
          exact t_throw hx hb hst hown (by decide +kernel) (hts (.classLink RX10 94 "java/lang/IllegalArgumentException") (List.mem_cons_of_mem _ (List.mem_append_left _ (List.mem_append_left _ (List.mem_append_left _ (List.mem_append_left _ (List.mem_append_left _ (List.mem_append_left _ (List.mem_append_left _ (List.mem_append_left _ (List.mem_of_getElem? (i := 2) rfl))))))))))) (hts (.initialized "java/lang/IllegalArgumentException") (List.mem_cons_of_mem _ (List.mem_append_left _ (List.mem_append_left _ (List.mem_append_left _ (List.mem_append_left _ (List.mem_append_left _ (List.mem_append_left _ (List.mem_append_left _ (List.mem_append_left _ (List.mem_of_getElem? (i := 3) rfl))))))))))) (List.mem_of_getElem? (i := 7) rfl) hTH (fun w h => hts w (List.mem_cons_of_mem _ (List.mem_append_right _ h))) xb_98 xg_98 hH (hl.1.trans hml.symm) dX10_chance_58 dX10_chance_61 dX10_chance_62 dX10_chance_64 dX10_chance_67 hex (by decide) (Nat.le_of_ble_eq_true rfl) (by decide) (by decide) hlocks
        · skip
          refine lv_iload hx hb dX10_chance_46 (lv_at hl 4 rfl) ?_
          refine lv_aload_n hx hb dX10_chance_48 rfl (lv_at hl 0 rfl) ?_
          refine va_get (D := G.1) (ci := 9) (v := .ref pm) (C := RX10) (T := TX10) (N := 10) hx hb hts hin_X10_chance_10 hown hK.1 hP 0 rfl rfl 0 (by decide) (hts (.fieldLink RX10 56 "MixedPredict" "picture" "LMixedPredict$Picture;") (List.mem_cons_of_mem _ (List.mem_append_left _ (List.mem_append_left _ (List.mem_append_left _ (List.mem_append_left _ (List.mem_append_left _ (List.mem_append_left _ (List.mem_append_left _ (List.mem_append_left _ (List.mem_of_getElem? (i := 4) rfl))))))))))) (fun _ h9 => h9) rfl dX10_chance_49 ?_
          refine va_get (D := G.1) (ci := 3) (v := .int (nI (2 * md - 1))) (C := RX4) (T := TX4) (N := 8) hx hb hts hin_X10_chance_4 hown hK.1 hP 1 rfl rfl 4 (by decide) (hts (.fieldLink RX10 90 "MixedPredict$Picture" "greatest" "I") (List.mem_cons_of_mem _ (List.mem_append_left _ (List.mem_append_left _ (List.mem_append_left _ (List.mem_append_left _ (List.mem_append_left _ (List.mem_append_left _ (List.mem_append_left _ (List.mem_append_left _ (List.mem_of_getElem? (i := 5) rfl))))))))))) (fun _ h9 => h9) rfl dX10_chance_52 ?_
          refine lv_icmp_le (tgt := 68) hx hb dX10_chance_55 (by decide) (fun c_55 => ?_) (fun c_55 => ?_)
          · skip
            exfalso; exact qn ⟨⟨Int32.not_lt.mp c_22, lt4_le c_27⟩, Int32.not_lt.mp c_43, c_55⟩
          · skip
            exact t_throw hx hb hst hown (by decide +kernel) (hts (.classLink RX10 94 "java/lang/IllegalArgumentException") (List.mem_cons_of_mem _ (List.mem_append_left _ (List.mem_append_left _ (List.mem_append_left _ (List.mem_append_left _ (List.mem_append_left _ (List.mem_append_left _ (List.mem_append_left _ (List.mem_append_left _ (List.mem_of_getElem? (i := 2) rfl))))))))))) (hts (.initialized "java/lang/IllegalArgumentException") (List.mem_cons_of_mem _ (List.mem_append_left _ (List.mem_append_left _ (List.mem_append_left _ (List.mem_append_left _ (List.mem_append_left _ (List.mem_append_left _ (List.mem_append_left _ (List.mem_append_left _ (List.mem_of_getElem? (i := 3) rfl))))))))))) (List.mem_of_getElem? (i := 7) rfl) hTH (fun w h => hts w (List.mem_cons_of_mem _ (List.mem_append_right _ h))) xb_98 xg_98 hH (hl.1.trans hml.symm) dX10_chance_58 dX10_chance_61 dX10_chance_62 dX10_chance_64 dX10_chance_67 hex (by decide) (Nat.le_of_ble_eq_true rfl) (by decide) (by decide) hlocks
      · skip
        exact t_throw hx hb hst hown (by decide +kernel) (hts (.classLink RX10 94 "java/lang/IllegalArgumentException") (List.mem_cons_of_mem _ (List.mem_append_left _ (List.mem_append_left _ (List.mem_append_left _ (List.mem_append_left _ (List.mem_append_left _ (List.mem_append_left _ (List.mem_append_left _ (List.mem_append_left _ (List.mem_of_getElem? (i := 2) rfl))))))))))) (hts (.initialized "java/lang/IllegalArgumentException") (List.mem_cons_of_mem _ (List.mem_append_left _ (List.mem_append_left _ (List.mem_append_left _ (List.mem_append_left _ (List.mem_append_left _ (List.mem_append_left _ (List.mem_append_left _ (List.mem_append_left _ (List.mem_of_getElem? (i := 3) rfl))))))))))) (List.mem_of_getElem? (i := 6) rfl) hTH (fun w h => hts w (List.mem_cons_of_mem _ (List.mem_append_right _ h))) xb_98 xg_98 hH (hl.1.trans hml.symm) dX10_chance_30 dX10_chance_33 dX10_chance_34 dX10_chance_36 dX10_chance_39 hex (by decide) (Nat.le_of_ble_eq_true rfl) (by decide) (by decide) hlocks
  · skip
    have c_8 := x_b0.mp c_8
    exfalso; exact c_8 qy

set_option maxHeartbeats 4000000 in
set_option maxRecDepth 100000 in
theorem c_X10_chance_0 (l : Launch) (G : GG) (xm am te tD ob cb ib it ri pt : Nat) (pm rs : Nat) (w h b c md : Nat) (hd : DIM w h b c md) (wh ar pr : Nat) (ch fr fa sr sa tr ta : Nat) (f1 f2 fh : Nat → Int32) (b9 : Prop) [Decidable b9] (k q n : Nat) (qk : k < c) (qq : q < 4) (qn1 : 1 ≤ n) (qn2 : n < 2 * md) : Met l yX10_chance wsX10_chance ({ frames := 1, cells := 0, slots := 0, locals := 23 } : Room) (r_Pc G [.ref xm, .int (if b9 then 1 else 0), .int (nI k), .int (nI q), .int (nI n)] [(xm, .inr (9, [.ref pm, .ref am, .ref te, .ref tD, .ref ob, .ref cb, .ref ib, .ref it, .ref ri, .ref pt])), (pm, .inr (3, [.int (nI w), .int (nI h), .int (nI b), .int (nI c), .int (nI (2 * md - 1)), .int (nI md), .int (nI ((w + 7) / 8)), .ref rs])), (te, .inr (6, [.ref wh, .ref ch, .ref pm, .ref ar, .ref pr])), (ch, .inr (2, [.ref fr, .ref sr, .ref tr, .int (nI b)])), (fr, .inr (5, [.ref fa])), (fa, .inl (G.2.1, (c * 4) * (2 * md), .inl f1)), (sr, .inr (5, [.ref sa])), (sa, .inl (G.2.1, (c * 4) * (2 * md), .inl f2)), (tr, .inr (5, [.ref ta])), (ta, .inl (G.2.1, c, .inl fh))]) (vp_Si (fun r => r = (if b9 then f1 ((k * 4 + q) * (2 * md) + n) else f2 ((k * 4 + q) * (2 * md) + n)))) 0 0 (fun _ => False) := by
  refine r_ofW (cc := cX10_chance) (maxL := 7) (ret := (some .int)) (by decide) rfl (Nat.le_of_ble_eq_true rfl) ?_
  intro pZ eZ sZ mZ bZ tZ cZ hx hb hr hts hown hlocks hml hK H hH hP ls hl
  have hown : sZ.vm.findClass RX10 = some mZ.cls := hown
  have hl : lv_has ls 7 [(0, .ref xm), (1, .int (if b9 then 1 else 0)), (2, .int (nI k)), (3, .int (nI q)), (4, .int (nI n))] := hl
  obtain ⟨dw1, dw2, dh1, dh2, db1, db2, dc1, dc2, dm1, dm2, dme⟩ := id hd
  have q1 := ch_lt qk qq qn2
  have q2 := ch_big hd
  refine lv_aload_n hx hb dX10_chance_0 rfl (lv_at hl 0 rfl) ?_
  refine va_get (D := G.1) (ci := 9) (v := .ref pm) (C := RX10) (T := TX10) (N := 10) hx hb hts hin_X10_chance_10 hown hK.1 hP 0 rfl rfl 0 (by decide) (hts (.fieldLink RX10 56 "MixedPredict" "picture" "LMixedPredict$Picture;") (List.mem_cons_of_mem _ (List.mem_append_left _ (List.mem_append_left _ (List.mem_append_left _ (List.mem_append_left _ (List.mem_append_left _ (List.mem_append_left _ (List.mem_append_left _ (List.mem_append_left _ (List.mem_of_getElem? (i := 4) rfl))))))))))) (fun _ h9 => h9) rfl dX10_chance_1 ?_
  refine lv_iload_n hx hb dX10_chance_4 rfl (lv_at hl 2 rfl) ?_
  refine r_fin_i (va_runV (As := [.int (nI k)]) (rest := []) ⟨hx, hb, hml, hown, hts⟩ (c_X4_hasChannel l G pm rs w h b c md hd (nI k)) (cwV 1 hts gX10_chance_X4_hasChannel rfl rfl rfl (by decide +kernel) ⟨Nat.le_of_ble_eq_true rfl, Nat.le_of_ble_eq_true rfl⟩) (x_preV (r_pre hK hP [1] rfl) hK hP (ci := 3) (q0 := 1) rfl rfl) rfl rfl hl.1 rfl (lv_room (Nat.le_of_ble_eq_true rfl)) dX10_chance_5 ⟨Nat.zero_le _, Nat.zero_le _⟩) (fun r_1 hw => ?_)
  subst hw
  refine lv_if_ne (tgt := 21) hx hb dX10_chance_8 (by decide) (fun c_8 => ?_) (fun c_8 => ?_)
  · skip
    have c_8 := Decidable.not_not.mp (fun z8 => c_8 (x_b0.mpr z8))
    refine lv_iload_n hx hb dX10_chance_21 rfl (lv_at hl 3 rfl) ?_
    refine lv_if_lt (tgt := 30) hx hb dX10_chance_22 (by decide) (fun c_22 => ?_) (fun c_22 => ?_)
    · skip
      have c_22 : q < 0 := (nI_ltI (a := q) (b := 0) (by omega) (by omega)).mp c_22
      exfalso; omega
    · skip
      have c_22 : ¬ (q < 0) := fun z8 => c_22 ((nI_ltI (a := q) (b := 0) (by omega) (by omega)).mpr z8)
      refine lv_iload_n hx hb dX10_chance_25 rfl (lv_at hl 3 rfl) ?_
      refine lv_iconst (v := 4) hx hb dX10_chance_26 (by decide) ?_
      refine lv_icmp_lt (tgt := 40) hx hb dX10_chance_27 (by decide) (fun c_27 => ?_) (fun c_27 => ?_)
      · skip
        have c_27 : q < 4 := (nI_ltI (a := q) (b := 4) (by omega) (by omega)).mp c_27
        refine lv_iload hx hb dX10_chance_40 (lv_at hl 4 rfl) ?_
        refine lv_iconst (v := 1) hx hb dX10_chance_42 (by decide) ?_
        refine lv_icmp_lt (tgt := 58) hx hb dX10_chance_43 (by decide) (fun c_43 => ?_) (fun c_43 => ?_)
        · skip
          have c_43 : n < 1 := (nI_ltI (a := n) (b := 1) (by omega) (by omega)).mp c_43
          exfalso; omega
        · skip
          have c_43 : ¬ (n < 1) := fun z8 => c_43 ((nI_ltI (a := n) (b := 1) (by omega) (by omega)).mpr z8)
          refine lv_iload hx hb dX10_chance_46 (lv_at hl 4 rfl) ?_
          refine lv_aload_n hx hb dX10_chance_48 rfl (lv_at hl 0 rfl) ?_
          refine va_get (D := G.1) (ci := 9) (v := .ref pm) (C := RX10) (T := TX10) (N := 10) hx hb hts hin_X10_chance_10 hown hK.1 hP 0 rfl rfl 0 (by decide) (hts (.fieldLink RX10 56 "MixedPredict" "picture" "LMixedPredict$Picture;") (List.mem_cons_of_mem _ (List.mem_append_left _ (List.mem_append_left _ (List.mem_append_left _ (List.mem_append_left _ (List.mem_append_left _ (List.mem_append_left _ (List.mem_append_left _ (List.mem_append_left _ (List.mem_of_getElem? (i := 4) rfl))))))))))) (fun _ h9 => h9) rfl dX10_chance_49 ?_
          refine va_get (D := G.1) (ci := 3) (v := .int (nI (2 * md - 1))) (C := RX4) (T := TX4) (N := 8) hx hb hts hin_X10_chance_4 hown hK.1 hP 1 rfl rfl 4 (by decide) (hts (.fieldLink RX10 90 "MixedPredict$Picture" "greatest" "I") (List.mem_cons_of_mem _ (List.mem_append_left _ (List.mem_append_left _ (List.mem_append_left _ (List.mem_append_left _ (List.mem_append_left _ (List.mem_append_left _ (List.mem_append_left _ (List.mem_append_left _ (List.mem_of_getElem? (i := 5) rfl))))))))))) (fun _ h9 => h9) rfl dX10_chance_52 ?_
          refine lv_icmp_le (tgt := 68) hx hb dX10_chance_55 (by decide) (fun c_55 => ?_) (fun c_55 => ?_)
          · skip
            have c_55 : n ≤ 2 * md - 1 := (nI_leI (a := n) (b := 2 * md - 1) (by omega) (by omega)).mp c_55
            refine lv_aload_n hx hb dX10_chance_68 rfl (lv_at hl 0 rfl) ?_
            refine va_get (D := G.1) (ci := 9) (v := .ref te) (C := RX10) (T := TX10) (N := 10) hx hb hts hin_X10_chance_10 hown hK.1 hP 0 rfl rfl 2 (by decide) (hts (.fieldLink RX10 72 "MixedPredict" "encodeTeller" "LMixedPredict$Teller;") (List.mem_cons_of_mem _ (List.mem_append_left _ (List.mem_append_left _ (List.mem_append_left _ (List.mem_append_left _ (List.mem_append_left _ (List.mem_append_left _ (List.mem_append_left _ (List.mem_append_left _ (List.mem_of_getElem? (i := 6) rfl))))))))))) (fun _ h9 => h9) rfl dX10_chance_69 ?_
            refine va_get (D := G.1) (ci := 6) (v := .ref ch) (C := RX7) (T := TX7) (N := 5) hx hb hts hin_X10_chance_7 hown hK.1 hP 2 rfl rfl 1 (by decide) (hts (.fieldLink RX10 181 "MixedPredict$Teller" "chances" "LMixedPredict$Chances;") (List.mem_cons_of_mem _ (List.mem_append_left _ (List.mem_append_left _ (List.mem_append_left _ (List.mem_append_left _ (List.mem_append_left _ (List.mem_append_left _ (List.mem_append_left _ (List.mem_append_left _ (List.mem_of_getElem? (i := 7) rfl))))))))))) (fun _ h9 => h9) rfl dX10_chance_72 ?_
            refine lv_astore (lv' := [(5, .ref ch), (0, .ref xm), (1, .int (if b9 then 1 else 0)), (2, .int (nI k)), (3, .int (nI q)), (4, .int (nI n))]) hx hb dX10_chance_75 hl (by decide) rfl (fun ls hl => ?_)
            refine lv_aload hx hb dX10_chance_77 (lv_at hl 0 rfl) ?_
            refine lv_iload_n hx hb dX10_chance_79 rfl (lv_at hl 3 rfl) ?_
            refine lv_iload_n hx hb dX10_chance_80 rfl (lv_at hl 4 rfl) ?_
            refine lv_iload hx hb dX10_chance_81 (lv_at hl 5 rfl) ?_
            refine r_fin_i (va_runV (As := [.int (nI k), .int (nI q), .int (nI n)]) (rest := []) ⟨hx, hb, hml, hown, hts⟩ (c_X2_place l G ch fr fa sr sa tr ta w h b c md hd f1 f2 fh k q n (by omega) (by first | assumption | omega)) (cwV 3 hts gX10_chance_X2_place rfl rfl rfl (by decide +kernel) ⟨Nat.le_of_ble_eq_true rfl, Nat.le_of_ble_eq_true rfl⟩) (x_preV (r_pre hK hP [3, 4, 5, 6, 7, 8, 9] rfl) hK hP (ci := 2) (q0 := 3) rfl rfl) rfl rfl hl.1 rfl (lv_room (Nat.le_of_ble_eq_true rfl)) dX10_chance_83 ⟨Nat.zero_le _, Nat.zero_le _⟩) (fun r_2 hw => ?_)
            subst hw
            refine lv_istore (lv' := [(6, .int (nI ((k * 4 + q) * (2 * md) + n))), (5, .ref ch), (0, .ref xm), (1, .int (if b9 then 1 else 0)), (2, .int (nI k)), (3, .int (nI q)), (4, .int (nI n))]) hx hb dX10_chance_86 hl (by decide) rfl (fun ls hl => ?_)
            refine lv_iload_n hx hb dX10_chance_88 rfl (lv_at hl 3 rfl) ?_
            refine lv_if_eq (tgt := 105) hx hb dX10_chance_89 (by decide) (fun c_89 => ?_) (fun c_89 => ?_)
            · skip
              have c_89 := x_b0.mp c_89
              refine lv_aload hx hb dX10_chance_105 (lv_at hl 1 rfl) ?_
              refine va_get (D := G.1) (ci := 2) (v := .ref sr) (C := RX2) (T := TX2) (N := 4) hx hb hts hin_X10_chance_2 hown hK.1 hP 3 rfl rfl 1 (by decide) (hts (.fieldLink RX10 193 "MixedPredict$Chances" "second" "LMixedPredict$Row;") (List.mem_cons_of_mem _ (List.mem_append_left _ (List.mem_append_left _ (List.mem_append_left _ (List.mem_append_left _ (List.mem_append_left _ (List.mem_append_left _ (List.mem_append_left _ (List.mem_append_left _ (List.mem_of_getElem? (i := 9) rfl))))))))))) (fun _ h9 => h9) rfl dX10_chance_107 ?_
              refine lv_iload hx hb dX10_chance_110 (lv_at hl 0 rfl) ?_
              refine r_fin_i (va_runV (As := [.int (nI ((k * 4 + q) * (2 * md) + n))]) (rest := []) ⟨hx, hb, hml, hown, hts⟩ (c_X6_get l G sr sa ((c * 4) * (2 * md)) f2 ((k * 4 + q) * (2 * md) + n) (q1) (by first | assumption | omega)) (cwV 1 hts gX10_chance_X6_get rfl rfl rfl (by decide +kernel) ⟨Nat.le_of_ble_eq_true rfl, Nat.le_of_ble_eq_true rfl⟩) (x_preV (r_pre hK hP [6, 7] rfl) hK hP (ci := 5) (q0 := 6) rfl rfl) rfl rfl hl.1 rfl (lv_room (Nat.le_of_ble_eq_true rfl)) dX10_chance_112 ⟨Nat.zero_le _, Nat.zero_le _⟩) (fun r_3 hw => ?_)
              subst hw
              exact r_iret hx hb hr hlocks (by rw [if_neg c_89]) hH dX10_chance_115
            · skip
              have c_89 := Decidable.not_not.mp (fun z8 => c_89 (x_b0.mpr z8))
              refine lv_aload hx hb dX10_chance_92 (lv_at hl 1 rfl) ?_
              refine va_get (D := G.1) (ci := 2) (v := .ref fr) (C := RX2) (T := TX2) (N := 4) hx hb hts hin_X10_chance_2 hown hK.1 hP 3 rfl rfl 0 (by decide) (hts (.fieldLink RX10 190 "MixedPredict$Chances" "first" "LMixedPredict$Row;") (List.mem_cons_of_mem _ (List.mem_append_left _ (List.mem_append_left _ (List.mem_append_left _ (List.mem_append_left _ (List.mem_append_left _ (List.mem_append_left _ (List.mem_append_left _ (List.mem_append_left _ (List.mem_of_getElem? (i := 8) rfl))))))))))) (fun _ h9 => h9) rfl dX10_chance_94 ?_
              refine lv_iload hx hb dX10_chance_97 (lv_at hl 0 rfl) ?_
              refine r_fin_i (va_runV (As := [.int (nI ((k * 4 + q) * (2 * md) + n))]) (rest := []) ⟨hx, hb, hml, hown, hts⟩ (c_X6_get l G fr fa ((c * 4) * (2 * md)) f1 ((k * 4 + q) * (2 * md) + n) (q1) (by first | assumption | omega)) (cwV 1 hts gX10_chance_X6_get rfl rfl rfl (by decide +kernel) ⟨Nat.le_of_ble_eq_true rfl, Nat.le_of_ble_eq_true rfl⟩) (x_preV (r_pre hK hP [4, 5] rfl) hK hP (ci := 5) (q0 := 4) rfl rfl) rfl rfl hl.1 rfl (lv_room (Nat.le_of_ble_eq_true rfl)) dX10_chance_99 ⟨Nat.zero_le _, Nat.zero_le _⟩) (fun r_4 hw => ?_)
              subst hw
              refine lv_goto (tgt := 115) hx hb dX10_chance_102 (by decide) ?_
              exact r_iret hx hb hr hlocks (by rw [if_pos c_89]) hH dX10_chance_115
          · skip
            have c_55 : ¬ (n ≤ 2 * md - 1) := fun z8 => c_55 ((nI_leI (a := n) (b := 2 * md - 1) (by omega) (by omega)).mpr z8)
            exfalso; omega
      · skip
        have c_27 : ¬ (q < 4) := fun z8 => c_27 ((nI_ltI (a := q) (b := 4) (by omega) (by omega)).mpr z8)
        exfalso; omega
  · skip
    have c_8 := x_b0.mp c_8
    exfalso; exact c_8 ⟨in_0 (by omega), in_lt qk (by omega)⟩

set_option maxHeartbeats 4000000 in
set_option maxRecDepth 100000 in
theorem c_X10_share_1 (l : Launch) (G : GG) (xm am te tD ob cb ib it ri pt : Nat) (pm rs : Nat) (w h b c md : Nat) (hd : DIM w h b c md) (k : Int32) (qn : ¬ (0 ≤ k ∧ k < nI c)) (hst : l.stackTraces = false) : vx_Met l yX10_share wsX10_share ({ frames := 6, cells := 1, slots := 6, locals := 82 } : Room) (tx_Pc G [.ref xm, .int k] [(xm, .inr (9, [.ref pm, .ref am, .ref te, .ref tD, .ref ob, .ref cb, .ref ib, .ref it, .ref ri, .ref pt])), (pm, .inr (3, [.int (nI w), .int (nI h), .int (nI b), .int (nI c), .int (nI (2 * md - 1)), .int (nI md), .int (nI ((w + 7) / 8)), .ref rs]))]) tx_Qc (tx_XC "java/lang/IndexOutOfBoundsException") 1 6 (fun _ => False) := by
  refine t_ofW (E := "java/lang/IndexOutOfBoundsException") (cc := cX10_share) (maxL := 2) (ret := (some .int)) (by decide) rfl (Nat.le_of_ble_eq_true rfl) ?_
  intro pZ eZ sZ mZ bZ tZ cZ hx hb hr hts hown hlocks hml hK hTH hex H hH hP ls hl
  have hown : sZ.vm.findClass RX10 = some mZ.cls := hown
  have hl : lv_has ls 2 [(0, .ref xm), (1, .int k)] := hl
  refine lv_aload_n hx hb dX10_share_0 rfl (lv_at hl 0 rfl) ?_
  refine va_get (D := G.1) (ci := 9) (v := .ref pm) (C := RX10) (T := TX10) (N := 10) hx hb hts hin_X10_share_10 hown hK.1 hP 0 rfl rfl 0 (by decide) (hts (.fieldLink RX10 56 "MixedPredict" "picture" "LMixedPredict$Picture;") (List.mem_cons_of_mem _ (List.mem_append_left _ (List.mem_append_left _ (List.mem_append_left _ (List.mem_append_left _ (List.mem_append_left _ (List.mem_append_left _ (List.mem_of_getElem? (i := 2) rfl))))))))) (fun _ h9 => h9) rfl dX10_share_1 ?_
  refine lv_iload_n hx hb dX10_share_4 rfl (lv_at hl 1 rfl) ?_
  refine r_fin_i (va_runV (As := [.int k]) (rest := []) ⟨hx, hb, hml, hown, hts⟩ (c_X4_hasChannel l G pm rs w h b c md hd k) (cwV 1 hts gX10_share_X4_hasChannel rfl rfl rfl (by decide +kernel) ⟨Nat.le_of_ble_eq_true rfl, Nat.le_of_ble_eq_true rfl⟩) (x_preV (r_pre hK hP [1] rfl) hK hP (ci := 3) (q0 := 1) rfl rfl) rfl rfl hl.1 rfl (lv_room (Nat.le_of_ble_eq_true rfl)) dX10_share_5 ⟨by show _ ≤ 1; omega, by show _ ≤ 6; omega⟩) (fun r_1 hw => ?_)
  subst hw
  refine lv_if_ne (tgt := 21) hx hb dX10_share_8 (by decide) (fun c_8 => ?_) (fun c_8 => ?_)
  · skip
    have c_8 := Decidable.not_not.mp (fun z8 => c_8 (x_b0.mpr z8))
    exfalso; exact qn c_8
  · skip
    have c_8 := x_b0.mp c_8
    exact t_throw hx hb hst hown (by decide +kernel) (hts (.classLink RX10 83 "java/lang/IndexOutOfBoundsException") (List.mem_cons_of_mem _ (List.mem_append_left _ (List.mem_append_left _ (List.mem_append_left _ (List.mem_append_left _ (List.mem_append_left _ (List.mem_append_left _ (List.mem_of_getElem? (i := 0) rfl))))))))) (hts (.initialized "java/lang/IndexOutOfBoundsException") (List.mem_cons_of_mem _ (List.mem_append_left _ (List.mem_append_left _ (List.mem_append_left _ (List.mem_append_left _ (List.mem_append_left _ (List.mem_append_left _ (List.mem_of_getElem? (i := 1) rfl))))))))) (List.mem_of_getElem? (i := 5) rfl) hTH (fun w h => hts w (List.mem_cons_of_mem _ (List.mem_append_right _ h))) xb_87 xg_87 hH (hl.1.trans hml.symm) dX10_share_11 dX10_share_14 dX10_share_15 dX10_share_17 dX10_share_20 hex (by decide) (Nat.le_of_ble_eq_true rfl) (by decide) (by decide) hlocks

set_option maxHeartbeats 4000000 in
set_option maxRecDepth 100000 in
theorem c_X10_share_0 (l : Launch) (G : GG) (xm am te tD ob cb ib it ri pt : Nat) (pm rs : Nat) (w h b c md : Nat) (hd : DIM w h b c md) (wh ar pr : Nat) (ch fr fa sr sa tr ta : Nat) (f1 f2 fh : Nat → Int32) (k : Nat) (qk : k < c) : Met l yX10_share wsX10_share ({ frames := 1, cells := 0, slots := 0, locals := 21 } : Room) (r_Pc G [.ref xm, .int (nI k)] [(xm, .inr (9, [.ref pm, .ref am, .ref te, .ref tD, .ref ob, .ref cb, .ref ib, .ref it, .ref ri, .ref pt])), (pm, .inr (3, [.int (nI w), .int (nI h), .int (nI b), .int (nI c), .int (nI (2 * md - 1)), .int (nI md), .int (nI ((w + 7) / 8)), .ref rs])), (te, .inr (6, [.ref wh, .ref ch, .ref pm, .ref ar, .ref pr])), (ch, .inr (2, [.ref fr, .ref sr, .ref tr, .int (nI b)])), (fr, .inr (5, [.ref fa])), (fa, .inl (G.2.1, (c * 4) * (2 * md), .inl f1)), (sr, .inr (5, [.ref sa])), (sa, .inl (G.2.1, (c * 4) * (2 * md), .inl f2)), (tr, .inr (5, [.ref ta])), (ta, .inl (G.2.1, c, .inl fh))]) (vp_Si (fun r => r = (fh k))) 0 0 (fun _ => False) := by
  refine r_ofW (cc := cX10_share) (maxL := 2) (ret := (some .int)) (by decide) rfl (Nat.le_of_ble_eq_true rfl) ?_
  intro pZ eZ sZ mZ bZ tZ cZ hx hb hr hts hown hlocks hml hK H hH hP ls hl
  have hown : sZ.vm.findClass RX10 = some mZ.cls := hown
  have hl : lv_has ls 2 [(0, .ref xm), (1, .int (nI k))] := hl
  obtain ⟨dw1, dw2, dh1, dh2, db1, db2, dc1, dc2, dm1, dm2, dme⟩ := id hd
  refine lv_aload_n hx hb dX10_share_0 rfl (lv_at hl 0 rfl) ?_
  refine va_get (D := G.1) (ci := 9) (v := .ref pm) (C := RX10) (T := TX10) (N := 10) hx hb hts hin_X10_share_10 hown hK.1 hP 0 rfl rfl 0 (by decide) (hts (.fieldLink RX10 56 "MixedPredict" "picture" "LMixedPredict$Picture;") (List.mem_cons_of_mem _ (List.mem_append_left _ (List.mem_append_left _ (List.mem_append_left _ (List.mem_append_left _ (List.mem_append_left _ (List.mem_append_left _ (List.mem_of_getElem? (i := 2) rfl))))))))) (fun _ h9 => h9) rfl dX10_share_1 ?_
  refine lv_iload_n hx hb dX10_share_4 rfl (lv_at hl 1 rfl) ?_
  refine r_fin_i (va_runV (As := [.int (nI k)]) (rest := []) ⟨hx, hb, hml, hown, hts⟩ (c_X4_hasChannel l G pm rs w h b c md hd (nI k)) (cwV 1 hts gX10_share_X4_hasChannel rfl rfl rfl (by decide +kernel) ⟨Nat.le_of_ble_eq_true rfl, Nat.le_of_ble_eq_true rfl⟩) (x_preV (r_pre hK hP [1] rfl) hK hP (ci := 3) (q0 := 1) rfl rfl) rfl rfl hl.1 rfl (lv_room (Nat.le_of_ble_eq_true rfl)) dX10_share_5 ⟨Nat.zero_le _, Nat.zero_le _⟩) (fun r_1 hw => ?_)
  subst hw
  refine lv_if_ne (tgt := 21) hx hb dX10_share_8 (by decide) (fun c_8 => ?_) (fun c_8 => ?_)
  · skip
    have c_8 := Decidable.not_not.mp (fun z8 => c_8 (x_b0.mpr z8))
    refine lv_aload_n hx hb dX10_share_21 rfl (lv_at hl 0 rfl) ?_
    refine va_get (D := G.1) (ci := 9) (v := .ref te) (C := RX10) (T := TX10) (N := 10) hx hb hts hin_X10_share_10 hown hK.1 hP 0 rfl rfl 2 (by decide) (hts (.fieldLink RX10 72 "MixedPredict" "encodeTeller" "LMixedPredict$Teller;") (List.mem_cons_of_mem _ (List.mem_append_left _ (List.mem_append_left _ (List.mem_append_left _ (List.mem_append_left _ (List.mem_append_left _ (List.mem_append_left _ (List.mem_of_getElem? (i := 3) rfl))))))))) (fun _ h9 => h9) rfl dX10_share_22 ?_
    refine va_get (D := G.1) (ci := 6) (v := .ref ch) (C := RX7) (T := TX7) (N := 5) hx hb hts hin_X10_share_7 hown hK.1 hP 2 rfl rfl 1 (by decide) (hts (.fieldLink RX10 181 "MixedPredict$Teller" "chances" "LMixedPredict$Chances;") (List.mem_cons_of_mem _ (List.mem_append_left _ (List.mem_append_left _ (List.mem_append_left _ (List.mem_append_left _ (List.mem_append_left _ (List.mem_append_left _ (List.mem_of_getElem? (i := 4) rfl))))))))) (fun _ h9 => h9) rfl dX10_share_25 ?_
    refine va_get (D := G.1) (ci := 2) (v := .ref tr) (C := RX2) (T := TX2) (N := 4) hx hb hts hin_X10_share_2 hown hK.1 hP 3 rfl rfl 2 (by decide) (hts (.fieldLink RX10 196 "MixedPredict$Chances" "shares" "LMixedPredict$Row;") (List.mem_cons_of_mem _ (List.mem_append_left _ (List.mem_append_left _ (List.mem_append_left _ (List.mem_append_left _ (List.mem_append_left _ (List.mem_append_left _ (List.mem_of_getElem? (i := 5) rfl))))))))) (fun _ h9 => h9) rfl dX10_share_28 ?_
    refine lv_iload_n hx hb dX10_share_31 rfl (lv_at hl 1 rfl) ?_
    refine r_fin_i (va_runV (As := [.int (nI k)]) (rest := []) ⟨hx, hb, hml, hown, hts⟩ (c_X6_get l G tr ta c fh k (by first | assumption | omega) (by first | assumption | omega)) (cwV 1 hts gX10_share_X6_get rfl rfl rfl (by decide +kernel) ⟨Nat.le_of_ble_eq_true rfl, Nat.le_of_ble_eq_true rfl⟩) (x_preV (r_pre hK hP [8, 9] rfl) hK hP (ci := 5) (q0 := 8) rfl rfl) rfl rfl hl.1 rfl (lv_room (Nat.le_of_ble_eq_true rfl)) dX10_share_32 ⟨Nat.zero_le _, Nat.zero_le _⟩) (fun r_2 hw => ?_)
    subst hw
    exact r_iret hx hb hr hlocks (rfl) hH dX10_share_35
  · skip
    have c_8 := x_b0.mp c_8
    exfalso; exact c_8 ⟨in_0 (by omega), in_lt qk (by omega)⟩

set_option maxHeartbeats 4000000 in
set_option maxRecDepth 100000 in
theorem c_X10_feed_1 (l : Launch) (G : GG) (pm : Nat) (xm am te tD ob cb ib it ri pt : Nat) (v : Int32) (qn : ¬ (0 ≤ v ∧ v ≤ 255)) (hst : l.stackTraces = false) : vx_Met l yX10_feed wsX10_feed ({ frames := 6, cells := 1, slots := 6, locals := 82 } : Room) (tx_Pc G [.ref xm, .int v] [(xm, .inr (9, [.ref pm, .ref am, .ref te, .ref tD, .ref ob, .ref cb, .ref ib, .ref it, .ref ri, .ref pt]))]) tx_Qc (tx_XC "java/lang/IllegalArgumentException") 1 6 (fun _ => False) := by
  refine t_ofW (E := "java/lang/IllegalArgumentException") (cc := cX10_feed) (maxL := 2) (ret := (some .int)) (by decide) rfl (Nat.le_of_ble_eq_true rfl) ?_
  intro pZ eZ sZ mZ bZ tZ cZ hx hb hr hts hown hlocks hml hK hTH hex H hH hP ls hl
  have hown : sZ.vm.findClass RX10 = some mZ.cls := hown
  have hl : lv_has ls 2 [(0, .ref xm), (1, .int v)] := hl
  refine lv_iload_n hx hb dX10_feed_0 rfl (lv_at hl 1 rfl) ?_
  refine lv_if_lt (tgt := 11) hx hb dX10_feed_1 (by decide) (fun c_1 => ?_) (fun c_1 => ?_)
  · skip
    exact t_throw hx hb hst hown (by decide +kernel) (hts (.classLink RX10 94 "java/lang/IllegalArgumentException") (List.mem_cons_of_mem _ (List.mem_append_left _ (List.mem_append_left _ (List.mem_append_left _ (List.mem_append_left _ (List.mem_of_getElem? (i := 0) rfl))))))) (hts (.initialized "java/lang/IllegalArgumentException") (List.mem_cons_of_mem _ (List.mem_append_left _ (List.mem_append_left _ (List.mem_append_left _ (List.mem_append_left _ (List.mem_of_getElem? (i := 1) rfl))))))) (List.mem_of_getElem? (i := 8) rfl) hTH (fun w h => hts w (List.mem_cons_of_mem _ (List.mem_append_left _ (List.mem_append_right _ h)))) xb_98 xg_98 hH (hl.1.trans hml.symm) dX10_feed_11 dX10_feed_14 dX10_feed_15 dX10_feed_17 dX10_feed_20 hex (by decide) (Nat.le_of_ble_eq_true rfl) (by decide) (by decide) hlocks
  · skip
    refine lv_iload_n hx hb dX10_feed_4 rfl (lv_at hl 1 rfl) ?_
    refine lv_sipush (v := 255) hx hb dX10_feed_5 (by decide) ?_
    refine lv_icmp_le (tgt := 21) hx hb dX10_feed_8 (by decide) (fun c_8 => ?_) (fun c_8 => ?_)
    · skip
      exfalso; exact qn ⟨Int32.not_lt.mp c_1, c_8⟩
    · skip
      exact t_throw hx hb hst hown (by decide +kernel) (hts (.classLink RX10 94 "java/lang/IllegalArgumentException") (List.mem_cons_of_mem _ (List.mem_append_left _ (List.mem_append_left _ (List.mem_append_left _ (List.mem_append_left _ (List.mem_of_getElem? (i := 0) rfl))))))) (hts (.initialized "java/lang/IllegalArgumentException") (List.mem_cons_of_mem _ (List.mem_append_left _ (List.mem_append_left _ (List.mem_append_left _ (List.mem_append_left _ (List.mem_of_getElem? (i := 1) rfl))))))) (List.mem_of_getElem? (i := 8) rfl) hTH (fun w h => hts w (List.mem_cons_of_mem _ (List.mem_append_left _ (List.mem_append_right _ h)))) xb_98 xg_98 hH (hl.1.trans hml.symm) dX10_feed_11 dX10_feed_14 dX10_feed_15 dX10_feed_17 dX10_feed_20 hex (by decide) (Nat.le_of_ble_eq_true rfl) (by decide) (by decide) hlocks

set_option maxHeartbeats 4000000 in
set_option maxRecDepth 100000 in
theorem c_X10_feed_2 (l : Launch) (G : GG) (pm : Nat) (xm am te tD ob cb ib it ri pt : Nat) (iar k0 : Nat) (gr : Nat → Int32) (v : Int32) (qy : (0 ≤ v ∧ v ≤ 255)) (qf : k0 = 4000) (hst : l.stackTraces = false) : vx_Met l yX10_feed wsX10_feed ({ frames := 6, cells := 1, slots := 6, locals := 82 } : Room) (tx_Pc G [.ref xm, .int v] [(xm, .inr (9, [.ref pm, .ref am, .ref te, .ref tD, .ref ob, .ref cb, .ref ib, .ref it, .ref ri, .ref pt])), (ib, .inr (1, [.ref iar, .int (nI k0)])), (iar, .inl (G.2.1, 4000, .inl gr))]) tx_Qc (tx_XC "java/lang/UnsupportedOperationException") 1 6 (fun _ => False) := by
  refine t_ofW (E := "java/lang/UnsupportedOperationException") (cc := cX10_feed) (maxL := 2) (ret := (some .int)) (by decide) rfl (Nat.le_of_ble_eq_true rfl) ?_
  intro pZ eZ sZ mZ bZ tZ cZ hx hb hr hts hown hlocks hml hK hTH hex H hH hP ls hl
  have hown : sZ.vm.findClass RX10 = some mZ.cls := hown
  have hl : lv_has ls 2 [(0, .ref xm), (1, .int v)] := hl
  refine lv_iload_n hx hb dX10_feed_0 rfl (lv_at hl 1 rfl) ?_
  refine lv_if_lt (tgt := 11) hx hb dX10_feed_1 (by decide) (fun c_1 => ?_) (fun c_1 => ?_)
  · skip
    exfalso; exact Int32.not_lt.mpr qy.1 c_1
  · skip
    refine lv_iload_n hx hb dX10_feed_4 rfl (lv_at hl 1 rfl) ?_
    refine lv_sipush (v := 255) hx hb dX10_feed_5 (by decide) ?_
    refine lv_icmp_le (tgt := 21) hx hb dX10_feed_8 (by decide) (fun c_8 => ?_) (fun c_8 => ?_)
    · skip
      refine lv_aload_n hx hb dX10_feed_21 rfl (lv_at hl 0 rfl) ?_
      refine va_get (D := G.1) (ci := 9) (v := .ref ib) (C := RX10) (T := TX10) (N := 10) hx hb hts hin_X10_feed_10 hown hK.1 hP 0 rfl rfl 6 (by decide) (hts (.fieldLink RX10 21 "MixedPredict" "unread" "LMixedPredict$Bytes;") (List.mem_cons_of_mem _ (List.mem_append_left _ (List.mem_append_left _ (List.mem_append_left _ (List.mem_append_left _ (List.mem_of_getElem? (i := 4) rfl))))))) (fun _ h9 => h9) rfl dX10_feed_22 ?_
      refine r_fin_i (va_runV (As := []) (rest := []) ⟨hx, hb, hml, hown, hts⟩ (c_X1_count l G ib iar 4000 gr k0) (cwV 0 hts gX10_feed_X1_count rfl rfl rfl (by decide +kernel) ⟨Nat.le_of_ble_eq_true rfl, Nat.le_of_ble_eq_true rfl⟩) (x_preV (r_pre hK hP [1, 2] rfl) hK hP (ci := 1) (q0 := 1) rfl rfl) rfl rfl hl.1 rfl (lv_room (Nat.le_of_ble_eq_true rfl)) dX10_feed_25 ⟨by show _ ≤ 1; omega, by show _ ≤ 6; omega⟩) (fun r_1 hw => ?_)
      subst hw
      refine lv_sipush (v := 4000) hx hb dX10_feed_28 (by decide) ?_
      refine lv_icmp_lt (tgt := 44) hx hb dX10_feed_31 (by decide) (fun c_31 => ?_) (fun c_31 => ?_)
      · skip
        have c_31 : k0 < 4000 := (nI_ltI (a := k0) (b := 4000) (by omega) (by omega)).mp c_31
        exfalso; omega
      · skip
        have c_31 : ¬ (k0 < 4000) := fun z8 => c_31 ((nI_ltI (a := k0) (b := 4000) (by omega) (by omega)).mpr z8)
        exact t_throw hx hb hst hown (by decide +kernel) (hts (.classLink RX10 201 "java/lang/UnsupportedOperationException") (List.mem_cons_of_mem _ (List.mem_append_left _ (List.mem_append_left _ (List.mem_append_left _ (List.mem_append_left _ (List.mem_of_getElem? (i := 2) rfl))))))) (hts (.initialized "java/lang/UnsupportedOperationException") (List.mem_cons_of_mem _ (List.mem_append_left _ (List.mem_append_left _ (List.mem_append_left _ (List.mem_append_left _ (List.mem_of_getElem? (i := 3) rfl))))))) (List.mem_of_getElem? (i := 9) rfl) hTH (fun w h => hts w (List.mem_cons_of_mem _ (List.mem_append_right _ h))) xb_205 xg_205 hH (hl.1.trans hml.symm) dX10_feed_34 dX10_feed_37 dX10_feed_38 dX10_feed_40 dX10_feed_43 hex (by decide) (Nat.le_of_ble_eq_true rfl) (by decide) (by decide) hlocks
    · skip
      exfalso; exact c_8 qy.2

set_option maxHeartbeats 4000000 in
set_option maxRecDepth 100000 in
theorem c_X10_feed_0 (l : Launch) (G : GG) (pm : Nat) (xm am te tD ob cb ib it ri pt : Nat) (iar k0 : Nat) (gr : Nat → Int32) (v : Int32) (qy : (0 ≤ v ∧ v ≤ 255)) (qf : k0 < 4000) (sz : Nat) : Met l yX10_feed wsX10_feed ({ frames := 1, cells := 0, slots := 0, locals := 21 } : Room) (w_Pc G [.ref xm, .int v] sz [(xm, .inr (9, [.ref pm, .ref am, .ref te, .ref tD, .ref ob, .ref cb, .ref ib, .ref it, .ref ri, .ref pt])), (ib, .inr (1, [.ref iar, .int (nI k0)])), (iar, .inl (G.2.1, 4000, .inl gr))]) (w_Qi G (va_A [(xm, .inr (9, [.ref pm, .ref am, .ref te, .ref tD, .ref ob, .ref cb, .ref ib, .ref it, .ref ri, .ref pt])), (ib, .inr (1, [.ref iar, .int (nI k0)])), (iar, .inl (G.2.1, 4000, .inl gr))] sz) (fun (_ : Unit) => [(xm, .inr (9, [.ref pm, .ref am, .ref te, .ref tD, .ref ob, .ref cb, .ref ib, .ref it, .ref ri, .ref pt])), (ib, .inr (1, [.ref iar, .int (nI (k0 + 1))])), (iar, .inl (G.2.1, 4000, .inl (upd gr k0 v)))]) (fun r (_ : Unit) => r = (nI (k0 + 1)))) 0 0 (va_A [(xm, .inr (9, [.ref pm, .ref am, .ref te, .ref tD, .ref ob, .ref cb, .ref ib, .ref it, .ref ri, .ref pt])), (ib, .inr (1, [.ref iar, .int (nI k0)])), (iar, .inl (G.2.1, 4000, .inl gr))] sz) := by
  refine w_ofW (y := yX10_feed) (ws := wsX10_feed) (rm := ({ frames := 1, cells := 0, slots := 0, locals := 21 } : Room)) (av := [.ref xm, .int v]) (WC := [(xm, .inr (9, [.ref pm, .ref am, .ref te, .ref tD, .ref ob, .ref cb, .ref ib, .ref it, .ref ri, .ref pt])), (ib, .inr (1, [.ref iar, .int (nI k0)])), (iar, .inl (G.2.1, 4000, .inl gr))]) (mc := 0) (ms := 0) (Qf := fun A => w_Qi G A (fun (_ : Unit) => [(xm, .inr (9, [.ref pm, .ref am, .ref te, .ref tD, .ref ob, .ref cb, .ref ib, .ref it, .ref ri, .ref pt])), (ib, .inr (1, [.ref iar, .int (nI (k0 + 1))])), (iar, .inl (G.2.1, 4000, .inl (upd gr k0 v)))]) (fun r (_ : Unit) => r = (nI (k0 + 1)))) (cc := cX10_feed) (maxL := 2) (ret := (some .int)) (by decide) rfl (Nat.le_of_ble_eq_true rfl) ?_
  intro pZ eZ sZ mZ bZ tZ cZ A hx hb hr hts hown hlocks hml hnm hK hA H locs hP hD hS ls hl
  have hown : sZ.vm.findClass RX10 = some mZ.cls := hown
  have hl : lv_has ls 2 [(0, .ref xm), (1, .int v)] := hl
  refine lv_iload_n hx hb dX10_feed_0 rfl (lv_at hl 1 rfl) ?_
  refine lv_if_lt (tgt := 11) hx hb dX10_feed_1 (by decide) (fun c_1 => ?_) (fun c_1 => ?_)
  · skip
    exfalso; exact Int32.not_lt.mpr qy.1 c_1
  · skip
    refine lv_iload_n hx hb dX10_feed_4 rfl (lv_at hl 1 rfl) ?_
    refine lv_sipush (v := 255) hx hb dX10_feed_5 (by decide) ?_
    refine lv_icmp_le (tgt := 21) hx hb dX10_feed_8 (by decide) (fun c_8 => ?_) (fun c_8 => ?_)
    · skip
      refine lv_aload_n hx hb dX10_feed_21 rfl (lv_at hl 0 rfl) ?_
      refine va_get (D := G.1) (ci := 9) (v := .ref ib) (C := RX10) (T := TX10) (N := 10) hx hb hts hin_X10_feed_10 hown hK.1 hP 0 rfl rfl 6 (by decide) (hts (.fieldLink RX10 21 "MixedPredict" "unread" "LMixedPredict$Bytes;") (List.mem_cons_of_mem _ (List.mem_append_left _ (List.mem_append_left _ (List.mem_append_left _ (List.mem_append_left _ (List.mem_of_getElem? (i := 4) rfl))))))) (fun _ h9 => h9) rfl dX10_feed_22 ?_
      refine r_fin_i (va_runV (As := []) (rest := []) ⟨hx, hb, hml, hown, hts⟩ (c_X1_count l G ib iar 4000 gr k0) (cwV 0 hts gX10_feed_X1_count rfl rfl rfl (by decide +kernel) ⟨Nat.le_of_ble_eq_true rfl, Nat.le_of_ble_eq_true rfl⟩) (x_preV (r_pre hK hP [1, 2] rfl) hK hP (ci := 1) (q0 := 1) rfl rfl) rfl rfl hl.1 rfl (lv_room (Nat.le_of_ble_eq_true rfl)) dX10_feed_25 ⟨Nat.zero_le _, Nat.zero_le _⟩) (fun r_1 hw => ?_)
      subst hw
      refine lv_sipush (v := 4000) hx hb dX10_feed_28 (by decide) ?_
      refine lv_icmp_lt (tgt := 44) hx hb dX10_feed_31 (by decide) (fun c_31 => ?_) (fun c_31 => ?_)
      · skip
        have c_31 : k0 < 4000 := (nI_ltI (a := k0) (b := 4000) (by omega) (by omega)).mp c_31
        refine lv_aload_n hx hb dX10_feed_44 rfl (lv_at hl 0 rfl) ?_
        refine va_get (D := G.1) (ci := 9) (v := .ref ib) (C := RX10) (T := TX10) (N := 10) hx hb hts hin_X10_feed_10 hown hK.1 hP 0 rfl rfl 6 (by decide) (hts (.fieldLink RX10 21 "MixedPredict" "unread" "LMixedPredict$Bytes;") (List.mem_cons_of_mem _ (List.mem_append_left _ (List.mem_append_left _ (List.mem_append_left _ (List.mem_append_left _ (List.mem_of_getElem? (i := 4) rfl))))))) (fun _ h9 => h9) rfl dX10_feed_45 ?_
        refine lv_iload_n hx hb dX10_feed_48 rfl (lv_at hl 1 rfl) ?_
        refine w_fin_v (WR := [(xm, .inr (9, [.ref pm, .ref am, .ref te, .ref tD, .ref ob, .ref cb, .ref ib, .ref it, .ref ri, .ref pt]))]) (va_runV (As := [.int v]) (rest := []) ⟨hx, hb, hml, hown, hts⟩ (c_X1_add l G ib iar 4000 gr k0 v (by first | assumption | omega) (by first | assumption | omega) H.size) (cwV 1 hts gX10_feed_X1_add rfl rfl rfl (by decide +kernel) ⟨Nat.le_of_ble_eq_true rfl, Nat.le_of_ble_eq_true rfl⟩) (x_preV (w_pre hK hP hD [1, 2] (by decide) rfl) hK hP (ci := 1) (q0 := 1) rfl rfl) rfl rfl hl.1 rfl (lv_room (Nat.le_of_ble_eq_true rfl)) dX10_feed_49 ⟨Nat.zero_le _, Nat.zero_le _⟩) hP hD hS hA [1, 2] [0] rfl rfl (by decide) (by decide) [0, 1, 2] (by decide) (fun (_ : Unit) => [(xm, .inr (9, [.ref pm, .ref am, .ref te, .ref tD, .ref ob, .ref cb, .ref ib, .ref it, .ref ri, .ref pt])), (ib, .inr (1, [.ref iar, .int (nI (addK 4000 k0))])), (iar, .inl (G.2.1, 4000, .inl (addF 4000 k0 v gr)))]) (fun _ => rfl) (fun u H locs hw hP hD hS => ?_)
        have hP : va_P G.1 vwCl [(xm, .inr (9, [.ref pm, .ref am, .ref te, .ref tD, .ref ob, .ref cb, .ref ib, .ref it, .ref ri, .ref pt])), (ib, .inr (1, [.ref iar, .int (nI (addK 4000 k0))])), (iar, .inl (G.2.1, 4000, .inl (addF 4000 k0 v gr)))] H := hP
        have hD : va_D A [(xm, .inr (9, [.ref pm, .ref am, .ref te, .ref tD, .ref ob, .ref cb, .ref ib, .ref it, .ref ri, .ref pt])), (ib, .inr (1, [.ref iar, .int (nI (addK 4000 k0))])), (iar, .inl (G.2.1, 4000, .inl (addF 4000 k0 v gr)))] := hD
        have hfe : (upd gr k0 v) = (addF 4000 k0 v gr) := Eq.symm (by rw [addF, if_pos qf])
        have hP : va_P G.1 vwCl [(xm, .inr (9, [.ref pm, .ref am, .ref te, .ref tD, .ref ob, .ref cb, .ref ib, .ref it, .ref ri, .ref pt])), (ib, .inr (1, [.ref iar, .int (nI (addK 4000 k0))])), (iar, .inl (G.2.1, 4000, .inl (upd gr k0 v)))] H := by rw [hfe]; exact hP
        have hD : va_D A [(xm, .inr (9, [.ref pm, .ref am, .ref te, .ref tD, .ref ob, .ref cb, .ref ib, .ref it, .ref ri, .ref pt])), (ib, .inr (1, [.ref iar, .int (nI (addK 4000 k0))])), (iar, .inl (G.2.1, 4000, .inl (upd gr k0 v)))] := by rw [hfe]; exact hD
        clear hfe
        have hfe : (k0 + 1) = (addK 4000 k0) := Eq.symm (by rw [addK, if_pos qf])
        have hP : va_P G.1 vwCl [(xm, .inr (9, [.ref pm, .ref am, .ref te, .ref tD, .ref ob, .ref cb, .ref ib, .ref it, .ref ri, .ref pt])), (ib, .inr (1, [.ref iar, .int (nI (k0 + 1))])), (iar, .inl (G.2.1, 4000, .inl (upd gr k0 v)))] H := by rw [hfe]; exact hP
        have hD : va_D A [(xm, .inr (9, [.ref pm, .ref am, .ref te, .ref tD, .ref ob, .ref cb, .ref ib, .ref it, .ref ri, .ref pt])), (ib, .inr (1, [.ref iar, .int (nI (k0 + 1))])), (iar, .inl (G.2.1, 4000, .inl (upd gr k0 v)))] := by rw [hfe]; exact hD
        clear hfe
        refine lv_aload_n hx hb dX10_feed_52 rfl (lv_at hl 0 rfl) ?_
        refine va_get (D := G.1) (ci := 9) (v := .ref ib) (C := RX10) (T := TX10) (N := 10) hx hb hts hin_X10_feed_10 hown hK.1 hP 0 rfl rfl 6 (by decide) (hts (.fieldLink RX10 21 "MixedPredict" "unread" "LMixedPredict$Bytes;") (List.mem_cons_of_mem _ (List.mem_append_left _ (List.mem_append_left _ (List.mem_append_left _ (List.mem_append_left _ (List.mem_of_getElem? (i := 4) rfl))))))) (fun _ h9 => h9) rfl dX10_feed_53 ?_
        refine r_fin_i (va_runV (As := []) (rest := []) ⟨hx, hb, hml, hown, hts⟩ (c_X1_count l G ib iar 4000 (upd gr k0 v) (k0 + 1)) (cwV 0 hts gX10_feed_X1_count rfl rfl rfl (by decide +kernel) ⟨Nat.le_of_ble_eq_true rfl, Nat.le_of_ble_eq_true rfl⟩) (x_preV (r_pre hK hP [1, 2] rfl) hK hP (ci := 1) (q0 := 1) rfl rfl) rfl rfl hl.1 rfl (lv_room (Nat.le_of_ble_eq_true rfl)) dX10_feed_56 ⟨Nat.zero_le _, Nat.zero_le _⟩) (fun r_4 hw => ?_)
        subst hw
        exact w_iret () hx hb hr hlocks (rfl) hP hD hS dX10_feed_59
      · skip
        have c_31 : ¬ (k0 < 4000) := fun z8 => c_31 ((nI_ltI (a := k0) (b := 4000) (by omega) (by omega)).mpr z8)
        exfalso; omega
    · skip
      exfalso; exact c_8 qy.2

set_option maxHeartbeats 4000000 in
set_option maxRecDepth 100000 in
theorem c_X10_pass_1 (l : Launch) (G : GG) (pm : Nat) (xm am te tD ob cb ib it ri pt : Nat) (iar k0 : Nat) (gr : Nat → Int32) (ca kc : Nat) (fc : Nat → Int32) (qk0 : k0 ≤ 4000) (qkc : kc ≤ 784) (qn : 4000 < k0 + kc) (hst : l.stackTraces = false) : vx_Met l yX10_pass wsX10_pass ({ frames := 6, cells := 1, slots := 6, locals := 82 } : Room) (tx_Pc G [.ref xm] [(xm, .inr (9, [.ref pm, .ref am, .ref te, .ref tD, .ref ob, .ref cb, .ref ib, .ref it, .ref ri, .ref pt])), (ib, .inr (1, [.ref iar, .int (nI k0)])), (iar, .inl (G.2.1, 4000, .inl gr)), (cb, .inr (1, [.ref ca, .int (nI kc)])), (ca, .inl (G.2.1, 784, .inl fc))]) tx_Qc (tx_XC "java/lang/UnsupportedOperationException") 1 6 (fun _ => False) := by
  refine t_ofW (E := "java/lang/UnsupportedOperationException") (cc := cX10_pass) (maxL := 1) (ret := (some .int)) (by decide) rfl (Nat.le_of_ble_eq_true rfl) ?_
  intro pZ eZ sZ mZ bZ tZ cZ hx hb hr hts hown hlocks hml hK hTH hex H hH hP ls hl
  have hown : sZ.vm.findClass RX10 = some mZ.cls := hown
  have hl : lv_has ls 1 [(0, .ref xm)] := hl
  refine lv_aload_n hx hb dX10_pass_0 rfl (lv_at hl 0 rfl) ?_
  refine va_get (D := G.1) (ci := 9) (v := .ref ib) (C := RX10) (T := TX10) (N := 10) hx hb hts hin_X10_pass_10 hown hK.1 hP 0 rfl rfl 6 (by decide) (hts (.fieldLink RX10 21 "MixedPredict" "unread" "LMixedPredict$Bytes;") (List.mem_cons_of_mem _ (List.mem_append_left _ (List.mem_append_left _ (List.mem_append_left _ (List.mem_of_getElem? (i := 2) rfl)))))) (fun _ h9 => h9) rfl dX10_pass_1 ?_
  refine r_fin_i (va_runV (As := []) (rest := []) ⟨hx, hb, hml, hown, hts⟩ (c_X1_count l G ib iar 4000 gr k0) (cwV 0 hts gX10_pass_X1_count rfl rfl rfl (by decide +kernel) ⟨Nat.le_of_ble_eq_true rfl, Nat.le_of_ble_eq_true rfl⟩) (x_preV (r_pre hK hP [1, 2] rfl) hK hP (ci := 1) (q0 := 1) rfl rfl) rfl rfl hl.1 rfl (lv_room (Nat.le_of_ble_eq_true rfl)) dX10_pass_4 ⟨by show _ ≤ 1; omega, by show _ ≤ 6; omega⟩) (fun r_1 hw => ?_)
  subst hw
  refine lv_aload_n hx hb dX10_pass_7 rfl (lv_at hl 0 rfl) ?_
  refine va_get (D := G.1) (ci := 9) (v := .ref cb) (C := RX10) (T := TX10) (N := 10) hx hb hts hin_X10_pass_10 hown hK.1 hP 0 rfl rfl 5 (by decide) (hts (.fieldLink RX10 18 "MixedPredict" "coded" "LMixedPredict$Bytes;") (List.mem_cons_of_mem _ (List.mem_append_left _ (List.mem_append_left _ (List.mem_append_left _ (List.mem_of_getElem? (i := 3) rfl)))))) (fun _ h9 => h9) rfl dX10_pass_8 ?_
  refine r_fin_i (va_runV (As := []) (rest := [.int (nI k0)]) ⟨hx, hb, hml, hown, hts⟩ (c_X1_count l G cb ca 784 fc kc) (cwV 0 hts gX10_pass_X1_count rfl rfl rfl (by decide +kernel) ⟨Nat.le_of_ble_eq_true rfl, Nat.le_of_ble_eq_true rfl⟩) (x_preV (r_pre hK hP [3, 4] rfl) hK hP (ci := 1) (q0 := 3) rfl rfl) rfl rfl hl.1 rfl (lv_room (Nat.le_of_ble_eq_true rfl)) dX10_pass_11 ⟨by show _ ≤ 1; omega, by show _ ≤ 6; omega⟩) (fun r_2 hw => ?_)
  subst hw
  refine lv_iadd hx hb dX10_pass_14 ?_
  refine x_top (y := nI (k0 + kc)) (nI_add _ _) ?_
  refine lv_sipush (v := 4000) hx hb dX10_pass_15 (by decide) ?_
  refine lv_icmp_le (tgt := 31) hx hb dX10_pass_18 (by decide) (fun c_18 => ?_) (fun c_18 => ?_)
  · skip
    have c_18 : k0 + kc ≤ 4000 := (nI_leI (a := k0 + kc) (b := 4000) (by omega) (by omega)).mp c_18
    exfalso; omega
  · skip
    have c_18 : ¬ (k0 + kc ≤ 4000) := fun z8 => c_18 ((nI_leI (a := k0 + kc) (b := 4000) (by omega) (by omega)).mpr z8)
    exact t_throw hx hb hst hown (by decide +kernel) (hts (.classLink RX10 201 "java/lang/UnsupportedOperationException") (List.mem_cons_of_mem _ (List.mem_append_left _ (List.mem_append_left _ (List.mem_append_left _ (List.mem_of_getElem? (i := 0) rfl)))))) (hts (.initialized "java/lang/UnsupportedOperationException") (List.mem_cons_of_mem _ (List.mem_append_left _ (List.mem_append_left _ (List.mem_append_left _ (List.mem_of_getElem? (i := 1) rfl)))))) (List.mem_of_getElem? (i := 9) rfl) hTH (fun w h => hts w (List.mem_cons_of_mem _ (List.mem_append_right _ h))) xb_205 xg_205 hH (hl.1.trans hml.symm) dX10_pass_21 dX10_pass_24 dX10_pass_25 dX10_pass_27 dX10_pass_30 hex (by decide) (Nat.le_of_ble_eq_true rfl) (by decide) (by decide) hlocks

set_option maxHeartbeats 4000000 in
set_option maxRecDepth 100000 in
theorem c_X10_pass_0 (l : Launch) (G : GG) (pm : Nat) (xm am te tD ob cb ib it ri pt : Nat) (iar k0 : Nat) (gr : Nat → Int32) (ca kc : Nat) (fc : Nat → Int32) (qkc : kc ≤ 784) (qn : k0 + kc ≤ 4000) (sz : Nat) : Met l yX10_pass wsX10_pass ({ frames := 2, cells := 0, slots := 0, locals := 43 } : Room) (w_Pc G [.ref xm] sz [(xm, .inr (9, [.ref pm, .ref am, .ref te, .ref tD, .ref ob, .ref cb, .ref ib, .ref it, .ref ri, .ref pt])), (ib, .inr (1, [.ref iar, .int (nI k0)])), (iar, .inl (G.2.1, 4000, .inl gr)), (cb, .inr (1, [.ref ca, .int (nI kc)])), (ca, .inl (G.2.1, 784, .inl fc))]) (w_Qi G (va_A [(xm, .inr (9, [.ref pm, .ref am, .ref te, .ref tD, .ref ob, .ref cb, .ref ib, .ref it, .ref ri, .ref pt])), (ib, .inr (1, [.ref iar, .int (nI k0)])), (iar, .inl (G.2.1, 4000, .inl gr)), (cb, .inr (1, [.ref ca, .int (nI kc)])), (ca, .inl (G.2.1, 784, .inl fc))] sz) (fun (_ : Unit) => [(xm, .inr (9, [.ref pm, .ref am, .ref te, .ref tD, .ref ob, .ref cb, .ref ib, .ref it, .ref ri, .ref pt])), (ib, .inr (1, [.ref iar, .int (nI (k0 + kc))])), (iar, .inl (G.2.1, 4000, .inl (catF gr k0 fc kc))), (cb, .inr (1, [.ref ca, .int (nI kc)])), (ca, .inl (G.2.1, 784, .inl fc))]) (fun r (_ : Unit) => r = (nI (k0 + kc)))) 0 0 (va_A [(xm, .inr (9, [.ref pm, .ref am, .ref te, .ref tD, .ref ob, .ref cb, .ref ib, .ref it, .ref ri, .ref pt])), (ib, .inr (1, [.ref iar, .int (nI k0)])), (iar, .inl (G.2.1, 4000, .inl gr)), (cb, .inr (1, [.ref ca, .int (nI kc)])), (ca, .inl (G.2.1, 784, .inl fc))] sz) := by
  refine w_ofW (y := yX10_pass) (ws := wsX10_pass) (rm := ({ frames := 2, cells := 0, slots := 0, locals := 43 } : Room)) (av := [.ref xm]) (WC := [(xm, .inr (9, [.ref pm, .ref am, .ref te, .ref tD, .ref ob, .ref cb, .ref ib, .ref it, .ref ri, .ref pt])), (ib, .inr (1, [.ref iar, .int (nI k0)])), (iar, .inl (G.2.1, 4000, .inl gr)), (cb, .inr (1, [.ref ca, .int (nI kc)])), (ca, .inl (G.2.1, 784, .inl fc))]) (mc := 0) (ms := 0) (Qf := fun A => w_Qi G A (fun (_ : Unit) => [(xm, .inr (9, [.ref pm, .ref am, .ref te, .ref tD, .ref ob, .ref cb, .ref ib, .ref it, .ref ri, .ref pt])), (ib, .inr (1, [.ref iar, .int (nI (k0 + kc))])), (iar, .inl (G.2.1, 4000, .inl (catF gr k0 fc kc))), (cb, .inr (1, [.ref ca, .int (nI kc)])), (ca, .inl (G.2.1, 784, .inl fc))]) (fun r (_ : Unit) => r = (nI (k0 + kc)))) (cc := cX10_pass) (maxL := 1) (ret := (some .int)) (by decide) rfl (Nat.le_of_ble_eq_true rfl) ?_
  intro pZ eZ sZ mZ bZ tZ cZ A hx hb hr hts hown hlocks hml hnm hK hA H locs hP hD hS ls hl
  have hown : sZ.vm.findClass RX10 = some mZ.cls := hown
  have hl : lv_has ls 1 [(0, .ref xm)] := hl
  refine lv_aload_n hx hb dX10_pass_0 rfl (lv_at hl 0 rfl) ?_
  refine va_get (D := G.1) (ci := 9) (v := .ref ib) (C := RX10) (T := TX10) (N := 10) hx hb hts hin_X10_pass_10 hown hK.1 hP 0 rfl rfl 6 (by decide) (hts (.fieldLink RX10 21 "MixedPredict" "unread" "LMixedPredict$Bytes;") (List.mem_cons_of_mem _ (List.mem_append_left _ (List.mem_append_left _ (List.mem_append_left _ (List.mem_of_getElem? (i := 2) rfl)))))) (fun _ h9 => h9) rfl dX10_pass_1 ?_
  refine r_fin_i (va_runV (As := []) (rest := []) ⟨hx, hb, hml, hown, hts⟩ (c_X1_count l G ib iar 4000 gr k0) (cwV 0 hts gX10_pass_X1_count rfl rfl rfl (by decide +kernel) ⟨Nat.le_of_ble_eq_true rfl, Nat.le_of_ble_eq_true rfl⟩) (x_preV (r_pre hK hP [1, 2] rfl) hK hP (ci := 1) (q0 := 1) rfl rfl) rfl rfl hl.1 rfl (lv_room (Nat.le_of_ble_eq_true rfl)) dX10_pass_4 ⟨Nat.zero_le _, Nat.zero_le _⟩) (fun r_1 hw => ?_)
  subst hw
  refine lv_aload_n hx hb dX10_pass_7 rfl (lv_at hl 0 rfl) ?_
  refine va_get (D := G.1) (ci := 9) (v := .ref cb) (C := RX10) (T := TX10) (N := 10) hx hb hts hin_X10_pass_10 hown hK.1 hP 0 rfl rfl 5 (by decide) (hts (.fieldLink RX10 18 "MixedPredict" "coded" "LMixedPredict$Bytes;") (List.mem_cons_of_mem _ (List.mem_append_left _ (List.mem_append_left _ (List.mem_append_left _ (List.mem_of_getElem? (i := 3) rfl)))))) (fun _ h9 => h9) rfl dX10_pass_8 ?_
  refine r_fin_i (va_runV (As := []) (rest := [.int (nI k0)]) ⟨hx, hb, hml, hown, hts⟩ (c_X1_count l G cb ca 784 fc kc) (cwV 0 hts gX10_pass_X1_count rfl rfl rfl (by decide +kernel) ⟨Nat.le_of_ble_eq_true rfl, Nat.le_of_ble_eq_true rfl⟩) (x_preV (r_pre hK hP [3, 4] rfl) hK hP (ci := 1) (q0 := 3) rfl rfl) rfl rfl hl.1 rfl (lv_room (Nat.le_of_ble_eq_true rfl)) dX10_pass_11 ⟨Nat.zero_le _, Nat.zero_le _⟩) (fun r_2 hw => ?_)
  subst hw
  refine lv_iadd hx hb dX10_pass_14 ?_
  refine x_top (y := nI (k0 + kc)) (nI_add _ _) ?_
  refine lv_sipush (v := 4000) hx hb dX10_pass_15 (by decide) ?_
  refine lv_icmp_le (tgt := 31) hx hb dX10_pass_18 (by decide) (fun c_18 => ?_) (fun c_18 => ?_)
  · skip
    have c_18 : k0 + kc ≤ 4000 := (nI_leI (a := k0 + kc) (b := 4000) (by omega) (by omega)).mp c_18
    refine lv_aload_n hx hb dX10_pass_31 rfl (lv_at hl 0 rfl) ?_
    refine va_get (D := G.1) (ci := 9) (v := .ref ib) (C := RX10) (T := TX10) (N := 10) hx hb hts hin_X10_pass_10 hown hK.1 hP 0 rfl rfl 6 (by decide) (hts (.fieldLink RX10 21 "MixedPredict" "unread" "LMixedPredict$Bytes;") (List.mem_cons_of_mem _ (List.mem_append_left _ (List.mem_append_left _ (List.mem_append_left _ (List.mem_of_getElem? (i := 2) rfl)))))) (fun _ h9 => h9) rfl dX10_pass_32 ?_
    refine lv_aload_n hx hb dX10_pass_35 rfl (lv_at hl 0 rfl) ?_
    refine va_get (D := G.1) (ci := 9) (v := .ref cb) (C := RX10) (T := TX10) (N := 10) hx hb hts hin_X10_pass_10 hown hK.1 hP 0 rfl rfl 5 (by decide) (hts (.fieldLink RX10 18 "MixedPredict" "coded" "LMixedPredict$Bytes;") (List.mem_cons_of_mem _ (List.mem_append_left _ (List.mem_append_left _ (List.mem_append_left _ (List.mem_of_getElem? (i := 3) rfl)))))) (fun _ h9 => h9) rfl dX10_pass_36 ?_
    refine w_fin_v (WR := [(xm, .inr (9, [.ref pm, .ref am, .ref te, .ref tD, .ref ob, .ref cb, .ref ib, .ref it, .ref ri, .ref pt]))]) (va_runV (As := [.ref cb]) (rest := []) ⟨hx, hb, hml, hown, hts⟩ (c_X1_addAll l G ib iar 4000 gr k0 cb ca 784 fc kc (by first | assumption | omega) (by first | assumption | omega) (by first | assumption | omega) (by first | assumption | omega) H.size) (cwV 1 hts gX10_pass_X1_addAll rfl rfl rfl (by decide +kernel) ⟨Nat.le_of_ble_eq_true rfl, Nat.le_of_ble_eq_true rfl⟩) (x_preV (w_pre hK hP hD [1, 2, 3, 4] (by decide) rfl) hK hP (ci := 1) (q0 := 1) rfl rfl) rfl rfl hl.1 rfl (lv_room (Nat.le_of_ble_eq_true rfl)) dX10_pass_39 ⟨Nat.zero_le _, Nat.zero_le _⟩) hP hD hS hA [1, 2, 3, 4] [0] rfl rfl (by decide) (by decide) [0, 1, 2, 3, 4] (by decide) (fun (_ : Unit) => [(xm, .inr (9, [.ref pm, .ref am, .ref te, .ref tD, .ref ob, .ref cb, .ref ib, .ref it, .ref ri, .ref pt])), (ib, .inr (1, [.ref iar, .int (nI (k0 + kc))])), (iar, .inl (G.2.1, 4000, .inl (catF gr k0 fc kc))), (cb, .inr (1, [.ref ca, .int (nI kc)])), (ca, .inl (G.2.1, 784, .inl fc))]) (fun _ => rfl) (fun u H locs hw hP hD hS => ?_)
    have hP : va_P G.1 vwCl [(xm, .inr (9, [.ref pm, .ref am, .ref te, .ref tD, .ref ob, .ref cb, .ref ib, .ref it, .ref ri, .ref pt])), (ib, .inr (1, [.ref iar, .int (nI (k0 + kc))])), (iar, .inl (G.2.1, 4000, .inl (catF gr k0 fc kc))), (cb, .inr (1, [.ref ca, .int (nI kc)])), (ca, .inl (G.2.1, 784, .inl fc))] H := hP
    have hD : va_D A [(xm, .inr (9, [.ref pm, .ref am, .ref te, .ref tD, .ref ob, .ref cb, .ref ib, .ref it, .ref ri, .ref pt])), (ib, .inr (1, [.ref iar, .int (nI (k0 + kc))])), (iar, .inl (G.2.1, 4000, .inl (catF gr k0 fc kc))), (cb, .inr (1, [.ref ca, .int (nI kc)])), (ca, .inl (G.2.1, 784, .inl fc))] := hD
    refine lv_aload_n hx hb dX10_pass_42 rfl (lv_at hl 0 rfl) ?_
    refine va_get (D := G.1) (ci := 9) (v := .ref ib) (C := RX10) (T := TX10) (N := 10) hx hb hts hin_X10_pass_10 hown hK.1 hP 0 rfl rfl 6 (by decide) (hts (.fieldLink RX10 21 "MixedPredict" "unread" "LMixedPredict$Bytes;") (List.mem_cons_of_mem _ (List.mem_append_left _ (List.mem_append_left _ (List.mem_append_left _ (List.mem_of_getElem? (i := 2) rfl)))))) (fun _ h9 => h9) rfl dX10_pass_43 ?_
    refine r_fin_i (va_runV (As := []) (rest := []) ⟨hx, hb, hml, hown, hts⟩ (c_X1_count l G ib iar 4000 (catF gr k0 fc kc) (k0 + kc)) (cwV 0 hts gX10_pass_X1_count rfl rfl rfl (by decide +kernel) ⟨Nat.le_of_ble_eq_true rfl, Nat.le_of_ble_eq_true rfl⟩) (x_preV (r_pre hK hP [1, 2] rfl) hK hP (ci := 1) (q0 := 1) rfl rfl) rfl rfl hl.1 rfl (lv_room (Nat.le_of_ble_eq_true rfl)) dX10_pass_46 ⟨Nat.zero_le _, Nat.zero_le _⟩) (fun r_5 hw => ?_)
    subst hw
    exact w_iret () hx hb hr hlocks (rfl) hP hD hS dX10_pass_49
  · skip
    have c_18 : ¬ (k0 + kc ≤ 4000) := fun z8 => c_18 ((nI_leI (a := k0 + kc) (b := 4000) (by omega) (by omega)).mpr z8)
    exfalso; omega

set_option maxHeartbeats 4000000 in
set_option maxRecDepth 100000 in
theorem c_X10_poke_1 (l : Launch) (G : GG) (pm : Nat) (xm am te tD ob cb ib it ri pt : Nat) (iar k0 : Nat) (gr : Nat → Int32) (i v : Int32) (qn : ¬ (0 ≤ i ∧ i < nI k0)) (hst : l.stackTraces = false) : vx_Met l yX10_poke wsX10_poke ({ frames := 6, cells := 1, slots := 6, locals := 82 } : Room) (tx_Pc G [.ref xm, .int i, .int v] [(xm, .inr (9, [.ref pm, .ref am, .ref te, .ref tD, .ref ob, .ref cb, .ref ib, .ref it, .ref ri, .ref pt])), (ib, .inr (1, [.ref iar, .int (nI k0)])), (iar, .inl (G.2.1, 4000, .inl gr))]) tx_Qc (tx_XC "java/lang/IndexOutOfBoundsException") 1 6 (fun _ => False) := by
  refine t_ofW (E := "java/lang/IndexOutOfBoundsException") (cc := cX10_poke) (maxL := 3) (ret := (some .int)) (by decide) rfl (Nat.le_of_ble_eq_true rfl) ?_
  intro pZ eZ sZ mZ bZ tZ cZ hx hb hr hts hown hlocks hml hK hTH hex H hH hP ls hl
  have hown : sZ.vm.findClass RX10 = some mZ.cls := hown
  have hl : lv_has ls 3 [(0, .ref xm), (1, .int i), (2, .int v)] := hl
  refine lv_aload_n hx hb dX10_poke_0 rfl (lv_at hl 0 rfl) ?_
  refine va_get (D := G.1) (ci := 9) (v := .ref ib) (C := RX10) (T := TX10) (N := 10) hx hb hts hin_X10_poke_10 hown hK.1 hP 0 rfl rfl 6 (by decide) (hts (.fieldLink RX10 21 "MixedPredict" "unread" "LMixedPredict$Bytes;") (List.mem_cons_of_mem _ (List.mem_append_left _ (List.mem_append_left _ (List.mem_append_left _ (List.mem_append_left _ (List.mem_of_getElem? (i := 4) rfl))))))) (fun _ h9 => h9) rfl dX10_poke_1 ?_
  refine lv_iload_n hx hb dX10_poke_4 rfl (lv_at hl 1 rfl) ?_
  refine r_fin_i (va_runV (As := [.int i]) (rest := []) ⟨hx, hb, hml, hown, hts⟩ (c_X1_has l G ib iar 4000 gr k0 i) (cwV 1 hts gX10_poke_X1_has rfl rfl rfl (by decide +kernel) ⟨Nat.le_of_ble_eq_true rfl, Nat.le_of_ble_eq_true rfl⟩) (x_preV (r_pre hK hP [1, 2] rfl) hK hP (ci := 1) (q0 := 1) rfl rfl) rfl rfl hl.1 rfl (lv_room (Nat.le_of_ble_eq_true rfl)) dX10_poke_5 ⟨by show _ ≤ 1; omega, by show _ ≤ 6; omega⟩) (fun r_1 hw => ?_)
  subst hw
  refine lv_if_ne (tgt := 21) hx hb dX10_poke_8 (by decide) (fun c_8 => ?_) (fun c_8 => ?_)
  · skip
    have c_8 := Decidable.not_not.mp (fun z8 => c_8 (x_b0.mpr z8))
    exfalso; exact qn c_8
  · skip
    have c_8 := x_b0.mp c_8
    exact t_throw hx hb hst hown (by decide +kernel) (hts (.classLink RX10 83 "java/lang/IndexOutOfBoundsException") (List.mem_cons_of_mem _ (List.mem_append_left _ (List.mem_append_left _ (List.mem_append_left _ (List.mem_append_left _ (List.mem_of_getElem? (i := 0) rfl))))))) (hts (.initialized "java/lang/IndexOutOfBoundsException") (List.mem_cons_of_mem _ (List.mem_append_left _ (List.mem_append_left _ (List.mem_append_left _ (List.mem_append_left _ (List.mem_of_getElem? (i := 1) rfl))))))) (List.mem_of_getElem? (i := 10) rfl) hTH (fun w h => hts w (List.mem_cons_of_mem _ (List.mem_append_left _ (List.mem_append_right _ h)))) xb_87 xg_87 hH (hl.1.trans hml.symm) dX10_poke_11 dX10_poke_14 dX10_poke_15 dX10_poke_17 dX10_poke_20 hex (by decide) (Nat.le_of_ble_eq_true rfl) (by decide) (by decide) hlocks

set_option maxHeartbeats 4000000 in
set_option maxRecDepth 100000 in
theorem c_X10_poke_2 (l : Launch) (G : GG) (pm : Nat) (xm am te tD ob cb ib it ri pt : Nat) (iar k0 : Nat) (gr : Nat → Int32) (i v : Int32) (qy : 0 ≤ i ∧ i < nI k0) (qn : ¬ (0 ≤ v ∧ v ≤ 255)) (hst : l.stackTraces = false) : vx_Met l yX10_poke wsX10_poke ({ frames := 6, cells := 1, slots := 6, locals := 82 } : Room) (tx_Pc G [.ref xm, .int i, .int v] [(xm, .inr (9, [.ref pm, .ref am, .ref te, .ref tD, .ref ob, .ref cb, .ref ib, .ref it, .ref ri, .ref pt])), (ib, .inr (1, [.ref iar, .int (nI k0)])), (iar, .inl (G.2.1, 4000, .inl gr))]) tx_Qc (tx_XC "java/lang/IllegalArgumentException") 1 6 (fun _ => False) := by
  refine t_ofW (E := "java/lang/IllegalArgumentException") (cc := cX10_poke) (maxL := 3) (ret := (some .int)) (by decide) rfl (Nat.le_of_ble_eq_true rfl) ?_
  intro pZ eZ sZ mZ bZ tZ cZ hx hb hr hts hown hlocks hml hK hTH hex H hH hP ls hl
  have hown : sZ.vm.findClass RX10 = some mZ.cls := hown
  have hl : lv_has ls 3 [(0, .ref xm), (1, .int i), (2, .int v)] := hl
  refine lv_aload_n hx hb dX10_poke_0 rfl (lv_at hl 0 rfl) ?_
  refine va_get (D := G.1) (ci := 9) (v := .ref ib) (C := RX10) (T := TX10) (N := 10) hx hb hts hin_X10_poke_10 hown hK.1 hP 0 rfl rfl 6 (by decide) (hts (.fieldLink RX10 21 "MixedPredict" "unread" "LMixedPredict$Bytes;") (List.mem_cons_of_mem _ (List.mem_append_left _ (List.mem_append_left _ (List.mem_append_left _ (List.mem_append_left _ (List.mem_of_getElem? (i := 4) rfl))))))) (fun _ h9 => h9) rfl dX10_poke_1 ?_
  refine lv_iload_n hx hb dX10_poke_4 rfl (lv_at hl 1 rfl) ?_
  refine r_fin_i (va_runV (As := [.int i]) (rest := []) ⟨hx, hb, hml, hown, hts⟩ (c_X1_has l G ib iar 4000 gr k0 i) (cwV 1 hts gX10_poke_X1_has rfl rfl rfl (by decide +kernel) ⟨Nat.le_of_ble_eq_true rfl, Nat.le_of_ble_eq_true rfl⟩) (x_preV (r_pre hK hP [1, 2] rfl) hK hP (ci := 1) (q0 := 1) rfl rfl) rfl rfl hl.1 rfl (lv_room (Nat.le_of_ble_eq_true rfl)) dX10_poke_5 ⟨by show _ ≤ 1; omega, by show _ ≤ 6; omega⟩) (fun r_1 hw => ?_)
  subst hw
  refine lv_if_ne (tgt := 21) hx hb dX10_poke_8 (by decide) (fun c_8 => ?_) (fun c_8 => ?_)
  · skip
    have c_8 := Decidable.not_not.mp (fun z8 => c_8 (x_b0.mpr z8))
    refine lv_iload_n hx hb dX10_poke_21 rfl (lv_at hl 2 rfl) ?_
    refine lv_if_lt (tgt := 32) hx hb dX10_poke_22 (by decide) (fun c_22 => ?_) (fun c_22 => ?_)
    · skip
      exact t_throw hx hb hst hown (by decide +kernel) (hts (.classLink RX10 94 "java/lang/IllegalArgumentException") (List.mem_cons_of_mem _ (List.mem_append_left _ (List.mem_append_left _ (List.mem_append_left _ (List.mem_append_left _ (List.mem_of_getElem? (i := 2) rfl))))))) (hts (.initialized "java/lang/IllegalArgumentException") (List.mem_cons_of_mem _ (List.mem_append_left _ (List.mem_append_left _ (List.mem_append_left _ (List.mem_append_left _ (List.mem_of_getElem? (i := 3) rfl))))))) (List.mem_of_getElem? (i := 11) rfl) hTH (fun w h => hts w (List.mem_cons_of_mem _ (List.mem_append_right _ h))) xb_98 xg_98 hH (hl.1.trans hml.symm) dX10_poke_32 dX10_poke_35 dX10_poke_36 dX10_poke_38 dX10_poke_41 hex (by decide) (Nat.le_of_ble_eq_true rfl) (by decide) (by decide) hlocks
    · skip
      refine lv_iload_n hx hb dX10_poke_25 rfl (lv_at hl 2 rfl) ?_
      refine lv_sipush (v := 255) hx hb dX10_poke_26 (by decide) ?_
      refine lv_icmp_le (tgt := 42) hx hb dX10_poke_29 (by decide) (fun c_29 => ?_) (fun c_29 => ?_)
      · skip
        exfalso; exact qn ⟨Int32.not_lt.mp c_22, c_29⟩
      · skip
        exact t_throw hx hb hst hown (by decide +kernel) (hts (.classLink RX10 94 "java/lang/IllegalArgumentException") (List.mem_cons_of_mem _ (List.mem_append_left _ (List.mem_append_left _ (List.mem_append_left _ (List.mem_append_left _ (List.mem_of_getElem? (i := 2) rfl))))))) (hts (.initialized "java/lang/IllegalArgumentException") (List.mem_cons_of_mem _ (List.mem_append_left _ (List.mem_append_left _ (List.mem_append_left _ (List.mem_append_left _ (List.mem_of_getElem? (i := 3) rfl))))))) (List.mem_of_getElem? (i := 11) rfl) hTH (fun w h => hts w (List.mem_cons_of_mem _ (List.mem_append_right _ h))) xb_98 xg_98 hH (hl.1.trans hml.symm) dX10_poke_32 dX10_poke_35 dX10_poke_36 dX10_poke_38 dX10_poke_41 hex (by decide) (Nat.le_of_ble_eq_true rfl) (by decide) (by decide) hlocks
  · skip
    have c_8 := x_b0.mp c_8
    exfalso; exact c_8 qy

set_option maxHeartbeats 4000000 in
set_option maxRecDepth 100000 in
theorem c_X10_poke_0 (l : Launch) (G : GG) (pm : Nat) (xm am te tD ob cb ib it ri pt : Nat) (iar k0 : Nat) (gr : Nat → Int32) (i : Nat) (qi : i < k0) (qk0 : k0 ≤ 4000) (v : Int32) (qy : (0 ≤ v ∧ v ≤ 255)) (sz : Nat) : Met l yX10_poke wsX10_poke ({ frames := 1, cells := 0, slots := 0, locals := 22 } : Room) (w_Pc G [.ref xm, .int (nI i), .int v] sz [(xm, .inr (9, [.ref pm, .ref am, .ref te, .ref tD, .ref ob, .ref cb, .ref ib, .ref it, .ref ri, .ref pt])), (ib, .inr (1, [.ref iar, .int (nI k0)])), (iar, .inl (G.2.1, 4000, .inl gr))]) (w_Qi G (va_A [(xm, .inr (9, [.ref pm, .ref am, .ref te, .ref tD, .ref ob, .ref cb, .ref ib, .ref it, .ref ri, .ref pt])), (ib, .inr (1, [.ref iar, .int (nI k0)])), (iar, .inl (G.2.1, 4000, .inl gr))] sz) (fun (_ : Unit) => [(xm, .inr (9, [.ref pm, .ref am, .ref te, .ref tD, .ref ob, .ref cb, .ref ib, .ref it, .ref ri, .ref pt])), (ib, .inr (1, [.ref iar, .int (nI k0)])), (iar, .inl (G.2.1, 4000, .inl (upd gr i (gr i ^^^ v))))]) (fun r (_ : Unit) => r = (gr i ^^^ v))) 0 0 (va_A [(xm, .inr (9, [.ref pm, .ref am, .ref te, .ref tD, .ref ob, .ref cb, .ref ib, .ref it, .ref ri, .ref pt])), (ib, .inr (1, [.ref iar, .int (nI k0)])), (iar, .inl (G.2.1, 4000, .inl gr))] sz) := by
  refine w_ofW (y := yX10_poke) (ws := wsX10_poke) (rm := ({ frames := 1, cells := 0, slots := 0, locals := 22 } : Room)) (av := [.ref xm, .int (nI i), .int v]) (WC := [(xm, .inr (9, [.ref pm, .ref am, .ref te, .ref tD, .ref ob, .ref cb, .ref ib, .ref it, .ref ri, .ref pt])), (ib, .inr (1, [.ref iar, .int (nI k0)])), (iar, .inl (G.2.1, 4000, .inl gr))]) (mc := 0) (ms := 0) (Qf := fun A => w_Qi G A (fun (_ : Unit) => [(xm, .inr (9, [.ref pm, .ref am, .ref te, .ref tD, .ref ob, .ref cb, .ref ib, .ref it, .ref ri, .ref pt])), (ib, .inr (1, [.ref iar, .int (nI k0)])), (iar, .inl (G.2.1, 4000, .inl (upd gr i (gr i ^^^ v))))]) (fun r (_ : Unit) => r = (gr i ^^^ v))) (cc := cX10_poke) (maxL := 3) (ret := (some .int)) (by decide) rfl (Nat.le_of_ble_eq_true rfl) ?_
  intro pZ eZ sZ mZ bZ tZ cZ A hx hb hr hts hown hlocks hml hnm hK hA H locs hP hD hS ls hl
  have hown : sZ.vm.findClass RX10 = some mZ.cls := hown
  have hl : lv_has ls 3 [(0, .ref xm), (1, .int (nI i)), (2, .int v)] := hl
  refine lv_aload_n hx hb dX10_poke_0 rfl (lv_at hl 0 rfl) ?_
  refine va_get (D := G.1) (ci := 9) (v := .ref ib) (C := RX10) (T := TX10) (N := 10) hx hb hts hin_X10_poke_10 hown hK.1 hP 0 rfl rfl 6 (by decide) (hts (.fieldLink RX10 21 "MixedPredict" "unread" "LMixedPredict$Bytes;") (List.mem_cons_of_mem _ (List.mem_append_left _ (List.mem_append_left _ (List.mem_append_left _ (List.mem_append_left _ (List.mem_of_getElem? (i := 4) rfl))))))) (fun _ h9 => h9) rfl dX10_poke_1 ?_
  refine lv_iload_n hx hb dX10_poke_4 rfl (lv_at hl 1 rfl) ?_
  refine r_fin_i (va_runV (As := [.int (nI i)]) (rest := []) ⟨hx, hb, hml, hown, hts⟩ (c_X1_has l G ib iar 4000 gr k0 (nI i)) (cwV 1 hts gX10_poke_X1_has rfl rfl rfl (by decide +kernel) ⟨Nat.le_of_ble_eq_true rfl, Nat.le_of_ble_eq_true rfl⟩) (x_preV (r_pre hK hP [1, 2] rfl) hK hP (ci := 1) (q0 := 1) rfl rfl) rfl rfl hl.1 rfl (lv_room (Nat.le_of_ble_eq_true rfl)) dX10_poke_5 ⟨Nat.zero_le _, Nat.zero_le _⟩) (fun r_1 hw => ?_)
  subst hw
  refine lv_if_ne (tgt := 21) hx hb dX10_poke_8 (by decide) (fun c_8 => ?_) (fun c_8 => ?_)
  · skip
    have c_8 := Decidable.not_not.mp (fun z8 => c_8 (x_b0.mpr z8))
    refine lv_iload_n hx hb dX10_poke_21 rfl (lv_at hl 2 rfl) ?_
    refine lv_if_lt (tgt := 32) hx hb dX10_poke_22 (by decide) (fun c_22 => ?_) (fun c_22 => ?_)
    · skip
      exfalso; exact Int32.not_lt.mpr qy.1 c_22
    · skip
      refine lv_iload_n hx hb dX10_poke_25 rfl (lv_at hl 2 rfl) ?_
      refine lv_sipush (v := 255) hx hb dX10_poke_26 (by decide) ?_
      refine lv_icmp_le (tgt := 42) hx hb dX10_poke_29 (by decide) (fun c_29 => ?_) (fun c_29 => ?_)
      · skip
        refine lv_aload_n hx hb dX10_poke_42 rfl (lv_at hl 0 rfl) ?_
        refine va_get (D := G.1) (ci := 9) (v := .ref ib) (C := RX10) (T := TX10) (N := 10) hx hb hts hin_X10_poke_10 hown hK.1 hP 0 rfl rfl 6 (by decide) (hts (.fieldLink RX10 21 "MixedPredict" "unread" "LMixedPredict$Bytes;") (List.mem_cons_of_mem _ (List.mem_append_left _ (List.mem_append_left _ (List.mem_append_left _ (List.mem_append_left _ (List.mem_of_getElem? (i := 4) rfl))))))) (fun _ h9 => h9) rfl dX10_poke_43 ?_
        refine lv_iload_n hx hb dX10_poke_46 rfl (lv_at hl 1 rfl) ?_
        refine lv_aload_n hx hb dX10_poke_47 rfl (lv_at hl 0 rfl) ?_
        refine va_get (D := G.1) (ci := 9) (v := .ref ib) (C := RX10) (T := TX10) (N := 10) hx hb hts hin_X10_poke_10 hown hK.1 hP 0 rfl rfl 6 (by decide) (hts (.fieldLink RX10 21 "MixedPredict" "unread" "LMixedPredict$Bytes;") (List.mem_cons_of_mem _ (List.mem_append_left _ (List.mem_append_left _ (List.mem_append_left _ (List.mem_append_left _ (List.mem_of_getElem? (i := 4) rfl))))))) (fun _ h9 => h9) rfl dX10_poke_48 ?_
        refine lv_iload_n hx hb dX10_poke_51 rfl (lv_at hl 1 rfl) ?_
        refine r_fin_i (va_runV (As := [.int (nI i)]) (rest := [.int (nI i), .ref ib]) ⟨hx, hb, hml, hown, hts⟩ (c_X1_get l G ib iar 4000 gr k0 i (by first | assumption | omega) (by first | assumption | omega) (by first | assumption | omega)) (cwV 1 hts gX10_poke_X1_get rfl rfl rfl (by decide +kernel) ⟨Nat.le_of_ble_eq_true rfl, Nat.le_of_ble_eq_true rfl⟩) (x_preV (r_pre hK hP [1, 2] rfl) hK hP (ci := 1) (q0 := 1) rfl rfl) rfl rfl hl.1 rfl (lv_room (Nat.le_of_ble_eq_true rfl)) dX10_poke_52 ⟨Nat.zero_le _, Nat.zero_le _⟩) (fun r_2 hw => ?_)
        subst hw
        refine x_top (y := gr i) (by rw [getB, if_pos qi]) ?_
        refine lv_iload_n hx hb dX10_poke_55 rfl (lv_at hl 2 rfl) ?_
        refine lv_ixor hx hb dX10_poke_56 ?_
        refine w_fin_v (WR := [(xm, .inr (9, [.ref pm, .ref am, .ref te, .ref tD, .ref ob, .ref cb, .ref ib, .ref it, .ref ri, .ref pt]))]) (va_runV (As := [.int (nI i), .int ((gr i) ^^^ v)]) (rest := []) ⟨hx, hb, hml, hown, hts⟩ (c_X1_set l G ib iar 4000 gr k0 i ((gr i) ^^^ v) (by first | assumption | omega) (by first | assumption | omega) (by first | assumption | omega) H.size) (cwV 2 hts gX10_poke_X1_set rfl rfl rfl (by decide +kernel) ⟨Nat.le_of_ble_eq_true rfl, Nat.le_of_ble_eq_true rfl⟩) (x_preV (w_pre hK hP hD [1, 2] (by decide) rfl) hK hP (ci := 1) (q0 := 1) rfl rfl) rfl rfl hl.1 rfl (lv_room (Nat.le_of_ble_eq_true rfl)) dX10_poke_57 ⟨Nat.zero_le _, Nat.zero_le _⟩) hP hD hS hA [1, 2] [0] rfl rfl (by decide) (by decide) [0, 1, 2] (by decide) (fun (_ : Unit) => [(xm, .inr (9, [.ref pm, .ref am, .ref te, .ref tD, .ref ob, .ref cb, .ref ib, .ref it, .ref ri, .ref pt])), (ib, .inr (1, [.ref iar, .int (nI k0)])), (iar, .inl (G.2.1, 4000, .inl (upd gr i ((gr i) ^^^ v))))]) (fun _ => rfl) (fun u H locs hw hP hD hS => ?_)
        have hP : va_P G.1 vwCl [(xm, .inr (9, [.ref pm, .ref am, .ref te, .ref tD, .ref ob, .ref cb, .ref ib, .ref it, .ref ri, .ref pt])), (ib, .inr (1, [.ref iar, .int (nI k0)])), (iar, .inl (G.2.1, 4000, .inl (upd gr i ((gr i) ^^^ v))))] H := hP
        have hD : va_D A [(xm, .inr (9, [.ref pm, .ref am, .ref te, .ref tD, .ref ob, .ref cb, .ref ib, .ref it, .ref ri, .ref pt])), (ib, .inr (1, [.ref iar, .int (nI k0)])), (iar, .inl (G.2.1, 4000, .inl (upd gr i ((gr i) ^^^ v))))] := hD
        refine lv_aload_n hx hb dX10_poke_60 rfl (lv_at hl 0 rfl) ?_
        refine va_get (D := G.1) (ci := 9) (v := .ref ib) (C := RX10) (T := TX10) (N := 10) hx hb hts hin_X10_poke_10 hown hK.1 hP 0 rfl rfl 6 (by decide) (hts (.fieldLink RX10 21 "MixedPredict" "unread" "LMixedPredict$Bytes;") (List.mem_cons_of_mem _ (List.mem_append_left _ (List.mem_append_left _ (List.mem_append_left _ (List.mem_append_left _ (List.mem_of_getElem? (i := 4) rfl))))))) (fun _ h9 => h9) rfl dX10_poke_61 ?_
        refine lv_iload_n hx hb dX10_poke_64 rfl (lv_at hl 1 rfl) ?_
        refine r_fin_i (va_runV (As := [.int (nI i)]) (rest := []) ⟨hx, hb, hml, hown, hts⟩ (c_X1_get l G ib iar 4000 (upd gr i ((gr i) ^^^ v)) k0 i (by first | assumption | omega) (by first | assumption | omega) (by first | assumption | omega)) (cwV 1 hts gX10_poke_X1_get rfl rfl rfl (by decide +kernel) ⟨Nat.le_of_ble_eq_true rfl, Nat.le_of_ble_eq_true rfl⟩) (x_preV (r_pre hK hP [1, 2] rfl) hK hP (ci := 1) (q0 := 1) rfl rfl) rfl rfl hl.1 rfl (lv_room (Nat.le_of_ble_eq_true rfl)) dX10_poke_65 ⟨Nat.zero_le _, Nat.zero_le _⟩) (fun r_5 hw => ?_)
        subst hw
        refine x_top (y := gr i ^^^ v) (by rw [getB, if_pos qi, pk_us]) ?_
        exact w_iret () hx hb hr hlocks (rfl) hP hD hS dX10_poke_68
      · skip
        exfalso; exact c_29 qy.2
  · skip
    have c_8 := x_b0.mp c_8
    exfalso; exact c_8 ⟨in_0 (by omega), in_lt qi (by omega)⟩
