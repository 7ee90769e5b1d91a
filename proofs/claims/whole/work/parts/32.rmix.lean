theorem hin_X11_begin_11 : ∀ w ∈ u_ws RX11 TX11 32, w ∈ wsX11_begin := fun w h => List.mem_cons_of_mem _ (List.mem_append_right _ h)
theorem hin_X11_expect_11 : ∀ w ∈ u_ws RX11 TX11 32, w ∈ wsX11_expect := fun w h => List.mem_cons_of_mem _ (List.mem_append_right _ h)
theorem hin_X11_keep_11 : ∀ w ∈ u_ws RX11 TX11 32, w ∈ wsX11_keep := fun w h => List.mem_cons_of_mem _ (List.mem_append_right _ h)
theorem hin_X11_learn_11 : ∀ w ∈ u_ws RX11 TX11 32, w ∈ wsX11_learn := fun w h => List.mem_cons_of_mem _ (List.mem_append_right _ h)
theorem hin_X11_mix_11 : ∀ w ∈ u_ws RX11 TX11 32, w ∈ wsX11_mix := fun w h => List.mem_cons_of_mem _ (List.mem_append_right _ h)
set_option maxHeartbeats 4000000 in
set_option maxRecDepth 100000 in
theorem c_X11_expect (l : Launch) (G : GG) (mo mS mW mF mG mH mA kW kF kG kH mE mL mO mC mR : Nat) (w h b c md : Nat) (hd : DIM w h b c md) (code oc cc rc wrs frm enn mxx : Int32) (low hig wrd : Int64) (P : Nat → Nat → Nat → Nat) (f : Nat → Int32) (qP : PicR w h c f P) (qB : PicB w h c md P) (x y k : Nat) (qx : x < w) (qy : y < h) (qk : k < c) (way : Nat) (hway : way < 9) : Met l yX11_expect wsX11_expect ({ frames := 2, cells := 0, slots := 0, locals := 50 } : Room) (r_Pc G [.ref mo, .int (nI x), .int (nI y), .int (nI k), .int (nI way)] [(mo, .inr (10, [.int code, .int (nI w), .int (nI h), .int (nI b), .int (nI c), .int (nI md), .int (nI (2 * md)), .ref mS, .ref mW, .ref mF, .ref mG, .ref mH, .ref mA, .ref kW, .ref kF, .ref kG, .ref kH, .ref mE, .ref mL, .ref mO, .int oc, .ref mC, .int cc, .ref mR, .int rc, .long low, .long hig, .long wrd, .int wrs, .int frm, .int enn, .int mxx])), (mS, .inl (G.2.1, 768, .inl f))]) (vp_Si (fun r => r = (exW P w md x y k way))) 0 0 (fun _ => False) := by
  refine r_ofW (cc := cX11_expect) (maxL := 9) (ret := (some .int)) (by decide) rfl (Nat.le_of_ble_eq_true rfl) ?_
  intro pZ eZ sZ mZ bZ tZ cZ hx hb hr hts hown hlocks hml hK H hH hP ls hl
  have hown : sZ.vm.findClass RX11 = some mZ.cls := hown
  have hl : lv_has ls 9 [(0, .ref mo), (1, .int (nI x)), (2, .int (nI y)), (3, .int (nI k)), (4, .int (nI way))] := hl
  obtain ⟨dw1, dw2, dh1, dh2, db1, db2, dc1, dc2, dm1, dm2, dme⟩ := id hd
  refine lv_aload_n hx hb dX11_expect_0 rfl (lv_at hl 0 rfl) ?_
  refine lv_iload_n hx hb dX11_expect_1 rfl (lv_at hl 1 rfl) ?_
  refine lv_iload_n hx hb dX11_expect_2 rfl (lv_at hl 2 rfl) ?_
  refine lv_iload_n hx hb dX11_expect_3 rfl (lv_at hl 3 rfl) ?_
  refine lv_iconst (v := (-1)) hx hb dX11_expect_4 (by decide) ?_
  refine lv_iconst (v := 0) hx hb dX11_expect_5 (by decide) ?_
  refine r_fin_i (va_runV (As := [.int (nI x), .int (nI y), .int (nI k), .int (-1), .int 0]) (rest := []) ⟨hx, hb, hml, hown, hts⟩ (c_X11_near_A l G mo mS mW mF mG mH mA kW kF kG kH mE mL mO mC mR w h b c md hd code oc cc rc wrs frm enn mxx low hig wrd P f (by first | assumption | omega) x y k (by first | assumption | omega) (by first | assumption | omega) (by first | assumption | omega)) (cwV 5 hts gX11_expect_X11_near rfl rfl rfl (by decide +kernel) ⟨Nat.le_of_ble_eq_true rfl, Nat.le_of_ble_eq_true rfl⟩) (x_preV (r_pre hK hP [0, 1] rfl) hK hP (ci := 10) (q0 := 0) rfl rfl) rfl rfl hl.1 rfl (lv_room (Nat.le_of_ble_eq_true rfl)) dX11_expect_6 ⟨Nat.zero_le _, Nat.zero_le _⟩) (fun r_1 hw => ?_)
  subst hw
  refine lv_istore (lv' := [(5, .int (nI (nbA P md x y k))), (0, .ref mo), (1, .int (nI x)), (2, .int (nI y)), (3, .int (nI k)), (4, .int (nI way))]) hx hb dX11_expect_9 hl (by decide) rfl (fun ls hl => ?_)
  refine lv_aload_n hx hb dX11_expect_11 rfl (lv_at hl 1 rfl) ?_
  refine lv_iload_n hx hb dX11_expect_12 rfl (lv_at hl 2 rfl) ?_
  refine lv_iload_n hx hb dX11_expect_13 rfl (lv_at hl 3 rfl) ?_
  refine lv_iload_n hx hb dX11_expect_14 rfl (lv_at hl 4 rfl) ?_
  refine lv_iconst (v := 0) hx hb dX11_expect_15 (by decide) ?_
  refine lv_iconst (v := (-1)) hx hb dX11_expect_16 (by decide) ?_
  refine r_fin_i (va_runV (As := [.int (nI x), .int (nI y), .int (nI k), .int 0, .int (-1)]) (rest := []) ⟨hx, hb, hml, hown, hts⟩ (c_X11_near_B l G mo mS mW mF mG mH mA kW kF kG kH mE mL mO mC mR w h b c md hd code oc cc rc wrs frm enn mxx low hig wrd P f (by first | assumption | omega) x y k (by first | assumption | omega) (by first | assumption | omega) (by first | assumption | omega)) (cwV 5 hts gX11_expect_X11_near rfl rfl rfl (by decide +kernel) ⟨Nat.le_of_ble_eq_true rfl, Nat.le_of_ble_eq_true rfl⟩) (x_preV (r_pre hK hP [0, 1] rfl) hK hP (ci := 10) (q0 := 0) rfl rfl) rfl rfl hl.1 rfl (lv_room (Nat.le_of_ble_eq_true rfl)) dX11_expect_17 ⟨Nat.zero_le _, Nat.zero_le _⟩) (fun r_2 hw => ?_)
  subst hw
  refine lv_istore (lv' := [(6, .int (nI (nbB P md x y k))), (5, .int (nI (nbA P md x y k))), (0, .ref mo), (1, .int (nI x)), (2, .int (nI y)), (3, .int (nI k)), (4, .int (nI way))]) hx hb dX11_expect_20 hl (by decide) rfl (fun ls hl => ?_)
  refine lv_aload_n hx hb dX11_expect_22 rfl (lv_at hl 2 rfl) ?_
  refine lv_iload_n hx hb dX11_expect_23 rfl (lv_at hl 3 rfl) ?_
  refine lv_iload_n hx hb dX11_expect_24 rfl (lv_at hl 4 rfl) ?_
  refine lv_iload_n hx hb dX11_expect_25 rfl (lv_at hl 5 rfl) ?_
  refine lv_iconst (v := (-1)) hx hb dX11_expect_26 (by decide) ?_
  refine lv_iconst (v := (-1)) hx hb dX11_expect_27 (by decide) ?_
  refine r_fin_i (va_runV (As := [.int (nI x), .int (nI y), .int (nI k), .int (-1), .int (-1)]) (rest := []) ⟨hx, hb, hml, hown, hts⟩ (c_X11_near_C l G mo mS mW mF mG mH mA kW kF kG kH mE mL mO mC mR w h b c md hd code oc cc rc wrs frm enn mxx low hig wrd P f (by first | assumption | omega) x y k (by first | assumption | omega) (by first | assumption | omega) (by first | assumption | omega)) (cwV 5 hts gX11_expect_X11_near rfl rfl rfl (by decide +kernel) ⟨Nat.le_of_ble_eq_true rfl, Nat.le_of_ble_eq_true rfl⟩) (x_preV (r_pre hK hP [0, 1] rfl) hK hP (ci := 10) (q0 := 0) rfl rfl) rfl rfl hl.1 rfl (lv_room (Nat.le_of_ble_eq_true rfl)) dX11_expect_28 ⟨Nat.zero_le _, Nat.zero_le _⟩) (fun r_3 hw => ?_)
  subst hw
  refine lv_istore (lv' := [(7, .int (nI (nbC P md x y k))), (6, .int (nI (nbB P md x y k))), (5, .int (nI (nbA P md x y k))), (0, .ref mo), (1, .int (nI x)), (2, .int (nI y)), (3, .int (nI k)), (4, .int (nI way))]) hx hb dX11_expect_31 hl (by decide) rfl (fun ls hl => ?_)
  refine lv_iload hx hb dX11_expect_33 (lv_at hl 7 rfl) ?_
  have qn := nb_lt hd qB qx qy qk
  refine x_join (α := (Int32) × (Array Slot)) (fun z9 => F0 mZ 199 z9.2 []) (fun z9 => (br (z9.1) 0 (nI (2 * md - 1)) = exW P w md x y k way) ∧ lv_has z9.2 9 [(0, .ref mo), (1, .int (nI x)), (2, .int (nI y)), (3, .int (nI k)), (8, .int (z9.1))]) (fun z9 hJ9 => ?_) (fun hj_4 => ?_)
  · obtain ⟨v8, ls⟩ := z9
    obtain ⟨hj9, hl⟩ := hJ9
    have hj9 : br v8 0 (nI (2 * md - 1)) = exW P w md x y k way := hj9
    have hl : lv_has ls 9 [(0, .ref mo), (1, .int (nI x)), (2, .int (nI y)), (3, .int (nI k)), (8, .int v8)] := hl
    refine lv_iload hx hb dX11_expect_199 (lv_at hl 4 rfl) ?_
    refine lv_if_ge (tgt := 208) hx hb dX11_expect_201 (by decide) (fun c_201 => ?_) (fun c_201 => ?_)
    · skip
      refine lv_iload hx hb dX11_expect_208 (lv_at hl 4 rfl) ?_
      refine lv_aload_n hx hb dX11_expect_210 rfl (lv_at hl 0 rfl) ?_
      refine va_get (D := G.1) (ci := 10) (v := .int (nI (2 * md))) (C := RX11) (T := TX11) (N := 32) hx hb hts hin_X11_expect_11 hown hK.1 hP 0 rfl rfl 6 (by decide) (hts (.fieldLink RX11 76 "MixedPredictModel" "all" "I") (List.mem_cons_of_mem _ (List.mem_append_left _ (List.mem_of_getElem? (i := 2) rfl)))) (fun _ h9 => h9) rfl dX11_expect_211 ?_
      refine lv_iconst (v := 1) hx hb dX11_expect_214 (by decide) ?_
      refine lv_isub hx hb dX11_expect_215 ?_
      refine x_top (y := nI (2 * md - 1)) (pk_sub (a := 2 * md) (b := 1) (by omega)) ?_
      refine lv_icmp_le (tgt := 228) hx hb dX11_expect_216 (by decide) (fun c_216 => ?_) (fun c_216 => ?_)
      · skip
        refine lv_iload hx hb dX11_expect_228 (lv_at hl 4 rfl) ?_
        exact r_iret hx hb hr hlocks (by rw [← hj9, br, if_neg (Int32.not_lt.mpr c_201), if_neg (Int32.not_lt.mpr c_216)]) hH dX11_expect_230
      · skip
        refine lv_aload_n hx hb dX11_expect_219 rfl (lv_at hl 0 rfl) ?_
        refine va_get (D := G.1) (ci := 10) (v := .int (nI (2 * md))) (C := RX11) (T := TX11) (N := 32) hx hb hts hin_X11_expect_11 hown hK.1 hP 0 rfl rfl 6 (by decide) (hts (.fieldLink RX11 76 "MixedPredictModel" "all" "I") (List.mem_cons_of_mem _ (List.mem_append_left _ (List.mem_of_getElem? (i := 2) rfl)))) (fun _ h9 => h9) rfl dX11_expect_220 ?_
        refine lv_iconst (v := 1) hx hb dX11_expect_223 (by decide) ?_
        refine lv_isub hx hb dX11_expect_224 ?_
        refine x_top (y := nI (2 * md - 1)) (pk_sub (a := 2 * md) (b := 1) (by omega)) ?_
        refine lv_goto (tgt := 230) hx hb dX11_expect_225 (by decide) ?_
        exact r_iret hx hb hr hlocks (by rw [← hj9, br, if_neg (Int32.not_lt.mpr c_201), if_pos (Int32.not_le.mp c_216)]) hH dX11_expect_230
    · skip
      refine lv_iconst (v := 0) hx hb dX11_expect_204 (by decide) ?_
      refine lv_goto (tgt := 230) hx hb dX11_expect_205 (by decide) ?_
      exact r_iret hx hb hr hlocks (by rw [← hj9, br, if_pos (Int32.not_le.mp c_201)]) hH dX11_expect_230
  · skip
    rcases (show way = 0 ∨ way = 1 ∨ way = 2 ∨ way = 3 ∨ way = 4 ∨ way = 5 ∨ way = 6 ∨ way = 7 ∨ way = 8 by omega) with rfl | rfl | rfl | rfl | rfl | rfl | rfl | rfl | rfl
    · skip
      refine lv_tableIn (off := 45) (tgt := 80) hx hb dX11_expect_35 (by decide) (by decide) (by decide) (by decide) ?_
      refine lv_iload hx hb dX11_expect_80 (lv_at hl 2 rfl) ?_
      refine lv_istore (lv' := [(8, .int (nI (nbA P md x y k))), (7, .int (nI (nbC P md x y k))), (6, .int (nI (nbB P md x y k))), (5, .int (nI (nbA P md x y k))), (0, .ref mo), (1, .int (nI x)), (2, .int (nI y)), (3, .int (nI k)), (4, .int (nI 0))]) hx hb dX11_expect_82 hl (by decide) rfl (fun ls hl => ?_)
      refine lv_goto (tgt := 199) hx hb dX11_expect_84 (by decide) ?_
      exact hj_4 (nI (nbA P md x y k), ls) ⟨(by simp only [exW, exq]; rw [br_nat (by omega) (by omega)]; simp), lv_sub hl [4, 5, 6, 7, 0] rfl⟩
    · skip
      refine lv_tableIn (off := 52) (tgt := 87) hx hb dX11_expect_35 (by decide) (by decide) (by decide) (by decide) ?_
      refine lv_iload hx hb dX11_expect_87 (lv_at hl 1 rfl) ?_
      refine lv_istore (lv' := [(8, .int (nI (nbB P md x y k))), (7, .int (nI (nbC P md x y k))), (6, .int (nI (nbB P md x y k))), (5, .int (nI (nbA P md x y k))), (0, .ref mo), (1, .int (nI x)), (2, .int (nI y)), (3, .int (nI k)), (4, .int (nI 1))]) hx hb dX11_expect_89 hl (by decide) rfl (fun ls hl => ?_)
      refine lv_goto (tgt := 199) hx hb dX11_expect_91 (by decide) ?_
      exact hj_4 (nI (nbB P md x y k), ls) ⟨(by simp only [exW, exq]; rw [br_nat (by omega) (by omega)]; simp), lv_sub hl [4, 5, 6, 7, 0] rfl⟩
    · skip
      refine lv_tableIn (off := 59) (tgt := 94) hx hb dX11_expect_35 (by decide) (by decide) (by decide) (by decide) ?_
      refine lv_iload hx hb dX11_expect_94 (lv_at hl 0 rfl) ?_
      refine lv_istore (lv' := [(8, .int (nI (nbC P md x y k))), (7, .int (nI (nbC P md x y k))), (6, .int (nI (nbB P md x y k))), (5, .int (nI (nbA P md x y k))), (0, .ref mo), (1, .int (nI x)), (2, .int (nI y)), (3, .int (nI k)), (4, .int (nI 2))]) hx hb dX11_expect_96 hl (by decide) rfl (fun ls hl => ?_)
      refine lv_goto (tgt := 199) hx hb dX11_expect_98 (by decide) ?_
      exact hj_4 (nI (nbC P md x y k), ls) ⟨(by simp only [exW, exq]; rw [br_nat (by omega) (by omega)]; simp), lv_sub hl [4, 5, 6, 7, 0] rfl⟩
    · skip
      refine lv_tableIn (off := 66) (tgt := 101) hx hb dX11_expect_35 (by decide) (by decide) (by decide) (by decide) ?_
      refine lv_aload_n hx hb dX11_expect_101 rfl (lv_at hl 3 rfl) ?_
      refine lv_iload_n hx hb dX11_expect_102 rfl (lv_at hl 4 rfl) ?_
      refine lv_iload_n hx hb dX11_expect_103 rfl (lv_at hl 5 rfl) ?_
      refine lv_iload_n hx hb dX11_expect_104 rfl (lv_at hl 6 rfl) ?_
      refine lv_iconst (v := 1) hx hb dX11_expect_105 (by decide) ?_
      refine lv_iconst (v := (-1)) hx hb dX11_expect_106 (by decide) ?_
      refine r_fin_i (va_runV (As := [.int (nI x), .int (nI y), .int (nI k), .int 1, .int (-1)]) (rest := []) ⟨hx, hb, hml, hown, hts⟩ (c_X11_near_D l G mo mS mW mF mG mH mA kW kF kG kH mE mL mO mC mR w h b c md hd code oc cc rc wrs frm enn mxx low hig wrd P f (by first | assumption | omega) x y k (by first | assumption | omega) (by first | assumption | omega) (by first | assumption | omega)) (cwV 5 hts gX11_expect_X11_near rfl rfl rfl (by decide +kernel) ⟨Nat.le_of_ble_eq_true rfl, Nat.le_of_ble_eq_true rfl⟩) (x_preV (r_pre hK hP [0, 1] rfl) hK hP (ci := 10) (q0 := 0) rfl rfl) rfl rfl hl.1 rfl (lv_room (Nat.le_of_ble_eq_true rfl)) dX11_expect_107 ⟨Nat.zero_le _, Nat.zero_le _⟩) (fun r_5 hw => ?_)
      subst hw
      refine lv_istore (lv' := [(8, .int (nI (nbD P w md x y k))), (7, .int (nI (nbC P md x y k))), (6, .int (nI (nbB P md x y k))), (5, .int (nI (nbA P md x y k))), (0, .ref mo), (1, .int (nI x)), (2, .int (nI y)), (3, .int (nI k)), (4, .int (nI 3))]) hx hb dX11_expect_110 hl (by decide) rfl (fun ls hl => ?_)
      refine lv_goto (tgt := 199) hx hb dX11_expect_112 (by decide) ?_
      exact hj_4 (nI (nbD P w md x y k), ls) ⟨(by simp only [exW, exq]; rw [br_nat (by omega) (by omega)]; simp), lv_sub hl [4, 5, 6, 7, 0] rfl⟩
    · skip
      refine lv_tableIn (off := 80) (tgt := 115) hx hb dX11_expect_35 (by decide) (by decide) (by decide) (by decide) ?_
      refine lv_iload hx hb dX11_expect_115 (lv_at hl 2 rfl) ?_
      refine lv_iload hx hb dX11_expect_117 (lv_at hl 1 rfl) ?_
      refine lv_iadd hx hb dX11_expect_119 ?_
      refine x_top (y := nI (nbA P md x y k + (nbB P md x y k))) (nI_add _ _) ?_
      refine lv_iload hx hb dX11_expect_120 (lv_at hl 0 rfl) ?_
      refine lv_isub hx hb dX11_expect_122 ?_
      refine lv_istore (lv' := [(8, .int ((nI (nbA P md x y k + (nbB P md x y k))) - (nI (nbC P md x y k)))), (7, .int (nI (nbC P md x y k))), (6, .int (nI (nbB P md x y k))), (5, .int (nI (nbA P md x y k))), (0, .ref mo), (1, .int (nI x)), (2, .int (nI y)), (3, .int (nI k)), (4, .int (nI 4))]) hx hb dX11_expect_123 hl (by decide) rfl (fun ls hl => ?_)
      refine lv_goto (tgt := 199) hx hb dX11_expect_125 (by decide) ?_
      exact hj_4 ((nI (nbA P md x y k + (nbB P md x y k))) - (nI (nbC P md x y k)), ls) ⟨(by simp [exW, exq]), lv_sub hl [4, 5, 6, 7, 0] rfl⟩
    · skip
      refine lv_tableIn (off := 93) (tgt := 128) hx hb dX11_expect_35 (by decide) (by decide) (by decide) (by decide) ?_
      refine lv_iload hx hb dX11_expect_128 (lv_at hl 2 rfl) ?_
      refine lv_iload hx hb dX11_expect_130 (lv_at hl 1 rfl) ?_
      refine lv_iadd hx hb dX11_expect_132 ?_
      refine x_top (y := nI (nbA P md x y k + (nbB P md x y k))) (nI_add _ _) ?_
      refine r_fin_i (va_runS (As := [.int (nI (nbA P md x y k + (nbB P md x y k)))]) (rest := []) ⟨hx, hb, hml, hown, hts⟩ (c_X11_halfOf l G (nI (nbA P md x y k + (nbB P md x y k)))) (va_cwS 1 hts gX11_expect_X11_halfOf rfl rfl rfl (by decide +kernel) ⟨Nat.le_of_ble_eq_true rfl, Nat.le_of_ble_eq_true rfl⟩) (r_pre hK hP [] rfl) rfl rfl hl.1 rfl (lv_room (Nat.le_of_ble_eq_true rfl)) dX11_expect_133 ⟨Nat.zero_le _, Nat.zero_le _⟩) (fun r_6 hw => ?_)
      subst hw
      refine lv_istore (lv' := [(8, .int ((nI (nbA P md x y k + (nbB P md x y k))) >>> ((1 : Int32) &&& 31))), (7, .int (nI (nbC P md x y k))), (6, .int (nI (nbB P md x y k))), (5, .int (nI (nbA P md x y k))), (0, .ref mo), (1, .int (nI x)), (2, .int (nI y)), (3, .int (nI k)), (4, .int (nI 5))]) hx hb dX11_expect_136 hl (by decide) rfl (fun ls hl => ?_)
      refine lv_goto (tgt := 199) hx hb dX11_expect_138 (by decide) ?_
      exact hj_4 ((nI (nbA P md x y k + (nbB P md x y k))) >>> ((1 : Int32) &&& 31), ls) ⟨(by simp only [exW, exq]; rw [br_sh (by omega) (by omega) (by omega)]; simp), lv_sub hl [4, 5, 6, 7, 0] rfl⟩
    · skip
      refine lv_tableIn (off := 106) (tgt := 141) hx hb dX11_expect_35 (by decide) (by decide) (by decide) (by decide) ?_
      refine lv_iload hx hb dX11_expect_141 (lv_at hl 2 rfl) ?_
      refine lv_iload hx hb dX11_expect_143 (lv_at hl 1 rfl) ?_
      refine lv_iload hx hb dX11_expect_145 (lv_at hl 0 rfl) ?_
      refine lv_isub hx hb dX11_expect_147 ?_
      refine r_fin_i (va_runS (As := [.int ((nI (nbB P md x y k)) - (nI (nbC P md x y k)))]) (rest := [.int (nI (nbA P md x y k))]) ⟨hx, hb, hml, hown, hts⟩ (c_X11_halfOf l G ((nI (nbB P md x y k)) - (nI (nbC P md x y k)))) (va_cwS 1 hts gX11_expect_X11_halfOf rfl rfl rfl (by decide +kernel) ⟨Nat.le_of_ble_eq_true rfl, Nat.le_of_ble_eq_true rfl⟩) (r_pre hK hP [] rfl) rfl rfl hl.1 rfl (lv_room (Nat.le_of_ble_eq_true rfl)) dX11_expect_148 ⟨Nat.zero_le _, Nat.zero_le _⟩) (fun r_7 hw => ?_)
      subst hw
      refine lv_iadd hx hb dX11_expect_151 ?_
      refine lv_istore (lv' := [(8, .int ((nI (nbA P md x y k)) + (((nI (nbB P md x y k)) - (nI (nbC P md x y k))) >>> ((1 : Int32) &&& 31)))), (7, .int (nI (nbC P md x y k))), (6, .int (nI (nbB P md x y k))), (5, .int (nI (nbA P md x y k))), (0, .ref mo), (1, .int (nI x)), (2, .int (nI y)), (3, .int (nI k)), (4, .int (nI 6))]) hx hb dX11_expect_152 hl (by decide) rfl (fun ls hl => ?_)
      refine lv_goto (tgt := 199) hx hb dX11_expect_154 (by decide) ?_
      exact hj_4 ((nI (nbA P md x y k)) + (((nI (nbB P md x y k)) - (nI (nbC P md x y k))) >>> ((1 : Int32) &&& 31)), ls) ⟨(by simp [exW, exq]), lv_sub hl [4, 5, 6, 7, 0] rfl⟩
    · skip
      refine lv_tableIn (off := 122) (tgt := 157) hx hb dX11_expect_35 (by decide) (by decide) (by decide) (by decide) ?_
      refine lv_iload hx hb dX11_expect_157 (lv_at hl 1 rfl) ?_
      refine lv_iload hx hb dX11_expect_159 (lv_at hl 2 rfl) ?_
      refine lv_iload hx hb dX11_expect_161 (lv_at hl 0 rfl) ?_
      refine lv_isub hx hb dX11_expect_163 ?_
      refine r_fin_i (va_runS (As := [.int ((nI (nbA P md x y k)) - (nI (nbC P md x y k)))]) (rest := [.int (nI (nbB P md x y k))]) ⟨hx, hb, hml, hown, hts⟩ (c_X11_halfOf l G ((nI (nbA P md x y k)) - (nI (nbC P md x y k)))) (va_cwS 1 hts gX11_expect_X11_halfOf rfl rfl rfl (by decide +kernel) ⟨Nat.le_of_ble_eq_true rfl, Nat.le_of_ble_eq_true rfl⟩) (r_pre hK hP [] rfl) rfl rfl hl.1 rfl (lv_room (Nat.le_of_ble_eq_true rfl)) dX11_expect_164 ⟨Nat.zero_le _, Nat.zero_le _⟩) (fun r_8 hw => ?_)
      subst hw
      refine lv_iadd hx hb dX11_expect_167 ?_
      refine lv_istore (lv' := [(8, .int ((nI (nbB P md x y k)) + (((nI (nbA P md x y k)) - (nI (nbC P md x y k))) >>> ((1 : Int32) &&& 31)))), (7, .int (nI (nbC P md x y k))), (6, .int (nI (nbB P md x y k))), (5, .int (nI (nbA P md x y k))), (0, .ref mo), (1, .int (nI x)), (2, .int (nI y)), (3, .int (nI k)), (4, .int (nI 7))]) hx hb dX11_expect_168 hl (by decide) rfl (fun ls hl => ?_)
      refine lv_goto (tgt := 199) hx hb dX11_expect_170 (by decide) ?_
      exact hj_4 ((nI (nbB P md x y k)) + (((nI (nbA P md x y k)) - (nI (nbC P md x y k))) >>> ((1 : Int32) &&& 31)), ls) ⟨(by simp [exW, exq]), lv_sub hl [4, 5, 6, 7, 0] rfl⟩
    · skip
      refine lv_tableOut (tgt := 173) hx hb dX11_expect_35 (Or.inr (by decide)) (by decide) ?_
      refine lv_iload_n hx hb dX11_expect_173 rfl (lv_at hl 6 rfl) ?_
      have qn2 := nb_lt hd qB qx qy qk
      refine x_join (α := (Int32)) (fun z9 => F0 mZ 197 ls [.int z9]) (fun z9 => (z9 = nI (nbE P md x y k))) (fun z9 hJ9 => ?_) (fun hj_9 => ?_)
      · obtain ⟨v9, rfl⟩ : ∃ z, z = z9 := ⟨_, rfl⟩
        have hj9 := hJ9
        have hj9 : v9 = nI (nbE P md x y k) := hj9
        subst hj9
        refine lv_istore (lv' := [(8, .int (nI (nbE P md x y k))), (7, .int (nI (nbC P md x y k))), (6, .int (nI (nbB P md x y k))), (5, .int (nI (nbA P md x y k))), (0, .ref mo), (1, .int (nI x)), (2, .int (nI y)), (3, .int (nI k)), (4, .int (nI 8))]) hx hb dX11_expect_197 hl (by decide) rfl (fun ls hl => ?_)
        exact hj_4 (nI (nbE P md x y k), ls) ⟨(by simp only [exW, exq]; rw [br_nat (by omega) (by omega)]; simp), lv_sub hl [4, 5, 6, 7, 0] rfl⟩
      · skip
        refine lv_if_ne (tgt := 184) hx hb dX11_expect_174 (by decide) (fun c_174 => ?_) (fun c_174 => ?_)
        · skip
          have c_174 : ¬ (k = 0) := fun z8 => c_174 ((nI_eq (a := k) (b := 0) (by omega) (by omega)).mpr z8)
          refine lv_aload_n hx hb dX11_expect_184 rfl (lv_at hl 3 rfl) ?_
          refine va_get (D := G.1) (ci := 10) (v := .ref mS) (C := RX11) (T := TX11) (N := 32) hx hb hts hin_X11_expect_11 hown hK.1 hP 0 rfl rfl 7 (by decide) (hts (.fieldLink RX11 7 "MixedPredictModel" "samples" "[I") (List.mem_cons_of_mem _ (List.mem_append_left _ (List.mem_of_getElem? (i := 1) rfl)))) (fun _ h9 => h9) rfl dX11_expect_185 ?_
          refine lv_iload_n hx hb dX11_expect_188 rfl (lv_at hl 4 rfl) ?_
          refine lv_iload_n hx hb dX11_expect_189 rfl (lv_at hl 5 rfl) ?_
          refine lv_iload_n hx hb dX11_expect_190 rfl (lv_at hl 6 rfl) ?_
          refine lv_iconst (v := 1) hx hb dX11_expect_191 (by decide) ?_
          refine lv_isub hx hb dX11_expect_192 ?_
          refine x_top (y := nI (k - 1)) (pk_sub (a := k) (b := 1) (by omega)) ?_
          refine r_fin_i (va_runS (As := [.int (nI x), .int (nI y), .int (nI (k - 1))]) (rest := [.ref mS]) ⟨hx, hb, hml, hown, hts⟩ (c_X11_spot l G x y (k - 1)) (va_cwS 3 hts gX11_expect_X11_spot rfl rfl rfl (by decide +kernel) ⟨Nat.le_of_ble_eq_true rfl, Nat.le_of_ble_eq_true rfl⟩) (r_pre hK hP [] rfl) rfl rfl hl.1 rfl (lv_room (Nat.le_of_ble_eq_true rfl)) dX11_expect_193 ⟨Nat.zero_le _, Nat.zero_le _⟩) (fun r_10 hw => ?_)
          subst hw
          refine x_iald (i := 3 * (16 * y + x) + (k - 1)) hx hb hK.1 hP 1 0 rfl rfl (by omega) (by omega) dX11_expect_196 ?_
          exact hj_9 (f (3 * (16 * y + x) + (k - 1))) ((show (f (3 * (16 * y + x) + (k - 1))) = nI (nbE P md x y k) from by rw [nbE, if_neg (by omega)]; exact qP _ _ _ qx qy (by omega)))
        · skip
          have c_174 : k = 0 := (nI_eq (a := k) (b := 0) (by omega) (by omega)).mp c_174
          refine lv_aload_n hx hb dX11_expect_177 rfl (lv_at hl 3 rfl) ?_
          refine va_get (D := G.1) (ci := 10) (v := .int (nI md)) (C := RX11) (T := TX11) (N := 32) hx hb hts hin_X11_expect_11 hown hK.1 hP 0 rfl rfl 5 (by decide) (hts (.fieldLink RX11 73 "MixedPredictModel" "mid" "I") (List.mem_cons_of_mem _ (List.mem_append_left _ (List.mem_of_getElem? (i := 0) rfl)))) (fun _ h9 => h9) rfl dX11_expect_178 ?_
          refine lv_goto (tgt := 197) hx hb dX11_expect_181 (by decide) ?_
          exact hj_9 (nI md) ((show (nI md) = nI (nbE P md x y k) from by rw [nbE, if_pos (by omega)]))

set_option maxHeartbeats 4000000 in
set_option maxRecDepth 100000 in
theorem c_X11_mix (l : Launch) (G : GG) (mo mS mW mF mG mH mA kW kF kG kH mE mL mO mC mR : Nat) (w h b c md : Nat) (hd : DIM w h b c md) (code oc cc rc wrs frm enn mxx : Int32) (low hig wrd : Int64) (P : Nat → Nat → Nat → Nat) (f : Nat → Int32) (qP : PicR w h c f P) (qB : PicB w h c md P) (x y k : Nat) (qx : x < w) (qy : y < h) (qk : k < c) (fW fE : Nat → Int32) (W : Nat → Int32) (hW : ∀ j, j < 9 → fW j = W j) (hB : WB W) (sz : Nat) : Met l yX11_mix wsX11_mix ({ frames := 3, cells := 0, slots := 0, locals := 78 } : Room) (w_Pc G [.ref mo, .int (nI x), .int (nI y), .int (nI k)] sz [(mo, .inr (10, [.int code, .int (nI w), .int (nI h), .int (nI b), .int (nI c), .int (nI md), .int (nI (2 * md)), .ref mS, .ref mW, .ref mF, .ref mG, .ref mH, .ref mA, .ref kW, .ref kF, .ref kG, .ref kH, .ref mE, .ref mL, .ref mO, .int oc, .ref mC, .int cc, .ref mR, .int rc, .long low, .long hig, .long wrd, .int wrs, .int frm, .int enn, .int mxx])), (mS, .inl (G.2.1, 768, .inl f)), (mW, .inl (G.2.1, 9, .inl fW)), (mE, .inl (G.2.1, 9, .inl fE))]) (w_Qv G (va_A [(mo, .inr (10, [.int code, .int (nI w), .int (nI h), .int (nI b), .int (nI c), .int (nI md), .int (nI (2 * md)), .ref mS, .ref mW, .ref mF, .ref mG, .ref mH, .ref mA, .ref kW, .ref kF, .ref kG, .ref kH, .ref mE, .ref mL, .ref mO, .int oc, .ref mC, .int cc, .ref mR, .int rc, .long low, .long hig, .long wrd, .int wrs, .int frm, .int enn, .int mxx])), (mS, .inl (G.2.1, 768, .inl f)), (mW, .inl (G.2.1, 9, .inl fW)), (mE, .inl (G.2.1, 9, .inl fE))] sz) (fun (u9 : Nat → Int32) => [(mo, .inr (10, [.int code, .int (nI w), .int (nI h), .int (nI b), .int (nI c), .int (nI md), .int (nI (2 * md)), .ref mS, .ref mW, .ref mF, .ref mG, .ref mH, .ref mA, .ref kW, .ref kF, .ref kG, .ref kH, .ref mE, .ref mL, .ref mO, .int oc, .ref mC, .int cc, .ref mR, .int rc, .long low, .long hig, .long wrd, .int wrs, .int frm, .int enn, .int (mixV W (exW P w md x y k))])), (mS, .inl (G.2.1, 768, .inl f)), (mW, .inl (G.2.1, 9, .inl fW)), (mE, .inl (G.2.1, 9, .inl u9))]) (fun (u9 : Nat → Int32) => ∀ j, j < 9 → u9 j = exW P w md x y k j)) 0 0 (va_A [(mo, .inr (10, [.int code, .int (nI w), .int (nI h), .int (nI b), .int (nI c), .int (nI md), .int (nI (2 * md)), .ref mS, .ref mW, .ref mF, .ref mG, .ref mH, .ref mA, .ref kW, .ref kF, .ref kG, .ref kH, .ref mE, .ref mL, .ref mO, .int oc, .ref mC, .int cc, .ref mR, .int rc, .long low, .long hig, .long wrd, .int wrs, .int frm, .int enn, .int mxx])), (mS, .inl (G.2.1, 768, .inl f)), (mW, .inl (G.2.1, 9, .inl fW)), (mE, .inl (G.2.1, 9, .inl fE))] sz) := by
  refine w_ofW (y := yX11_mix) (ws := wsX11_mix) (rm := ({ frames := 3, cells := 0, slots := 0, locals := 78 } : Room)) (av := [.ref mo, .int (nI x), .int (nI y), .int (nI k)]) (WC := [(mo, .inr (10, [.int code, .int (nI w), .int (nI h), .int (nI b), .int (nI c), .int (nI md), .int (nI (2 * md)), .ref mS, .ref mW, .ref mF, .ref mG, .ref mH, .ref mA, .ref kW, .ref kF, .ref kG, .ref kH, .ref mE, .ref mL, .ref mO, .int oc, .ref mC, .int cc, .ref mR, .int rc, .long low, .long hig, .long wrd, .int wrs, .int frm, .int enn, .int mxx])), (mS, .inl (G.2.1, 768, .inl f)), (mW, .inl (G.2.1, 9, .inl fW)), (mE, .inl (G.2.1, 9, .inl fE))]) (mc := 0) (ms := 0) (Qf := fun A => w_Qv G A (fun (u9 : Nat → Int32) => [(mo, .inr (10, [.int code, .int (nI w), .int (nI h), .int (nI b), .int (nI c), .int (nI md), .int (nI (2 * md)), .ref mS, .ref mW, .ref mF, .ref mG, .ref mH, .ref mA, .ref kW, .ref kF, .ref kG, .ref kH, .ref mE, .ref mL, .ref mO, .int oc, .ref mC, .int cc, .ref mR, .int rc, .long low, .long hig, .long wrd, .int wrs, .int frm, .int enn, .int (mixV W (exW P w md x y k))])), (mS, .inl (G.2.1, 768, .inl f)), (mW, .inl (G.2.1, 9, .inl fW)), (mE, .inl (G.2.1, 9, .inl u9))]) (fun (u9 : Nat → Int32) => ∀ j, j < 9 → u9 j = exW P w md x y k j)) (cc := cX11_mix) (maxL := 7) (ret := none) (by decide) rfl (Nat.le_of_ble_eq_true rfl) ?_
  intro pZ eZ sZ mZ bZ tZ cZ A hx hb hr hts hown hlocks hml hnm hK hA H locs hP hD hS ls hl
  have hown : sZ.vm.findClass RX11 = some mZ.cls := hown
  have hl : lv_has ls 7 [(0, .ref mo), (1, .int (nI x)), (2, .int (nI y)), (3, .int (nI k))] := hl
  refine lv_iconst (v := 0) hx hb dX11_mix_0 (by decide) ?_
  refine lv_istore (lv' := [(4, .int 0), (0, .ref mo), (1, .int (nI x)), (2, .int (nI y)), (3, .int (nI k))]) hx hb dX11_mix_1 hl (by decide) rfl (fun ls hl => ?_)
  refine lv_iconst (v := 0) hx hb dX11_mix_3 (by decide) ?_
  refine lv_istore (lv' := [(5, .int 0), (4, .int 0), (0, .ref mo), (1, .int (nI x)), (2, .int (nI y)), (3, .int (nI k))]) hx hb dX11_mix_4 hl (by decide) rfl (fun ls hl => ?_)
  refine lv_iconst (v := 0) hx hb dX11_mix_6 (by decide) ?_
  refine lv_istore (lv' := [(6, .int 0), (5, .int 0), (4, .int 0), (0, .ref mo), (1, .int (nI x)), (2, .int (nI y)), (3, .int (nI k))]) hx hb dX11_mix_7 hl (by decide) rfl (fun ls hl => ?_)
  refine x_loop (α := (Nat) × (Int32) × (Int32) × (Nat → Int32) × (Array Slot)) (fun z9 => F0 mZ 9 z9.2.2.2.2 []) (fun z9 H locs => ((z9.1) ≤ 9 ∧ (z9.2.1) = mixS W (z9.1) ∧ (z9.2.2.1) = mixT W (exW P w md x y k) (z9.1) ∧ ∀ j, j < (z9.1) → (z9.2.2.2.1) j = exW P w md x y k j) ∧ lv_has z9.2.2.2.2 7 [(0, .ref mo), (1, .int (nI x)), (2, .int (nI y)), (3, .int (nI k)), (4, .int (z9.2.1)), (5, .int (z9.2.2.1)), (6, .int (nI (z9.1)))] ∧ va_P G.1 vwCl [(mo, .inr (10, [.int code, .int (nI w), .int (nI h), .int (nI b), .int (nI c), .int (nI md), .int (nI (2 * md)), .ref mS, .ref mW, .ref mF, .ref mG, .ref mH, .ref mA, .ref kW, .ref kF, .ref kG, .ref kH, .ref mE, .ref mL, .ref mO, .int oc, .ref mC, .int cc, .ref mR, .int rc, .long low, .long hig, .long wrd, .int wrs, .int frm, .int enn, .int mxx])), (mS, .inl (G.2.1, 768, .inl f)), (mW, .inl (G.2.1, 9, .inl fW)), (mE, .inl (G.2.1, 9, .inl (z9.2.2.2.1)))] H ∧ va_D A [(mo, .inr (10, [.int code, .int (nI w), .int (nI h), .int (nI b), .int (nI c), .int (nI md), .int (nI (2 * md)), .ref mS, .ref mW, .ref mF, .ref mG, .ref mH, .ref mA, .ref kW, .ref kF, .ref kG, .ref kH, .ref mE, .ref mL, .ref mO, .int oc, .ref mC, .int cc, .ref mR, .int rc, .long low, .long hig, .long wrd, .int wrs, .int frm, .int enn, .int mxx])), (mS, .inl (G.2.1, 768, .inl f)), (mW, .inl (G.2.1, 9, .inl fW)), (mE, .inl (G.2.1, 9, .inl (z9.2.2.2.1)))] ∧ va_S A sZ.heap H locs) (fun z9 => 9 - (z9.1)) (fun z9 H locs hI ih_1 => ?_) (0, 0, 0, fE, ls) _ _ ⟨(show 0 ≤ 9 ∧ 0 = mixS W 0 ∧ 0 = mixT W (exW P w md x y k) 0 ∧ ∀ j, j < 0 → fE j = exW P w md x y k j from ⟨Nat.zero_le _, rfl, rfl, fun j hj => absurd hj (Nat.not_lt_zero j)⟩), lv_sub hl [3, 4, 5, 6, 2, 1, 0] rfl, hP, hD, hS⟩
  obtain ⟨i, s9, t9, g, ls⟩ := z9
  obtain ⟨hI, hl, hP, hD, hS⟩ := hI
  have hI : i ≤ 9 ∧ s9 = mixS W i ∧ t9 = mixT W (exW P w md x y k) i ∧ ∀ j, j < i → g j = exW P w md x y k j := hI
  have hl : lv_has ls 7 [(0, .ref mo), (1, .int (nI x)), (2, .int (nI y)), (3, .int (nI k)), (4, .int s9), (5, .int t9), (6, .int (nI i))] := hl
  have hP : va_P G.1 vwCl [(mo, .inr (10, [.int code, .int (nI w), .int (nI h), .int (nI b), .int (nI c), .int (nI md), .int (nI (2 * md)), .ref mS, .ref mW, .ref mF, .ref mG, .ref mH, .ref mA, .ref kW, .ref kF, .ref kG, .ref kH, .ref mE, .ref mL, .ref mO, .int oc, .ref mC, .int cc, .ref mR, .int rc, .long low, .long hig, .long wrd, .int wrs, .int frm, .int enn, .int mxx])), (mS, .inl (G.2.1, 768, .inl f)), (mW, .inl (G.2.1, 9, .inl fW)), (mE, .inl (G.2.1, 9, .inl g))] H := hP
  have hD : va_D A [(mo, .inr (10, [.int code, .int (nI w), .int (nI h), .int (nI b), .int (nI c), .int (nI md), .int (nI (2 * md)), .ref mS, .ref mW, .ref mF, .ref mG, .ref mH, .ref mA, .ref kW, .ref kF, .ref kG, .ref kH, .ref mE, .ref mL, .ref mO, .int oc, .ref mC, .int cc, .ref mR, .int rc, .long low, .long hig, .long wrd, .int wrs, .int frm, .int enn, .int mxx])), (mS, .inl (G.2.1, 768, .inl f)), (mW, .inl (G.2.1, 9, .inl fW)), (mE, .inl (G.2.1, 9, .inl g))] := hD
  refine lv_iload hx hb dX11_mix_9 (lv_at hl 6 rfl) ?_
  refine lv_bipush (v := 9) hx hb dX11_mix_11 (by decide) ?_
  refine lv_icmp_ge (tgt := 70) hx hb dX11_mix_13 (by decide) (fun c_13 => ?_) (fun c_13 => ?_)
  · skip
    have c_13 : 9 ≤ i := (nI_leI (a := 9) (b := i) (by omega) (by omega)).mp c_13
    have ei : i = 9 := by omega
    subst ei
    refine lv_aload_n hx hb dX11_mix_70 rfl (lv_at hl 0 rfl) ?_
    refine lv_iload hx hb dX11_mix_71 (lv_at hl 5 rfl) ?_
    refine lv_iload hx hb dX11_mix_73 (lv_at hl 4 rfl) ?_
    refine lv_iconst (v := 2) hx hb dX11_mix_75 (by decide) ?_
    refine lv_idiv hx hb dX11_mix_76 (by decide) ?_
    refine lv_iadd hx hb dX11_mix_77 ?_
    refine lv_iload hx hb dX11_mix_78 (lv_at hl 4 rfl) ?_
    refine lv_idiv hx hb dX11_mix_80 (by rw [hI.2.1]; exact mixS_ne hB) ?_
    refine x_top (y := mixV W (exW P w md x y k)) (by rw [hI.2.1, hI.2.2.1]; rfl) ?_
    refine va_put (D := G.1) (ci := 10) (v := .int (mixV W (exW P w md x y k))) (ty := tyX11 31) (C := RX11) (T := TX11) (N := 32) hx hb hts hin_X11_mix_11 tyX11 tyX11_ok nmX11 hown hK.1 hP hD hS 0 rfl rfl 31 (by decide) (hts (.fieldLink RX11 120 "MixedPredictModel" "mixed" "I") (List.mem_cons_of_mem _ (List.mem_append_left _ (List.mem_of_getElem? (i := 2) rfl)))) (fun _ h9 => h9) rfl (tyX11_ok 31 (by decide)) rfl rfl (Nat.le_of_ble_eq_true rfl) dX11_mix_81 (fun H locs hP hD hS => ?_)
    have hP : va_P G.1 vwCl [(mo, .inr (10, [.int code, .int (nI w), .int (nI h), .int (nI b), .int (nI c), .int (nI md), .int (nI (2 * md)), .ref mS, .ref mW, .ref mF, .ref mG, .ref mH, .ref mA, .ref kW, .ref kF, .ref kG, .ref kH, .ref mE, .ref mL, .ref mO, .int oc, .ref mC, .int cc, .ref mR, .int rc, .long low, .long hig, .long wrd, .int wrs, .int frm, .int enn, .int (mixV W (exW P w md x y k))])), (mS, .inl (G.2.1, 768, .inl f)), (mW, .inl (G.2.1, 9, .inl fW)), (mE, .inl (G.2.1, 9, .inl g))] H := hP
    have hD : va_D A [(mo, .inr (10, [.int code, .int (nI w), .int (nI h), .int (nI b), .int (nI c), .int (nI md), .int (nI (2 * md)), .ref mS, .ref mW, .ref mF, .ref mG, .ref mH, .ref mA, .ref kW, .ref kF, .ref kG, .ref kH, .ref mE, .ref mL, .ref mO, .int oc, .ref mC, .int cc, .ref mR, .int rc, .long low, .long hig, .long wrd, .int wrs, .int frm, .int enn, .int (mixV W (exW P w md x y k))])), (mS, .inl (G.2.1, 768, .inl f)), (mW, .inl (G.2.1, 9, .inl fW)), (mE, .inl (G.2.1, 9, .inl g))] := hD
    exact w_vret g hx hb hr hlocks (hI.2.2.2) hP hD hS dX11_mix_84
  · skip
    have c_13 : ¬ (9 ≤ i) := fun z8 => c_13 ((nI_leI (a := 9) (b := i) (by omega) (by omega)).mpr z8)
    refine lv_aload_n hx hb dX11_mix_16 rfl (lv_at hl 0 rfl) ?_
    refine va_get (D := G.1) (ci := 10) (v := .ref mE) (C := RX11) (T := TX11) (N := 32) hx hb hts hin_X11_mix_11 hown hK.1 hP 0 rfl rfl 17 (by decide) (hts (.fieldLink RX11 40 "MixedPredictModel" "expected" "[I") (List.mem_cons_of_mem _ (List.mem_append_left _ (List.mem_of_getElem? (i := 0) rfl)))) (fun _ h9 => h9) rfl dX11_mix_17 ?_
    refine lv_iload hx hb dX11_mix_20 (lv_at hl 6 rfl) ?_
    refine lv_aload_n hx hb dX11_mix_22 rfl (lv_at hl 0 rfl) ?_
    refine lv_iload_n hx hb dX11_mix_23 rfl (lv_at hl 1 rfl) ?_
    refine lv_iload_n hx hb dX11_mix_24 rfl (lv_at hl 2 rfl) ?_
    refine lv_iload_n hx hb dX11_mix_25 rfl (lv_at hl 3 rfl) ?_
    refine lv_iload hx hb dX11_mix_26 (lv_at hl 6 rfl) ?_
    refine r_fin_i (va_runV (As := [.int (nI x), .int (nI y), .int (nI k), .int (nI i)]) (rest := [.int (nI i), .ref mE]) ⟨hx, hb, hml, hown, hts⟩ (c_X11_expect l G mo mS mW mF mG mH mA kW kF kG kH mE mL mO mC mR w h b c md hd code oc cc rc wrs frm enn mxx low hig wrd (by first | assumption | omega) f (by first | assumption | omega) (by first | assumption | omega) x y k (by first | assumption | omega) (by first | assumption | omega) (by first | assumption | omega) i (by first | assumption | omega)) (cwV 4 hts gX11_mix_X11_expect rfl rfl rfl (by decide +kernel) ⟨Nat.le_of_ble_eq_true rfl, Nat.le_of_ble_eq_true rfl⟩) (x_preV (r_pre hK hP [0, 1] rfl) hK hP (ci := 10) (q0 := 0) rfl rfl) rfl rfl hl.1 rfl (lv_room (Nat.le_of_ble_eq_true rfl)) dX11_mix_28 ⟨Nat.zero_le _, Nat.zero_le _⟩) (fun r_2 hw => ?_)
    subst hw
    refine x_iast (i := i) hx hb hK.1 hP hD hS 3 0 rfl rfl (by omega) (by omega) dX11_mix_31 (fun H locs hP hD hS => ?_)
    have hP : va_P G.1 vwCl [(mo, .inr (10, [.int code, .int (nI w), .int (nI h), .int (nI b), .int (nI c), .int (nI md), .int (nI (2 * md)), .ref mS, .ref mW, .ref mF, .ref mG, .ref mH, .ref mA, .ref kW, .ref kF, .ref kG, .ref kH, .ref mE, .ref mL, .ref mO, .int oc, .ref mC, .int cc, .ref mR, .int rc, .long low, .long hig, .long wrd, .int wrs, .int frm, .int enn, .int mxx])), (mS, .inl (G.2.1, 768, .inl f)), (mW, .inl (G.2.1, 9, .inl fW)), (mE, .inl (G.2.1, 9, .inl (upd g i (exW P w md x y k i))))] H := hP
    have hD : va_D A [(mo, .inr (10, [.int code, .int (nI w), .int (nI h), .int (nI b), .int (nI c), .int (nI md), .int (nI (2 * md)), .ref mS, .ref mW, .ref mF, .ref mG, .ref mH, .ref mA, .ref kW, .ref kF, .ref kG, .ref kH, .ref mE, .ref mL, .ref mO, .int oc, .ref mC, .int cc, .ref mR, .int rc, .long low, .long hig, .long wrd, .int wrs, .int frm, .int enn, .int mxx])), (mS, .inl (G.2.1, 768, .inl f)), (mW, .inl (G.2.1, 9, .inl fW)), (mE, .inl (G.2.1, 9, .inl (upd g i (exW P w md x y k i))))] := hD
    refine lv_iload hx hb dX11_mix_32 (lv_at hl 4 rfl) ?_
    refine lv_aload_n hx hb dX11_mix_34 rfl (lv_at hl 0 rfl) ?_
    refine va_get (D := G.1) (ci := 10) (v := .ref mW) (C := RX11) (T := TX11) (N := 32) hx hb hts hin_X11_mix_11 hown hK.1 hP 0 rfl rfl 8 (by decide) (hts (.fieldLink RX11 13 "MixedPredictModel" "weights" "[I") (List.mem_cons_of_mem _ (List.mem_append_left _ (List.mem_of_getElem? (i := 1) rfl)))) (fun _ h9 => h9) rfl dX11_mix_35 ?_
    refine lv_iload hx hb dX11_mix_38 (lv_at hl 6 rfl) ?_
    refine x_iald (i := i) hx hb hK.1 hP 2 0 rfl rfl (by omega) (by omega) dX11_mix_40 ?_
    refine lv_iadd hx hb dX11_mix_41 ?_
    refine lv_istore (lv' := [(4, .int (s9 + (fW i))), (0, .ref mo), (1, .int (nI x)), (2, .int (nI y)), (3, .int (nI k)), (5, .int t9), (6, .int (nI i))]) hx hb dX11_mix_42 hl (by decide) rfl (fun ls hl => ?_)
    refine lv_iload hx hb dX11_mix_44 (lv_at hl 5 rfl) ?_
    refine lv_aload_n hx hb dX11_mix_46 rfl (lv_at hl 1 rfl) ?_
    refine va_get (D := G.1) (ci := 10) (v := .ref mW) (C := RX11) (T := TX11) (N := 32) hx hb hts hin_X11_mix_11 hown hK.1 hP 0 rfl rfl 8 (by decide) (hts (.fieldLink RX11 13 "MixedPredictModel" "weights" "[I") (List.mem_cons_of_mem _ (List.mem_append_left _ (List.mem_of_getElem? (i := 1) rfl)))) (fun _ h9 => h9) rfl dX11_mix_47 ?_
    refine lv_iload hx hb dX11_mix_50 (lv_at hl 6 rfl) ?_
    refine x_iald (i := i) hx hb hK.1 hP 2 0 rfl rfl (by omega) (by omega) dX11_mix_52 ?_
    refine lv_aload_n hx hb dX11_mix_53 rfl (lv_at hl 1 rfl) ?_
    refine va_get (D := G.1) (ci := 10) (v := .ref mE) (C := RX11) (T := TX11) (N := 32) hx hb hts hin_X11_mix_11 hown hK.1 hP 0 rfl rfl 17 (by decide) (hts (.fieldLink RX11 40 "MixedPredictModel" "expected" "[I") (List.mem_cons_of_mem _ (List.mem_append_left _ (List.mem_of_getElem? (i := 0) rfl)))) (fun _ h9 => h9) rfl dX11_mix_54 ?_
    refine lv_iload hx hb dX11_mix_57 (lv_at hl 6 rfl) ?_
    refine x_iald (i := i) hx hb hK.1 hP 3 0 rfl rfl (by omega) (by omega) dX11_mix_59 ?_
    refine lv_imul hx hb dX11_mix_60 ?_
    refine lv_iadd hx hb dX11_mix_61 ?_
    refine lv_istore (lv' := [(5, .int (t9 + ((fW i) * ((upd g i (exW P w md x y k i)) i)))), (4, .int (s9 + (fW i))), (0, .ref mo), (1, .int (nI x)), (2, .int (nI y)), (3, .int (nI k)), (6, .int (nI i))]) hx hb dX11_mix_62 hl (by decide) rfl (fun ls hl => ?_)
    refine lv_iinc (v := nI (i + 1)) (lv' := [(6, .int (nI (i + 1))), (5, .int (t9 + ((fW i) * ((upd g i (exW P w md x y k i)) i)))), (4, .int (s9 + (fW i))), (0, .ref mo), (1, .int (nI x)), (2, .int (nI y)), (3, .int (nI k))]) hx hb dX11_mix_64 hl (k := 6) rfl (by first | rfl | exact nI_add _ _) (by decide) rfl (fun ls hl => ?_)
    refine lv_goto (tgt := 9) hx hb dX11_mix_67 (by decide) ?_
    exact ih_1 (i + 1, s9 + (fW i), t9 + ((fW i) * ((upd g i (exW P w md x y k i)) i)), upd g i (exW P w md x y k i), ls) _ _ (show 9 - (i + 1) < 9 - i from by omega) ⟨(show (i + 1) ≤ 9 ∧ (s9 + (fW i)) = mixS W (i + 1) ∧ (t9 + ((fW i) * ((upd g i (exW P w md x y k i)) i))) = mixT W (exW P w md x y k) (i + 1) ∧ ∀ j, j < (i + 1) → (upd g i (exW P w md x y k i)) j = exW P w md x y k j from ⟨by omega, by rw [hI.2.1, hW i (by omega)]; rfl, by rw [hI.2.2.1, hW i (by omega), pk_us]; rfl, fun j hj => if hji : j = i then (by rw [hji, pk_us]) else (by rw [pk_un hji]; exact hI.2.2.2 j (by omega))⟩), lv_sub hl [3, 4, 5, 6, 2, 1, 0] rfl, hP, hD, hS⟩

set_option maxHeartbeats 4000000 in
set_option maxRecDepth 100000 in
theorem c_X11_learn (l : Launch) (G : GG) (mo mS mW mF mG mH mA kW kF kG kH mE mL mO mC mR : Nat) (w h b c md : Nat) (hd : DIM w h b c md) (code oc cc rc wrs frm enn mxx : Int32) (low hig wrd : Int64) (fW fE : Nat → Int32) (v : Int32) (W e : Nat → Int32) (hW : ∀ j, j < 9 → fW j = W j) (hE : ∀ j, j < 9 → fE j = e j) (hB : WB W) (sz : Nat) : Met l yX11_learn wsX11_learn ({ frames := 0, cells := 0, slots := 0, locals := 0 } : Room) (w_Pc G [.ref mo, .int v] sz [(mo, .inr (10, [.int code, .int (nI w), .int (nI h), .int (nI b), .int (nI c), .int (nI md), .int (nI (2 * md)), .ref mS, .ref mW, .ref mF, .ref mG, .ref mH, .ref mA, .ref kW, .ref kF, .ref kG, .ref kH, .ref mE, .ref mL, .ref mO, .int oc, .ref mC, .int cc, .ref mR, .int rc, .long low, .long hig, .long wrd, .int wrs, .int frm, .int enn, .int mxx])), (mW, .inl (G.2.1, 9, .inl fW)), (mE, .inl (G.2.1, 9, .inl fE))]) (w_Qv G (va_A [(mo, .inr (10, [.int code, .int (nI w), .int (nI h), .int (nI b), .int (nI c), .int (nI md), .int (nI (2 * md)), .ref mS, .ref mW, .ref mF, .ref mG, .ref mH, .ref mA, .ref kW, .ref kF, .ref kG, .ref kH, .ref mE, .ref mL, .ref mO, .int oc, .ref mC, .int cc, .ref mR, .int rc, .long low, .long hig, .long wrd, .int wrs, .int frm, .int enn, .int mxx])), (mW, .inl (G.2.1, 9, .inl fW)), (mE, .inl (G.2.1, 9, .inl fE))] sz) (fun (u9 : Nat → Int32) => [(mo, .inr (10, [.int code, .int (nI w), .int (nI h), .int (nI b), .int (nI c), .int (nI md), .int (nI (2 * md)), .ref mS, .ref mW, .ref mF, .ref mG, .ref mH, .ref mA, .ref kW, .ref kF, .ref kG, .ref kH, .ref mE, .ref mL, .ref mO, .int oc, .ref mC, .int cc, .ref mR, .int rc, .long low, .long hig, .long wrd, .int wrs, .int frm, .int enn, .int mxx])), (mW, .inl (G.2.1, 9, .inl u9)), (mE, .inl (G.2.1, 9, .inl fE))]) (fun (u9 : Nat → Int32) => ∀ j, j < 9 → u9 j = lrnW W e mxx v j)) 0 0 (va_A [(mo, .inr (10, [.int code, .int (nI w), .int (nI h), .int (nI b), .int (nI c), .int (nI md), .int (nI (2 * md)), .ref mS, .ref mW, .ref mF, .ref mG, .ref mH, .ref mA, .ref kW, .ref kF, .ref kG, .ref kH, .ref mE, .ref mL, .ref mO, .int oc, .ref mC, .int cc, .ref mR, .int rc, .long low, .long hig, .long wrd, .int wrs, .int frm, .int enn, .int mxx])), (mW, .inl (G.2.1, 9, .inl fW)), (mE, .inl (G.2.1, 9, .inl fE))] sz) := by
  refine w_ofW (y := yX11_learn) (ws := wsX11_learn) (rm := ({ frames := 0, cells := 0, slots := 0, locals := 0 } : Room)) (av := [.ref mo, .int v]) (WC := [(mo, .inr (10, [.int code, .int (nI w), .int (nI h), .int (nI b), .int (nI c), .int (nI md), .int (nI (2 * md)), .ref mS, .ref mW, .ref mF, .ref mG, .ref mH, .ref mA, .ref kW, .ref kF, .ref kG, .ref kH, .ref mE, .ref mL, .ref mO, .int oc, .ref mC, .int cc, .ref mR, .int rc, .long low, .long hig, .long wrd, .int wrs, .int frm, .int enn, .int mxx])), (mW, .inl (G.2.1, 9, .inl fW)), (mE, .inl (G.2.1, 9, .inl fE))]) (mc := 0) (ms := 0) (Qf := fun A => w_Qv G A (fun (u9 : Nat → Int32) => [(mo, .inr (10, [.int code, .int (nI w), .int (nI h), .int (nI b), .int (nI c), .int (nI md), .int (nI (2 * md)), .ref mS, .ref mW, .ref mF, .ref mG, .ref mH, .ref mA, .ref kW, .ref kF, .ref kG, .ref kH, .ref mE, .ref mL, .ref mO, .int oc, .ref mC, .int cc, .ref mR, .int rc, .long low, .long hig, .long wrd, .int wrs, .int frm, .int enn, .int mxx])), (mW, .inl (G.2.1, 9, .inl u9)), (mE, .inl (G.2.1, 9, .inl fE))]) (fun (u9 : Nat → Int32) => ∀ j, j < 9 → u9 j = lrnW W e mxx v j)) (cc := cX11_learn) (maxL := 6) (ret := none) (by decide) rfl (Nat.le_of_ble_eq_true rfl) ?_
  intro pZ eZ sZ mZ bZ tZ cZ A hx hb hr hts hown hlocks hml hnm hK hA H locs hP hD hS ls hl
  have hown : sZ.vm.findClass RX11 = some mZ.cls := hown
  have hl : lv_has ls 6 [(0, .ref mo), (1, .int v)] := hl
  refine lv_iconst (v := 0) hx hb dX11_learn_0 (by decide) ?_
  refine lv_istore_n (lv' := [(2, .int 0), (0, .ref mo), (1, .int v)]) hx hb dX11_learn_1 rfl hl (by decide) rfl (fun ls hl => ?_)
  refine x_loop (α := (Nat) × (Nat → Int32) × (Array Slot)) (fun z9 => F0 mZ 2 z9.2.2 []) (fun z9 H locs => ((z9.1) ≤ 9 ∧ ∀ j, j < 9 → (z9.2.1) j = if j < (z9.1) then lrnW W e mxx v j else W j) ∧ lv_has z9.2.2 6 [(0, .ref mo), (1, .int v), (2, .int (nI (z9.1)))] ∧ va_P G.1 vwCl [(mo, .inr (10, [.int code, .int (nI w), .int (nI h), .int (nI b), .int (nI c), .int (nI md), .int (nI (2 * md)), .ref mS, .ref mW, .ref mF, .ref mG, .ref mH, .ref mA, .ref kW, .ref kF, .ref kG, .ref kH, .ref mE, .ref mL, .ref mO, .int oc, .ref mC, .int cc, .ref mR, .int rc, .long low, .long hig, .long wrd, .int wrs, .int frm, .int enn, .int mxx])), (mW, .inl (G.2.1, 9, .inl (z9.2.1))), (mE, .inl (G.2.1, 9, .inl fE))] H ∧ va_D A [(mo, .inr (10, [.int code, .int (nI w), .int (nI h), .int (nI b), .int (nI c), .int (nI md), .int (nI (2 * md)), .ref mS, .ref mW, .ref mF, .ref mG, .ref mH, .ref mA, .ref kW, .ref kF, .ref kG, .ref kH, .ref mE, .ref mL, .ref mO, .int oc, .ref mC, .int cc, .ref mR, .int rc, .long low, .long hig, .long wrd, .int wrs, .int frm, .int enn, .int mxx])), (mW, .inl (G.2.1, 9, .inl (z9.2.1))), (mE, .inl (G.2.1, 9, .inl fE))] ∧ va_S A sZ.heap H locs) (fun z9 => 9 - (z9.1)) (fun z9 H locs hI ih_1 => ?_) (0, fW, ls) _ _ ⟨(show 0 ≤ 9 ∧ ∀ j, j < 9 → fW j = if j < 0 then lrnW W e mxx v j else W j from ⟨Nat.zero_le _, fun j hj => by rw [if_neg (Nat.not_lt_zero _)]; exact hW j hj⟩), lv_sub hl [1, 2, 0] rfl, hP, hD, hS⟩
  obtain ⟨i, g, ls⟩ := z9
  obtain ⟨hI, hl, hP, hD, hS⟩ := hI
  have hI : i ≤ 9 ∧ ∀ j, j < 9 → g j = if j < i then lrnW W e mxx v j else W j := hI
  have hl : lv_has ls 6 [(0, .ref mo), (1, .int v), (2, .int (nI i))] := hl
  have hP : va_P G.1 vwCl [(mo, .inr (10, [.int code, .int (nI w), .int (nI h), .int (nI b), .int (nI c), .int (nI md), .int (nI (2 * md)), .ref mS, .ref mW, .ref mF, .ref mG, .ref mH, .ref mA, .ref kW, .ref kF, .ref kG, .ref kH, .ref mE, .ref mL, .ref mO, .int oc, .ref mC, .int cc, .ref mR, .int rc, .long low, .long hig, .long wrd, .int wrs, .int frm, .int enn, .int mxx])), (mW, .inl (G.2.1, 9, .inl g)), (mE, .inl (G.2.1, 9, .inl fE))] H := hP
  have hD : va_D A [(mo, .inr (10, [.int code, .int (nI w), .int (nI h), .int (nI b), .int (nI c), .int (nI md), .int (nI (2 * md)), .ref mS, .ref mW, .ref mF, .ref mG, .ref mH, .ref mA, .ref kW, .ref kF, .ref kG, .ref kH, .ref mE, .ref mL, .ref mO, .int oc, .ref mC, .int cc, .ref mR, .int rc, .long low, .long hig, .long wrd, .int wrs, .int frm, .int enn, .int mxx])), (mW, .inl (G.2.1, 9, .inl g)), (mE, .inl (G.2.1, 9, .inl fE))] := hD
  refine lv_iload_n hx hb dX11_learn_2 rfl (lv_at hl 2 rfl) ?_
  refine lv_bipush (v := 9) hx hb dX11_learn_3 (by decide) ?_
  refine lv_icmp_ge (tgt := 182) hx hb dX11_learn_5 (by decide) (fun c_5 => ?_) (fun c_5 => ?_)
  · skip
    have c_5 : 9 ≤ i := (nI_leI (a := 9) (b := i) (by omega) (by omega)).mp c_5
    exact w_vret g hx hb hr hlocks (fun j hj => by rw [hI.2 j hj, if_pos (by omega)]) hP hD hS dX11_learn_182
  · skip
    have c_5 : ¬ (9 ≤ i) := fun z8 => c_5 ((nI_leI (a := 9) (b := i) (by omega) (by omega)).mpr z8)
    refine lv_iload_n hx hb dX11_learn_8 rfl (lv_at hl 1 rfl) ?_
    refine lv_aload_n hx hb dX11_learn_9 rfl (lv_at hl 0 rfl) ?_
    refine va_get (D := G.1) (ci := 10) (v := .int mxx) (C := RX11) (T := TX11) (N := 32) hx hb hts hin_X11_learn_11 hown hK.1 hP 0 rfl rfl 31 (by decide) (hts (.fieldLink RX11 120 "MixedPredictModel" "mixed" "I") (List.mem_cons_of_mem _ (List.mem_append_left _ (List.mem_of_getElem? (i := 0) rfl)))) (fun _ h9 => h9) rfl dX11_learn_10 ?_
    refine lv_icmp_eq (tgt := 182) hx hb dX11_learn_13 (by decide) (fun c_13 => ?_) (fun c_13 => ?_)
    · skip
      exact w_vret g hx hb hr hlocks (fun j hj => by rw [hI.2 j hj]; split; exact rfl; rw [lrnW, if_pos c_13]) hP hD hS dX11_learn_182
    · skip
      refine lv_iload_n hx hb dX11_learn_16 rfl (lv_at hl 1 rfl) ?_
      refine lv_aload_n hx hb dX11_learn_17 rfl (lv_at hl 0 rfl) ?_
      refine va_get (D := G.1) (ci := 10) (v := .int mxx) (C := RX11) (T := TX11) (N := 32) hx hb hts hin_X11_learn_11 hown hK.1 hP 0 rfl rfl 31 (by decide) (hts (.fieldLink RX11 120 "MixedPredictModel" "mixed" "I") (List.mem_cons_of_mem _ (List.mem_append_left _ (List.mem_of_getElem? (i := 0) rfl)))) (fun _ h9 => h9) rfl dX11_learn_18 ?_
      refine x_join (α := (Int32)) (fun z9 => F0 mZ 63 ls [.int z9]) (fun z9 => (z9 = if (if mxx < v then mxx < fE i else fE i < mxx) then 1 else 0)) (fun z9 hJ9 => ?_) (fun hj_2 => ?_)
      · obtain ⟨v9, rfl⟩ : ∃ z, z = z9 := ⟨_, rfl⟩
        have hj9 := hJ9
        have hj9 : v9 = if (if mxx < v then mxx < fE i else fE i < mxx) then 1 else 0 := hj9
        subst hj9
        refine lv_istore_n (lv' := [(3, .int (if (if mxx < v then mxx < fE i else fE i < mxx) then 1 else 0)), (0, .ref mo), (1, .int v), (2, .int (nI i))]) hx hb dX11_learn_63 rfl hl (by decide) rfl (fun ls hl => ?_)
        refine lv_iload_n hx hb dX11_learn_64 rfl (lv_at hl 2 rfl) ?_
        refine lv_aload_n hx hb dX11_learn_65 rfl (lv_at hl 1 rfl) ?_
        refine va_get (D := G.1) (ci := 10) (v := .int mxx) (C := RX11) (T := TX11) (N := 32) hx hb hts hin_X11_learn_11 hown hK.1 hP 0 rfl rfl 31 (by decide) (hts (.fieldLink RX11 120 "MixedPredictModel" "mixed" "I") (List.mem_cons_of_mem _ (List.mem_append_left _ (List.mem_of_getElem? (i := 0) rfl)))) (fun _ h9 => h9) rfl dX11_learn_66 ?_
        refine x_join (α := (Int32)) (fun z9 => F0 mZ 111 ls [.int z9]) (fun z9 => (z9 = if (if mxx < v then fE i < mxx else mxx < fE i) then 1 else 0)) (fun z9 hJ9 => ?_) (fun hj_3 => ?_)
        · obtain ⟨v9, rfl⟩ : ∃ z, z = z9 := ⟨_, rfl⟩
          have hj9 := hJ9
          have hj9 : v9 = if (if mxx < v then fE i < mxx else mxx < fE i) then 1 else 0 := hj9
          subst hj9
          refine lv_istore (lv' := [(4, .int (if (if mxx < v then fE i < mxx else mxx < fE i) then 1 else 0)), (3, .int (if (if mxx < v then mxx < fE i else fE i < mxx) then 1 else 0)), (0, .ref mo), (1, .int v), (2, .int (nI i))]) hx hb dX11_learn_111 hl (by decide) rfl (fun ls hl => ?_)
          refine lv_aload_n hx hb dX11_learn_113 rfl (lv_at hl 2 rfl) ?_
          refine va_get (D := G.1) (ci := 10) (v := .ref mW) (C := RX11) (T := TX11) (N := 32) hx hb hts hin_X11_learn_11 hown hK.1 hP 0 rfl rfl 8 (by decide) (hts (.fieldLink RX11 13 "MixedPredictModel" "weights" "[I") (List.mem_cons_of_mem _ (List.mem_append_left _ (List.mem_of_getElem? (i := 2) rfl)))) (fun _ h9 => h9) rfl dX11_learn_114 ?_
          refine lv_iload_n hx hb dX11_learn_117 rfl (lv_at hl 4 rfl) ?_
          refine x_iald (i := i) hx hb hK.1 hP 1 0 rfl rfl (by omega) (by omega) dX11_learn_118 ?_
          refine lv_iload_n hx hb dX11_learn_119 rfl (lv_at hl 1 rfl) ?_
          refine x_join (α := (Int32)) (fun z9 => F0 mZ 139 ls [.int z9, .int (g i)]) (fun z9 => (z9 = if (if mxx < v then mxx < fE i else fE i < mxx) then 8 else if (if mxx < v then fE i < mxx else mxx < fE i) then -8 else 0)) (fun z9 hJ9 => ?_) (fun hj_4 => ?_)
          · obtain ⟨v9, rfl⟩ : ∃ z, z = z9 := ⟨_, rfl⟩
            have hj9 := hJ9
            have hj9 : v9 = if (if mxx < v then mxx < fE i else fE i < mxx) then 8 else if (if mxx < v then fE i < mxx else mxx < fE i) then -8 else 0 := hj9
            subst hj9
            refine lv_iadd hx hb dX11_learn_139 ?_
            refine lv_istore (lv' := [(5, .int ((g i) + (if (if mxx < v then mxx < fE i else fE i < mxx) then 8 else if (if mxx < v then fE i < mxx else mxx < fE i) then -8 else 0))), (4, .int (if (if mxx < v then fE i < mxx else mxx < fE i) then 1 else 0)), (3, .int (if (if mxx < v then mxx < fE i else fE i < mxx) then 1 else 0)), (0, .ref mo), (1, .int v), (2, .int (nI i))]) hx hb dX11_learn_140 hl (by decide) rfl (fun ls hl => ?_)
            have hgi : g i = W i := by rw [hI.2 i (by omega), if_neg (Nat.lt_irrefl _)]
            have hnew := lrn_ref (e := fE i) (mx := mxx) (v := v) (hB i (by omega)) c_13 (s := (if mxx < v then mxx < fE i else fE i < mxx)) (o := (if mxx < v then fE i < mxx else mxx < fE i)) Iff.rfl Iff.rfl
            refine lv_aload_n hx hb dX11_learn_142 rfl (lv_at hl 3 rfl) ?_
            refine va_get (D := G.1) (ci := 10) (v := .ref mW) (C := RX11) (T := TX11) (N := 32) hx hb hts hin_X11_learn_11 hown hK.1 hP 0 rfl rfl 8 (by decide) (hts (.fieldLink RX11 13 "MixedPredictModel" "weights" "[I") (List.mem_cons_of_mem _ (List.mem_append_left _ (List.mem_of_getElem? (i := 2) rfl)))) (fun _ h9 => h9) rfl dX11_learn_143 ?_
            refine lv_iload_n hx hb dX11_learn_146 rfl (lv_at hl 5 rfl) ?_
            refine lv_iload hx hb dX11_learn_147 (lv_at hl 0 rfl) ?_
            refine lv_sipush (v := 1024) hx hb dX11_learn_149 (by decide) ?_
            refine x_join (α := (Int32)) (fun z9 => F0 mZ 175 ls [.int z9, .int (nI i), .ref mW]) (fun z9 => (z9 = lrn1 (W i) (fE i) mxx v)) (fun z9 hJ9 => ?_) (fun hj_5 => ?_)
            · obtain ⟨v9, rfl⟩ : ∃ z, z = z9 := ⟨_, rfl⟩
              have hj9 := hJ9
              have hj9 : v9 = lrn1 (W i) (fE i) mxx v := hj9
              subst hj9
              refine x_iast (i := i) hx hb hK.1 hP hD hS 1 0 rfl rfl (by omega) (by omega) dX11_learn_175 (fun H locs hP hD hS => ?_)
              have hP : va_P G.1 vwCl [(mo, .inr (10, [.int code, .int (nI w), .int (nI h), .int (nI b), .int (nI c), .int (nI md), .int (nI (2 * md)), .ref mS, .ref mW, .ref mF, .ref mG, .ref mH, .ref mA, .ref kW, .ref kF, .ref kG, .ref kH, .ref mE, .ref mL, .ref mO, .int oc, .ref mC, .int cc, .ref mR, .int rc, .long low, .long hig, .long wrd, .int wrs, .int frm, .int enn, .int mxx])), (mW, .inl (G.2.1, 9, .inl (upd g i (lrn1 (W i) (fE i) mxx v)))), (mE, .inl (G.2.1, 9, .inl fE))] H := hP
              have hD : va_D A [(mo, .inr (10, [.int code, .int (nI w), .int (nI h), .int (nI b), .int (nI c), .int (nI md), .int (nI (2 * md)), .ref mS, .ref mW, .ref mF, .ref mG, .ref mH, .ref mA, .ref kW, .ref kF, .ref kG, .ref kH, .ref mE, .ref mL, .ref mO, .int oc, .ref mC, .int cc, .ref mR, .int rc, .long low, .long hig, .long wrd, .int wrs, .int frm, .int enn, .int mxx])), (mW, .inl (G.2.1, 9, .inl (upd g i (lrn1 (W i) (fE i) mxx v)))), (mE, .inl (G.2.1, 9, .inl fE))] := hD
              have hstep : ∀ j, j < 9 → upd g i (lrn1 (W i) (fE i) mxx v) j = if j < i + 1 then lrnW W e mxx v j else W j := by
                intro j hj
                by_cases hji : j = i
                · rw [hji, pk_us, if_pos (Nat.lt_succ_self i), lrnW, if_neg c_13, hE i (by omega)]
                · rw [pk_un hji, hI.2 j hj]; exact ite_lt_succ hji _ _
              refine lv_iinc (v := nI (i + 1)) (lv' := [(2, .int (nI (i + 1))), (5, .int ((g i) + (if (if mxx < v then mxx < fE i else fE i < mxx) then 8 else if (if mxx < v then fE i < mxx else mxx < fE i) then -8 else 0))), (4, .int (if (if mxx < v then fE i < mxx else mxx < fE i) then 1 else 0)), (3, .int (if (if mxx < v then mxx < fE i else fE i < mxx) then 1 else 0)), (0, .ref mo), (1, .int v)]) hx hb dX11_learn_176 hl (k := 5) rfl (by first | rfl | exact nI_add _ _) (by decide) rfl (fun ls hl => ?_)
              refine lv_goto (tgt := 2) hx hb dX11_learn_179 (by decide) ?_
              exact ih_1 (i + 1, upd g i (lrn1 (W i) (fE i) mxx v), ls) _ _ (show 9 - (i + 1) < 9 - i from by omega) ⟨(show (i + 1) ≤ 9 ∧ ∀ j, j < 9 → (upd g i (lrn1 (W i) (fE i) mxx v)) j = if j < (i + 1) then lrnW W e mxx v j else W j from ⟨by omega, hstep⟩), lv_sub hl [4, 5, 0] rfl, hP, hD, hS⟩
            · skip
              refine lv_icmp_le (tgt := 161) hx hb dX11_learn_152 (by decide) (fun c_152 => ?_) (fun c_152 => ?_)
              · skip
                refine lv_iload hx hb dX11_learn_161 (lv_at hl 0 rfl) ?_
                refine lv_bipush (v := 8) hx hb dX11_learn_163 (by decide) ?_
                refine lv_icmp_ge (tgt := 173) hx hb dX11_learn_165 (by decide) (fun c_165 => ?_) (fun c_165 => ?_)
                · skip
                  refine lv_iload hx hb dX11_learn_173 (lv_at hl 0 rfl) ?_
                  exact hj_5 ((g i) + (if (if mxx < v then mxx < fE i else fE i < mxx) then 8 else if (if mxx < v then fE i < mxx else mxx < fE i) then -8 else 0)) ((show ((g i) + (if (if mxx < v then mxx < fE i else fE i < mxx) then 8 else if (if mxx < v then fE i < mxx else mxx < fE i) then -8 else 0)) = lrn1 (W i) (fE i) mxx v from by rw [← hnew, ← hgi, if_neg (Int32.not_lt.mpr c_152), if_neg (Int32.not_lt.mpr c_165)]))
                · skip
                  refine lv_bipush (v := 8) hx hb dX11_learn_168 (by decide) ?_
                  refine lv_goto (tgt := 175) hx hb dX11_learn_170 (by decide) ?_
                  exact hj_5 8 ((show 8 = lrn1 (W i) (fE i) mxx v from by rw [← hnew, ← hgi, if_neg (Int32.not_lt.mpr c_152), if_pos (Int32.not_le.mp c_165)]))
              · skip
                refine lv_sipush (v := 1024) hx hb dX11_learn_155 (by decide) ?_
                refine lv_goto (tgt := 175) hx hb dX11_learn_158 (by decide) ?_
                exact hj_5 1024 ((show 1024 = lrn1 (W i) (fE i) mxx v from by rw [← hnew, ← hgi, if_pos (Int32.not_le.mp c_152)]))
          · skip
            refine lv_if_eq (tgt := 128) hx hb dX11_learn_120 (by decide) (fun c_120 => ?_) (fun c_120 => ?_)
            · skip
              have c_120 := x_b0.mp c_120
              refine lv_iload hx hb dX11_learn_128 (lv_at hl 0 rfl) ?_
              refine lv_if_eq (tgt := 138) hx hb dX11_learn_130 (by decide) (fun c_130 => ?_) (fun c_130 => ?_)
              · skip
                have c_130 := x_b0.mp c_130
                refine lv_iconst (v := 0) hx hb dX11_learn_138 (by decide) ?_
                exact hj_4 0 ((show 0 = if (if mxx < v then mxx < fE i else fE i < mxx) then 8 else if (if mxx < v then fE i < mxx else mxx < fE i) then -8 else 0 from by rw [if_neg c_120, if_neg c_130]))
              · skip
                have c_130 := Decidable.not_not.mp (fun z8 => c_130 (x_b0.mpr z8))
                refine lv_bipush (v := (-8)) hx hb dX11_learn_133 (by decide) ?_
                refine lv_goto (tgt := 139) hx hb dX11_learn_135 (by decide) ?_
                exact hj_4 (-8) ((show ((-8)) = if (if mxx < v then mxx < fE i else fE i < mxx) then 8 else if (if mxx < v then fE i < mxx else mxx < fE i) then -8 else 0 from by rw [if_neg c_120, if_pos c_130]))
            · skip
              have c_120 := Decidable.not_not.mp (fun z8 => c_120 (x_b0.mpr z8))
              refine lv_bipush (v := 8) hx hb dX11_learn_123 (by decide) ?_
              refine lv_goto (tgt := 139) hx hb dX11_learn_125 (by decide) ?_
              exact hj_4 8 ((show 8 = if (if mxx < v then mxx < fE i else fE i < mxx) then 8 else if (if mxx < v then fE i < mxx else mxx < fE i) then -8 else 0 from by rw [if_pos c_120]))
        · skip
          refine lv_icmp_le (tgt := 93) hx hb dX11_learn_69 (by decide) (fun c_69 => ?_) (fun c_69 => ?_)
          · skip
            refine lv_aload_n hx hb dX11_learn_93 rfl (lv_at hl 1 rfl) ?_
            refine va_get (D := G.1) (ci := 10) (v := .ref mE) (C := RX11) (T := TX11) (N := 32) hx hb hts hin_X11_learn_11 hown hK.1 hP 0 rfl rfl 17 (by decide) (hts (.fieldLink RX11 40 "MixedPredictModel" "expected" "[I") (List.mem_cons_of_mem _ (List.mem_append_left _ (List.mem_of_getElem? (i := 1) rfl)))) (fun _ h9 => h9) rfl dX11_learn_94 ?_
            refine lv_iload_n hx hb dX11_learn_97 rfl (lv_at hl 3 rfl) ?_
            refine x_iald (i := i) hx hb hK.1 hP 2 0 rfl rfl (by omega) (by omega) dX11_learn_98 ?_
            refine lv_aload_n hx hb dX11_learn_99 rfl (lv_at hl 1 rfl) ?_
            refine va_get (D := G.1) (ci := 10) (v := .int mxx) (C := RX11) (T := TX11) (N := 32) hx hb hts hin_X11_learn_11 hown hK.1 hP 0 rfl rfl 31 (by decide) (hts (.fieldLink RX11 120 "MixedPredictModel" "mixed" "I") (List.mem_cons_of_mem _ (List.mem_append_left _ (List.mem_of_getElem? (i := 0) rfl)))) (fun _ h9 => h9) rfl dX11_learn_100 ?_
            refine lv_icmp_le (tgt := 110) hx hb dX11_learn_103 (by decide) (fun c_103 => ?_) (fun c_103 => ?_)
            · skip
              refine lv_iconst (v := 0) hx hb dX11_learn_110 (by decide) ?_
              exact hj_3 0 ((show 0 = if (if mxx < v then fE i < mxx else mxx < fE i) then 1 else 0 from by rw [if_neg (by rw [if_neg (Int32.not_lt.mpr c_69)]; exact Int32.not_lt.mpr c_103)]))
            · skip
              refine lv_iconst (v := 1) hx hb dX11_learn_106 (by decide) ?_
              refine lv_goto (tgt := 111) hx hb dX11_learn_107 (by decide) ?_
              exact hj_3 1 ((show 1 = if (if mxx < v then fE i < mxx else mxx < fE i) then 1 else 0 from by rw [if_pos (by rw [if_neg (Int32.not_lt.mpr c_69)]; exact Int32.not_le.mp c_103)]))
          · skip
            refine lv_aload_n hx hb dX11_learn_72 rfl (lv_at hl 1 rfl) ?_
            refine va_get (D := G.1) (ci := 10) (v := .ref mE) (C := RX11) (T := TX11) (N := 32) hx hb hts hin_X11_learn_11 hown hK.1 hP 0 rfl rfl 17 (by decide) (hts (.fieldLink RX11 40 "MixedPredictModel" "expected" "[I") (List.mem_cons_of_mem _ (List.mem_append_left _ (List.mem_of_getElem? (i := 1) rfl)))) (fun _ h9 => h9) rfl dX11_learn_73 ?_
            refine lv_iload_n hx hb dX11_learn_76 rfl (lv_at hl 3 rfl) ?_
            refine x_iald (i := i) hx hb hK.1 hP 2 0 rfl rfl (by omega) (by omega) dX11_learn_77 ?_
            refine lv_aload_n hx hb dX11_learn_78 rfl (lv_at hl 1 rfl) ?_
            refine va_get (D := G.1) (ci := 10) (v := .int mxx) (C := RX11) (T := TX11) (N := 32) hx hb hts hin_X11_learn_11 hown hK.1 hP 0 rfl rfl 31 (by decide) (hts (.fieldLink RX11 120 "MixedPredictModel" "mixed" "I") (List.mem_cons_of_mem _ (List.mem_append_left _ (List.mem_of_getElem? (i := 0) rfl)))) (fun _ h9 => h9) rfl dX11_learn_79 ?_
            refine lv_icmp_ge (tgt := 89) hx hb dX11_learn_82 (by decide) (fun c_82 => ?_) (fun c_82 => ?_)
            · skip
              refine lv_iconst (v := 0) hx hb dX11_learn_89 (by decide) ?_
              refine lv_goto (tgt := 111) hx hb dX11_learn_90 (by decide) ?_
              exact hj_3 0 ((show 0 = if (if mxx < v then fE i < mxx else mxx < fE i) then 1 else 0 from by rw [if_neg (by rw [if_pos (Int32.not_le.mp c_69)]; exact Int32.not_lt.mpr c_82)]))
            · skip
              refine lv_iconst (v := 1) hx hb dX11_learn_85 (by decide) ?_
              refine lv_goto (tgt := 111) hx hb dX11_learn_86 (by decide) ?_
              exact hj_3 1 ((show 1 = if (if mxx < v then fE i < mxx else mxx < fE i) then 1 else 0 from by rw [if_pos (by rw [if_pos (Int32.not_le.mp c_69)]; exact Int32.not_le.mp c_82)]))
      · skip
        refine lv_icmp_le (tgt := 45) hx hb dX11_learn_21 (by decide) (fun c_21 => ?_) (fun c_21 => ?_)
        · skip
          refine lv_aload_n hx hb dX11_learn_45 rfl (lv_at hl 0 rfl) ?_
          refine va_get (D := G.1) (ci := 10) (v := .ref mE) (C := RX11) (T := TX11) (N := 32) hx hb hts hin_X11_learn_11 hown hK.1 hP 0 rfl rfl 17 (by decide) (hts (.fieldLink RX11 40 "MixedPredictModel" "expected" "[I") (List.mem_cons_of_mem _ (List.mem_append_left _ (List.mem_of_getElem? (i := 1) rfl)))) (fun _ h9 => h9) rfl dX11_learn_46 ?_
          refine lv_iload_n hx hb dX11_learn_49 rfl (lv_at hl 2 rfl) ?_
          refine x_iald (i := i) hx hb hK.1 hP 2 0 rfl rfl (by omega) (by omega) dX11_learn_50 ?_
          refine lv_aload_n hx hb dX11_learn_51 rfl (lv_at hl 0 rfl) ?_
          refine va_get (D := G.1) (ci := 10) (v := .int mxx) (C := RX11) (T := TX11) (N := 32) hx hb hts hin_X11_learn_11 hown hK.1 hP 0 rfl rfl 31 (by decide) (hts (.fieldLink RX11 120 "MixedPredictModel" "mixed" "I") (List.mem_cons_of_mem _ (List.mem_append_left _ (List.mem_of_getElem? (i := 0) rfl)))) (fun _ h9 => h9) rfl dX11_learn_52 ?_
          refine lv_icmp_ge (tgt := 62) hx hb dX11_learn_55 (by decide) (fun c_55 => ?_) (fun c_55 => ?_)
          · skip
            refine lv_iconst (v := 0) hx hb dX11_learn_62 (by decide) ?_
            exact hj_2 0 ((show 0 = if (if mxx < v then mxx < fE i else fE i < mxx) then 1 else 0 from by rw [if_neg (by rw [if_neg (Int32.not_lt.mpr c_21)]; exact Int32.not_lt.mpr c_55)]))
          · skip
            refine lv_iconst (v := 1) hx hb dX11_learn_58 (by decide) ?_
            refine lv_goto (tgt := 63) hx hb dX11_learn_59 (by decide) ?_
            exact hj_2 1 ((show 1 = if (if mxx < v then mxx < fE i else fE i < mxx) then 1 else 0 from by rw [if_pos (by rw [if_neg (Int32.not_lt.mpr c_21)]; exact Int32.not_le.mp c_55)]))
        · skip
          refine lv_aload_n hx hb dX11_learn_24 rfl (lv_at hl 0 rfl) ?_
          refine va_get (D := G.1) (ci := 10) (v := .ref mE) (C := RX11) (T := TX11) (N := 32) hx hb hts hin_X11_learn_11 hown hK.1 hP 0 rfl rfl 17 (by decide) (hts (.fieldLink RX11 40 "MixedPredictModel" "expected" "[I") (List.mem_cons_of_mem _ (List.mem_append_left _ (List.mem_of_getElem? (i := 1) rfl)))) (fun _ h9 => h9) rfl dX11_learn_25 ?_
          refine lv_iload_n hx hb dX11_learn_28 rfl (lv_at hl 2 rfl) ?_
          refine x_iald (i := i) hx hb hK.1 hP 2 0 rfl rfl (by omega) (by omega) dX11_learn_29 ?_
          refine lv_aload_n hx hb dX11_learn_30 rfl (lv_at hl 0 rfl) ?_
          refine va_get (D := G.1) (ci := 10) (v := .int mxx) (C := RX11) (T := TX11) (N := 32) hx hb hts hin_X11_learn_11 hown hK.1 hP 0 rfl rfl 31 (by decide) (hts (.fieldLink RX11 120 "MixedPredictModel" "mixed" "I") (List.mem_cons_of_mem _ (List.mem_append_left _ (List.mem_of_getElem? (i := 0) rfl)))) (fun _ h9 => h9) rfl dX11_learn_31 ?_
          refine lv_icmp_le (tgt := 41) hx hb dX11_learn_34 (by decide) (fun c_34 => ?_) (fun c_34 => ?_)
          · skip
            refine lv_iconst (v := 0) hx hb dX11_learn_41 (by decide) ?_
            refine lv_goto (tgt := 63) hx hb dX11_learn_42 (by decide) ?_
            exact hj_2 0 ((show 0 = if (if mxx < v then mxx < fE i else fE i < mxx) then 1 else 0 from by rw [if_neg (by rw [if_pos (Int32.not_le.mp c_21)]; exact Int32.not_lt.mpr c_34)]))
          · skip
            refine lv_iconst (v := 1) hx hb dX11_learn_37 (by decide) ?_
            refine lv_goto (tgt := 63) hx hb dX11_learn_38 (by decide) ?_
            exact hj_2 1 ((show 1 = if (if mxx < v then mxx < fE i else fE i < mxx) then 1 else 0 from by rw [if_pos (by rw [if_pos (Int32.not_le.mp c_21)]; exact Int32.not_le.mp c_34)]))

set_option maxHeartbeats 4000000 in
set_option maxRecDepth 100000 in
theorem c_X11_begin (l : Launch) (G : GG) (mo mS mW mF mG mH mA kW kF kG kH mE mL mO mC mR : Nat) (w h b c md : Nat) (hd : DIM w h b c md) (code oc cc rc wrs frm enn mxx : Int32) (low hig wrd : Int64) (fW f1 f2 fh fp : Nat → Int32)  (sz : Nat) : Met l yX11_begin wsX11_begin ({ frames := 0, cells := 0, slots := 0, locals := 0 } : Room) (w_Pc G [.ref mo] sz [(mo, .inr (10, [.int code, .int (nI w), .int (nI h), .int (nI b), .int (nI c), .int (nI md), .int (nI (2 * md)), .ref mS, .ref mW, .ref mF, .ref mG, .ref mH, .ref mA, .ref kW, .ref kF, .ref kG, .ref kH, .ref mE, .ref mL, .ref mO, .int oc, .ref mC, .int cc, .ref mR, .int rc, .long low, .long hig, .long wrd, .int wrs, .int frm, .int enn, .int mxx])), (mW, .inl (G.2.1, 9, .inl fW)), (mF, .inl (G.2.1, 3072, .inl f1)), (mG, .inl (G.2.1, 3072, .inl f2)), (mH, .inl (G.2.1, 3, .inl fh)), (mA, .inl (G.2.1, 3, .inl fp))]) (w_Qv G (va_A [(mo, .inr (10, [.int code, .int (nI w), .int (nI h), .int (nI b), .int (nI c), .int (nI md), .int (nI (2 * md)), .ref mS, .ref mW, .ref mF, .ref mG, .ref mH, .ref mA, .ref kW, .ref kF, .ref kG, .ref kH, .ref mE, .ref mL, .ref mO, .int oc, .ref mC, .int cc, .ref mR, .int rc, .long low, .long hig, .long wrd, .int wrs, .int frm, .int enn, .int mxx])), (mW, .inl (G.2.1, 9, .inl fW)), (mF, .inl (G.2.1, 3072, .inl f1)), (mG, .inl (G.2.1, 3072, .inl f2)), (mH, .inl (G.2.1, 3, .inl fh)), (mA, .inl (G.2.1, 3, .inl fp))] sz) (fun (_ : Unit) => [(mo, .inr (10, [.int code, .int (nI w), .int (nI h), .int (nI b), .int (nI c), .int (nI md), .int (nI (2 * md)), .ref mS, .ref mW, .ref mF, .ref mG, .ref mH, .ref mA, .ref kW, .ref kF, .ref kG, .ref kH, .ref mE, .ref mL, .ref mO, .int oc, .ref mC, .int cc, .ref mR, .int rc, .long low, .long hig, .long wrd, .int wrs, .int frm, .int enn, .int mxx])), (mW, .inl (G.2.1, 9, .inl (fillN 9 256 fW))), (mF, .inl (G.2.1, 3072, .inl (fillN 3072 32768 f1))), (mG, .inl (G.2.1, 3072, .inl (fillN 3072 32768 f2))), (mH, .inl (G.2.1, 3, .inl (fillN 3 32 fh))), (mA, .inl (G.2.1, 3, .inl (fillN 3 0 fp)))]) (fun (_ : Unit) => True)) 0 0 (va_A [(mo, .inr (10, [.int code, .int (nI w), .int (nI h), .int (nI b), .int (nI c), .int (nI md), .int (nI (2 * md)), .ref mS, .ref mW, .ref mF, .ref mG, .ref mH, .ref mA, .ref kW, .ref kF, .ref kG, .ref kH, .ref mE, .ref mL, .ref mO, .int oc, .ref mC, .int cc, .ref mR, .int rc, .long low, .long hig, .long wrd, .int wrs, .int frm, .int enn, .int mxx])), (mW, .inl (G.2.1, 9, .inl fW)), (mF, .inl (G.2.1, 3072, .inl f1)), (mG, .inl (G.2.1, 3072, .inl f2)), (mH, .inl (G.2.1, 3, .inl fh)), (mA, .inl (G.2.1, 3, .inl fp))] sz) := by
  refine w_ofW (y := yX11_begin) (ws := wsX11_begin) (rm := ({ frames := 0, cells := 0, slots := 0, locals := 0 } : Room)) (av := [.ref mo]) (WC := [(mo, .inr (10, [.int code, .int (nI w), .int (nI h), .int (nI b), .int (nI c), .int (nI md), .int (nI (2 * md)), .ref mS, .ref mW, .ref mF, .ref mG, .ref mH, .ref mA, .ref kW, .ref kF, .ref kG, .ref kH, .ref mE, .ref mL, .ref mO, .int oc, .ref mC, .int cc, .ref mR, .int rc, .long low, .long hig, .long wrd, .int wrs, .int frm, .int enn, .int mxx])), (mW, .inl (G.2.1, 9, .inl fW)), (mF, .inl (G.2.1, 3072, .inl f1)), (mG, .inl (G.2.1, 3072, .inl f2)), (mH, .inl (G.2.1, 3, .inl fh)), (mA, .inl (G.2.1, 3, .inl fp))]) (mc := 0) (ms := 0) (Qf := fun A => w_Qv G A (fun (_ : Unit) => [(mo, .inr (10, [.int code, .int (nI w), .int (nI h), .int (nI b), .int (nI c), .int (nI md), .int (nI (2 * md)), .ref mS, .ref mW, .ref mF, .ref mG, .ref mH, .ref mA, .ref kW, .ref kF, .ref kG, .ref kH, .ref mE, .ref mL, .ref mO, .int oc, .ref mC, .int cc, .ref mR, .int rc, .long low, .long hig, .long wrd, .int wrs, .int frm, .int enn, .int mxx])), (mW, .inl (G.2.1, 9, .inl (fillN 9 256 fW))), (mF, .inl (G.2.1, 3072, .inl (fillN 3072 32768 f1))), (mG, .inl (G.2.1, 3072, .inl (fillN 3072 32768 f2))), (mH, .inl (G.2.1, 3, .inl (fillN 3 32 fh))), (mA, .inl (G.2.1, 3, .inl (fillN 3 0 fp)))]) (fun (_ : Unit) => True)) (cc := cX11_begin) (maxL := 2) (ret := none) (by decide) rfl (Nat.le_of_ble_eq_true rfl) ?_
  intro pZ eZ sZ mZ bZ tZ cZ A hx hb hr hts hown hlocks hml hnm hK hA H locs hP hD hS ls hl
  have hown : sZ.vm.findClass RX11 = some mZ.cls := hown
  have hl : lv_has ls 2 [(0, .ref mo)] := hl
  refine lv_iconst (v := 0) hx hb dX11_begin_0 (by decide) ?_
  refine lv_istore_n (lv' := [(1, .int 0), (0, .ref mo)]) hx hb dX11_begin_1 rfl hl (by decide) rfl (fun ls hl => ?_)
  refine x_loop (α := (Nat) × (Nat → Int32) × (Array Slot)) (fun z9 => F0 mZ 2 z9.2.2 []) (fun z9 H locs => ((z9.1) ≤ 9 ∧ (z9.2.1) = fillN (z9.1) 256 fW) ∧ lv_has z9.2.2 2 [(0, .ref mo), (1, .int (nI (z9.1)))] ∧ va_P G.1 vwCl [(mo, .inr (10, [.int code, .int (nI w), .int (nI h), .int (nI b), .int (nI c), .int (nI md), .int (nI (2 * md)), .ref mS, .ref mW, .ref mF, .ref mG, .ref mH, .ref mA, .ref kW, .ref kF, .ref kG, .ref kH, .ref mE, .ref mL, .ref mO, .int oc, .ref mC, .int cc, .ref mR, .int rc, .long low, .long hig, .long wrd, .int wrs, .int frm, .int enn, .int mxx])), (mW, .inl (G.2.1, 9, .inl (z9.2.1))), (mF, .inl (G.2.1, 3072, .inl f1)), (mG, .inl (G.2.1, 3072, .inl f2)), (mH, .inl (G.2.1, 3, .inl fh)), (mA, .inl (G.2.1, 3, .inl fp))] H ∧ va_D A [(mo, .inr (10, [.int code, .int (nI w), .int (nI h), .int (nI b), .int (nI c), .int (nI md), .int (nI (2 * md)), .ref mS, .ref mW, .ref mF, .ref mG, .ref mH, .ref mA, .ref kW, .ref kF, .ref kG, .ref kH, .ref mE, .ref mL, .ref mO, .int oc, .ref mC, .int cc, .ref mR, .int rc, .long low, .long hig, .long wrd, .int wrs, .int frm, .int enn, .int mxx])), (mW, .inl (G.2.1, 9, .inl (z9.2.1))), (mF, .inl (G.2.1, 3072, .inl f1)), (mG, .inl (G.2.1, 3072, .inl f2)), (mH, .inl (G.2.1, 3, .inl fh)), (mA, .inl (G.2.1, 3, .inl fp))] ∧ va_S A sZ.heap H locs) (fun z9 => 9 - (z9.1)) (fun z9 H locs hI ih_1 => ?_) (0, fW, ls) _ _ ⟨(show 0 ≤ 9 ∧ fW = fillN 0 256 fW from ⟨Nat.zero_le _, (fillN_0 _ _).symm⟩), lv_sub hl [1, 0] rfl, hP, hD, hS⟩
  obtain ⟨i, g, ls⟩ := z9
  obtain ⟨hI, hl, hP, hD, hS⟩ := hI
  have hI : i ≤ 9 ∧ g = fillN i 256 fW := hI
  have hl : lv_has ls 2 [(0, .ref mo), (1, .int (nI i))] := hl
  have hP : va_P G.1 vwCl [(mo, .inr (10, [.int code, .int (nI w), .int (nI h), .int (nI b), .int (nI c), .int (nI md), .int (nI (2 * md)), .ref mS, .ref mW, .ref mF, .ref mG, .ref mH, .ref mA, .ref kW, .ref kF, .ref kG, .ref kH, .ref mE, .ref mL, .ref mO, .int oc, .ref mC, .int cc, .ref mR, .int rc, .long low, .long hig, .long wrd, .int wrs, .int frm, .int enn, .int mxx])), (mW, .inl (G.2.1, 9, .inl g)), (mF, .inl (G.2.1, 3072, .inl f1)), (mG, .inl (G.2.1, 3072, .inl f2)), (mH, .inl (G.2.1, 3, .inl fh)), (mA, .inl (G.2.1, 3, .inl fp))] H := hP
  have hD : va_D A [(mo, .inr (10, [.int code, .int (nI w), .int (nI h), .int (nI b), .int (nI c), .int (nI md), .int (nI (2 * md)), .ref mS, .ref mW, .ref mF, .ref mG, .ref mH, .ref mA, .ref kW, .ref kF, .ref kG, .ref kH, .ref mE, .ref mL, .ref mO, .int oc, .ref mC, .int cc, .ref mR, .int rc, .long low, .long hig, .long wrd, .int wrs, .int frm, .int enn, .int mxx])), (mW, .inl (G.2.1, 9, .inl g)), (mF, .inl (G.2.1, 3072, .inl f1)), (mG, .inl (G.2.1, 3072, .inl f2)), (mH, .inl (G.2.1, 3, .inl fh)), (mA, .inl (G.2.1, 3, .inl fp))] := hD
  refine lv_iload_n hx hb dX11_begin_2 rfl (lv_at hl 1 rfl) ?_
  refine lv_bipush (v := 9) hx hb dX11_begin_3 (by decide) ?_
  refine lv_icmp_ge (tgt := 23) hx hb dX11_begin_5 (by decide) (fun c_5 => ?_) (fun c_5 => ?_)
  · skip
    have c_5 : 9 ≤ i := (nI_leI (a := 9) (b := i) (by omega) (by omega)).mp c_5
    have hfe : (fillN 9 256 fW) = g := Eq.symm (by rw [hI.2, show i = 9 by omega])
    have hP : va_P G.1 vwCl [(mo, .inr (10, [.int code, .int (nI w), .int (nI h), .int (nI b), .int (nI c), .int (nI md), .int (nI (2 * md)), .ref mS, .ref mW, .ref mF, .ref mG, .ref mH, .ref mA, .ref kW, .ref kF, .ref kG, .ref kH, .ref mE, .ref mL, .ref mO, .int oc, .ref mC, .int cc, .ref mR, .int rc, .long low, .long hig, .long wrd, .int wrs, .int frm, .int enn, .int mxx])), (mW, .inl (G.2.1, 9, .inl (fillN 9 256 fW))), (mF, .inl (G.2.1, 3072, .inl f1)), (mG, .inl (G.2.1, 3072, .inl f2)), (mH, .inl (G.2.1, 3, .inl fh)), (mA, .inl (G.2.1, 3, .inl fp))] H := by rw [hfe]; exact hP
    have hD : va_D A [(mo, .inr (10, [.int code, .int (nI w), .int (nI h), .int (nI b), .int (nI c), .int (nI md), .int (nI (2 * md)), .ref mS, .ref mW, .ref mF, .ref mG, .ref mH, .ref mA, .ref kW, .ref kF, .ref kG, .ref kH, .ref mE, .ref mL, .ref mO, .int oc, .ref mC, .int cc, .ref mR, .int rc, .long low, .long hig, .long wrd, .int wrs, .int frm, .int enn, .int mxx])), (mW, .inl (G.2.1, 9, .inl (fillN 9 256 fW))), (mF, .inl (G.2.1, 3072, .inl f1)), (mG, .inl (G.2.1, 3072, .inl f2)), (mH, .inl (G.2.1, 3, .inl fh)), (mA, .inl (G.2.1, 3, .inl fp))] := by rw [hfe]; exact hD
    clear hfe
    refine lv_iconst (v := 0) hx hb dX11_begin_23 (by decide) ?_
    refine lv_istore_n (lv' := [(1, .int 0), (0, .ref mo)]) hx hb dX11_begin_24 rfl hl (by decide) rfl (fun ls hl => ?_)
    refine x_loop (α := (Nat) × (Nat → Int32) × (Nat → Int32) × (Array Slot)) (fun z9 => F0 mZ 25 z9.2.2.2 []) (fun z9 H locs => ((z9.1) ≤ 3072 ∧ (z9.2.1) = fillN (z9.1) 32768 f1 ∧ (z9.2.2.1) = fillN (z9.1) 32768 f2) ∧ lv_has z9.2.2.2 2 [(0, .ref mo), (1, .int (nI (z9.1)))] ∧ va_P G.1 vwCl [(mo, .inr (10, [.int code, .int (nI w), .int (nI h), .int (nI b), .int (nI c), .int (nI md), .int (nI (2 * md)), .ref mS, .ref mW, .ref mF, .ref mG, .ref mH, .ref mA, .ref kW, .ref kF, .ref kG, .ref kH, .ref mE, .ref mL, .ref mO, .int oc, .ref mC, .int cc, .ref mR, .int rc, .long low, .long hig, .long wrd, .int wrs, .int frm, .int enn, .int mxx])), (mW, .inl (G.2.1, 9, .inl (fillN 9 256 fW))), (mF, .inl (G.2.1, 3072, .inl (z9.2.1))), (mG, .inl (G.2.1, 3072, .inl (z9.2.2.1))), (mH, .inl (G.2.1, 3, .inl fh)), (mA, .inl (G.2.1, 3, .inl fp))] H ∧ va_D A [(mo, .inr (10, [.int code, .int (nI w), .int (nI h), .int (nI b), .int (nI c), .int (nI md), .int (nI (2 * md)), .ref mS, .ref mW, .ref mF, .ref mG, .ref mH, .ref mA, .ref kW, .ref kF, .ref kG, .ref kH, .ref mE, .ref mL, .ref mO, .int oc, .ref mC, .int cc, .ref mR, .int rc, .long low, .long hig, .long wrd, .int wrs, .int frm, .int enn, .int mxx])), (mW, .inl (G.2.1, 9, .inl (fillN 9 256 fW))), (mF, .inl (G.2.1, 3072, .inl (z9.2.1))), (mG, .inl (G.2.1, 3072, .inl (z9.2.2.1))), (mH, .inl (G.2.1, 3, .inl fh)), (mA, .inl (G.2.1, 3, .inl fp))] ∧ va_S A sZ.heap H locs) (fun z9 => 3072 - (z9.1)) (fun z9 H locs hI ih_2 => ?_) (0, f1, f2, ls) _ _ ⟨(show 0 ≤ 3072 ∧ f1 = fillN 0 32768 f1 ∧ f2 = fillN 0 32768 f2 from ⟨Nat.zero_le _, (fillN_0 _ _).symm, (fillN_0 _ _).symm⟩), lv_sub hl [1, 0] rfl, hP, hD, hS⟩
    obtain ⟨i2, g2, g3, ls⟩ := z9
    obtain ⟨hI, hl, hP, hD, hS⟩ := hI
    have hI : i2 ≤ 3072 ∧ g2 = fillN i2 32768 f1 ∧ g3 = fillN i2 32768 f2 := hI
    have hl : lv_has ls 2 [(0, .ref mo), (1, .int (nI i2))] := hl
    have hP : va_P G.1 vwCl [(mo, .inr (10, [.int code, .int (nI w), .int (nI h), .int (nI b), .int (nI c), .int (nI md), .int (nI (2 * md)), .ref mS, .ref mW, .ref mF, .ref mG, .ref mH, .ref mA, .ref kW, .ref kF, .ref kG, .ref kH, .ref mE, .ref mL, .ref mO, .int oc, .ref mC, .int cc, .ref mR, .int rc, .long low, .long hig, .long wrd, .int wrs, .int frm, .int enn, .int mxx])), (mW, .inl (G.2.1, 9, .inl (fillN 9 256 fW))), (mF, .inl (G.2.1, 3072, .inl g2)), (mG, .inl (G.2.1, 3072, .inl g3)), (mH, .inl (G.2.1, 3, .inl fh)), (mA, .inl (G.2.1, 3, .inl fp))] H := hP
    have hD : va_D A [(mo, .inr (10, [.int code, .int (nI w), .int (nI h), .int (nI b), .int (nI c), .int (nI md), .int (nI (2 * md)), .ref mS, .ref mW, .ref mF, .ref mG, .ref mH, .ref mA, .ref kW, .ref kF, .ref kG, .ref kH, .ref mE, .ref mL, .ref mO, .int oc, .ref mC, .int cc, .ref mR, .int rc, .long low, .long hig, .long wrd, .int wrs, .int frm, .int enn, .int mxx])), (mW, .inl (G.2.1, 9, .inl (fillN 9 256 fW))), (mF, .inl (G.2.1, 3072, .inl g2)), (mG, .inl (G.2.1, 3072, .inl g3)), (mH, .inl (G.2.1, 3, .inl fh)), (mA, .inl (G.2.1, 3, .inl fp))] := hD
    refine lv_iload_n hx hb dX11_begin_25 rfl (lv_at hl 1 rfl) ?_
    refine lv_sipush (v := 3072) hx hb dX11_begin_26 (by decide) ?_
    refine lv_icmp_ge (tgt := 54) hx hb dX11_begin_29 (by decide) (fun c_29 => ?_) (fun c_29 => ?_)
    · skip
      have c_29 : 3072 ≤ i2 := (nI_leI (a := 3072) (b := i2) (by omega) (by omega)).mp c_29
      have hfe : (fillN 3072 32768 f1) = g2 := Eq.symm (by rw [hI.2.1, show i2 = 3072 by omega])
      have hP : va_P G.1 vwCl [(mo, .inr (10, [.int code, .int (nI w), .int (nI h), .int (nI b), .int (nI c), .int (nI md), .int (nI (2 * md)), .ref mS, .ref mW, .ref mF, .ref mG, .ref mH, .ref mA, .ref kW, .ref kF, .ref kG, .ref kH, .ref mE, .ref mL, .ref mO, .int oc, .ref mC, .int cc, .ref mR, .int rc, .long low, .long hig, .long wrd, .int wrs, .int frm, .int enn, .int mxx])), (mW, .inl (G.2.1, 9, .inl (fillN 9 256 fW))), (mF, .inl (G.2.1, 3072, .inl (fillN 3072 32768 f1))), (mG, .inl (G.2.1, 3072, .inl g3)), (mH, .inl (G.2.1, 3, .inl fh)), (mA, .inl (G.2.1, 3, .inl fp))] H := by rw [hfe]; exact hP
      have hD : va_D A [(mo, .inr (10, [.int code, .int (nI w), .int (nI h), .int (nI b), .int (nI c), .int (nI md), .int (nI (2 * md)), .ref mS, .ref mW, .ref mF, .ref mG, .ref mH, .ref mA, .ref kW, .ref kF, .ref kG, .ref kH, .ref mE, .ref mL, .ref mO, .int oc, .ref mC, .int cc, .ref mR, .int rc, .long low, .long hig, .long wrd, .int wrs, .int frm, .int enn, .int mxx])), (mW, .inl (G.2.1, 9, .inl (fillN 9 256 fW))), (mF, .inl (G.2.1, 3072, .inl (fillN 3072 32768 f1))), (mG, .inl (G.2.1, 3072, .inl g3)), (mH, .inl (G.2.1, 3, .inl fh)), (mA, .inl (G.2.1, 3, .inl fp))] := by rw [hfe]; exact hD
      clear hfe
      have hfe : (fillN 3072 32768 f2) = g3 := Eq.symm (by rw [hI.2.2, show i2 = 3072 by omega])
      have hP : va_P G.1 vwCl [(mo, .inr (10, [.int code, .int (nI w), .int (nI h), .int (nI b), .int (nI c), .int (nI md), .int (nI (2 * md)), .ref mS, .ref mW, .ref mF, .ref mG, .ref mH, .ref mA, .ref kW, .ref kF, .ref kG, .ref kH, .ref mE, .ref mL, .ref mO, .int oc, .ref mC, .int cc, .ref mR, .int rc, .long low, .long hig, .long wrd, .int wrs, .int frm, .int enn, .int mxx])), (mW, .inl (G.2.1, 9, .inl (fillN 9 256 fW))), (mF, .inl (G.2.1, 3072, .inl (fillN 3072 32768 f1))), (mG, .inl (G.2.1, 3072, .inl (fillN 3072 32768 f2))), (mH, .inl (G.2.1, 3, .inl fh)), (mA, .inl (G.2.1, 3, .inl fp))] H := by rw [hfe]; exact hP
      have hD : va_D A [(mo, .inr (10, [.int code, .int (nI w), .int (nI h), .int (nI b), .int (nI c), .int (nI md), .int (nI (2 * md)), .ref mS, .ref mW, .ref mF, .ref mG, .ref mH, .ref mA, .ref kW, .ref kF, .ref kG, .ref kH, .ref mE, .ref mL, .ref mO, .int oc, .ref mC, .int cc, .ref mR, .int rc, .long low, .long hig, .long wrd, .int wrs, .int frm, .int enn, .int mxx])), (mW, .inl (G.2.1, 9, .inl (fillN 9 256 fW))), (mF, .inl (G.2.1, 3072, .inl (fillN 3072 32768 f1))), (mG, .inl (G.2.1, 3072, .inl (fillN 3072 32768 f2))), (mH, .inl (G.2.1, 3, .inl fh)), (mA, .inl (G.2.1, 3, .inl fp))] := by rw [hfe]; exact hD
      clear hfe
      refine lv_iconst (v := 0) hx hb dX11_begin_54 (by decide) ?_
      refine lv_istore_n (lv' := [(1, .int 0), (0, .ref mo)]) hx hb dX11_begin_55 rfl hl (by decide) rfl (fun ls hl => ?_)
      refine x_loop (α := (Nat) × (Nat → Int32) × (Nat → Int32) × (Array Slot)) (fun z9 => F0 mZ 56 z9.2.2.2 []) (fun z9 H locs => ((z9.1) ≤ 3 ∧ (z9.2.1) = fillN (z9.1) 32 fh ∧ (z9.2.2.1) = fillN (z9.1) 0 fp) ∧ lv_has z9.2.2.2 2 [(0, .ref mo), (1, .int (nI (z9.1)))] ∧ va_P G.1 vwCl [(mo, .inr (10, [.int code, .int (nI w), .int (nI h), .int (nI b), .int (nI c), .int (nI md), .int (nI (2 * md)), .ref mS, .ref mW, .ref mF, .ref mG, .ref mH, .ref mA, .ref kW, .ref kF, .ref kG, .ref kH, .ref mE, .ref mL, .ref mO, .int oc, .ref mC, .int cc, .ref mR, .int rc, .long low, .long hig, .long wrd, .int wrs, .int frm, .int enn, .int mxx])), (mW, .inl (G.2.1, 9, .inl (fillN 9 256 fW))), (mF, .inl (G.2.1, 3072, .inl (fillN 3072 32768 f1))), (mG, .inl (G.2.1, 3072, .inl (fillN 3072 32768 f2))), (mH, .inl (G.2.1, 3, .inl (z9.2.1))), (mA, .inl (G.2.1, 3, .inl (z9.2.2.1)))] H ∧ va_D A [(mo, .inr (10, [.int code, .int (nI w), .int (nI h), .int (nI b), .int (nI c), .int (nI md), .int (nI (2 * md)), .ref mS, .ref mW, .ref mF, .ref mG, .ref mH, .ref mA, .ref kW, .ref kF, .ref kG, .ref kH, .ref mE, .ref mL, .ref mO, .int oc, .ref mC, .int cc, .ref mR, .int rc, .long low, .long hig, .long wrd, .int wrs, .int frm, .int enn, .int mxx])), (mW, .inl (G.2.1, 9, .inl (fillN 9 256 fW))), (mF, .inl (G.2.1, 3072, .inl (fillN 3072 32768 f1))), (mG, .inl (G.2.1, 3072, .inl (fillN 3072 32768 f2))), (mH, .inl (G.2.1, 3, .inl (z9.2.1))), (mA, .inl (G.2.1, 3, .inl (z9.2.2.1)))] ∧ va_S A sZ.heap H locs) (fun z9 => 3 - (z9.1)) (fun z9 H locs hI ih_3 => ?_) (0, fh, fp, ls) _ _ ⟨(show 0 ≤ 3 ∧ fh = fillN 0 32 fh ∧ fp = fillN 0 0 fp from ⟨Nat.zero_le _, (fillN_0 _ _).symm, (fillN_0 _ _).symm⟩), lv_sub hl [1, 0] rfl, hP, hD, hS⟩
      obtain ⟨i3, g4, g5, ls⟩ := z9
      obtain ⟨hI, hl, hP, hD, hS⟩ := hI
      have hI : i3 ≤ 3 ∧ g4 = fillN i3 32 fh ∧ g5 = fillN i3 0 fp := hI
      have hl : lv_has ls 2 [(0, .ref mo), (1, .int (nI i3))] := hl
      have hP : va_P G.1 vwCl [(mo, .inr (10, [.int code, .int (nI w), .int (nI h), .int (nI b), .int (nI c), .int (nI md), .int (nI (2 * md)), .ref mS, .ref mW, .ref mF, .ref mG, .ref mH, .ref mA, .ref kW, .ref kF, .ref kG, .ref kH, .ref mE, .ref mL, .ref mO, .int oc, .ref mC, .int cc, .ref mR, .int rc, .long low, .long hig, .long wrd, .int wrs, .int frm, .int enn, .int mxx])), (mW, .inl (G.2.1, 9, .inl (fillN 9 256 fW))), (mF, .inl (G.2.1, 3072, .inl (fillN 3072 32768 f1))), (mG, .inl (G.2.1, 3072, .inl (fillN 3072 32768 f2))), (mH, .inl (G.2.1, 3, .inl g4)), (mA, .inl (G.2.1, 3, .inl g5))] H := hP
      have hD : va_D A [(mo, .inr (10, [.int code, .int (nI w), .int (nI h), .int (nI b), .int (nI c), .int (nI md), .int (nI (2 * md)), .ref mS, .ref mW, .ref mF, .ref mG, .ref mH, .ref mA, .ref kW, .ref kF, .ref kG, .ref kH, .ref mE, .ref mL, .ref mO, .int oc, .ref mC, .int cc, .ref mR, .int rc, .long low, .long hig, .long wrd, .int wrs, .int frm, .int enn, .int mxx])), (mW, .inl (G.2.1, 9, .inl (fillN 9 256 fW))), (mF, .inl (G.2.1, 3072, .inl (fillN 3072 32768 f1))), (mG, .inl (G.2.1, 3072, .inl (fillN 3072 32768 f2))), (mH, .inl (G.2.1, 3, .inl g4)), (mA, .inl (G.2.1, 3, .inl g5))] := hD
      refine lv_iload_n hx hb dX11_begin_56 rfl (lv_at hl 1 rfl) ?_
      refine lv_iconst (v := 3) hx hb dX11_begin_57 (by decide) ?_
      refine lv_icmp_ge (tgt := 82) hx hb dX11_begin_58 (by decide) (fun c_58 => ?_) (fun c_58 => ?_)
      · skip
        have c_58 : 3 ≤ i3 := (nI_leI (a := 3) (b := i3) (by omega) (by omega)).mp c_58
        have hfe : (fillN 3 32 fh) = g4 := Eq.symm (by rw [hI.2.1, show i3 = 3 by omega])
        have hP : va_P G.1 vwCl [(mo, .inr (10, [.int code, .int (nI w), .int (nI h), .int (nI b), .int (nI c), .int (nI md), .int (nI (2 * md)), .ref mS, .ref mW, .ref mF, .ref mG, .ref mH, .ref mA, .ref kW, .ref kF, .ref kG, .ref kH, .ref mE, .ref mL, .ref mO, .int oc, .ref mC, .int cc, .ref mR, .int rc, .long low, .long hig, .long wrd, .int wrs, .int frm, .int enn, .int mxx])), (mW, .inl (G.2.1, 9, .inl (fillN 9 256 fW))), (mF, .inl (G.2.1, 3072, .inl (fillN 3072 32768 f1))), (mG, .inl (G.2.1, 3072, .inl (fillN 3072 32768 f2))), (mH, .inl (G.2.1, 3, .inl (fillN 3 32 fh))), (mA, .inl (G.2.1, 3, .inl g5))] H := by rw [hfe]; exact hP
        have hD : va_D A [(mo, .inr (10, [.int code, .int (nI w), .int (nI h), .int (nI b), .int (nI c), .int (nI md), .int (nI (2 * md)), .ref mS, .ref mW, .ref mF, .ref mG, .ref mH, .ref mA, .ref kW, .ref kF, .ref kG, .ref kH, .ref mE, .ref mL, .ref mO, .int oc, .ref mC, .int cc, .ref mR, .int rc, .long low, .long hig, .long wrd, .int wrs, .int frm, .int enn, .int mxx])), (mW, .inl (G.2.1, 9, .inl (fillN 9 256 fW))), (mF, .inl (G.2.1, 3072, .inl (fillN 3072 32768 f1))), (mG, .inl (G.2.1, 3072, .inl (fillN 3072 32768 f2))), (mH, .inl (G.2.1, 3, .inl (fillN 3 32 fh))), (mA, .inl (G.2.1, 3, .inl g5))] := by rw [hfe]; exact hD
        clear hfe
        have hfe : (fillN 3 0 fp) = g5 := Eq.symm (by rw [hI.2.2, show i3 = 3 by omega])
        have hP : va_P G.1 vwCl [(mo, .inr (10, [.int code, .int (nI w), .int (nI h), .int (nI b), .int (nI c), .int (nI md), .int (nI (2 * md)), .ref mS, .ref mW, .ref mF, .ref mG, .ref mH, .ref mA, .ref kW, .ref kF, .ref kG, .ref kH, .ref mE, .ref mL, .ref mO, .int oc, .ref mC, .int cc, .ref mR, .int rc, .long low, .long hig, .long wrd, .int wrs, .int frm, .int enn, .int mxx])), (mW, .inl (G.2.1, 9, .inl (fillN 9 256 fW))), (mF, .inl (G.2.1, 3072, .inl (fillN 3072 32768 f1))), (mG, .inl (G.2.1, 3072, .inl (fillN 3072 32768 f2))), (mH, .inl (G.2.1, 3, .inl (fillN 3 32 fh))), (mA, .inl (G.2.1, 3, .inl (fillN 3 0 fp)))] H := by rw [hfe]; exact hP
        have hD : va_D A [(mo, .inr (10, [.int code, .int (nI w), .int (nI h), .int (nI b), .int (nI c), .int (nI md), .int (nI (2 * md)), .ref mS, .ref mW, .ref mF, .ref mG, .ref mH, .ref mA, .ref kW, .ref kF, .ref kG, .ref kH, .ref mE, .ref mL, .ref mO, .int oc, .ref mC, .int cc, .ref mR, .int rc, .long low, .long hig, .long wrd, .int wrs, .int frm, .int enn, .int mxx])), (mW, .inl (G.2.1, 9, .inl (fillN 9 256 fW))), (mF, .inl (G.2.1, 3072, .inl (fillN 3072 32768 f1))), (mG, .inl (G.2.1, 3072, .inl (fillN 3072 32768 f2))), (mH, .inl (G.2.1, 3, .inl (fillN 3 32 fh))), (mA, .inl (G.2.1, 3, .inl (fillN 3 0 fp)))] := by rw [hfe]; exact hD
        clear hfe
        exact w_vret () hx hb hr hlocks (trivial) hP hD hS dX11_begin_82
      · skip
        have c_58 : ¬ (3 ≤ i3) := fun z8 => c_58 ((nI_leI (a := 3) (b := i3) (by omega) (by omega)).mpr z8)
        refine lv_aload_n hx hb dX11_begin_61 rfl (lv_at hl 0 rfl) ?_
        refine va_get (D := G.1) (ci := 10) (v := .ref mH) (C := RX11) (T := TX11) (N := 32) hx hb hts hin_X11_begin_11 hown hK.1 hP 0 rfl rfl 11 (by decide) (hts (.fieldLink RX11 22 "MixedPredictModel" "shares" "[I") (List.mem_cons_of_mem _ (List.mem_append_left _ (List.mem_of_getElem? (i := 4) rfl)))) (fun _ h9 => h9) rfl dX11_begin_62 ?_
        refine lv_iload_n hx hb dX11_begin_65 rfl (lv_at hl 1 rfl) ?_
        refine lv_bipush (v := 32) hx hb dX11_begin_66 (by decide) ?_
        refine x_iast (i := i3) hx hb hK.1 hP hD hS 4 0 rfl rfl (by omega) (by omega) dX11_begin_68 (fun H locs hP hD hS => ?_)
        have hP : va_P G.1 vwCl [(mo, .inr (10, [.int code, .int (nI w), .int (nI h), .int (nI b), .int (nI c), .int (nI md), .int (nI (2 * md)), .ref mS, .ref mW, .ref mF, .ref mG, .ref mH, .ref mA, .ref kW, .ref kF, .ref kG, .ref kH, .ref mE, .ref mL, .ref mO, .int oc, .ref mC, .int cc, .ref mR, .int rc, .long low, .long hig, .long wrd, .int wrs, .int frm, .int enn, .int mxx])), (mW, .inl (G.2.1, 9, .inl (fillN 9 256 fW))), (mF, .inl (G.2.1, 3072, .inl (fillN 3072 32768 f1))), (mG, .inl (G.2.1, 3072, .inl (fillN 3072 32768 f2))), (mH, .inl (G.2.1, 3, .inl (upd g4 i3 32))), (mA, .inl (G.2.1, 3, .inl g5))] H := hP
        have hD : va_D A [(mo, .inr (10, [.int code, .int (nI w), .int (nI h), .int (nI b), .int (nI c), .int (nI md), .int (nI (2 * md)), .ref mS, .ref mW, .ref mF, .ref mG, .ref mH, .ref mA, .ref kW, .ref kF, .ref kG, .ref kH, .ref mE, .ref mL, .ref mO, .int oc, .ref mC, .int cc, .ref mR, .int rc, .long low, .long hig, .long wrd, .int wrs, .int frm, .int enn, .int mxx])), (mW, .inl (G.2.1, 9, .inl (fillN 9 256 fW))), (mF, .inl (G.2.1, 3072, .inl (fillN 3072 32768 f1))), (mG, .inl (G.2.1, 3072, .inl (fillN 3072 32768 f2))), (mH, .inl (G.2.1, 3, .inl (upd g4 i3 32))), (mA, .inl (G.2.1, 3, .inl g5))] := hD
        refine lv_aload_n hx hb dX11_begin_69 rfl (lv_at hl 0 rfl) ?_
        refine va_get (D := G.1) (ci := 10) (v := .ref mA) (C := RX11) (T := TX11) (N := 32) hx hb hts hin_X11_begin_11 hown hK.1 hP 0 rfl rfl 12 (by decide) (hts (.fieldLink RX11 25 "MixedPredictModel" "pasts" "[I") (List.mem_cons_of_mem _ (List.mem_append_left _ (List.mem_of_getElem? (i := 5) rfl)))) (fun _ h9 => h9) rfl dX11_begin_70 ?_
        refine lv_iload_n hx hb dX11_begin_73 rfl (lv_at hl 1 rfl) ?_
        refine lv_iconst (v := 0) hx hb dX11_begin_74 (by decide) ?_
        refine x_iast (i := i3) hx hb hK.1 hP hD hS 5 0 rfl rfl (by omega) (by omega) dX11_begin_75 (fun H locs hP hD hS => ?_)
        have hP : va_P G.1 vwCl [(mo, .inr (10, [.int code, .int (nI w), .int (nI h), .int (nI b), .int (nI c), .int (nI md), .int (nI (2 * md)), .ref mS, .ref mW, .ref mF, .ref mG, .ref mH, .ref mA, .ref kW, .ref kF, .ref kG, .ref kH, .ref mE, .ref mL, .ref mO, .int oc, .ref mC, .int cc, .ref mR, .int rc, .long low, .long hig, .long wrd, .int wrs, .int frm, .int enn, .int mxx])), (mW, .inl (G.2.1, 9, .inl (fillN 9 256 fW))), (mF, .inl (G.2.1, 3072, .inl (fillN 3072 32768 f1))), (mG, .inl (G.2.1, 3072, .inl (fillN 3072 32768 f2))), (mH, .inl (G.2.1, 3, .inl (upd g4 i3 32))), (mA, .inl (G.2.1, 3, .inl (upd g5 i3 0)))] H := hP
        have hD : va_D A [(mo, .inr (10, [.int code, .int (nI w), .int (nI h), .int (nI b), .int (nI c), .int (nI md), .int (nI (2 * md)), .ref mS, .ref mW, .ref mF, .ref mG, .ref mH, .ref mA, .ref kW, .ref kF, .ref kG, .ref kH, .ref mE, .ref mL, .ref mO, .int oc, .ref mC, .int cc, .ref mR, .int rc, .long low, .long hig, .long wrd, .int wrs, .int frm, .int enn, .int mxx])), (mW, .inl (G.2.1, 9, .inl (fillN 9 256 fW))), (mF, .inl (G.2.1, 3072, .inl (fillN 3072 32768 f1))), (mG, .inl (G.2.1, 3072, .inl (fillN 3072 32768 f2))), (mH, .inl (G.2.1, 3, .inl (upd g4 i3 32))), (mA, .inl (G.2.1, 3, .inl (upd g5 i3 0)))] := hD
        refine lv_iinc (v := nI (i3 + 1)) (lv' := [(1, .int (nI (i3 + 1))), (0, .ref mo)]) hx hb dX11_begin_76 hl (k := 1) rfl (by first | rfl | exact nI_add _ _) (by decide) rfl (fun ls hl => ?_)
        refine lv_goto (tgt := 56) hx hb dX11_begin_79 (by decide) ?_
        exact ih_3 (i3 + 1, upd g4 i3 32, upd g5 i3 0, ls) _ _ (show 3 - (i3 + 1) < 3 - i3 from by omega) ⟨(show (i3 + 1) ≤ 3 ∧ (upd g4 i3 32) = fillN (i3 + 1) 32 fh ∧ (upd g5 i3 0) = fillN (i3 + 1) 0 fp from ⟨by omega, by rw [hI.2.1, fillN_s], by rw [hI.2.2, fillN_s]⟩), lv_sub hl [1, 0] rfl, hP, hD, hS⟩
    · skip
      have c_29 : ¬ (3072 ≤ i2) := fun z8 => c_29 ((nI_leI (a := 3072) (b := i2) (by omega) (by omega)).mpr z8)
      refine lv_aload_n hx hb dX11_begin_32 rfl (lv_at hl 0 rfl) ?_
      refine va_get (D := G.1) (ci := 10) (v := .ref mF) (C := RX11) (T := TX11) (N := 32) hx hb hts hin_X11_begin_11 hown hK.1 hP 0 rfl rfl 9 (by decide) (hts (.fieldLink RX11 16 "MixedPredictModel" "firsts" "[I") (List.mem_cons_of_mem _ (List.mem_append_left _ (List.mem_of_getElem? (i := 1) rfl)))) (fun _ h9 => h9) rfl dX11_begin_33 ?_
      refine lv_iload_n hx hb dX11_begin_36 rfl (lv_at hl 1 rfl) ?_
      refine lv_ldc (v := 32768) hx hb hown (hts (.constant RX11 123 (32768)) (List.mem_cons_of_mem _ (List.mem_append_left _ (List.mem_of_getElem? (i := 2) rfl)))) dX11_begin_37 ?_
      refine x_iast (i := i2) hx hb hK.1 hP hD hS 2 0 rfl rfl (by omega) (by omega) dX11_begin_39 (fun H locs hP hD hS => ?_)
      have hP : va_P G.1 vwCl [(mo, .inr (10, [.int code, .int (nI w), .int (nI h), .int (nI b), .int (nI c), .int (nI md), .int (nI (2 * md)), .ref mS, .ref mW, .ref mF, .ref mG, .ref mH, .ref mA, .ref kW, .ref kF, .ref kG, .ref kH, .ref mE, .ref mL, .ref mO, .int oc, .ref mC, .int cc, .ref mR, .int rc, .long low, .long hig, .long wrd, .int wrs, .int frm, .int enn, .int mxx])), (mW, .inl (G.2.1, 9, .inl (fillN 9 256 fW))), (mF, .inl (G.2.1, 3072, .inl (upd g2 i2 32768))), (mG, .inl (G.2.1, 3072, .inl g3)), (mH, .inl (G.2.1, 3, .inl fh)), (mA, .inl (G.2.1, 3, .inl fp))] H := hP
      have hD : va_D A [(mo, .inr (10, [.int code, .int (nI w), .int (nI h), .int (nI b), .int (nI c), .int (nI md), .int (nI (2 * md)), .ref mS, .ref mW, .ref mF, .ref mG, .ref mH, .ref mA, .ref kW, .ref kF, .ref kG, .ref kH, .ref mE, .ref mL, .ref mO, .int oc, .ref mC, .int cc, .ref mR, .int rc, .long low, .long hig, .long wrd, .int wrs, .int frm, .int enn, .int mxx])), (mW, .inl (G.2.1, 9, .inl (fillN 9 256 fW))), (mF, .inl (G.2.1, 3072, .inl (upd g2 i2 32768))), (mG, .inl (G.2.1, 3072, .inl g3)), (mH, .inl (G.2.1, 3, .inl fh)), (mA, .inl (G.2.1, 3, .inl fp))] := hD
      refine lv_aload_n hx hb dX11_begin_40 rfl (lv_at hl 0 rfl) ?_
      refine va_get (D := G.1) (ci := 10) (v := .ref mG) (C := RX11) (T := TX11) (N := 32) hx hb hts hin_X11_begin_11 hown hK.1 hP 0 rfl rfl 10 (by decide) (hts (.fieldLink RX11 19 "MixedPredictModel" "seconds" "[I") (List.mem_cons_of_mem _ (List.mem_append_left _ (List.mem_of_getElem? (i := 3) rfl)))) (fun _ h9 => h9) rfl dX11_begin_41 ?_
      refine lv_iload_n hx hb dX11_begin_44 rfl (lv_at hl 1 rfl) ?_
      refine lv_ldc (v := 32768) hx hb hown (hts (.constant RX11 123 (32768)) (List.mem_cons_of_mem _ (List.mem_append_left _ (List.mem_of_getElem? (i := 2) rfl)))) dX11_begin_45 ?_
      refine x_iast (i := i2) hx hb hK.1 hP hD hS 3 0 rfl rfl (by omega) (by omega) dX11_begin_47 (fun H locs hP hD hS => ?_)
      have hP : va_P G.1 vwCl [(mo, .inr (10, [.int code, .int (nI w), .int (nI h), .int (nI b), .int (nI c), .int (nI md), .int (nI (2 * md)), .ref mS, .ref mW, .ref mF, .ref mG, .ref mH, .ref mA, .ref kW, .ref kF, .ref kG, .ref kH, .ref mE, .ref mL, .ref mO, .int oc, .ref mC, .int cc, .ref mR, .int rc, .long low, .long hig, .long wrd, .int wrs, .int frm, .int enn, .int mxx])), (mW, .inl (G.2.1, 9, .inl (fillN 9 256 fW))), (mF, .inl (G.2.1, 3072, .inl (upd g2 i2 32768))), (mG, .inl (G.2.1, 3072, .inl (upd g3 i2 32768))), (mH, .inl (G.2.1, 3, .inl fh)), (mA, .inl (G.2.1, 3, .inl fp))] H := hP
      have hD : va_D A [(mo, .inr (10, [.int code, .int (nI w), .int (nI h), .int (nI b), .int (nI c), .int (nI md), .int (nI (2 * md)), .ref mS, .ref mW, .ref mF, .ref mG, .ref mH, .ref mA, .ref kW, .ref kF, .ref kG, .ref kH, .ref mE, .ref mL, .ref mO, .int oc, .ref mC, .int cc, .ref mR, .int rc, .long low, .long hig, .long wrd, .int wrs, .int frm, .int enn, .int mxx])), (mW, .inl (G.2.1, 9, .inl (fillN 9 256 fW))), (mF, .inl (G.2.1, 3072, .inl (upd g2 i2 32768))), (mG, .inl (G.2.1, 3072, .inl (upd g3 i2 32768))), (mH, .inl (G.2.1, 3, .inl fh)), (mA, .inl (G.2.1, 3, .inl fp))] := hD
      refine lv_iinc (v := nI (i2 + 1)) (lv' := [(1, .int (nI (i2 + 1))), (0, .ref mo)]) hx hb dX11_begin_48 hl (k := 1) rfl (by first | rfl | exact nI_add _ _) (by decide) rfl (fun ls hl => ?_)
      refine lv_goto (tgt := 25) hx hb dX11_begin_51 (by decide) ?_
      exact ih_2 (i2 + 1, upd g2 i2 32768, upd g3 i2 32768, ls) _ _ (show 3072 - (i2 + 1) < 3072 - i2 from by omega) ⟨(show (i2 + 1) ≤ 3072 ∧ (upd g2 i2 32768) = fillN (i2 + 1) 32768 f1 ∧ (upd g3 i2 32768) = fillN (i2 + 1) 32768 f2 from ⟨by omega, by rw [hI.2.1, fillN_s], by rw [hI.2.2, fillN_s]⟩), lv_sub hl [1, 0] rfl, hP, hD, hS⟩
  · skip
    have c_5 : ¬ (9 ≤ i) := fun z8 => c_5 ((nI_leI (a := 9) (b := i) (by omega) (by omega)).mpr z8)
    refine lv_aload_n hx hb dX11_begin_8 rfl (lv_at hl 0 rfl) ?_
    refine va_get (D := G.1) (ci := 10) (v := .ref mW) (C := RX11) (T := TX11) (N := 32) hx hb hts hin_X11_begin_11 hown hK.1 hP 0 rfl rfl 8 (by decide) (hts (.fieldLink RX11 13 "MixedPredictModel" "weights" "[I") (List.mem_cons_of_mem _ (List.mem_append_left _ (List.mem_of_getElem? (i := 0) rfl)))) (fun _ h9 => h9) rfl dX11_begin_9 ?_
    refine lv_iload_n hx hb dX11_begin_12 rfl (lv_at hl 1 rfl) ?_
    refine lv_sipush (v := 256) hx hb dX11_begin_13 (by decide) ?_
    refine x_iast (i := i) hx hb hK.1 hP hD hS 1 0 rfl rfl (by omega) (by omega) dX11_begin_16 (fun H locs hP hD hS => ?_)
    have hP : va_P G.1 vwCl [(mo, .inr (10, [.int code, .int (nI w), .int (nI h), .int (nI b), .int (nI c), .int (nI md), .int (nI (2 * md)), .ref mS, .ref mW, .ref mF, .ref mG, .ref mH, .ref mA, .ref kW, .ref kF, .ref kG, .ref kH, .ref mE, .ref mL, .ref mO, .int oc, .ref mC, .int cc, .ref mR, .int rc, .long low, .long hig, .long wrd, .int wrs, .int frm, .int enn, .int mxx])), (mW, .inl (G.2.1, 9, .inl (upd g i 256))), (mF, .inl (G.2.1, 3072, .inl f1)), (mG, .inl (G.2.1, 3072, .inl f2)), (mH, .inl (G.2.1, 3, .inl fh)), (mA, .inl (G.2.1, 3, .inl fp))] H := hP
    have hD : va_D A [(mo, .inr (10, [.int code, .int (nI w), .int (nI h), .int (nI b), .int (nI c), .int (nI md), .int (nI (2 * md)), .ref mS, .ref mW, .ref mF, .ref mG, .ref mH, .ref mA, .ref kW, .ref kF, .ref kG, .ref kH, .ref mE, .ref mL, .ref mO, .int oc, .ref mC, .int cc, .ref mR, .int rc, .long low, .long hig, .long wrd, .int wrs, .int frm, .int enn, .int mxx])), (mW, .inl (G.2.1, 9, .inl (upd g i 256))), (mF, .inl (G.2.1, 3072, .inl f1)), (mG, .inl (G.2.1, 3072, .inl f2)), (mH, .inl (G.2.1, 3, .inl fh)), (mA, .inl (G.2.1, 3, .inl fp))] := hD
    refine lv_iinc (v := nI (i + 1)) (lv' := [(1, .int (nI (i + 1))), (0, .ref mo)]) hx hb dX11_begin_17 hl (k := 1) rfl (by first | rfl | exact nI_add _ _) (by decide) rfl (fun ls hl => ?_)
    refine lv_goto (tgt := 2) hx hb dX11_begin_20 (by decide) ?_
    exact ih_1 (i + 1, upd g i 256, ls) _ _ (show 9 - (i + 1) < 9 - i from by omega) ⟨(show (i + 1) ≤ 9 ∧ (upd g i 256) = fillN (i + 1) 256 fW from ⟨by omega, by rw [hI.2, fillN_s]⟩), lv_sub hl [1, 0] rfl, hP, hD, hS⟩

set_option maxHeartbeats 4000000 in
set_option maxRecDepth 100000 in
theorem c_X11_keep (l : Launch) (G : GG) (mo mS mW mF mG mH mA kW kF kG kH mE mL mO mC mR : Nat) (w h b c md : Nat) (hd : DIM w h b c md) (code oc cc rc wrs frm enn mxx : Int32) (low hig wrd : Int64) (fW f1 f2 fh gW g1 g2 gh : Nat → Int32)  (sz : Nat) : Met l yX11_keep wsX11_keep ({ frames := 0, cells := 0, slots := 0, locals := 0 } : Room) (w_Pc G [.ref mo] sz [(mo, .inr (10, [.int code, .int (nI w), .int (nI h), .int (nI b), .int (nI c), .int (nI md), .int (nI (2 * md)), .ref mS, .ref mW, .ref mF, .ref mG, .ref mH, .ref mA, .ref kW, .ref kF, .ref kG, .ref kH, .ref mE, .ref mL, .ref mO, .int oc, .ref mC, .int cc, .ref mR, .int rc, .long low, .long hig, .long wrd, .int wrs, .int frm, .int enn, .int mxx])), (mW, .inl (G.2.1, 9, .inl fW)), (mF, .inl (G.2.1, 3072, .inl f1)), (mG, .inl (G.2.1, 3072, .inl f2)), (mH, .inl (G.2.1, 3, .inl fh)), (kW, .inl (G.2.1, 9, .inl gW)), (kF, .inl (G.2.1, 3072, .inl g1)), (kG, .inl (G.2.1, 3072, .inl g2)), (kH, .inl (G.2.1, 3, .inl gh))]) (w_Qv G (va_A [(mo, .inr (10, [.int code, .int (nI w), .int (nI h), .int (nI b), .int (nI c), .int (nI md), .int (nI (2 * md)), .ref mS, .ref mW, .ref mF, .ref mG, .ref mH, .ref mA, .ref kW, .ref kF, .ref kG, .ref kH, .ref mE, .ref mL, .ref mO, .int oc, .ref mC, .int cc, .ref mR, .int rc, .long low, .long hig, .long wrd, .int wrs, .int frm, .int enn, .int mxx])), (mW, .inl (G.2.1, 9, .inl fW)), (mF, .inl (G.2.1, 3072, .inl f1)), (mG, .inl (G.2.1, 3072, .inl f2)), (mH, .inl (G.2.1, 3, .inl fh)), (kW, .inl (G.2.1, 9, .inl gW)), (kF, .inl (G.2.1, 3072, .inl g1)), (kG, .inl (G.2.1, 3072, .inl g2)), (kH, .inl (G.2.1, 3, .inl gh))] sz) (fun (_ : Unit) => [(mo, .inr (10, [.int code, .int (nI w), .int (nI h), .int (nI b), .int (nI c), .int (nI md), .int (nI (2 * md)), .ref mS, .ref mW, .ref mF, .ref mG, .ref mH, .ref mA, .ref kW, .ref kF, .ref kG, .ref kH, .ref mE, .ref mL, .ref mO, .int oc, .ref mC, .int cc, .ref mR, .int rc, .long low, .long hig, .long wrd, .int wrs, .int frm, .int enn, .int mxx])), (mW, .inl (G.2.1, 9, .inl fW)), (mF, .inl (G.2.1, 3072, .inl f1)), (mG, .inl (G.2.1, 3072, .inl f2)), (mH, .inl (G.2.1, 3, .inl fh)), (kW, .inl (G.2.1, 9, .inl (cpyN 9 fW gW))), (kF, .inl (G.2.1, 3072, .inl (cpyN 3072 f1 g1))), (kG, .inl (G.2.1, 3072, .inl (cpyN 3072 f2 g2))), (kH, .inl (G.2.1, 3, .inl (cpyN 3 fh gh)))]) (fun (_ : Unit) => True)) 0 0 (va_A [(mo, .inr (10, [.int code, .int (nI w), .int (nI h), .int (nI b), .int (nI c), .int (nI md), .int (nI (2 * md)), .ref mS, .ref mW, .ref mF, .ref mG, .ref mH, .ref mA, .ref kW, .ref kF, .ref kG, .ref kH, .ref mE, .ref mL, .ref mO, .int oc, .ref mC, .int cc, .ref mR, .int rc, .long low, .long hig, .long wrd, .int wrs, .int frm, .int enn, .int mxx])), (mW, .inl (G.2.1, 9, .inl fW)), (mF, .inl (G.2.1, 3072, .inl f1)), (mG, .inl (G.2.1, 3072, .inl f2)), (mH, .inl (G.2.1, 3, .inl fh)), (kW, .inl (G.2.1, 9, .inl gW)), (kF, .inl (G.2.1, 3072, .inl g1)), (kG, .inl (G.2.1, 3072, .inl g2)), (kH, .inl (G.2.1, 3, .inl gh))] sz) := by
  refine w_ofW (y := yX11_keep) (ws := wsX11_keep) (rm := ({ frames := 0, cells := 0, slots := 0, locals := 0 } : Room)) (av := [.ref mo]) (WC := [(mo, .inr (10, [.int code, .int (nI w), .int (nI h), .int (nI b), .int (nI c), .int (nI md), .int (nI (2 * md)), .ref mS, .ref mW, .ref mF, .ref mG, .ref mH, .ref mA, .ref kW, .ref kF, .ref kG, .ref kH, .ref mE, .ref mL, .ref mO, .int oc, .ref mC, .int cc, .ref mR, .int rc, .long low, .long hig, .long wrd, .int wrs, .int frm, .int enn, .int mxx])), (mW, .inl (G.2.1, 9, .inl fW)), (mF, .inl (G.2.1, 3072, .inl f1)), (mG, .inl (G.2.1, 3072, .inl f2)), (mH, .inl (G.2.1, 3, .inl fh)), (kW, .inl (G.2.1, 9, .inl gW)), (kF, .inl (G.2.1, 3072, .inl g1)), (kG, .inl (G.2.1, 3072, .inl g2)), (kH, .inl (G.2.1, 3, .inl gh))]) (mc := 0) (ms := 0) (Qf := fun A => w_Qv G A (fun (_ : Unit) => [(mo, .inr (10, [.int code, .int (nI w), .int (nI h), .int (nI b), .int (nI c), .int (nI md), .int (nI (2 * md)), .ref mS, .ref mW, .ref mF, .ref mG, .ref mH, .ref mA, .ref kW, .ref kF, .ref kG, .ref kH, .ref mE, .ref mL, .ref mO, .int oc, .ref mC, .int cc, .ref mR, .int rc, .long low, .long hig, .long wrd, .int wrs, .int frm, .int enn, .int mxx])), (mW, .inl (G.2.1, 9, .inl fW)), (mF, .inl (G.2.1, 3072, .inl f1)), (mG, .inl (G.2.1, 3072, .inl f2)), (mH, .inl (G.2.1, 3, .inl fh)), (kW, .inl (G.2.1, 9, .inl (cpyN 9 fW gW))), (kF, .inl (G.2.1, 3072, .inl (cpyN 3072 f1 g1))), (kG, .inl (G.2.1, 3072, .inl (cpyN 3072 f2 g2))), (kH, .inl (G.2.1, 3, .inl (cpyN 3 fh gh)))]) (fun (_ : Unit) => True)) (cc := cX11_keep) (maxL := 2) (ret := none) (by decide) rfl (Nat.le_of_ble_eq_true rfl) ?_
  intro pZ eZ sZ mZ bZ tZ cZ A hx hb hr hts hown hlocks hml hnm hK hA H locs hP hD hS ls hl
  have hown : sZ.vm.findClass RX11 = some mZ.cls := hown
  have hl : lv_has ls 2 [(0, .ref mo)] := hl
  refine lv_iconst (v := 0) hx hb dX11_keep_0 (by decide) ?_
  refine lv_istore_n (lv' := [(1, .int 0), (0, .ref mo)]) hx hb dX11_keep_1 rfl hl (by decide) rfl (fun ls hl => ?_)
  refine x_loop (α := (Nat) × (Nat → Int32) × (Array Slot)) (fun z9 => F0 mZ 2 z9.2.2 []) (fun z9 H locs => ((z9.1) ≤ 9 ∧ (z9.2.1) = cpyN (z9.1) fW gW) ∧ lv_has z9.2.2 2 [(0, .ref mo), (1, .int (nI (z9.1)))] ∧ va_P G.1 vwCl [(mo, .inr (10, [.int code, .int (nI w), .int (nI h), .int (nI b), .int (nI c), .int (nI md), .int (nI (2 * md)), .ref mS, .ref mW, .ref mF, .ref mG, .ref mH, .ref mA, .ref kW, .ref kF, .ref kG, .ref kH, .ref mE, .ref mL, .ref mO, .int oc, .ref mC, .int cc, .ref mR, .int rc, .long low, .long hig, .long wrd, .int wrs, .int frm, .int enn, .int mxx])), (mW, .inl (G.2.1, 9, .inl fW)), (mF, .inl (G.2.1, 3072, .inl f1)), (mG, .inl (G.2.1, 3072, .inl f2)), (mH, .inl (G.2.1, 3, .inl fh)), (kW, .inl (G.2.1, 9, .inl (z9.2.1))), (kF, .inl (G.2.1, 3072, .inl g1)), (kG, .inl (G.2.1, 3072, .inl g2)), (kH, .inl (G.2.1, 3, .inl gh))] H ∧ va_D A [(mo, .inr (10, [.int code, .int (nI w), .int (nI h), .int (nI b), .int (nI c), .int (nI md), .int (nI (2 * md)), .ref mS, .ref mW, .ref mF, .ref mG, .ref mH, .ref mA, .ref kW, .ref kF, .ref kG, .ref kH, .ref mE, .ref mL, .ref mO, .int oc, .ref mC, .int cc, .ref mR, .int rc, .long low, .long hig, .long wrd, .int wrs, .int frm, .int enn, .int mxx])), (mW, .inl (G.2.1, 9, .inl fW)), (mF, .inl (G.2.1, 3072, .inl f1)), (mG, .inl (G.2.1, 3072, .inl f2)), (mH, .inl (G.2.1, 3, .inl fh)), (kW, .inl (G.2.1, 9, .inl (z9.2.1))), (kF, .inl (G.2.1, 3072, .inl g1)), (kG, .inl (G.2.1, 3072, .inl g2)), (kH, .inl (G.2.1, 3, .inl gh))] ∧ va_S A sZ.heap H locs) (fun z9 => 9 - (z9.1)) (fun z9 H locs hI ih_1 => ?_) (0, gW, ls) _ _ ⟨(show 0 ≤ 9 ∧ gW = cpyN 0 fW gW from ⟨Nat.zero_le _, (cpyN_0 _ _).symm⟩), lv_sub hl [1, 0] rfl, hP, hD, hS⟩
  obtain ⟨i, z, ls⟩ := z9
  obtain ⟨hI, hl, hP, hD, hS⟩ := hI
  have hI : i ≤ 9 ∧ z = cpyN i fW gW := hI
  have hl : lv_has ls 2 [(0, .ref mo), (1, .int (nI i))] := hl
  have hP : va_P G.1 vwCl [(mo, .inr (10, [.int code, .int (nI w), .int (nI h), .int (nI b), .int (nI c), .int (nI md), .int (nI (2 * md)), .ref mS, .ref mW, .ref mF, .ref mG, .ref mH, .ref mA, .ref kW, .ref kF, .ref kG, .ref kH, .ref mE, .ref mL, .ref mO, .int oc, .ref mC, .int cc, .ref mR, .int rc, .long low, .long hig, .long wrd, .int wrs, .int frm, .int enn, .int mxx])), (mW, .inl (G.2.1, 9, .inl fW)), (mF, .inl (G.2.1, 3072, .inl f1)), (mG, .inl (G.2.1, 3072, .inl f2)), (mH, .inl (G.2.1, 3, .inl fh)), (kW, .inl (G.2.1, 9, .inl z)), (kF, .inl (G.2.1, 3072, .inl g1)), (kG, .inl (G.2.1, 3072, .inl g2)), (kH, .inl (G.2.1, 3, .inl gh))] H := hP
  have hD : va_D A [(mo, .inr (10, [.int code, .int (nI w), .int (nI h), .int (nI b), .int (nI c), .int (nI md), .int (nI (2 * md)), .ref mS, .ref mW, .ref mF, .ref mG, .ref mH, .ref mA, .ref kW, .ref kF, .ref kG, .ref kH, .ref mE, .ref mL, .ref mO, .int oc, .ref mC, .int cc, .ref mR, .int rc, .long low, .long hig, .long wrd, .int wrs, .int frm, .int enn, .int mxx])), (mW, .inl (G.2.1, 9, .inl fW)), (mF, .inl (G.2.1, 3072, .inl f1)), (mG, .inl (G.2.1, 3072, .inl f2)), (mH, .inl (G.2.1, 3, .inl fh)), (kW, .inl (G.2.1, 9, .inl z)), (kF, .inl (G.2.1, 3072, .inl g1)), (kG, .inl (G.2.1, 3072, .inl g2)), (kH, .inl (G.2.1, 3, .inl gh))] := hD
  refine lv_iload_n hx hb dX11_keep_2 rfl (lv_at hl 1 rfl) ?_
  refine lv_bipush (v := 9) hx hb dX11_keep_3 (by decide) ?_
  refine lv_icmp_ge (tgt := 26) hx hb dX11_keep_5 (by decide) (fun c_5 => ?_) (fun c_5 => ?_)
  · skip
    have c_5 : 9 ≤ i := (nI_leI (a := 9) (b := i) (by omega) (by omega)).mp c_5
    have hfe : (cpyN 9 fW gW) = z := Eq.symm (by rw [hI.2, show i = 9 by omega])
    have hP : va_P G.1 vwCl [(mo, .inr (10, [.int code, .int (nI w), .int (nI h), .int (nI b), .int (nI c), .int (nI md), .int (nI (2 * md)), .ref mS, .ref mW, .ref mF, .ref mG, .ref mH, .ref mA, .ref kW, .ref kF, .ref kG, .ref kH, .ref mE, .ref mL, .ref mO, .int oc, .ref mC, .int cc, .ref mR, .int rc, .long low, .long hig, .long wrd, .int wrs, .int frm, .int enn, .int mxx])), (mW, .inl (G.2.1, 9, .inl fW)), (mF, .inl (G.2.1, 3072, .inl f1)), (mG, .inl (G.2.1, 3072, .inl f2)), (mH, .inl (G.2.1, 3, .inl fh)), (kW, .inl (G.2.1, 9, .inl (cpyN 9 fW gW))), (kF, .inl (G.2.1, 3072, .inl g1)), (kG, .inl (G.2.1, 3072, .inl g2)), (kH, .inl (G.2.1, 3, .inl gh))] H := by rw [hfe]; exact hP
    have hD : va_D A [(mo, .inr (10, [.int code, .int (nI w), .int (nI h), .int (nI b), .int (nI c), .int (nI md), .int (nI (2 * md)), .ref mS, .ref mW, .ref mF, .ref mG, .ref mH, .ref mA, .ref kW, .ref kF, .ref kG, .ref kH, .ref mE, .ref mL, .ref mO, .int oc, .ref mC, .int cc, .ref mR, .int rc, .long low, .long hig, .long wrd, .int wrs, .int frm, .int enn, .int mxx])), (mW, .inl (G.2.1, 9, .inl fW)), (mF, .inl (G.2.1, 3072, .inl f1)), (mG, .inl (G.2.1, 3072, .inl f2)), (mH, .inl (G.2.1, 3, .inl fh)), (kW, .inl (G.2.1, 9, .inl (cpyN 9 fW gW))), (kF, .inl (G.2.1, 3072, .inl g1)), (kG, .inl (G.2.1, 3072, .inl g2)), (kH, .inl (G.2.1, 3, .inl gh))] := by rw [hfe]; exact hD
    clear hfe
    refine lv_iconst (v := 0) hx hb dX11_keep_26 (by decide) ?_
    refine lv_istore_n (lv' := [(1, .int 0), (0, .ref mo)]) hx hb dX11_keep_27 rfl hl (by decide) rfl (fun ls hl => ?_)
    refine x_loop (α := (Nat) × (Nat → Int32) × (Nat → Int32) × (Array Slot)) (fun z9 => F0 mZ 28 z9.2.2.2 []) (fun z9 H locs => ((z9.1) ≤ 3072 ∧ (z9.2.1) = cpyN (z9.1) f1 g1 ∧ (z9.2.2.1) = cpyN (z9.1) f2 g2) ∧ lv_has z9.2.2.2 2 [(0, .ref mo), (1, .int (nI (z9.1)))] ∧ va_P G.1 vwCl [(mo, .inr (10, [.int code, .int (nI w), .int (nI h), .int (nI b), .int (nI c), .int (nI md), .int (nI (2 * md)), .ref mS, .ref mW, .ref mF, .ref mG, .ref mH, .ref mA, .ref kW, .ref kF, .ref kG, .ref kH, .ref mE, .ref mL, .ref mO, .int oc, .ref mC, .int cc, .ref mR, .int rc, .long low, .long hig, .long wrd, .int wrs, .int frm, .int enn, .int mxx])), (mW, .inl (G.2.1, 9, .inl fW)), (mF, .inl (G.2.1, 3072, .inl f1)), (mG, .inl (G.2.1, 3072, .inl f2)), (mH, .inl (G.2.1, 3, .inl fh)), (kW, .inl (G.2.1, 9, .inl (cpyN 9 fW gW))), (kF, .inl (G.2.1, 3072, .inl (z9.2.1))), (kG, .inl (G.2.1, 3072, .inl (z9.2.2.1))), (kH, .inl (G.2.1, 3, .inl gh))] H ∧ va_D A [(mo, .inr (10, [.int code, .int (nI w), .int (nI h), .int (nI b), .int (nI c), .int (nI md), .int (nI (2 * md)), .ref mS, .ref mW, .ref mF, .ref mG, .ref mH, .ref mA, .ref kW, .ref kF, .ref kG, .ref kH, .ref mE, .ref mL, .ref mO, .int oc, .ref mC, .int cc, .ref mR, .int rc, .long low, .long hig, .long wrd, .int wrs, .int frm, .int enn, .int mxx])), (mW, .inl (G.2.1, 9, .inl fW)), (mF, .inl (G.2.1, 3072, .inl f1)), (mG, .inl (G.2.1, 3072, .inl f2)), (mH, .inl (G.2.1, 3, .inl fh)), (kW, .inl (G.2.1, 9, .inl (cpyN 9 fW gW))), (kF, .inl (G.2.1, 3072, .inl (z9.2.1))), (kG, .inl (G.2.1, 3072, .inl (z9.2.2.1))), (kH, .inl (G.2.1, 3, .inl gh))] ∧ va_S A sZ.heap H locs) (fun z9 => 3072 - (z9.1)) (fun z9 H locs hI ih_2 => ?_) (0, g1, g2, ls) _ _ ⟨(show 0 ≤ 3072 ∧ g1 = cpyN 0 f1 g1 ∧ g2 = cpyN 0 f2 g2 from ⟨Nat.zero_le _, (cpyN_0 _ _).symm, (cpyN_0 _ _).symm⟩), lv_sub hl [1, 0] rfl, hP, hD, hS⟩
    obtain ⟨i2, z2, z3, ls⟩ := z9
    obtain ⟨hI, hl, hP, hD, hS⟩ := hI
    have hI : i2 ≤ 3072 ∧ z2 = cpyN i2 f1 g1 ∧ z3 = cpyN i2 f2 g2 := hI
    have hl : lv_has ls 2 [(0, .ref mo), (1, .int (nI i2))] := hl
    have hP : va_P G.1 vwCl [(mo, .inr (10, [.int code, .int (nI w), .int (nI h), .int (nI b), .int (nI c), .int (nI md), .int (nI (2 * md)), .ref mS, .ref mW, .ref mF, .ref mG, .ref mH, .ref mA, .ref kW, .ref kF, .ref kG, .ref kH, .ref mE, .ref mL, .ref mO, .int oc, .ref mC, .int cc, .ref mR, .int rc, .long low, .long hig, .long wrd, .int wrs, .int frm, .int enn, .int mxx])), (mW, .inl (G.2.1, 9, .inl fW)), (mF, .inl (G.2.1, 3072, .inl f1)), (mG, .inl (G.2.1, 3072, .inl f2)), (mH, .inl (G.2.1, 3, .inl fh)), (kW, .inl (G.2.1, 9, .inl (cpyN 9 fW gW))), (kF, .inl (G.2.1, 3072, .inl z2)), (kG, .inl (G.2.1, 3072, .inl z3)), (kH, .inl (G.2.1, 3, .inl gh))] H := hP
    have hD : va_D A [(mo, .inr (10, [.int code, .int (nI w), .int (nI h), .int (nI b), .int (nI c), .int (nI md), .int (nI (2 * md)), .ref mS, .ref mW, .ref mF, .ref mG, .ref mH, .ref mA, .ref kW, .ref kF, .ref kG, .ref kH, .ref mE, .ref mL, .ref mO, .int oc, .ref mC, .int cc, .ref mR, .int rc, .long low, .long hig, .long wrd, .int wrs, .int frm, .int enn, .int mxx])), (mW, .inl (G.2.1, 9, .inl fW)), (mF, .inl (G.2.1, 3072, .inl f1)), (mG, .inl (G.2.1, 3072, .inl f2)), (mH, .inl (G.2.1, 3, .inl fh)), (kW, .inl (G.2.1, 9, .inl (cpyN 9 fW gW))), (kF, .inl (G.2.1, 3072, .inl z2)), (kG, .inl (G.2.1, 3072, .inl z3)), (kH, .inl (G.2.1, 3, .inl gh))] := hD
    refine lv_iload_n hx hb dX11_keep_28 rfl (lv_at hl 1 rfl) ?_
    refine lv_sipush (v := 3072) hx hb dX11_keep_29 (by decide) ?_
    refine lv_icmp_ge (tgt := 65) hx hb dX11_keep_32 (by decide) (fun c_32 => ?_) (fun c_32 => ?_)
    · skip
      have c_32 : 3072 ≤ i2 := (nI_leI (a := 3072) (b := i2) (by omega) (by omega)).mp c_32
      have hfe : (cpyN 3072 f1 g1) = z2 := Eq.symm (by rw [hI.2.1, show i2 = 3072 by omega])
      have hP : va_P G.1 vwCl [(mo, .inr (10, [.int code, .int (nI w), .int (nI h), .int (nI b), .int (nI c), .int (nI md), .int (nI (2 * md)), .ref mS, .ref mW, .ref mF, .ref mG, .ref mH, .ref mA, .ref kW, .ref kF, .ref kG, .ref kH, .ref mE, .ref mL, .ref mO, .int oc, .ref mC, .int cc, .ref mR, .int rc, .long low, .long hig, .long wrd, .int wrs, .int frm, .int enn, .int mxx])), (mW, .inl (G.2.1, 9, .inl fW)), (mF, .inl (G.2.1, 3072, .inl f1)), (mG, .inl (G.2.1, 3072, .inl f2)), (mH, .inl (G.2.1, 3, .inl fh)), (kW, .inl (G.2.1, 9, .inl (cpyN 9 fW gW))), (kF, .inl (G.2.1, 3072, .inl (cpyN 3072 f1 g1))), (kG, .inl (G.2.1, 3072, .inl z3)), (kH, .inl (G.2.1, 3, .inl gh))] H := by rw [hfe]; exact hP
      have hD : va_D A [(mo, .inr (10, [.int code, .int (nI w), .int (nI h), .int (nI b), .int (nI c), .int (nI md), .int (nI (2 * md)), .ref mS, .ref mW, .ref mF, .ref mG, .ref mH, .ref mA, .ref kW, .ref kF, .ref kG, .ref kH, .ref mE, .ref mL, .ref mO, .int oc, .ref mC, .int cc, .ref mR, .int rc, .long low, .long hig, .long wrd, .int wrs, .int frm, .int enn, .int mxx])), (mW, .inl (G.2.1, 9, .inl fW)), (mF, .inl (G.2.1, 3072, .inl f1)), (mG, .inl (G.2.1, 3072, .inl f2)), (mH, .inl (G.2.1, 3, .inl fh)), (kW, .inl (G.2.1, 9, .inl (cpyN 9 fW gW))), (kF, .inl (G.2.1, 3072, .inl (cpyN 3072 f1 g1))), (kG, .inl (G.2.1, 3072, .inl z3)), (kH, .inl (G.2.1, 3, .inl gh))] := by rw [hfe]; exact hD
      clear hfe
      have hfe : (cpyN 3072 f2 g2) = z3 := Eq.symm (by rw [hI.2.2, show i2 = 3072 by omega])
      have hP : va_P G.1 vwCl [(mo, .inr (10, [.int code, .int (nI w), .int (nI h), .int (nI b), .int (nI c), .int (nI md), .int (nI (2 * md)), .ref mS, .ref mW, .ref mF, .ref mG, .ref mH, .ref mA, .ref kW, .ref kF, .ref kG, .ref kH, .ref mE, .ref mL, .ref mO, .int oc, .ref mC, .int cc, .ref mR, .int rc, .long low, .long hig, .long wrd, .int wrs, .int frm, .int enn, .int mxx])), (mW, .inl (G.2.1, 9, .inl fW)), (mF, .inl (G.2.1, 3072, .inl f1)), (mG, .inl (G.2.1, 3072, .inl f2)), (mH, .inl (G.2.1, 3, .inl fh)), (kW, .inl (G.2.1, 9, .inl (cpyN 9 fW gW))), (kF, .inl (G.2.1, 3072, .inl (cpyN 3072 f1 g1))), (kG, .inl (G.2.1, 3072, .inl (cpyN 3072 f2 g2))), (kH, .inl (G.2.1, 3, .inl gh))] H := by rw [hfe]; exact hP
      have hD : va_D A [(mo, .inr (10, [.int code, .int (nI w), .int (nI h), .int (nI b), .int (nI c), .int (nI md), .int (nI (2 * md)), .ref mS, .ref mW, .ref mF, .ref mG, .ref mH, .ref mA, .ref kW, .ref kF, .ref kG, .ref kH, .ref mE, .ref mL, .ref mO, .int oc, .ref mC, .int cc, .ref mR, .int rc, .long low, .long hig, .long wrd, .int wrs, .int frm, .int enn, .int mxx])), (mW, .inl (G.2.1, 9, .inl fW)), (mF, .inl (G.2.1, 3072, .inl f1)), (mG, .inl (G.2.1, 3072, .inl f2)), (mH, .inl (G.2.1, 3, .inl fh)), (kW, .inl (G.2.1, 9, .inl (cpyN 9 fW gW))), (kF, .inl (G.2.1, 3072, .inl (cpyN 3072 f1 g1))), (kG, .inl (G.2.1, 3072, .inl (cpyN 3072 f2 g2))), (kH, .inl (G.2.1, 3, .inl gh))] := by rw [hfe]; exact hD
      clear hfe
      refine lv_iconst (v := 0) hx hb dX11_keep_65 (by decide) ?_
      refine lv_istore_n (lv' := [(1, .int 0), (0, .ref mo)]) hx hb dX11_keep_66 rfl hl (by decide) rfl (fun ls hl => ?_)
      refine x_loop (α := (Nat) × (Nat → Int32) × (Array Slot)) (fun z9 => F0 mZ 67 z9.2.2 []) (fun z9 H locs => ((z9.1) ≤ 3 ∧ (z9.2.1) = cpyN (z9.1) fh gh) ∧ lv_has z9.2.2 2 [(0, .ref mo), (1, .int (nI (z9.1)))] ∧ va_P G.1 vwCl [(mo, .inr (10, [.int code, .int (nI w), .int (nI h), .int (nI b), .int (nI c), .int (nI md), .int (nI (2 * md)), .ref mS, .ref mW, .ref mF, .ref mG, .ref mH, .ref mA, .ref kW, .ref kF, .ref kG, .ref kH, .ref mE, .ref mL, .ref mO, .int oc, .ref mC, .int cc, .ref mR, .int rc, .long low, .long hig, .long wrd, .int wrs, .int frm, .int enn, .int mxx])), (mW, .inl (G.2.1, 9, .inl fW)), (mF, .inl (G.2.1, 3072, .inl f1)), (mG, .inl (G.2.1, 3072, .inl f2)), (mH, .inl (G.2.1, 3, .inl fh)), (kW, .inl (G.2.1, 9, .inl (cpyN 9 fW gW))), (kF, .inl (G.2.1, 3072, .inl (cpyN 3072 f1 g1))), (kG, .inl (G.2.1, 3072, .inl (cpyN 3072 f2 g2))), (kH, .inl (G.2.1, 3, .inl (z9.2.1)))] H ∧ va_D A [(mo, .inr (10, [.int code, .int (nI w), .int (nI h), .int (nI b), .int (nI c), .int (nI md), .int (nI (2 * md)), .ref mS, .ref mW, .ref mF, .ref mG, .ref mH, .ref mA, .ref kW, .ref kF, .ref kG, .ref kH, .ref mE, .ref mL, .ref mO, .int oc, .ref mC, .int cc, .ref mR, .int rc, .long low, .long hig, .long wrd, .int wrs, .int frm, .int enn, .int mxx])), (mW, .inl (G.2.1, 9, .inl fW)), (mF, .inl (G.2.1, 3072, .inl f1)), (mG, .inl (G.2.1, 3072, .inl f2)), (mH, .inl (G.2.1, 3, .inl fh)), (kW, .inl (G.2.1, 9, .inl (cpyN 9 fW gW))), (kF, .inl (G.2.1, 3072, .inl (cpyN 3072 f1 g1))), (kG, .inl (G.2.1, 3072, .inl (cpyN 3072 f2 g2))), (kH, .inl (G.2.1, 3, .inl (z9.2.1)))] ∧ va_S A sZ.heap H locs) (fun z9 => 3 - (z9.1)) (fun z9 H locs hI ih_3 => ?_) (0, gh, ls) _ _ ⟨(show 0 ≤ 3 ∧ gh = cpyN 0 fh gh from ⟨Nat.zero_le _, (cpyN_0 _ _).symm⟩), lv_sub hl [1, 0] rfl, hP, hD, hS⟩
      obtain ⟨i3, z4, ls⟩ := z9
      obtain ⟨hI, hl, hP, hD, hS⟩ := hI
      have hI : i3 ≤ 3 ∧ z4 = cpyN i3 fh gh := hI
      have hl : lv_has ls 2 [(0, .ref mo), (1, .int (nI i3))] := hl
      have hP : va_P G.1 vwCl [(mo, .inr (10, [.int code, .int (nI w), .int (nI h), .int (nI b), .int (nI c), .int (nI md), .int (nI (2 * md)), .ref mS, .ref mW, .ref mF, .ref mG, .ref mH, .ref mA, .ref kW, .ref kF, .ref kG, .ref kH, .ref mE, .ref mL, .ref mO, .int oc, .ref mC, .int cc, .ref mR, .int rc, .long low, .long hig, .long wrd, .int wrs, .int frm, .int enn, .int mxx])), (mW, .inl (G.2.1, 9, .inl fW)), (mF, .inl (G.2.1, 3072, .inl f1)), (mG, .inl (G.2.1, 3072, .inl f2)), (mH, .inl (G.2.1, 3, .inl fh)), (kW, .inl (G.2.1, 9, .inl (cpyN 9 fW gW))), (kF, .inl (G.2.1, 3072, .inl (cpyN 3072 f1 g1))), (kG, .inl (G.2.1, 3072, .inl (cpyN 3072 f2 g2))), (kH, .inl (G.2.1, 3, .inl z4))] H := hP
      have hD : va_D A [(mo, .inr (10, [.int code, .int (nI w), .int (nI h), .int (nI b), .int (nI c), .int (nI md), .int (nI (2 * md)), .ref mS, .ref mW, .ref mF, .ref mG, .ref mH, .ref mA, .ref kW, .ref kF, .ref kG, .ref kH, .ref mE, .ref mL, .ref mO, .int oc, .ref mC, .int cc, .ref mR, .int rc, .long low, .long hig, .long wrd, .int wrs, .int frm, .int enn, .int mxx])), (mW, .inl (G.2.1, 9, .inl fW)), (mF, .inl (G.2.1, 3072, .inl f1)), (mG, .inl (G.2.1, 3072, .inl f2)), (mH, .inl (G.2.1, 3, .inl fh)), (kW, .inl (G.2.1, 9, .inl (cpyN 9 fW gW))), (kF, .inl (G.2.1, 3072, .inl (cpyN 3072 f1 g1))), (kG, .inl (G.2.1, 3072, .inl (cpyN 3072 f2 g2))), (kH, .inl (G.2.1, 3, .inl z4))] := hD
      refine lv_iload_n hx hb dX11_keep_67 rfl (lv_at hl 1 rfl) ?_
      refine lv_iconst (v := 3) hx hb dX11_keep_68 (by decide) ?_
      refine lv_icmp_ge (tgt := 90) hx hb dX11_keep_69 (by decide) (fun c_69 => ?_) (fun c_69 => ?_)
      · skip
        have c_69 : 3 ≤ i3 := (nI_leI (a := 3) (b := i3) (by omega) (by omega)).mp c_69
        have hfe : (cpyN 3 fh gh) = z4 := Eq.symm (by rw [hI.2, show i3 = 3 by omega])
        have hP : va_P G.1 vwCl [(mo, .inr (10, [.int code, .int (nI w), .int (nI h), .int (nI b), .int (nI c), .int (nI md), .int (nI (2 * md)), .ref mS, .ref mW, .ref mF, .ref mG, .ref mH, .ref mA, .ref kW, .ref kF, .ref kG, .ref kH, .ref mE, .ref mL, .ref mO, .int oc, .ref mC, .int cc, .ref mR, .int rc, .long low, .long hig, .long wrd, .int wrs, .int frm, .int enn, .int mxx])), (mW, .inl (G.2.1, 9, .inl fW)), (mF, .inl (G.2.1, 3072, .inl f1)), (mG, .inl (G.2.1, 3072, .inl f2)), (mH, .inl (G.2.1, 3, .inl fh)), (kW, .inl (G.2.1, 9, .inl (cpyN 9 fW gW))), (kF, .inl (G.2.1, 3072, .inl (cpyN 3072 f1 g1))), (kG, .inl (G.2.1, 3072, .inl (cpyN 3072 f2 g2))), (kH, .inl (G.2.1, 3, .inl (cpyN 3 fh gh)))] H := by rw [hfe]; exact hP
        have hD : va_D A [(mo, .inr (10, [.int code, .int (nI w), .int (nI h), .int (nI b), .int (nI c), .int (nI md), .int (nI (2 * md)), .ref mS, .ref mW, .ref mF, .ref mG, .ref mH, .ref mA, .ref kW, .ref kF, .ref kG, .ref kH, .ref mE, .ref mL, .ref mO, .int oc, .ref mC, .int cc, .ref mR, .int rc, .long low, .long hig, .long wrd, .int wrs, .int frm, .int enn, .int mxx])), (mW, .inl (G.2.1, 9, .inl fW)), (mF, .inl (G.2.1, 3072, .inl f1)), (mG, .inl (G.2.1, 3072, .inl f2)), (mH, .inl (G.2.1, 3, .inl fh)), (kW, .inl (G.2.1, 9, .inl (cpyN 9 fW gW))), (kF, .inl (G.2.1, 3072, .inl (cpyN 3072 f1 g1))), (kG, .inl (G.2.1, 3072, .inl (cpyN 3072 f2 g2))), (kH, .inl (G.2.1, 3, .inl (cpyN 3 fh gh)))] := by rw [hfe]; exact hD
        clear hfe
        exact w_vret () hx hb hr hlocks (trivial) hP hD hS dX11_keep_90
      · skip
        have c_69 : ¬ (3 ≤ i3) := fun z8 => c_69 ((nI_leI (a := 3) (b := i3) (by omega) (by omega)).mpr z8)
        refine lv_aload_n hx hb dX11_keep_72 rfl (lv_at hl 0 rfl) ?_
        refine va_get (D := G.1) (ci := 10) (v := .ref kH) (C := RX11) (T := TX11) (N := 32) hx hb hts hin_X11_keep_11 hown hK.1 hP 0 rfl rfl 16 (by decide) (hts (.fieldLink RX11 37 "MixedPredictModel" "keptShares" "[I") (List.mem_cons_of_mem _ (List.mem_append_left _ (List.mem_of_getElem? (i := 6) rfl)))) (fun _ h9 => h9) rfl dX11_keep_73 ?_
        refine lv_iload_n hx hb dX11_keep_76 rfl (lv_at hl 1 rfl) ?_
        refine lv_aload_n hx hb dX11_keep_77 rfl (lv_at hl 0 rfl) ?_
        refine va_get (D := G.1) (ci := 10) (v := .ref mH) (C := RX11) (T := TX11) (N := 32) hx hb hts hin_X11_keep_11 hown hK.1 hP 0 rfl rfl 11 (by decide) (hts (.fieldLink RX11 22 "MixedPredictModel" "shares" "[I") (List.mem_cons_of_mem _ (List.mem_append_left _ (List.mem_of_getElem? (i := 7) rfl)))) (fun _ h9 => h9) rfl dX11_keep_78 ?_
        refine lv_iload_n hx hb dX11_keep_81 rfl (lv_at hl 1 rfl) ?_
        refine x_iald (i := i3) hx hb hK.1 hP 4 0 rfl rfl (by omega) (by omega) dX11_keep_82 ?_
        refine x_iast (i := i3) hx hb hK.1 hP hD hS 8 0 rfl rfl (by omega) (by omega) dX11_keep_83 (fun H locs hP hD hS => ?_)
        have hP : va_P G.1 vwCl [(mo, .inr (10, [.int code, .int (nI w), .int (nI h), .int (nI b), .int (nI c), .int (nI md), .int (nI (2 * md)), .ref mS, .ref mW, .ref mF, .ref mG, .ref mH, .ref mA, .ref kW, .ref kF, .ref kG, .ref kH, .ref mE, .ref mL, .ref mO, .int oc, .ref mC, .int cc, .ref mR, .int rc, .long low, .long hig, .long wrd, .int wrs, .int frm, .int enn, .int mxx])), (mW, .inl (G.2.1, 9, .inl fW)), (mF, .inl (G.2.1, 3072, .inl f1)), (mG, .inl (G.2.1, 3072, .inl f2)), (mH, .inl (G.2.1, 3, .inl fh)), (kW, .inl (G.2.1, 9, .inl (cpyN 9 fW gW))), (kF, .inl (G.2.1, 3072, .inl (cpyN 3072 f1 g1))), (kG, .inl (G.2.1, 3072, .inl (cpyN 3072 f2 g2))), (kH, .inl (G.2.1, 3, .inl (upd z4 i3 (fh i3))))] H := hP
        have hD : va_D A [(mo, .inr (10, [.int code, .int (nI w), .int (nI h), .int (nI b), .int (nI c), .int (nI md), .int (nI (2 * md)), .ref mS, .ref mW, .ref mF, .ref mG, .ref mH, .ref mA, .ref kW, .ref kF, .ref kG, .ref kH, .ref mE, .ref mL, .ref mO, .int oc, .ref mC, .int cc, .ref mR, .int rc, .long low, .long hig, .long wrd, .int wrs, .int frm, .int enn, .int mxx])), (mW, .inl (G.2.1, 9, .inl fW)), (mF, .inl (G.2.1, 3072, .inl f1)), (mG, .inl (G.2.1, 3072, .inl f2)), (mH, .inl (G.2.1, 3, .inl fh)), (kW, .inl (G.2.1, 9, .inl (cpyN 9 fW gW))), (kF, .inl (G.2.1, 3072, .inl (cpyN 3072 f1 g1))), (kG, .inl (G.2.1, 3072, .inl (cpyN 3072 f2 g2))), (kH, .inl (G.2.1, 3, .inl (upd z4 i3 (fh i3))))] := hD
        refine lv_iinc (v := nI (i3 + 1)) (lv' := [(1, .int (nI (i3 + 1))), (0, .ref mo)]) hx hb dX11_keep_84 hl (k := 1) rfl (by first | rfl | exact nI_add _ _) (by decide) rfl (fun ls hl => ?_)
        refine lv_goto (tgt := 67) hx hb dX11_keep_87 (by decide) ?_
        exact ih_3 (i3 + 1, upd z4 i3 (fh i3), ls) _ _ (show 3 - (i3 + 1) < 3 - i3 from by omega) ⟨(show (i3 + 1) ≤ 3 ∧ (upd z4 i3 (fh i3)) = cpyN (i3 + 1) fh gh from ⟨by omega, by rw [hI.2, cpyN_s]⟩), lv_sub hl [1, 0] rfl, hP, hD, hS⟩
    · skip
      have c_32 : ¬ (3072 ≤ i2) := fun z8 => c_32 ((nI_leI (a := 3072) (b := i2) (by omega) (by omega)).mpr z8)
      refine lv_aload_n hx hb dX11_keep_35 rfl (lv_at hl 0 rfl) ?_
      refine va_get (D := G.1) (ci := 10) (v := .ref kF) (C := RX11) (T := TX11) (N := 32) hx hb hts hin_X11_keep_11 hown hK.1 hP 0 rfl rfl 14 (by decide) (hts (.fieldLink RX11 31 "MixedPredictModel" "keptFirsts" "[I") (List.mem_cons_of_mem _ (List.mem_append_left _ (List.mem_of_getElem? (i := 2) rfl)))) (fun _ h9 => h9) rfl dX11_keep_36 ?_
      refine lv_iload_n hx hb dX11_keep_39 rfl (lv_at hl 1 rfl) ?_
      refine lv_aload_n hx hb dX11_keep_40 rfl (lv_at hl 0 rfl) ?_
      refine va_get (D := G.1) (ci := 10) (v := .ref mF) (C := RX11) (T := TX11) (N := 32) hx hb hts hin_X11_keep_11 hown hK.1 hP 0 rfl rfl 9 (by decide) (hts (.fieldLink RX11 16 "MixedPredictModel" "firsts" "[I") (List.mem_cons_of_mem _ (List.mem_append_left _ (List.mem_of_getElem? (i := 3) rfl)))) (fun _ h9 => h9) rfl dX11_keep_41 ?_
      refine lv_iload_n hx hb dX11_keep_44 rfl (lv_at hl 1 rfl) ?_
      refine x_iald (i := i2) hx hb hK.1 hP 2 0 rfl rfl (by omega) (by omega) dX11_keep_45 ?_
      refine x_iast (i := i2) hx hb hK.1 hP hD hS 6 0 rfl rfl (by omega) (by omega) dX11_keep_46 (fun H locs hP hD hS => ?_)
      have hP : va_P G.1 vwCl [(mo, .inr (10, [.int code, .int (nI w), .int (nI h), .int (nI b), .int (nI c), .int (nI md), .int (nI (2 * md)), .ref mS, .ref mW, .ref mF, .ref mG, .ref mH, .ref mA, .ref kW, .ref kF, .ref kG, .ref kH, .ref mE, .ref mL, .ref mO, .int oc, .ref mC, .int cc, .ref mR, .int rc, .long low, .long hig, .long wrd, .int wrs, .int frm, .int enn, .int mxx])), (mW, .inl (G.2.1, 9, .inl fW)), (mF, .inl (G.2.1, 3072, .inl f1)), (mG, .inl (G.2.1, 3072, .inl f2)), (mH, .inl (G.2.1, 3, .inl fh)), (kW, .inl (G.2.1, 9, .inl (cpyN 9 fW gW))), (kF, .inl (G.2.1, 3072, .inl (upd z2 i2 (f1 i2)))), (kG, .inl (G.2.1, 3072, .inl z3)), (kH, .inl (G.2.1, 3, .inl gh))] H := hP
      have hD : va_D A [(mo, .inr (10, [.int code, .int (nI w), .int (nI h), .int (nI b), .int (nI c), .int (nI md), .int (nI (2 * md)), .ref mS, .ref mW, .ref mF, .ref mG, .ref mH, .ref mA, .ref kW, .ref kF, .ref kG, .ref kH, .ref mE, .ref mL, .ref mO, .int oc, .ref mC, .int cc, .ref mR, .int rc, .long low, .long hig, .long wrd, .int wrs, .int frm, .int enn, .int mxx])), (mW, .inl (G.2.1, 9, .inl fW)), (mF, .inl (G.2.1, 3072, .inl f1)), (mG, .inl (G.2.1, 3072, .inl f2)), (mH, .inl (G.2.1, 3, .inl fh)), (kW, .inl (G.2.1, 9, .inl (cpyN 9 fW gW))), (kF, .inl (G.2.1, 3072, .inl (upd z2 i2 (f1 i2)))), (kG, .inl (G.2.1, 3072, .inl z3)), (kH, .inl (G.2.1, 3, .inl gh))] := hD
      refine lv_aload_n hx hb dX11_keep_47 rfl (lv_at hl 0 rfl) ?_
      refine va_get (D := G.1) (ci := 10) (v := .ref kG) (C := RX11) (T := TX11) (N := 32) hx hb hts hin_X11_keep_11 hown hK.1 hP 0 rfl rfl 15 (by decide) (hts (.fieldLink RX11 34 "MixedPredictModel" "keptSeconds" "[I") (List.mem_cons_of_mem _ (List.mem_append_left _ (List.mem_of_getElem? (i := 4) rfl)))) (fun _ h9 => h9) rfl dX11_keep_48 ?_
      refine lv_iload_n hx hb dX11_keep_51 rfl (lv_at hl 1 rfl) ?_
      refine lv_aload_n hx hb dX11_keep_52 rfl (lv_at hl 0 rfl) ?_
      refine va_get (D := G.1) (ci := 10) (v := .ref mG) (C := RX11) (T := TX11) (N := 32) hx hb hts hin_X11_keep_11 hown hK.1 hP 0 rfl rfl 10 (by decide) (hts (.fieldLink RX11 19 "MixedPredictModel" "seconds" "[I") (List.mem_cons_of_mem _ (List.mem_append_left _ (List.mem_of_getElem? (i := 5) rfl)))) (fun _ h9 => h9) rfl dX11_keep_53 ?_
      refine lv_iload_n hx hb dX11_keep_56 rfl (lv_at hl 1 rfl) ?_
      refine x_iald (i := i2) hx hb hK.1 hP 3 0 rfl rfl (by omega) (by omega) dX11_keep_57 ?_
      refine x_iast (i := i2) hx hb hK.1 hP hD hS 7 0 rfl rfl (by omega) (by omega) dX11_keep_58 (fun H locs hP hD hS => ?_)
      have hP : va_P G.1 vwCl [(mo, .inr (10, [.int code, .int (nI w), .int (nI h), .int (nI b), .int (nI c), .int (nI md), .int (nI (2 * md)), .ref mS, .ref mW, .ref mF, .ref mG, .ref mH, .ref mA, .ref kW, .ref kF, .ref kG, .ref kH, .ref mE, .ref mL, .ref mO, .int oc, .ref mC, .int cc, .ref mR, .int rc, .long low, .long hig, .long wrd, .int wrs, .int frm, .int enn, .int mxx])), (mW, .inl (G.2.1, 9, .inl fW)), (mF, .inl (G.2.1, 3072, .inl f1)), (mG, .inl (G.2.1, 3072, .inl f2)), (mH, .inl (G.2.1, 3, .inl fh)), (kW, .inl (G.2.1, 9, .inl (cpyN 9 fW gW))), (kF, .inl (G.2.1, 3072, .inl (upd z2 i2 (f1 i2)))), (kG, .inl (G.2.1, 3072, .inl (upd z3 i2 (f2 i2)))), (kH, .inl (G.2.1, 3, .inl gh))] H := hP
      have hD : va_D A [(mo, .inr (10, [.int code, .int (nI w), .int (nI h), .int (nI b), .int (nI c), .int (nI md), .int (nI (2 * md)), .ref mS, .ref mW, .ref mF, .ref mG, .ref mH, .ref mA, .ref kW, .ref kF, .ref kG, .ref kH, .ref mE, .ref mL, .ref mO, .int oc, .ref mC, .int cc, .ref mR, .int rc, .long low, .long hig, .long wrd, .int wrs, .int frm, .int enn, .int mxx])), (mW, .inl (G.2.1, 9, .inl fW)), (mF, .inl (G.2.1, 3072, .inl f1)), (mG, .inl (G.2.1, 3072, .inl f2)), (mH, .inl (G.2.1, 3, .inl fh)), (kW, .inl (G.2.1, 9, .inl (cpyN 9 fW gW))), (kF, .inl (G.2.1, 3072, .inl (upd z2 i2 (f1 i2)))), (kG, .inl (G.2.1, 3072, .inl (upd z3 i2 (f2 i2)))), (kH, .inl (G.2.1, 3, .inl gh))] := hD
      refine lv_iinc (v := nI (i2 + 1)) (lv' := [(1, .int (nI (i2 + 1))), (0, .ref mo)]) hx hb dX11_keep_59 hl (k := 1) rfl (by first | rfl | exact nI_add _ _) (by decide) rfl (fun ls hl => ?_)
      refine lv_goto (tgt := 28) hx hb dX11_keep_62 (by decide) ?_
      exact ih_2 (i2 + 1, upd z2 i2 (f1 i2), upd z3 i2 (f2 i2), ls) _ _ (show 3072 - (i2 + 1) < 3072 - i2 from by omega) ⟨(show (i2 + 1) ≤ 3072 ∧ (upd z2 i2 (f1 i2)) = cpyN (i2 + 1) f1 g1 ∧ (upd z3 i2 (f2 i2)) = cpyN (i2 + 1) f2 g2 from ⟨by omega, by rw [hI.2.1, cpyN_s], by rw [hI.2.2, cpyN_s]⟩), lv_sub hl [1, 0] rfl, hP, hD, hS⟩
  · skip
    have c_5 : ¬ (9 ≤ i) := fun z8 => c_5 ((nI_leI (a := 9) (b := i) (by omega) (by omega)).mpr z8)
    refine lv_aload_n hx hb dX11_keep_8 rfl (lv_at hl 0 rfl) ?_
    refine va_get (D := G.1) (ci := 10) (v := .ref kW) (C := RX11) (T := TX11) (N := 32) hx hb hts hin_X11_keep_11 hown hK.1 hP 0 rfl rfl 13 (by decide) (hts (.fieldLink RX11 28 "MixedPredictModel" "keptWeights" "[I") (List.mem_cons_of_mem _ (List.mem_append_left _ (List.mem_of_getElem? (i := 0) rfl)))) (fun _ h9 => h9) rfl dX11_keep_9 ?_
    refine lv_iload_n hx hb dX11_keep_12 rfl (lv_at hl 1 rfl) ?_
    refine lv_aload_n hx hb dX11_keep_13 rfl (lv_at hl 0 rfl) ?_
    refine va_get (D := G.1) (ci := 10) (v := .ref mW) (C := RX11) (T := TX11) (N := 32) hx hb hts hin_X11_keep_11 hown hK.1 hP 0 rfl rfl 8 (by decide) (hts (.fieldLink RX11 13 "MixedPredictModel" "weights" "[I") (List.mem_cons_of_mem _ (List.mem_append_left _ (List.mem_of_getElem? (i := 1) rfl)))) (fun _ h9 => h9) rfl dX11_keep_14 ?_
    refine lv_iload_n hx hb dX11_keep_17 rfl (lv_at hl 1 rfl) ?_
    refine x_iald (i := i) hx hb hK.1 hP 1 0 rfl rfl (by omega) (by omega) dX11_keep_18 ?_
    refine x_iast (i := i) hx hb hK.1 hP hD hS 5 0 rfl rfl (by omega) (by omega) dX11_keep_19 (fun H locs hP hD hS => ?_)
    have hP : va_P G.1 vwCl [(mo, .inr (10, [.int code, .int (nI w), .int (nI h), .int (nI b), .int (nI c), .int (nI md), .int (nI (2 * md)), .ref mS, .ref mW, .ref mF, .ref mG, .ref mH, .ref mA, .ref kW, .ref kF, .ref kG, .ref kH, .ref mE, .ref mL, .ref mO, .int oc, .ref mC, .int cc, .ref mR, .int rc, .long low, .long hig, .long wrd, .int wrs, .int frm, .int enn, .int mxx])), (mW, .inl (G.2.1, 9, .inl fW)), (mF, .inl (G.2.1, 3072, .inl f1)), (mG, .inl (G.2.1, 3072, .inl f2)), (mH, .inl (G.2.1, 3, .inl fh)), (kW, .inl (G.2.1, 9, .inl (upd z i (fW i)))), (kF, .inl (G.2.1, 3072, .inl g1)), (kG, .inl (G.2.1, 3072, .inl g2)), (kH, .inl (G.2.1, 3, .inl gh))] H := hP
    have hD : va_D A [(mo, .inr (10, [.int code, .int (nI w), .int (nI h), .int (nI b), .int (nI c), .int (nI md), .int (nI (2 * md)), .ref mS, .ref mW, .ref mF, .ref mG, .ref mH, .ref mA, .ref kW, .ref kF, .ref kG, .ref kH, .ref mE, .ref mL, .ref mO, .int oc, .ref mC, .int cc, .ref mR, .int rc, .long low, .long hig, .long wrd, .int wrs, .int frm, .int enn, .int mxx])), (mW, .inl (G.2.1, 9, .inl fW)), (mF, .inl (G.2.1, 3072, .inl f1)), (mG, .inl (G.2.1, 3072, .inl f2)), (mH, .inl (G.2.1, 3, .inl fh)), (kW, .inl (G.2.1, 9, .inl (upd z i (fW i)))), (kF, .inl (G.2.1, 3072, .inl g1)), (kG, .inl (G.2.1, 3072, .inl g2)), (kH, .inl (G.2.1, 3, .inl gh))] := hD
    refine lv_iinc (v := nI (i + 1)) (lv' := [(1, .int (nI (i + 1))), (0, .ref mo)]) hx hb dX11_keep_20 hl (k := 1) rfl (by first | rfl | exact nI_add _ _) (by decide) rfl (fun ls hl => ?_)
    refine lv_goto (tgt := 2) hx hb dX11_keep_23 (by decide) ?_
    exact ih_1 (i + 1, upd z i (fW i), ls) _ _ (show 9 - (i + 1) < 9 - i from by omega) ⟨(show (i + 1) ≤ 9 ∧ (upd z i (fW i)) = cpyN (i + 1) fW gW from ⟨by omega, by rw [hI.2, cpyN_s]⟩), lv_sub hl [1, 0] rfl, hP, hD, hS⟩
