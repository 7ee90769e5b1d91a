theorem hin_X11_isGood_11 : ∀ w ∈ u_ws RX11 TX11 32, w ∈ wsX11_isGood := fun w h => List.mem_cons_of_mem _ (List.mem_append_right _ h)
theorem hin_X11_readTile_11 : ∀ w ∈ u_ws RX11 TX11 32, w ∈ wsX11_readTile := fun w h => List.mem_cons_of_mem _ (List.mem_append_right _ h)
set_option maxHeartbeats 4000000 in
set_option maxRecDepth 100000 in
theorem c_X11_isGood (l : Launch) (G : GG) (mo mS mW mF mG mH mA kW kF kG kH mE mL mO mC mR : Nat) (w h b c md : Nat) (hd : DIM w h b c md) (code oc cc wrs frm enn mxx : Int32) (low hig wrd : Int64) (gr : Nat → Int32) (cn : Nat) (qcn : cn ≤ 4000) (D : Nat → Nat) (qD : RepD cn D gr) (t : Nat) (ht : t < tln w h) (i : Nat) (qi : i ≤ 4000)  : Met l yX11_isGood wsX11_isGood ({ frames := 3, cells := 0, slots := 0, locals := 63 } : Room) (r_Pc G [.ref mo, .int (nI i), .int (nI t)] [(mo, .inr (10, [.int code, .int (nI w), .int (nI h), .int (nI b), .int (nI c), .int (nI md), .int (nI (2 * md)), .ref mS, .ref mW, .ref mF, .ref mG, .ref mH, .ref mA, .ref kW, .ref kF, .ref kG, .ref kH, .ref mE, .ref mL, .ref mO, .int oc, .ref mC, .int cc, .ref mR, .int (nI cn), .long low, .long hig, .long wrd, .int wrs, .int frm, .int enn, .int mxx])), (mR, .inl (G.2.1, 4000, .inl gr))]) (vp_Si (fun r => r = (if goodB w h c md cn D t i = true then 1 else 0))) 0 0 (fun _ => False) := by
  refine r_ofW (cc := cX11_isGood) (maxL := 7) (ret := (some .boolean)) (by decide) rfl (Nat.le_of_ble_eq_true rfl) ?_
  intro pZ eZ sZ mZ bZ tZ cZ hx hb hr hts hown hlocks hml hK H hH hP ls hl
  have hown : sZ.vm.findClass RX11 = some mZ.cls := hown
  have hl : lv_has ls 7 [(0, .ref mo), (1, .int (nI i)), (2, .int (nI t))] := hl
  obtain ⟨dw1, dw2, dh1, dh2, db1, db2, dc1, dc2, dm1, dm2, dme⟩ := id hd
  have q1 := lft_lt hd t
  have q2 := tpp_lt hd ht
  have q3 := tln_le hd
  have q4 : rgt w t = min w (lft w t + 8) := rfl
  have q5 : btm w h t = min h (tpp w t + 8) := rfl
  have r0 := rdb_lt qD (Nat.le_refl cn)
  have r1 := r0 (i + 1)
  have r2 := r0 (i + 2)
  have r3 := r0 i
  have q6 := fol_lt qD i
  have hfm : fol cn D i % 256 = rdb cn D (i + 1) := by simp only [fol]; omega
  have hfd : fol cn D i / 256 = rdb cn D (i + 2) := by simp only [fol]; omega
  refine lv_iload_n hx hb dX11_isGood_0 rfl (lv_at hl 1 rfl) ?_
  refine lv_iconst (v := 4) hx hb dX11_isGood_1 (by decide) ?_
  refine lv_iadd hx hb dX11_isGood_2 ?_
  refine x_top (y := nI (i + 4)) (nI_add _ _) ?_
  refine lv_aload_n hx hb dX11_isGood_3 rfl (lv_at hl 0 rfl) ?_
  refine va_get (D := G.1) (ci := 10) (v := .int (nI cn)) (C := RX11) (T := TX11) (N := 32) hx hb hts hin_X11_isGood_11 hown hK.1 hP 0 rfl rfl 24 (by decide) (hts (.fieldLink RX11 94 "MixedPredictModel" "readCount" "I") (List.mem_cons_of_mem _ (List.mem_append_left _ (List.mem_append_left _ (List.mem_of_getElem? (i := 0) rfl))))) (fun _ h9 => h9) rfl dX11_isGood_4 ?_
  refine lv_icmp_gt (tgt := 20) hx hb dX11_isGood_7 (by decide) (fun c_7 => ?_) (fun c_7 => ?_)
  · skip
    have c_7 : cn < i + 4 := (nI_ltI (a := cn) (b := i + 4) (by omega) (by omega)).mp c_7
    refine lv_iconst (v := 0) hx hb dX11_isGood_20 (by decide) ?_
    exact r_zret hx hb hr hlocks (rfl) (by rw [if_neg (fun z8 => by have z7 := (goodB_of z8).1; omega)]) hH dX11_isGood_21
  · skip
    have c_7 : ¬ (cn < i + 4) := fun z8 => c_7 ((nI_ltI (a := cn) (b := i + 4) (by omega) (by omega)).mpr z8)
    refine lv_aload_n hx hb dX11_isGood_10 rfl (lv_at hl 0 rfl) ?_
    refine va_get (D := G.1) (ci := 10) (v := .ref mR) (C := RX11) (T := TX11) (N := 32) hx hb hts hin_X11_isGood_11 hown hK.1 hP 0 rfl rfl 23 (by decide) (hts (.fieldLink RX11 53 "MixedPredictModel" "read" "[I") (List.mem_cons_of_mem _ (List.mem_append_left _ (List.mem_append_left _ (List.mem_of_getElem? (i := 1) rfl))))) (fun _ h9 => h9) rfl dX11_isGood_11 ?_
    refine lv_iload_n hx hb dX11_isGood_14 rfl (lv_at hl 1 rfl) ?_
    refine x_iald (i := i) hx hb hK.1 hP 1 0 rfl rfl (by omega) (by omega) dX11_isGood_15 ?_
    refine x_top (y := nI (rdb cn D (i))) (by rw [rdb, if_pos (by omega)]; exact (qD _ (by omega)).1) ?_
    refine lv_iconst (v := 1) hx hb dX11_isGood_16 (by decide) ?_
    refine lv_icmp_le (tgt := 22) hx hb dX11_isGood_17 (by decide) (fun c_17 => ?_) (fun c_17 => ?_)
    · skip
      have c_17 : rdb cn D (i) ≤ 1 := (nI_leI (a := rdb cn D (i)) (b := 1) (by omega) (by omega)).mp c_17
      refine lv_aload_n hx hb dX11_isGood_22 rfl (lv_at hl 0 rfl) ?_
      refine va_get (D := G.1) (ci := 10) (v := .ref mR) (C := RX11) (T := TX11) (N := 32) hx hb hts hin_X11_isGood_11 hown hK.1 hP 0 rfl rfl 23 (by decide) (hts (.fieldLink RX11 53 "MixedPredictModel" "read" "[I") (List.mem_cons_of_mem _ (List.mem_append_left _ (List.mem_append_left _ (List.mem_of_getElem? (i := 1) rfl))))) (fun _ h9 => h9) rfl dX11_isGood_23 ?_
      refine lv_iload_n hx hb dX11_isGood_26 rfl (lv_at hl 1 rfl) ?_
      refine lv_iconst (v := 1) hx hb dX11_isGood_27 (by decide) ?_
      refine lv_iadd hx hb dX11_isGood_28 ?_
      refine x_top (y := nI (i + 1)) (nI_add _ _) ?_
      refine x_iald (i := i + 1) hx hb hK.1 hP 1 0 rfl rfl (by omega) (by omega) dX11_isGood_29 ?_
      refine x_top (y := nI (rdb cn D (i + 1))) (by rw [rdb, if_pos (by omega)]; exact (qD _ (by omega)).1) ?_
      refine lv_sipush (v := 256) hx hb dX11_isGood_30 (by decide) ?_
      refine lv_aload_n hx hb dX11_isGood_33 rfl (lv_at hl 0 rfl) ?_
      refine va_get (D := G.1) (ci := 10) (v := .ref mR) (C := RX11) (T := TX11) (N := 32) hx hb hts hin_X11_isGood_11 hown hK.1 hP 0 rfl rfl 23 (by decide) (hts (.fieldLink RX11 53 "MixedPredictModel" "read" "[I") (List.mem_cons_of_mem _ (List.mem_append_left _ (List.mem_append_left _ (List.mem_of_getElem? (i := 1) rfl))))) (fun _ h9 => h9) rfl dX11_isGood_34 ?_
      refine lv_iload_n hx hb dX11_isGood_37 rfl (lv_at hl 1 rfl) ?_
      refine lv_iconst (v := 2) hx hb dX11_isGood_38 (by decide) ?_
      refine lv_iadd hx hb dX11_isGood_39 ?_
      refine x_top (y := nI (i + 2)) (nI_add _ _) ?_
      refine x_iald (i := i + 2) hx hb hK.1 hP 1 0 rfl rfl (by omega) (by omega) dX11_isGood_40 ?_
      refine x_top (y := nI (rdb cn D (i + 2))) (by rw [rdb, if_pos (by omega)]; exact (qD _ (by omega)).1) ?_
      refine lv_imul hx hb dX11_isGood_41 ?_
      refine x_top (y := nI (256 * (rdb cn D (i + 2)))) (pk_mul _ _) ?_
      refine lv_iadd hx hb dX11_isGood_42 ?_
      refine x_top (y := nI (rdb cn D (i + 1) + (256 * (rdb cn D (i + 2))))) (nI_add _ _) ?_
      refine x_top (y := nI (fol cn D i)) (rfl) ?_
      refine lv_istore_n (lv' := [(3, .int (nI (fol cn D i))), (0, .ref mo), (1, .int (nI i)), (2, .int (nI t))]) hx hb dX11_isGood_43 rfl hl (by decide) rfl (fun ls hl => ?_)
      refine lv_iload_n hx hb dX11_isGood_44 rfl (lv_at hl 2 rfl) ?_
      refine lv_iconst (v := 4) hx hb dX11_isGood_45 (by decide) ?_
      refine lv_iadd hx hb dX11_isGood_46 ?_
      refine x_top (y := nI (i + 4)) (nI_add _ _) ?_
      refine lv_iload_n hx hb dX11_isGood_47 rfl (lv_at hl 0 rfl) ?_
      refine lv_iadd hx hb dX11_isGood_48 ?_
      refine x_top (y := nI (i + 4 + (fol cn D i))) (nI_add _ _) ?_
      refine lv_aload_n hx hb dX11_isGood_49 rfl (lv_at hl 1 rfl) ?_
      refine va_get (D := G.1) (ci := 10) (v := .int (nI cn)) (C := RX11) (T := TX11) (N := 32) hx hb hts hin_X11_isGood_11 hown hK.1 hP 0 rfl rfl 24 (by decide) (hts (.fieldLink RX11 94 "MixedPredictModel" "readCount" "I") (List.mem_cons_of_mem _ (List.mem_append_left _ (List.mem_append_left _ (List.mem_of_getElem? (i := 0) rfl))))) (fun _ h9 => h9) rfl dX11_isGood_50 ?_
      refine lv_icmp_le (tgt := 58) hx hb dX11_isGood_53 (by decide) (fun c_53 => ?_) (fun c_53 => ?_)
      · skip
        have c_53 : i + 4 + (fol cn D i) ≤ cn := (nI_leI (a := i + 4 + (fol cn D i)) (b := cn) (by omega) (by omega)).mp c_53
        refine lv_sipush (v := 165) hx hb dX11_isGood_58 (by decide) ?_
        refine lv_aload_n hx hb dX11_isGood_61 rfl (lv_at hl 1 rfl) ?_
        refine va_get (D := G.1) (ci := 10) (v := .ref mR) (C := RX11) (T := TX11) (N := 32) hx hb hts hin_X11_isGood_11 hown hK.1 hP 0 rfl rfl 23 (by decide) (hts (.fieldLink RX11 53 "MixedPredictModel" "read" "[I") (List.mem_cons_of_mem _ (List.mem_append_left _ (List.mem_append_left _ (List.mem_of_getElem? (i := 1) rfl))))) (fun _ h9 => h9) rfl dX11_isGood_62 ?_
        refine lv_iload_n hx hb dX11_isGood_65 rfl (lv_at hl 2 rfl) ?_
        refine lv_iconst (v := 1) hx hb dX11_isGood_66 (by decide) ?_
        refine lv_iadd hx hb dX11_isGood_67 ?_
        refine x_top (y := nI (i + 1)) (nI_add _ _) ?_
        refine x_iald (i := i + 1) hx hb hK.1 hP 1 0 rfl rfl (by omega) (by omega) dX11_isGood_68 ?_
        refine x_top (y := nI (rdb cn D (i + 1))) (by rw [rdb, if_pos (by omega)]; exact (qD _ (by omega)).1) ?_
        refine lv_ixor hx hb dX11_isGood_69 ?_
        refine x_top (y := nI (165 ^^^ (rdb cn D (i + 1)))) (nI_xor 165 (rdb cn D (i + 1))) ?_
        refine lv_aload_n hx hb dX11_isGood_70 rfl (lv_at hl 1 rfl) ?_
        refine va_get (D := G.1) (ci := 10) (v := .ref mR) (C := RX11) (T := TX11) (N := 32) hx hb hts hin_X11_isGood_11 hown hK.1 hP 0 rfl rfl 23 (by decide) (hts (.fieldLink RX11 53 "MixedPredictModel" "read" "[I") (List.mem_cons_of_mem _ (List.mem_append_left _ (List.mem_append_left _ (List.mem_of_getElem? (i := 1) rfl))))) (fun _ h9 => h9) rfl dX11_isGood_71 ?_
        refine lv_iload_n hx hb dX11_isGood_74 rfl (lv_at hl 2 rfl) ?_
        refine lv_iconst (v := 2) hx hb dX11_isGood_75 (by decide) ?_
        refine lv_iadd hx hb dX11_isGood_76 ?_
        refine x_top (y := nI (i + 2)) (nI_add _ _) ?_
        refine x_iald (i := i + 2) hx hb hK.1 hP 1 0 rfl rfl (by omega) (by omega) dX11_isGood_77 ?_
        refine x_top (y := nI (rdb cn D (i + 2))) (by rw [rdb, if_pos (by omega)]; exact (qD _ (by omega)).1) ?_
        refine lv_ixor hx hb dX11_isGood_78 ?_
        refine x_top (y := nI ((165 ^^^ (rdb cn D (i + 1))) ^^^ (rdb cn D (i + 2)))) (nI_xor (165 ^^^ (rdb cn D (i + 1))) (rdb cn D (i + 2))) ?_
        refine x_top (y := nI ((165 ^^^ (fol cn D i % 256)) ^^^ (fol cn D i / 256))) (by rw [hfm, hfd]) ?_
        refine lv_istore (lv' := [(4, .int (nI ((165 ^^^ (fol cn D i % 256)) ^^^ (fol cn D i / 256)))), (3, .int (nI (fol cn D i))), (0, .ref mo), (1, .int (nI i)), (2, .int (nI t))]) hx hb dX11_isGood_79 hl (by decide) rfl (fun ls hl => ?_)
        refine lv_iconst (v := 1) hx hb dX11_isGood_81 (by decide) ?_
        refine lv_istore (lv' := [(5, .int 1), (4, .int (nI ((165 ^^^ (fol cn D i % 256)) ^^^ (fol cn D i / 256)))), (3, .int (nI (fol cn D i))), (0, .ref mo), (1, .int (nI i)), (2, .int (nI t))]) hx hb dX11_isGood_82 hl (by decide) rfl (fun ls hl => ?_)
        refine lv_iload_n hx hb dX11_isGood_84 rfl (lv_at hl 4 rfl) ?_
        refine lv_iconst (v := 4) hx hb dX11_isGood_85 (by decide) ?_
        refine lv_iadd hx hb dX11_isGood_86 ?_
        refine x_top (y := nI (i + 4)) (nI_add _ _) ?_
        refine lv_istore (lv' := [(6, .int (nI (i + 4))), (5, .int 1), (4, .int (nI ((165 ^^^ (fol cn D i % 256)) ^^^ (fol cn D i / 256)))), (3, .int (nI (fol cn D i))), (0, .ref mo), (1, .int (nI i)), (2, .int (nI t))]) hx hb dX11_isGood_87 hl (by decide) rfl (fun ls hl => ?_)
        have hl : lv_has ls 7 [(6, .int (nI (i + 4))), (5, .int (if ∀ j, j < 0 → rdb cn D (i + 4 + j) < 2 * md then 1 else 0)), (4, .int (nI ((165 ^^^ (fol cn D i % 256)) ^^^ (fol cn D i / 256)))), (3, .int (nI (fol cn D i))), (0, .ref mo), (1, .int (nI i)), (2, .int (nI t))] := by rw [show 1 = if ∀ j, j < 0 → rdb cn D (i + 4 + j) < 2 * md then 1 else 0 from by rw [if_pos (fun j hj => absurd hj (Nat.not_lt_zero j))]] at hl; exact hl
        have hl : lv_has ls 7 [(6, .int (nI (i + 4 + 0))), (5, .int (if ∀ j, j < 0 → rdb cn D (i + 4 + j) < 2 * md then 1 else 0)), (4, .int (nI ((165 ^^^ (fol cn D i % 256)) ^^^ (fol cn D i / 256)))), (3, .int (nI (fol cn D i))), (0, .ref mo), (1, .int (nI i)), (2, .int (nI t))] := by rw [show nI (i + 4) = nI (i + 4 + 0) from rfl] at hl; exact hl
        refine x_loopR (α := (Nat) × (Nat) × (Array Slot)) (fun z9 => F0 mZ 89 z9.2.2 []) (fun z9 => ((z9.1) ≤ fol cn D i ∧ (z9.2.1) = xrN (fun j => rdb cn D (i + 4 + j)) (z9.1) ((165 ^^^ (fol cn D i % 256)) ^^^ (fol cn D i / 256))) ∧ lv_has z9.2.2 7 [(0, .ref mo), (1, .int (nI i)), (2, .int (nI t)), (3, .int (nI (fol cn D i))), (4, .int (nI (z9.2.1))), (5, .int (if ∀ j, j < (z9.1) → rdb cn D (i + 4 + j) < 2 * md then 1 else 0)), (6, .int (nI (i + 4 + (z9.1))))]) (fun z9 => fol cn D i - (z9.1)) (fun z9 hI ih_1 => ?_) (0, ((165 ^^^ (fol cn D i % 256)) ^^^ (fol cn D i / 256)), ls) ⟨(show 0 ≤ fol cn D i ∧ (((165 ^^^ (fol cn D i % 256)) ^^^ (fol cn D i / 256))) = xrN (fun j => rdb cn D (i + 4 + j)) 0 ((165 ^^^ (fol cn D i % 256)) ^^^ (fol cn D i / 256)) from ⟨Nat.zero_le _, rfl⟩), lv_sub hl [4, 5, 6, 3, 2, 1, 0] rfl⟩
        obtain ⟨m, s9, ls⟩ := z9
        obtain ⟨hI, hl⟩ := hI
        have hI : m ≤ fol cn D i ∧ s9 = xrN (fun j => rdb cn D (i + 4 + j)) m ((165 ^^^ (fol cn D i % 256)) ^^^ (fol cn D i / 256)) := hI
        have hl : lv_has ls 7 [(0, .ref mo), (1, .int (nI i)), (2, .int (nI t)), (3, .int (nI (fol cn D i))), (4, .int (nI s9)), (5, .int (if ∀ j, j < m → rdb cn D (i + 4 + j) < 2 * md then 1 else 0)), (6, .int (nI (i + 4 + m)))] := hl
        refine lv_iload hx hb dX11_isGood_89 (lv_at hl 6 rfl) ?_
        refine lv_iload_n hx hb dX11_isGood_91 rfl (lv_at hl 1 rfl) ?_
        refine lv_iconst (v := 4) hx hb dX11_isGood_92 (by decide) ?_
        refine lv_iadd hx hb dX11_isGood_93 ?_
        refine x_top (y := nI (i + 4)) (nI_add _ _) ?_
        refine lv_iload_n hx hb dX11_isGood_94 rfl (lv_at hl 3 rfl) ?_
        refine lv_iadd hx hb dX11_isGood_95 ?_
        refine x_top (y := nI (i + 4 + (fol cn D i))) (nI_add _ _) ?_
        refine lv_icmp_ge (tgt := 143) hx hb dX11_isGood_96 (by decide) (fun c_96 => ?_) (fun c_96 => ?_)
        · skip
          have c_96 : i + 4 + (fol cn D i) ≤ i + 4 + m := (nI_leI (a := i + 4 + (fol cn D i)) (b := i + 4 + m) (by omega) (by omega)).mp c_96
          have hm9 : m = fol cn D i := by omega
          have hS : s9 = sumN (fol cn D i) (fun j => rdb cn D (i + 4 + j)) := by rw [hI.2, hm9]; rfl
          refine lv_iload hx hb dX11_isGood_143 (lv_at hl 4 rfl) ?_
          refine lv_aload_n hx hb dX11_isGood_145 rfl (lv_at hl 0 rfl) ?_
          refine va_get (D := G.1) (ci := 10) (v := .ref mR) (C := RX11) (T := TX11) (N := 32) hx hb hts hin_X11_isGood_11 hown hK.1 hP 0 rfl rfl 23 (by decide) (hts (.fieldLink RX11 53 "MixedPredictModel" "read" "[I") (List.mem_cons_of_mem _ (List.mem_append_left _ (List.mem_append_left _ (List.mem_of_getElem? (i := 1) rfl))))) (fun _ h9 => h9) rfl dX11_isGood_146 ?_
          refine lv_iload_n hx hb dX11_isGood_149 rfl (lv_at hl 1 rfl) ?_
          refine lv_iconst (v := 3) hx hb dX11_isGood_150 (by decide) ?_
          refine lv_iadd hx hb dX11_isGood_151 ?_
          refine x_top (y := nI (i + 3)) (nI_add _ _) ?_
          refine x_iald (i := i + 3) hx hb hK.1 hP 1 0 rfl rfl (by omega) (by omega) dX11_isGood_152 ?_
          refine x_top (y := nI (rdb cn D (i + 3))) (by rw [rdb, if_pos (by omega)]; exact (qD _ (by omega)).1) ?_
          refine lv_icmp_ne (tgt := 184) hx hb dX11_isGood_153 (by decide) (fun c_153 => ?_) (fun c_153 => ?_)
          · skip
            have c_153 : ¬ (s9 = rdb cn D (i + 3)) := fun z8 => c_153 ((nI_eq (a := s9) (b := rdb cn D (i + 3)) (by omega) (by omega)).mpr z8)
            refine lv_iconst (v := 0) hx hb dX11_isGood_184 (by decide) ?_
            exact r_zret hx hb hr hlocks (rfl) (by rw [if_neg (fun z8 => c_153 (hS.trans (goodB_of z8).2.1.symm))]) hH dX11_isGood_185
          · skip
            have c_153 : s9 = rdb cn D (i + 3) := (nI_eq (a := s9) (b := rdb cn D (i + 3)) (by omega) (by omega)).mp c_153
            refine lv_aload_n hx hb dX11_isGood_156 rfl (lv_at hl 0 rfl) ?_
            refine va_get (D := G.1) (ci := 10) (v := .ref mR) (C := RX11) (T := TX11) (N := 32) hx hb hts hin_X11_isGood_11 hown hK.1 hP 0 rfl rfl 23 (by decide) (hts (.fieldLink RX11 53 "MixedPredictModel" "read" "[I") (List.mem_cons_of_mem _ (List.mem_append_left _ (List.mem_append_left _ (List.mem_of_getElem? (i := 1) rfl))))) (fun _ h9 => h9) rfl dX11_isGood_157 ?_
            refine lv_iload_n hx hb dX11_isGood_160 rfl (lv_at hl 1 rfl) ?_
            refine x_iald (i := i) hx hb hK.1 hP 1 0 rfl rfl (by omega) (by omega) dX11_isGood_161 ?_
            refine x_top (y := nI (rdb cn D (i))) (by rw [rdb, if_pos (by omega)]; exact (qD _ (by omega)).1) ?_
            refine lv_iconst (v := 1) hx hb dX11_isGood_162 (by decide) ?_
            refine lv_icmp_eq (tgt := 180) hx hb dX11_isGood_163 (by decide) (fun c_163 => ?_) (fun c_163 => ?_)
            · skip
              have c_163 : rdb cn D (i) = 1 := (nI_eq (a := rdb cn D (i)) (b := 1) (by omega) (by omega)).mp c_163
              refine lv_iconst (v := 1) hx hb dX11_isGood_180 (by decide) ?_
              refine lv_goto (tgt := 185) hx hb dX11_isGood_181 (by decide) ?_
              exact r_zret hx hb hr hlocks (rfl) (by rw [if_pos (goodB_to (by omega) (c_153.symm.trans hS) (Or.inr c_163))]) hH dX11_isGood_185
            · skip
              have c_163 : ¬ (rdb cn D (i) = 1) := fun z8 => c_163 ((nI_eq (a := rdb cn D (i)) (b := 1) (by omega) (by omega)).mpr z8)
              refine lv_iload_n hx hb dX11_isGood_166 rfl (lv_at hl 3 rfl) ?_
              refine lv_aload_n hx hb dX11_isGood_167 rfl (lv_at hl 0 rfl) ?_
              refine lv_iload_n hx hb dX11_isGood_168 rfl (lv_at hl 2 rfl) ?_
              refine r_fin_i (va_runV (As := [.int (nI t)]) (rest := [.int (nI (fol cn D i))]) ⟨hx, hb, hml, hown, hts⟩ (c_X11_samplesOf l G mo mS mW mF mG mH mA kW kF kG kH mE mL mO mC mR w h b c md hd code oc cc (nI cn) wrs frm enn mxx low hig wrd t (by first | assumption | omega)) (cwV 1 hts gX11_isGood_X11_samplesOf rfl rfl rfl (by decide +kernel) ⟨Nat.le_of_ble_eq_true rfl, Nat.le_of_ble_eq_true rfl⟩) (x_preV (r_pre hK hP [0] rfl) hK hP (ci := 10) (q0 := 0) rfl rfl) rfl rfl hl.1 rfl (lv_room (Nat.le_of_ble_eq_true rfl)) dX11_isGood_169 ⟨Nat.zero_le _, Nat.zero_le _⟩) (fun r_2 hw => ?_)
              subst hw
              refine lv_icmp_ne (tgt := 184) hx hb dX11_isGood_172 (by decide) (fun c_172 => ?_) (fun c_172 => ?_)
              · skip
                have c_172 : ¬ (fol cn D i = cntN w h c t) := fun z8 => c_172 ((nI_eq (a := fol cn D i) (b := cntN w h c t) (by omega) (by omega)).mpr z8)
                refine lv_iconst (v := 0) hx hb dX11_isGood_184 (by decide) ?_
                exact r_zret hx hb hr hlocks (rfl) (by rw [if_neg (fun z8 => by rcases (goodB_of z8).2.2 with y8 | y8; exact c_172 y8.2.1; exact c_163 y8)]) hH dX11_isGood_185
              · skip
                have c_172 : fol cn D i = cntN w h c t := (nI_eq (a := fol cn D i) (b := cntN w h c t) (by omega) (by omega)).mp c_172
                refine lv_iload hx hb dX11_isGood_175 (lv_at hl 5 rfl) ?_
                refine lv_if_eq (tgt := 184) hx hb dX11_isGood_177 (by decide) (fun c_177 => ?_) (fun c_177 => ?_)
                · skip
                  have c_177 := x_b0.mp c_177
                  refine lv_iconst (v := 0) hx hb dX11_isGood_184 (by decide) ?_
                  exact r_zret hx hb hr hlocks (rfl) (by rw [if_neg (fun z8 => by rcases (goodB_of z8).2.2 with y8 | y8; exact c_177 (fun j hj => y8.2.2 j (by omega)); exact c_163 y8)]) hH dX11_isGood_185
                · skip
                  have c_177 := Decidable.not_not.mp (fun z8 => c_177 (x_b0.mpr z8))
                  refine lv_iconst (v := 1) hx hb dX11_isGood_180 (by decide) ?_
                  refine lv_goto (tgt := 185) hx hb dX11_isGood_181 (by decide) ?_
                  exact r_zret hx hb hr hlocks (rfl) (by rw [if_pos (goodB_to (by omega) (c_153.symm.trans hS) (Or.inl ⟨by omega, c_172, fun j hj => c_177 j (by omega)⟩))]) hH dX11_isGood_185
        · skip
          have c_96 : ¬ (i + 4 + (fol cn D i) ≤ i + 4 + m) := fun z8 => c_96 ((nI_leI (a := i + 4 + (fol cn D i)) (b := i + 4 + m) (by omega) (by omega)).mpr z8)
          have r4 := r0 (i + 4 + m)
          refine lv_iload hx hb dX11_isGood_99 (lv_at hl 4 rfl) ?_
          refine lv_aload_n hx hb dX11_isGood_101 rfl (lv_at hl 0 rfl) ?_
          refine va_get (D := G.1) (ci := 10) (v := .ref mR) (C := RX11) (T := TX11) (N := 32) hx hb hts hin_X11_isGood_11 hown hK.1 hP 0 rfl rfl 23 (by decide) (hts (.fieldLink RX11 53 "MixedPredictModel" "read" "[I") (List.mem_cons_of_mem _ (List.mem_append_left _ (List.mem_append_left _ (List.mem_of_getElem? (i := 1) rfl))))) (fun _ h9 => h9) rfl dX11_isGood_102 ?_
          refine lv_iload hx hb dX11_isGood_105 (lv_at hl 6 rfl) ?_
          refine x_iald (i := i + 4 + m) hx hb hK.1 hP 1 0 rfl rfl (by omega) (by omega) dX11_isGood_107 ?_
          refine x_top (y := nI (rdb cn D (i + 4 + m))) (by rw [rdb, if_pos (by omega)]; exact (qD _ (by omega)).1) ?_
          refine lv_ixor hx hb dX11_isGood_108 ?_
          refine x_top (y := nI (s9 ^^^ (rdb cn D (i + 4 + m)))) (nI_xor s9 (rdb cn D (i + 4 + m))) ?_
          refine lv_istore (lv' := [(4, .int (nI (s9 ^^^ (rdb cn D (i + 4 + m))))), (0, .ref mo), (1, .int (nI i)), (2, .int (nI t)), (3, .int (nI (fol cn D i))), (5, .int (if ∀ j, j < m → rdb cn D (i + 4 + j) < 2 * md then 1 else 0)), (6, .int (nI (i + 4 + m)))]) hx hb dX11_isGood_109 hl (by decide) rfl (fun ls hl => ?_)
          refine lv_iload hx hb dX11_isGood_111 (lv_at hl 5 rfl) ?_
          refine x_join (α := (Int32)) (fun z9 => F0 mZ 135 ls [.int z9]) (fun z9 => (z9 = if ∀ j, j < m + 1 → rdb cn D (i + 4 + j) < 2 * md then 1 else 0)) (fun z9 hJ9 => ?_) (fun hj_3 => ?_)
          · obtain ⟨v9, rfl⟩ : ∃ z, z = z9 := ⟨_, rfl⟩
            have hj9 := hJ9
            have hj9 : v9 = if ∀ j, j < m + 1 → rdb cn D (i + 4 + j) < 2 * md then 1 else 0 := hj9
            subst hj9
            refine lv_istore (lv' := [(5, .int (if ∀ j, j < m + 1 → rdb cn D (i + 4 + j) < 2 * md then 1 else 0)), (4, .int (nI (s9 ^^^ (rdb cn D (i + 4 + m))))), (0, .ref mo), (1, .int (nI i)), (2, .int (nI t)), (3, .int (nI (fol cn D i))), (6, .int (nI (i + 4 + m)))]) hx hb dX11_isGood_135 hl (by decide) rfl (fun ls hl => ?_)
            refine lv_iinc (v := nI ((i + 4 + m) + 1)) (lv' := [(6, .int (nI ((i + 4 + m) + 1))), (5, .int (if ∀ j, j < m + 1 → rdb cn D (i + 4 + j) < 2 * md then 1 else 0)), (4, .int (nI (s9 ^^^ (rdb cn D (i + 4 + m))))), (0, .ref mo), (1, .int (nI i)), (2, .int (nI t)), (3, .int (nI (fol cn D i)))]) hx hb dX11_isGood_137 hl (k := 6) rfl (by first | rfl | exact nI_add _ _) (by decide) rfl (fun ls hl => ?_)
            refine lv_goto (tgt := 89) hx hb dX11_isGood_140 (by decide) ?_
            exact ih_1 (m + 1, s9 ^^^ (rdb cn D (i + 4 + m)), ls) (show fol cn D i - (m + 1) < fol cn D i - m from by omega) ⟨(show (m + 1) ≤ fol cn D i ∧ (s9 ^^^ (rdb cn D (i + 4 + m))) = xrN (fun j => rdb cn D (i + 4 + j)) (m + 1) ((165 ^^^ (fol cn D i % 256)) ^^^ (fol cn D i / 256)) from ⟨by omega, by rw [hI.2]; rfl⟩), lv_sub hl [3, 4, 5, 6, 2, 1, 0] rfl⟩
          · skip
            refine lv_if_eq (tgt := 134) hx hb dX11_isGood_113 (by decide) (fun c_113 => ?_) (fun c_113 => ?_)
            · skip
              have c_113 := x_b0.mp c_113
              refine lv_iconst (v := 0) hx hb dX11_isGood_134 (by decide) ?_
              exact hj_3 0 ((show 0 = if ∀ j, j < m + 1 → rdb cn D (i + 4 + j) < 2 * md then 1 else 0 from by rw [if_neg (fun z8 => c_113 (fun j hj => z8 j (by omega)))]))
            · skip
              have c_113 := Decidable.not_not.mp (fun z8 => c_113 (x_b0.mpr z8))
              refine lv_aload_n hx hb dX11_isGood_116 rfl (lv_at hl 1 rfl) ?_
              refine va_get (D := G.1) (ci := 10) (v := .ref mR) (C := RX11) (T := TX11) (N := 32) hx hb hts hin_X11_isGood_11 hown hK.1 hP 0 rfl rfl 23 (by decide) (hts (.fieldLink RX11 53 "MixedPredictModel" "read" "[I") (List.mem_cons_of_mem _ (List.mem_append_left _ (List.mem_append_left _ (List.mem_of_getElem? (i := 1) rfl))))) (fun _ h9 => h9) rfl dX11_isGood_117 ?_
              refine lv_iload hx hb dX11_isGood_120 (lv_at hl 6 rfl) ?_
              refine x_iald (i := i + 4 + m) hx hb hK.1 hP 1 0 rfl rfl (by omega) (by omega) dX11_isGood_122 ?_
              refine x_top (y := nI (rdb cn D (i + 4 + m))) (by rw [rdb, if_pos (by omega)]; exact (qD _ (by omega)).1) ?_
              refine lv_aload_n hx hb dX11_isGood_123 rfl (lv_at hl 1 rfl) ?_
              refine va_get (D := G.1) (ci := 10) (v := .int (nI (2 * md))) (C := RX11) (T := TX11) (N := 32) hx hb hts hin_X11_isGood_11 hown hK.1 hP 0 rfl rfl 6 (by decide) (hts (.fieldLink RX11 76 "MixedPredictModel" "all" "I") (List.mem_cons_of_mem _ (List.mem_append_left _ (List.mem_append_left _ (List.mem_of_getElem? (i := 2) rfl))))) (fun _ h9 => h9) rfl dX11_isGood_124 ?_
              refine lv_icmp_ge (tgt := 134) hx hb dX11_isGood_127 (by decide) (fun c_127 => ?_) (fun c_127 => ?_)
              · skip
                have c_127 : 2 * md ≤ rdb cn D (i + 4 + m) := (nI_leI (a := 2 * md) (b := rdb cn D (i + 4 + m)) (by omega) (by omega)).mp c_127
                refine lv_iconst (v := 0) hx hb dX11_isGood_134 (by decide) ?_
                exact hj_3 0 ((show 0 = if ∀ j, j < m + 1 → rdb cn D (i + 4 + j) < 2 * md then 1 else 0 from by rw [if_neg (fun z8 => absurd (z8 m (by omega)) (by omega))]))
              · skip
                have c_127 : ¬ (2 * md ≤ rdb cn D (i + 4 + m)) := fun z8 => c_127 ((nI_leI (a := 2 * md) (b := rdb cn D (i + 4 + m)) (by omega) (by omega)).mpr z8)
                refine lv_iconst (v := 1) hx hb dX11_isGood_130 (by decide) ?_
                refine lv_goto (tgt := 135) hx hb dX11_isGood_131 (by decide) ?_
                exact hj_3 1 ((show 1 = if ∀ j, j < m + 1 → rdb cn D (i + 4 + j) < 2 * md then 1 else 0 from by rw [if_pos (show ∀ j, j < m + 1 → rdb cn D (i + 4 + j) < 2 * md from fun j hj => if hjm : j = m then (by rw [hjm]; omega) else c_113 j (by omega))]))
      · skip
        have c_53 : ¬ (i + 4 + (fol cn D i) ≤ cn) := fun z8 => c_53 ((nI_leI (a := i + 4 + (fol cn D i)) (b := cn) (by omega) (by omega)).mpr z8)
        refine lv_iconst (v := 0) hx hb dX11_isGood_56 (by decide) ?_
        exact r_zret hx hb hr hlocks (rfl) (by rw [if_neg (fun z8 => by have z7 := (goodB_of z8).1; omega)]) hH dX11_isGood_57
    · skip
      have c_17 : ¬ (rdb cn D (i) ≤ 1) := fun z8 => c_17 ((nI_leI (a := rdb cn D (i)) (b := 1) (by omega) (by omega)).mpr z8)
      refine lv_iconst (v := 0) hx hb dX11_isGood_20 (by decide) ?_
      exact r_zret hx hb hr hlocks (rfl) (by rw [if_neg (fun z8 => by rcases (goodB_of z8).2.2 with y8 | y8; have y7 := y8.1; omega; omega)]) hH dX11_isGood_21

set_option maxHeartbeats 4000000 in
set_option maxRecDepth 100000 in
theorem c_X11_readTile (l : Launch) (G : GG) (mo mS mW mF mG mH mA kW kF kG kH mE mL mO mC mR : Nat) (w h b c md : Nat) (hd : DIM w h b c md) (code oc cc rc : Int32) (low hig wrd : Int64) (wrs frm enn mx0 : Int32) (fW fE f1 f2 fh fp f : Nat → Int32) (P : Nat → Nat → Nat → Nat) (f : Nat → Int32) (qP : PicR w h c f P) (qB : PicB w h c md P) (gr : Nat → Int32) (cn : Nat) (qcn : cn ≤ 4000) (D : Nat → Nat) (qD : RepD cn D gr) (t : Nat) (ht : t < tln w h) (s0 z0 : Nat) (qs : s0 + z0 ≤ cn)  (sz : Nat) : Met l yX11_readTile wsX11_readTile ({ frames := 6, cells := 0, slots := 0, locals := 163 } : Room) (w_Pc G [.ref mo, .int (nI s0), .int (nI z0), .int (nI t)] sz [(mo, .inr (10, [.int code, .int (nI w), .int (nI h), .int (nI b), .int (nI c), .int (nI md), .int (nI (2 * md)), .ref mS, .ref mW, .ref mF, .ref mG, .ref mH, .ref mA, .ref kW, .ref kF, .ref kG, .ref kH, .ref mE, .ref mL, .ref mO, .int oc, .ref mC, .int cc, .ref mR, .int rc, .long low, .long hig, .long wrd, .int wrs, .int frm, .int enn, .int mx0])), (mS, .inl (G.2.1, 768, .inl f)), (mW, .inl (G.2.1, 9, .inl fW)), (mF, .inl (G.2.1, 3072, .inl f1)), (mG, .inl (G.2.1, 3072, .inl f2)), (mH, .inl (G.2.1, 3, .inl fh)), (mA, .inl (G.2.1, 3, .inl fp)), (mE, .inl (G.2.1, 9, .inl fE)), (mR, .inl (G.2.1, 4000, .inl gr))]) (w_Qv G (va_A [(mo, .inr (10, [.int code, .int (nI w), .int (nI h), .int (nI b), .int (nI c), .int (nI md), .int (nI (2 * md)), .ref mS, .ref mW, .ref mF, .ref mG, .ref mH, .ref mA, .ref kW, .ref kF, .ref kG, .ref kH, .ref mE, .ref mL, .ref mO, .int oc, .ref mC, .int cc, .ref mR, .int rc, .long low, .long hig, .long wrd, .int wrs, .int frm, .int enn, .int mx0])), (mS, .inl (G.2.1, 768, .inl f)), (mW, .inl (G.2.1, 9, .inl fW)), (mF, .inl (G.2.1, 3072, .inl f1)), (mG, .inl (G.2.1, 3072, .inl f2)), (mH, .inl (G.2.1, 3, .inl fh)), (mA, .inl (G.2.1, 3, .inl fp)), (mE, .inl (G.2.1, 9, .inl fE)), (mR, .inl (G.2.1, 4000, .inl gr))] sz) (fun (u9 : (Nat → Int32) × (Nat → Int32) × (Nat → Int32) × (Nat → Int32) × (Nat → Int32) × (Nat → Int32) × (Nat → Int32) × Int32) => [(mo, .inr (10, [.int code, .int (nI w), .int (nI h), .int (nI b), .int (nI c), .int (nI md), .int (nI (2 * md)), .ref mS, .ref mW, .ref mF, .ref mG, .ref mH, .ref mA, .ref kW, .ref kF, .ref kG, .ref kH, .ref mE, .ref mL, .ref mO, .int oc, .ref mC, .int cc, .ref mR, .int rc, .long (lN ((tile false (s0 + z0) D w h b c md t P (0, 4294967295, (0, fun _ => 0, rdn (s0 + z0) D s0 4, s0 + 4))).2.2.2.2.2.2.1)), .long (lN ((tile false (s0 + z0) D w h b c md t P (0, 4294967295, (0, fun _ => 0, rdn (s0 + z0) D s0 4, s0 + 4))).2.2.2.2.2.2.2.1)), .long (lN ((tile false (s0 + z0) D w h b c md t P (0, 4294967295, (0, fun _ => 0, rdn (s0 + z0) D s0 4, s0 + 4))).2.2.2.2.2.2.2.2.2.2.1)), .int 0, .int (nI ((tile false (s0 + z0) D w h b c md t P (0, 4294967295, (0, fun _ => 0, rdn (s0 + z0) D s0 4, s0 + 4))).2.2.2.2.2.2.2.2.2.2.2)), .int (nI (s0 + z0)), .int u9.2.2.2.2.2.2.2])), (mS, .inl (G.2.1, 768, .inl u9.2.2.2.2.2.2.1)), (mW, .inl (G.2.1, 9, .inl u9.1)), (mF, .inl (G.2.1, 3072, .inl u9.2.2.1)), (mG, .inl (G.2.1, 3072, .inl u9.2.2.2.1)), (mH, .inl (G.2.1, 3, .inl u9.2.2.2.2.1)), (mA, .inl (G.2.1, 3, .inl u9.2.2.2.2.2.1)), (mE, .inl (G.2.1, 9, .inl u9.2.1)), (mR, .inl (G.2.1, 4000, .inl gr))]) (fun (u9 : (Nat → Int32) × (Nat → Int32) × (Nat → Int32) × (Nat → Int32) × (Nat → Int32) × (Nat → Int32) × (Nat → Int32) × Int32) => RTR w h c md (tile false (s0 + z0) D w h b c md t P (0, 4294967295, (0, fun _ => 0, rdn (s0 + z0) D s0 4, s0 + 4))) u9.1 u9.2.2.1 u9.2.2.2.1 u9.2.2.2.2.1 u9.2.2.2.2.2.1 u9.2.2.2.2.2.2.1)) 0 0 (va_A [(mo, .inr (10, [.int code, .int (nI w), .int (nI h), .int (nI b), .int (nI c), .int (nI md), .int (nI (2 * md)), .ref mS, .ref mW, .ref mF, .ref mG, .ref mH, .ref mA, .ref kW, .ref kF, .ref kG, .ref kH, .ref mE, .ref mL, .ref mO, .int oc, .ref mC, .int cc, .ref mR, .int rc, .long low, .long hig, .long wrd, .int wrs, .int frm, .int enn, .int mx0])), (mS, .inl (G.2.1, 768, .inl f)), (mW, .inl (G.2.1, 9, .inl fW)), (mF, .inl (G.2.1, 3072, .inl f1)), (mG, .inl (G.2.1, 3072, .inl f2)), (mH, .inl (G.2.1, 3, .inl fh)), (mA, .inl (G.2.1, 3, .inl fp)), (mE, .inl (G.2.1, 9, .inl fE)), (mR, .inl (G.2.1, 4000, .inl gr))] sz) := by
  refine w_ofW (y := yX11_readTile) (ws := wsX11_readTile) (rm := ({ frames := 6, cells := 0, slots := 0, locals := 163 } : Room)) (av := [.ref mo, .int (nI s0), .int (nI z0), .int (nI t)]) (WC := [(mo, .inr (10, [.int code, .int (nI w), .int (nI h), .int (nI b), .int (nI c), .int (nI md), .int (nI (2 * md)), .ref mS, .ref mW, .ref mF, .ref mG, .ref mH, .ref mA, .ref kW, .ref kF, .ref kG, .ref kH, .ref mE, .ref mL, .ref mO, .int oc, .ref mC, .int cc, .ref mR, .int rc, .long low, .long hig, .long wrd, .int wrs, .int frm, .int enn, .int mx0])), (mS, .inl (G.2.1, 768, .inl f)), (mW, .inl (G.2.1, 9, .inl fW)), (mF, .inl (G.2.1, 3072, .inl f1)), (mG, .inl (G.2.1, 3072, .inl f2)), (mH, .inl (G.2.1, 3, .inl fh)), (mA, .inl (G.2.1, 3, .inl fp)), (mE, .inl (G.2.1, 9, .inl fE)), (mR, .inl (G.2.1, 4000, .inl gr))]) (mc := 0) (ms := 0) (Qf := fun A => w_Qv G A (fun (u9 : (Nat → Int32) × (Nat → Int32) × (Nat → Int32) × (Nat → Int32) × (Nat → Int32) × (Nat → Int32) × (Nat → Int32) × Int32) => [(mo, .inr (10, [.int code, .int (nI w), .int (nI h), .int (nI b), .int (nI c), .int (nI md), .int (nI (2 * md)), .ref mS, .ref mW, .ref mF, .ref mG, .ref mH, .ref mA, .ref kW, .ref kF, .ref kG, .ref kH, .ref mE, .ref mL, .ref mO, .int oc, .ref mC, .int cc, .ref mR, .int rc, .long (lN ((tile false (s0 + z0) D w h b c md t P (0, 4294967295, (0, fun _ => 0, rdn (s0 + z0) D s0 4, s0 + 4))).2.2.2.2.2.2.1)), .long (lN ((tile false (s0 + z0) D w h b c md t P (0, 4294967295, (0, fun _ => 0, rdn (s0 + z0) D s0 4, s0 + 4))).2.2.2.2.2.2.2.1)), .long (lN ((tile false (s0 + z0) D w h b c md t P (0, 4294967295, (0, fun _ => 0, rdn (s0 + z0) D s0 4, s0 + 4))).2.2.2.2.2.2.2.2.2.2.1)), .int 0, .int (nI ((tile false (s0 + z0) D w h b c md t P (0, 4294967295, (0, fun _ => 0, rdn (s0 + z0) D s0 4, s0 + 4))).2.2.2.2.2.2.2.2.2.2.2)), .int (nI (s0 + z0)), .int u9.2.2.2.2.2.2.2])), (mS, .inl (G.2.1, 768, .inl u9.2.2.2.2.2.2.1)), (mW, .inl (G.2.1, 9, .inl u9.1)), (mF, .inl (G.2.1, 3072, .inl u9.2.2.1)), (mG, .inl (G.2.1, 3072, .inl u9.2.2.2.1)), (mH, .inl (G.2.1, 3, .inl u9.2.2.2.2.1)), (mA, .inl (G.2.1, 3, .inl u9.2.2.2.2.2.1)), (mE, .inl (G.2.1, 9, .inl u9.2.1)), (mR, .inl (G.2.1, 4000, .inl gr))]) (fun (u9 : (Nat → Int32) × (Nat → Int32) × (Nat → Int32) × (Nat → Int32) × (Nat → Int32) × (Nat → Int32) × (Nat → Int32) × Int32) => RTR w h c md (tile false (s0 + z0) D w h b c md t P (0, 4294967295, (0, fun _ => 0, rdn (s0 + z0) D s0 4, s0 + 4))) u9.1 u9.2.2.1 u9.2.2.2.1 u9.2.2.2.2.1 u9.2.2.2.2.2.1 u9.2.2.2.2.2.2.1)) (cc := cX11_readTile) (maxL := 5) (ret := none) (by decide) rfl (Nat.le_of_ble_eq_true rfl) ?_
  intro pZ eZ sZ mZ bZ tZ cZ A hx hb hr hts hown hlocks hml hnm hK hA H locs hP hD hS ls hl
  have hown : sZ.vm.findClass RX11 = some mZ.cls := hown
  have hl : lv_has ls 5 [(0, .ref mo), (1, .int (nI s0)), (2, .int (nI z0)), (3, .int (nI t))] := hl
  obtain ⟨dw1, dw2, dh1, dh2, db1, db2, dc1, dc2, dm1, dm2, dme⟩ := id hd
  have q1 := lft_lt hd t
  have q2 := tpp_lt hd ht
  have q3 := tln_le hd
  have q4 : rgt w t = min w (lft w t + 8) := rfl
  have q5 : btm w h t = min h (tpp w t + 8) := rfl
  have qr := rdb_lt qD qs
  refine lv_aload_n hx hb dX11_readTile_0 rfl (lv_at hl 0 rfl) ?_
  refine lv_iconst (v := 0) hx hb dX11_readTile_1 (by decide) ?_
  refine va_put (D := G.1) (ci := 10) (v := .int 0) (ty := tyX11 28) (C := RX11) (T := TX11) (N := 32) hx hb hts hin_X11_readTile_11 tyX11 tyX11_ok nmX11 hown hK.1 hP hD hS 0 rfl rfl 28 (by decide) (hts (.fieldLink RX11 140 "MixedPredictModel" "writes" "Z") (List.mem_cons_of_mem _ (List.mem_append_left _ (List.mem_append_left _ (List.mem_of_getElem? (i := 0) rfl))))) (fun _ h9 => h9) rfl (tyX11_ok 28 (by decide)) rfl rfl (Nat.le_of_ble_eq_true rfl) dX11_readTile_2 (fun H locs hP hD hS => ?_)
  have hP : va_P G.1 vwCl [(mo, .inr (10, [.int code, .int (nI w), .int (nI h), .int (nI b), .int (nI c), .int (nI md), .int (nI (2 * md)), .ref mS, .ref mW, .ref mF, .ref mG, .ref mH, .ref mA, .ref kW, .ref kF, .ref kG, .ref kH, .ref mE, .ref mL, .ref mO, .int oc, .ref mC, .int cc, .ref mR, .int rc, .long low, .long hig, .long wrd, .int 0, .int frm, .int enn, .int mx0])), (mS, .inl (G.2.1, 768, .inl f)), (mW, .inl (G.2.1, 9, .inl fW)), (mF, .inl (G.2.1, 3072, .inl f1)), (mG, .inl (G.2.1, 3072, .inl f2)), (mH, .inl (G.2.1, 3, .inl fh)), (mA, .inl (G.2.1, 3, .inl fp)), (mE, .inl (G.2.1, 9, .inl fE)), (mR, .inl (G.2.1, 4000, .inl gr))] H := hP
  have hD : va_D A [(mo, .inr (10, [.int code, .int (nI w), .int (nI h), .int (nI b), .int (nI c), .int (nI md), .int (nI (2 * md)), .ref mS, .ref mW, .ref mF, .ref mG, .ref mH, .ref mA, .ref kW, .ref kF, .ref kG, .ref kH, .ref mE, .ref mL, .ref mO, .int oc, .ref mC, .int cc, .ref mR, .int rc, .long low, .long hig, .long wrd, .int 0, .int frm, .int enn, .int mx0])), (mS, .inl (G.2.1, 768, .inl f)), (mW, .inl (G.2.1, 9, .inl fW)), (mF, .inl (G.2.1, 3072, .inl f1)), (mG, .inl (G.2.1, 3072, .inl f2)), (mH, .inl (G.2.1, 3, .inl fh)), (mA, .inl (G.2.1, 3, .inl fp)), (mE, .inl (G.2.1, 9, .inl fE)), (mR, .inl (G.2.1, 4000, .inl gr))] := hD
  refine lv_aload_n hx hb dX11_readTile_5 rfl (lv_at hl 0 rfl) ?_
  refine lv_iload_n hx hb dX11_readTile_6 rfl (lv_at hl 1 rfl) ?_
  refine va_put (D := G.1) (ci := 10) (v := .int (nI s0)) (ty := tyX11 29) (C := RX11) (T := TX11) (N := 32) hx hb hts hin_X11_readTile_11 tyX11 tyX11_ok nmX11 hown hK.1 hP hD hS 0 rfl rfl 29 (by decide) (hts (.fieldLink RX11 124 "MixedPredictModel" "from" "I") (List.mem_cons_of_mem _ (List.mem_append_left _ (List.mem_append_left _ (List.mem_of_getElem? (i := 1) rfl))))) (fun _ h9 => h9) rfl (tyX11_ok 29 (by decide)) rfl rfl (Nat.le_of_ble_eq_true rfl) dX11_readTile_7 (fun H locs hP hD hS => ?_)
  have hP : va_P G.1 vwCl [(mo, .inr (10, [.int code, .int (nI w), .int (nI h), .int (nI b), .int (nI c), .int (nI md), .int (nI (2 * md)), .ref mS, .ref mW, .ref mF, .ref mG, .ref mH, .ref mA, .ref kW, .ref kF, .ref kG, .ref kH, .ref mE, .ref mL, .ref mO, .int oc, .ref mC, .int cc, .ref mR, .int rc, .long low, .long hig, .long wrd, .int 0, .int (nI s0), .int enn, .int mx0])), (mS, .inl (G.2.1, 768, .inl f)), (mW, .inl (G.2.1, 9, .inl fW)), (mF, .inl (G.2.1, 3072, .inl f1)), (mG, .inl (G.2.1, 3072, .inl f2)), (mH, .inl (G.2.1, 3, .inl fh)), (mA, .inl (G.2.1, 3, .inl fp)), (mE, .inl (G.2.1, 9, .inl fE)), (mR, .inl (G.2.1, 4000, .inl gr))] H := hP
  have hD : va_D A [(mo, .inr (10, [.int code, .int (nI w), .int (nI h), .int (nI b), .int (nI c), .int (nI md), .int (nI (2 * md)), .ref mS, .ref mW, .ref mF, .ref mG, .ref mH, .ref mA, .ref kW, .ref kF, .ref kG, .ref kH, .ref mE, .ref mL, .ref mO, .int oc, .ref mC, .int cc, .ref mR, .int rc, .long low, .long hig, .long wrd, .int 0, .int (nI s0), .int enn, .int mx0])), (mS, .inl (G.2.1, 768, .inl f)), (mW, .inl (G.2.1, 9, .inl fW)), (mF, .inl (G.2.1, 3072, .inl f1)), (mG, .inl (G.2.1, 3072, .inl f2)), (mH, .inl (G.2.1, 3, .inl fh)), (mA, .inl (G.2.1, 3, .inl fp)), (mE, .inl (G.2.1, 9, .inl fE)), (mR, .inl (G.2.1, 4000, .inl gr))] := hD
  refine lv_aload_n hx hb dX11_readTile_10 rfl (lv_at hl 0 rfl) ?_
  refine lv_iload_n hx hb dX11_readTile_11 rfl (lv_at hl 1 rfl) ?_
  refine lv_iload_n hx hb dX11_readTile_12 rfl (lv_at hl 2 rfl) ?_
  refine lv_iadd hx hb dX11_readTile_13 ?_
  refine x_top (y := nI (s0 + z0)) (nI_add _ _) ?_
  refine va_put (D := G.1) (ci := 10) (v := .int (nI (s0 + z0))) (ty := tyX11 30) (C := RX11) (T := TX11) (N := 32) hx hb hts hin_X11_readTile_11 tyX11 tyX11_ok nmX11 hown hK.1 hP hD hS 0 rfl rfl 30 (by decide) (hts (.fieldLink RX11 127 "MixedPredictModel" "end" "I") (List.mem_cons_of_mem _ (List.mem_append_left _ (List.mem_append_left _ (List.mem_of_getElem? (i := 2) rfl))))) (fun _ h9 => h9) rfl (tyX11_ok 30 (by decide)) rfl rfl (Nat.le_of_ble_eq_true rfl) dX11_readTile_14 (fun H locs hP hD hS => ?_)
  have hP : va_P G.1 vwCl [(mo, .inr (10, [.int code, .int (nI w), .int (nI h), .int (nI b), .int (nI c), .int (nI md), .int (nI (2 * md)), .ref mS, .ref mW, .ref mF, .ref mG, .ref mH, .ref mA, .ref kW, .ref kF, .ref kG, .ref kH, .ref mE, .ref mL, .ref mO, .int oc, .ref mC, .int cc, .ref mR, .int rc, .long low, .long hig, .long wrd, .int 0, .int (nI s0), .int (nI (s0 + z0)), .int mx0])), (mS, .inl (G.2.1, 768, .inl f)), (mW, .inl (G.2.1, 9, .inl fW)), (mF, .inl (G.2.1, 3072, .inl f1)), (mG, .inl (G.2.1, 3072, .inl f2)), (mH, .inl (G.2.1, 3, .inl fh)), (mA, .inl (G.2.1, 3, .inl fp)), (mE, .inl (G.2.1, 9, .inl fE)), (mR, .inl (G.2.1, 4000, .inl gr))] H := hP
  have hD : va_D A [(mo, .inr (10, [.int code, .int (nI w), .int (nI h), .int (nI b), .int (nI c), .int (nI md), .int (nI (2 * md)), .ref mS, .ref mW, .ref mF, .ref mG, .ref mH, .ref mA, .ref kW, .ref kF, .ref kG, .ref kH, .ref mE, .ref mL, .ref mO, .int oc, .ref mC, .int cc, .ref mR, .int rc, .long low, .long hig, .long wrd, .int 0, .int (nI s0), .int (nI (s0 + z0)), .int mx0])), (mS, .inl (G.2.1, 768, .inl f)), (mW, .inl (G.2.1, 9, .inl fW)), (mF, .inl (G.2.1, 3072, .inl f1)), (mG, .inl (G.2.1, 3072, .inl f2)), (mH, .inl (G.2.1, 3, .inl fh)), (mA, .inl (G.2.1, 3, .inl fp)), (mE, .inl (G.2.1, 9, .inl fE)), (mR, .inl (G.2.1, 4000, .inl gr))] := hD
  refine lv_aload_n hx hb dX11_readTile_17 rfl (lv_at hl 0 rfl) ?_
  refine lv_lconst (v := 0) hx hb dX11_readTile_18 (by decide) ?_
  refine va_put (D := G.1) (ci := 10) (v := .long 0) (ty := tyX11 27) (C := RX11) (T := TX11) (N := 32) hx hb hts hin_X11_readTile_11 tyX11 tyX11_ok nmX11 hown hK.1 hP hD hS 0 rfl rfl 27 (by decide) (hts (.fieldLink RX11 148 "MixedPredictModel" "word" "J") (List.mem_cons_of_mem _ (List.mem_append_left _ (List.mem_append_left _ (List.mem_of_getElem? (i := 3) rfl))))) (fun _ h9 => h9) rfl (tyX11_ok 27 (by decide)) rfl rfl (Nat.le_of_ble_eq_true rfl) dX11_readTile_19 (fun H locs hP hD hS => ?_)
  have hP : va_P G.1 vwCl [(mo, .inr (10, [.int code, .int (nI w), .int (nI h), .int (nI b), .int (nI c), .int (nI md), .int (nI (2 * md)), .ref mS, .ref mW, .ref mF, .ref mG, .ref mH, .ref mA, .ref kW, .ref kF, .ref kG, .ref kH, .ref mE, .ref mL, .ref mO, .int oc, .ref mC, .int cc, .ref mR, .int rc, .long low, .long hig, .long 0, .int 0, .int (nI s0), .int (nI (s0 + z0)), .int mx0])), (mS, .inl (G.2.1, 768, .inl f)), (mW, .inl (G.2.1, 9, .inl fW)), (mF, .inl (G.2.1, 3072, .inl f1)), (mG, .inl (G.2.1, 3072, .inl f2)), (mH, .inl (G.2.1, 3, .inl fh)), (mA, .inl (G.2.1, 3, .inl fp)), (mE, .inl (G.2.1, 9, .inl fE)), (mR, .inl (G.2.1, 4000, .inl gr))] H := hP
  have hD : va_D A [(mo, .inr (10, [.int code, .int (nI w), .int (nI h), .int (nI b), .int (nI c), .int (nI md), .int (nI (2 * md)), .ref mS, .ref mW, .ref mF, .ref mG, .ref mH, .ref mA, .ref kW, .ref kF, .ref kG, .ref kH, .ref mE, .ref mL, .ref mO, .int oc, .ref mC, .int cc, .ref mR, .int rc, .long low, .long hig, .long 0, .int 0, .int (nI s0), .int (nI (s0 + z0)), .int mx0])), (mS, .inl (G.2.1, 768, .inl f)), (mW, .inl (G.2.1, 9, .inl fW)), (mF, .inl (G.2.1, 3072, .inl f1)), (mG, .inl (G.2.1, 3072, .inl f2)), (mH, .inl (G.2.1, 3, .inl fh)), (mA, .inl (G.2.1, 3, .inl fp)), (mE, .inl (G.2.1, 9, .inl fE)), (mR, .inl (G.2.1, 4000, .inl gr))] := hD
  refine lv_iconst (v := 0) hx hb dX11_readTile_22 (by decide) ?_
  refine lv_istore (lv' := [(4, .int 0), (0, .ref mo), (1, .int (nI s0)), (2, .int (nI z0)), (3, .int (nI t))]) hx hb dX11_readTile_23 hl (by decide) rfl (fun ls hl => ?_)
  have hfe : (rdn (s0 + z0) D s0 0) = 0 := (rfl).symm
  have hP : va_P G.1 vwCl [(mo, .inr (10, [.int code, .int (nI w), .int (nI h), .int (nI b), .int (nI c), .int (nI md), .int (nI (2 * md)), .ref mS, .ref mW, .ref mF, .ref mG, .ref mH, .ref mA, .ref kW, .ref kF, .ref kG, .ref kH, .ref mE, .ref mL, .ref mO, .int oc, .ref mC, .int cc, .ref mR, .int rc, .long low, .long hig, .long (lN (rdn (s0 + z0) D s0 0)), .int 0, .int (nI s0), .int (nI (s0 + z0)), .int mx0])), (mS, .inl (G.2.1, 768, .inl f)), (mW, .inl (G.2.1, 9, .inl fW)), (mF, .inl (G.2.1, 3072, .inl f1)), (mG, .inl (G.2.1, 3072, .inl f2)), (mH, .inl (G.2.1, 3, .inl fh)), (mA, .inl (G.2.1, 3, .inl fp)), (mE, .inl (G.2.1, 9, .inl fE)), (mR, .inl (G.2.1, 4000, .inl gr))] H := by rw [hfe]; exact hP
  have hD : va_D A [(mo, .inr (10, [.int code, .int (nI w), .int (nI h), .int (nI b), .int (nI c), .int (nI md), .int (nI (2 * md)), .ref mS, .ref mW, .ref mF, .ref mG, .ref mH, .ref mA, .ref kW, .ref kF, .ref kG, .ref kH, .ref mE, .ref mL, .ref mO, .int oc, .ref mC, .int cc, .ref mR, .int rc, .long low, .long hig, .long (lN (rdn (s0 + z0) D s0 0)), .int 0, .int (nI s0), .int (nI (s0 + z0)), .int mx0])), (mS, .inl (G.2.1, 768, .inl f)), (mW, .inl (G.2.1, 9, .inl fW)), (mF, .inl (G.2.1, 3072, .inl f1)), (mG, .inl (G.2.1, 3072, .inl f2)), (mH, .inl (G.2.1, 3, .inl fh)), (mA, .inl (G.2.1, 3, .inl fp)), (mE, .inl (G.2.1, 9, .inl fE)), (mR, .inl (G.2.1, 4000, .inl gr))] := by rw [hfe]; exact hD
  clear hfe
  have hfe : (s0 + 0) = s0 := (rfl).symm
  have hP : va_P G.1 vwCl [(mo, .inr (10, [.int code, .int (nI w), .int (nI h), .int (nI b), .int (nI c), .int (nI md), .int (nI (2 * md)), .ref mS, .ref mW, .ref mF, .ref mG, .ref mH, .ref mA, .ref kW, .ref kF, .ref kG, .ref kH, .ref mE, .ref mL, .ref mO, .int oc, .ref mC, .int cc, .ref mR, .int rc, .long low, .long hig, .long (lN (rdn (s0 + z0) D s0 0)), .int 0, .int (nI (s0 + 0)), .int (nI (s0 + z0)), .int mx0])), (mS, .inl (G.2.1, 768, .inl f)), (mW, .inl (G.2.1, 9, .inl fW)), (mF, .inl (G.2.1, 3072, .inl f1)), (mG, .inl (G.2.1, 3072, .inl f2)), (mH, .inl (G.2.1, 3, .inl fh)), (mA, .inl (G.2.1, 3, .inl fp)), (mE, .inl (G.2.1, 9, .inl fE)), (mR, .inl (G.2.1, 4000, .inl gr))] H := by rw [hfe]; exact hP
  have hD : va_D A [(mo, .inr (10, [.int code, .int (nI w), .int (nI h), .int (nI b), .int (nI c), .int (nI md), .int (nI (2 * md)), .ref mS, .ref mW, .ref mF, .ref mG, .ref mH, .ref mA, .ref kW, .ref kF, .ref kG, .ref kH, .ref mE, .ref mL, .ref mO, .int oc, .ref mC, .int cc, .ref mR, .int rc, .long low, .long hig, .long (lN (rdn (s0 + z0) D s0 0)), .int 0, .int (nI (s0 + 0)), .int (nI (s0 + z0)), .int mx0])), (mS, .inl (G.2.1, 768, .inl f)), (mW, .inl (G.2.1, 9, .inl fW)), (mF, .inl (G.2.1, 3072, .inl f1)), (mG, .inl (G.2.1, 3072, .inl f2)), (mH, .inl (G.2.1, 3, .inl fh)), (mA, .inl (G.2.1, 3, .inl fp)), (mE, .inl (G.2.1, 9, .inl fE)), (mR, .inl (G.2.1, 4000, .inl gr))] := by rw [hfe]; exact hD
  clear hfe
  refine x_loop (α := (Nat) × (Array Slot)) (fun z9 => F0 mZ 25 z9.2 []) (fun z9 H locs => ((z9.1) ≤ 4) ∧ lv_has z9.2 5 [(0, .ref mo), (1, .int (nI s0)), (2, .int (nI z0)), (3, .int (nI t)), (4, .int (nI (z9.1)))] ∧ va_P G.1 vwCl [(mo, .inr (10, [.int code, .int (nI w), .int (nI h), .int (nI b), .int (nI c), .int (nI md), .int (nI (2 * md)), .ref mS, .ref mW, .ref mF, .ref mG, .ref mH, .ref mA, .ref kW, .ref kF, .ref kG, .ref kH, .ref mE, .ref mL, .ref mO, .int oc, .ref mC, .int cc, .ref mR, .int rc, .long low, .long hig, .long (lN (rdn (s0 + z0) D s0 (z9.1))), .int 0, .int (nI (s0 + (z9.1))), .int (nI (s0 + z0)), .int mx0])), (mS, .inl (G.2.1, 768, .inl f)), (mW, .inl (G.2.1, 9, .inl fW)), (mF, .inl (G.2.1, 3072, .inl f1)), (mG, .inl (G.2.1, 3072, .inl f2)), (mH, .inl (G.2.1, 3, .inl fh)), (mA, .inl (G.2.1, 3, .inl fp)), (mE, .inl (G.2.1, 9, .inl fE)), (mR, .inl (G.2.1, 4000, .inl gr))] H ∧ va_D A [(mo, .inr (10, [.int code, .int (nI w), .int (nI h), .int (nI b), .int (nI c), .int (nI md), .int (nI (2 * md)), .ref mS, .ref mW, .ref mF, .ref mG, .ref mH, .ref mA, .ref kW, .ref kF, .ref kG, .ref kH, .ref mE, .ref mL, .ref mO, .int oc, .ref mC, .int cc, .ref mR, .int rc, .long low, .long hig, .long (lN (rdn (s0 + z0) D s0 (z9.1))), .int 0, .int (nI (s0 + (z9.1))), .int (nI (s0 + z0)), .int mx0])), (mS, .inl (G.2.1, 768, .inl f)), (mW, .inl (G.2.1, 9, .inl fW)), (mF, .inl (G.2.1, 3072, .inl f1)), (mG, .inl (G.2.1, 3072, .inl f2)), (mH, .inl (G.2.1, 3, .inl fh)), (mA, .inl (G.2.1, 3, .inl fp)), (mE, .inl (G.2.1, 9, .inl fE)), (mR, .inl (G.2.1, 4000, .inl gr))] ∧ va_S A sZ.heap H locs) (fun z9 => 4 - (z9.1)) (fun z9 H locs hI ih_1 => ?_) (0, ls) _ _ ⟨(show 0 ≤ 4 from Nat.zero_le _), lv_sub hl [1, 2, 3, 4, 0] rfl, hP, hD, hS⟩
  obtain ⟨n, ls⟩ := z9
  obtain ⟨hI, hl, hP, hD, hS⟩ := hI
  have hI : n ≤ 4 := hI
  have hl : lv_has ls 5 [(0, .ref mo), (1, .int (nI s0)), (2, .int (nI z0)), (3, .int (nI t)), (4, .int (nI n))] := hl
  have hP : va_P G.1 vwCl [(mo, .inr (10, [.int code, .int (nI w), .int (nI h), .int (nI b), .int (nI c), .int (nI md), .int (nI (2 * md)), .ref mS, .ref mW, .ref mF, .ref mG, .ref mH, .ref mA, .ref kW, .ref kF, .ref kG, .ref kH, .ref mE, .ref mL, .ref mO, .int oc, .ref mC, .int cc, .ref mR, .int rc, .long low, .long hig, .long (lN (rdn (s0 + z0) D s0 n)), .int 0, .int (nI (s0 + n)), .int (nI (s0 + z0)), .int mx0])), (mS, .inl (G.2.1, 768, .inl f)), (mW, .inl (G.2.1, 9, .inl fW)), (mF, .inl (G.2.1, 3072, .inl f1)), (mG, .inl (G.2.1, 3072, .inl f2)), (mH, .inl (G.2.1, 3, .inl fh)), (mA, .inl (G.2.1, 3, .inl fp)), (mE, .inl (G.2.1, 9, .inl fE)), (mR, .inl (G.2.1, 4000, .inl gr))] H := hP
  have hD : va_D A [(mo, .inr (10, [.int code, .int (nI w), .int (nI h), .int (nI b), .int (nI c), .int (nI md), .int (nI (2 * md)), .ref mS, .ref mW, .ref mF, .ref mG, .ref mH, .ref mA, .ref kW, .ref kF, .ref kG, .ref kH, .ref mE, .ref mL, .ref mO, .int oc, .ref mC, .int cc, .ref mR, .int rc, .long low, .long hig, .long (lN (rdn (s0 + z0) D s0 n)), .int 0, .int (nI (s0 + n)), .int (nI (s0 + z0)), .int mx0])), (mS, .inl (G.2.1, 768, .inl f)), (mW, .inl (G.2.1, 9, .inl fW)), (mF, .inl (G.2.1, 3072, .inl f1)), (mG, .inl (G.2.1, 3072, .inl f2)), (mH, .inl (G.2.1, 3, .inl fh)), (mA, .inl (G.2.1, 3, .inl fp)), (mE, .inl (G.2.1, 9, .inl fE)), (mR, .inl (G.2.1, 4000, .inl gr))] := hD
  refine lv_iload hx hb dX11_readTile_25 (lv_at hl 4 rfl) ?_
  refine lv_iconst (v := 4) hx hb dX11_readTile_27 (by decide) ?_
  refine lv_icmp_ge (tgt := 54) hx hb dX11_readTile_28 (by decide) (fun c_28 => ?_) (fun c_28 => ?_)
  · skip
    have c_28 : 4 ≤ n := (nI_leI (a := 4) (b := n) (by omega) (by omega)).mp c_28
    have n4 : n = 4 := by omega
    subst n4
    refine lv_aload_n hx hb dX11_readTile_54 rfl (lv_at hl 0 rfl) ?_
    refine lv_iload_n hx hb dX11_readTile_55 rfl (lv_at hl 3 rfl) ?_
    refine w_fin_v (WR := []) (va_runV (As := [.int (nI t)]) (rest := []) ⟨hx, hb, hml, hown, hts⟩ (c_X11_walk_R l G mo mS mW mF mG mH mA kW kF kG kH mE mL mO mC mR w h b c md hd code oc cc rc low hig mx0 fW fE f1 f2 fh fp f P (by first | assumption | omega) (by first | assumption | omega) (s0 + 4) (by omega) gr cn (by first | assumption | omega) (s0 + z0) D (by first | assumption | omega) (qs) (0, fun _ => 0, rdn (s0 + z0) D s0 4, s0 + 4) (rdn_lt qr 4) (Nat.le_refl _) t (by first | assumption | omega) H.size) (cwV 1 hts gX11_readTile_X11_walk rfl rfl rfl (by decide +kernel) ⟨Nat.le_of_ble_eq_true rfl, Nat.le_of_ble_eq_true rfl⟩) (x_preV (w_pre hK hP hD [0, 1, 2, 3, 4, 5, 6, 7, 8] (by decide) rfl) hK hP (ci := 10) (q0 := 0) rfl rfl) rfl rfl hl.1 rfl (lv_room (Nat.le_of_ble_eq_true rfl)) dX11_readTile_56 ⟨Nat.zero_le _, Nat.zero_le _⟩) hP hD hS hA [0, 1, 2, 3, 4, 5, 6, 7, 8] [] rfl rfl (by decide) (by decide) [0, 1, 2, 3, 4, 5, 6, 7, 8] (by decide) (fun (u9 : (Nat → Int32) × (Nat → Int32) × (Nat → Int32) × (Nat → Int32) × (Nat → Int32) × (Nat → Int32) × (Nat → Int32) × Int32) => [(mo, .inr (10, [.int code, .int (nI w), .int (nI h), .int (nI b), .int (nI c), .int (nI md), .int (nI (2 * md)), .ref mS, .ref mW, .ref mF, .ref mG, .ref mH, .ref mA, .ref kW, .ref kF, .ref kG, .ref kH, .ref mE, .ref mL, .ref mO, .int oc, .ref mC, .int cc, .ref mR, .int rc, .long (lN ((tile false (s0 + z0) D w h b c md t P (0, 4294967295, ((0, fun _ => 0, rdn (s0 + z0) D s0 4, s0 + 4)))).2.2.2.2.2.2.1)), .long (lN ((tile false (s0 + z0) D w h b c md t P (0, 4294967295, ((0, fun _ => 0, rdn (s0 + z0) D s0 4, s0 + 4)))).2.2.2.2.2.2.2.1)), .long (lN ((tile false (s0 + z0) D w h b c md t P (0, 4294967295, ((0, fun _ => 0, rdn (s0 + z0) D s0 4, s0 + 4)))).2.2.2.2.2.2.2.2.2.2.1)), .int 0, .int (nI ((tile false (s0 + z0) D w h b c md t P (0, 4294967295, ((0, fun _ => 0, rdn (s0 + z0) D s0 4, s0 + 4)))).2.2.2.2.2.2.2.2.2.2.2)), .int (nI (s0 + z0)), .int (u9.2.2.2.2.2.2.2)])), (mS, .inl (G.2.1, 768, .inl (u9.2.2.2.2.2.2.1))), (mW, .inl (G.2.1, 9, .inl (u9.1))), (mF, .inl (G.2.1, 3072, .inl (u9.2.2.1))), (mG, .inl (G.2.1, 3072, .inl (u9.2.2.2.1))), (mH, .inl (G.2.1, 3, .inl (u9.2.2.2.2.1))), (mA, .inl (G.2.1, 3, .inl (u9.2.2.2.2.2.1))), (mE, .inl (G.2.1, 9, .inl (u9.2.1))), (mR, .inl (G.2.1, 4000, .inl gr))]) (fun _ => rfl) (fun u H locs hw hP hD hS => ?_)
    obtain ⟨uW_2, uE_3, u1_4, u2_5, u3_6, up_7, uf_8, um_9⟩ := u
    have hP : va_P G.1 vwCl [(mo, .inr (10, [.int code, .int (nI w), .int (nI h), .int (nI b), .int (nI c), .int (nI md), .int (nI (2 * md)), .ref mS, .ref mW, .ref mF, .ref mG, .ref mH, .ref mA, .ref kW, .ref kF, .ref kG, .ref kH, .ref mE, .ref mL, .ref mO, .int oc, .ref mC, .int cc, .ref mR, .int rc, .long (lN ((tile false (s0 + z0) D w h b c md t P (0, 4294967295, ((0, fun _ => 0, rdn (s0 + z0) D s0 4, s0 + 4)))).2.2.2.2.2.2.1)), .long (lN ((tile false (s0 + z0) D w h b c md t P (0, 4294967295, ((0, fun _ => 0, rdn (s0 + z0) D s0 4, s0 + 4)))).2.2.2.2.2.2.2.1)), .long (lN ((tile false (s0 + z0) D w h b c md t P (0, 4294967295, ((0, fun _ => 0, rdn (s0 + z0) D s0 4, s0 + 4)))).2.2.2.2.2.2.2.2.2.2.1)), .int 0, .int (nI ((tile false (s0 + z0) D w h b c md t P (0, 4294967295, ((0, fun _ => 0, rdn (s0 + z0) D s0 4, s0 + 4)))).2.2.2.2.2.2.2.2.2.2.2)), .int (nI (s0 + z0)), .int um_9])), (mS, .inl (G.2.1, 768, .inl uf_8)), (mW, .inl (G.2.1, 9, .inl uW_2)), (mF, .inl (G.2.1, 3072, .inl u1_4)), (mG, .inl (G.2.1, 3072, .inl u2_5)), (mH, .inl (G.2.1, 3, .inl u3_6)), (mA, .inl (G.2.1, 3, .inl up_7)), (mE, .inl (G.2.1, 9, .inl uE_3)), (mR, .inl (G.2.1, 4000, .inl gr))] H := hP
    have hD : va_D A [(mo, .inr (10, [.int code, .int (nI w), .int (nI h), .int (nI b), .int (nI c), .int (nI md), .int (nI (2 * md)), .ref mS, .ref mW, .ref mF, .ref mG, .ref mH, .ref mA, .ref kW, .ref kF, .ref kG, .ref kH, .ref mE, .ref mL, .ref mO, .int oc, .ref mC, .int cc, .ref mR, .int rc, .long (lN ((tile false (s0 + z0) D w h b c md t P (0, 4294967295, ((0, fun _ => 0, rdn (s0 + z0) D s0 4, s0 + 4)))).2.2.2.2.2.2.1)), .long (lN ((tile false (s0 + z0) D w h b c md t P (0, 4294967295, ((0, fun _ => 0, rdn (s0 + z0) D s0 4, s0 + 4)))).2.2.2.2.2.2.2.1)), .long (lN ((tile false (s0 + z0) D w h b c md t P (0, 4294967295, ((0, fun _ => 0, rdn (s0 + z0) D s0 4, s0 + 4)))).2.2.2.2.2.2.2.2.2.2.1)), .int 0, .int (nI ((tile false (s0 + z0) D w h b c md t P (0, 4294967295, ((0, fun _ => 0, rdn (s0 + z0) D s0 4, s0 + 4)))).2.2.2.2.2.2.2.2.2.2.2)), .int (nI (s0 + z0)), .int um_9])), (mS, .inl (G.2.1, 768, .inl uf_8)), (mW, .inl (G.2.1, 9, .inl uW_2)), (mF, .inl (G.2.1, 3072, .inl u1_4)), (mG, .inl (G.2.1, 3072, .inl u2_5)), (mH, .inl (G.2.1, 3, .inl u3_6)), (mA, .inl (G.2.1, 3, .inl up_7)), (mE, .inl (G.2.1, 9, .inl uE_3)), (mR, .inl (G.2.1, 4000, .inl gr))] := hD
    have hwT : RTR w h c md (tile false (s0 + z0) D w h b c md t P (0, 4294967295, ((0, fun _ => 0, rdn (s0 + z0) D s0 4, s0 + 4)))) uW_2 u1_4 u2_5 u3_6 up_7 uf_8 ∧ TIN w h c md ((s0 + 4) + 6144) (tile false (s0 + z0) D w h b c md t P (0, 4294967295, ((0, fun _ => 0, rdn (s0 + z0) D s0 4, s0 + 4)))) := hw
    exact w_vret (uW_2, uE_3, u1_4, u2_5, u3_6, up_7, uf_8, um_9) hx hb hr hlocks (hwT.1) hP hD hS dX11_readTile_59
  · skip
    have c_28 : ¬ (4 ≤ n) := fun z8 => c_28 ((nI_leI (a := 4) (b := n) (by omega) (by omega)).mpr z8)
    have r9 := rdn_n (fr := s0) qr (show n < 4 by omega)
    have r8 := qr (s0 + n)
    refine lv_aload_n hx hb dX11_readTile_31 rfl (lv_at hl 0 rfl) ?_
    refine lv_aload_n hx hb dX11_readTile_32 rfl (lv_at hl 0 rfl) ?_
    refine va_get (D := G.1) (ci := 10) (v := .long (lN (rdn (s0 + z0) D s0 n))) (C := RX11) (T := TX11) (N := 32) hx hb hts hin_X11_readTile_11 hown hK.1 hP 0 rfl rfl 27 (by decide) (hts (.fieldLink RX11 148 "MixedPredictModel" "word" "J") (List.mem_cons_of_mem _ (List.mem_append_left _ (List.mem_append_left _ (List.mem_of_getElem? (i := 3) rfl))))) (fun _ h9 => h9) rfl dX11_readTile_33 ?_
    refine lv_bipush (v := 8) hx hb dX11_readTile_36 (by decide) ?_
    refine lv_lshl hx hb dX11_readTile_38 rfl ?_
    refine x_topl (y := lN ((rdn (s0 + z0) D s0 n) * 256)) (l_shl8 (by omega)) ?_
    refine lv_aload_n hx hb dX11_readTile_39 rfl (lv_at hl 0 rfl) ?_
    refine w_fin_i (WR := [(mS, .inl (G.2.1, 768, .inl f)), (mW, .inl (G.2.1, 9, .inl fW)), (mF, .inl (G.2.1, 3072, .inl f1)), (mG, .inl (G.2.1, 3072, .inl f2)), (mH, .inl (G.2.1, 3, .inl fh)), (mA, .inl (G.2.1, 3, .inl fp)), (mE, .inl (G.2.1, 9, .inl fE))]) (va_runV (As := []) (rest := [.long (lN ((rdn (s0 + z0) D s0 n) * 256)), .ref mo]) ⟨hx, hb, hml, hown, hts⟩ (c_X11_nextByte l G mo mS mW mF mG mH mA kW kF kG kH mE mL mO mC mR w h b c md hd code oc cc rc 0 mx0 low hig (lN (rdn (s0 + z0) D s0 n)) gr cn (by first | assumption | omega) (s0 + z0) D (by first | assumption | omega) (qs) (s0 + n) (by first | assumption | omega) H.size) (cwV 0 hts gX11_readTile_X11_nextByte rfl rfl rfl (by decide +kernel) ⟨Nat.le_of_ble_eq_true rfl, Nat.le_of_ble_eq_true rfl⟩) (x_preV (w_pre hK hP hD [0, 8] (by decide) rfl) hK hP (ci := 10) (q0 := 0) rfl rfl) rfl rfl hl.1 rfl (lv_room (Nat.le_of_ble_eq_true rfl)) dX11_readTile_40 ⟨Nat.zero_le _, Nat.zero_le _⟩) hP hD hS hA [0, 8] [1, 2, 3, 4, 5, 6, 7] rfl rfl (by decide) (by decide) [7, 0, 1, 2, 3, 4, 5, 6, 8] (by decide) (fun (_ : Unit) => [(mo, .inr (10, [.int code, .int (nI w), .int (nI h), .int (nI b), .int (nI c), .int (nI md), .int (nI (2 * md)), .ref mS, .ref mW, .ref mF, .ref mG, .ref mH, .ref mA, .ref kW, .ref kF, .ref kG, .ref kH, .ref mE, .ref mL, .ref mO, .int oc, .ref mC, .int cc, .ref mR, .int rc, .long low, .long hig, .long (lN (rdn (s0 + z0) D s0 n)), .int 0, .int (nI ((s0 + n) + 1)), .int (nI (s0 + z0)), .int mx0])), (mS, .inl (G.2.1, 768, .inl f)), (mW, .inl (G.2.1, 9, .inl fW)), (mF, .inl (G.2.1, 3072, .inl f1)), (mG, .inl (G.2.1, 3072, .inl f2)), (mH, .inl (G.2.1, 3, .inl fh)), (mA, .inl (G.2.1, 3, .inl fp)), (mE, .inl (G.2.1, 9, .inl fE)), (mR, .inl (G.2.1, 4000, .inl gr))]) (fun _ => rfl) (fun r_12 u H locs hw hP hD hS => ?_)
    have hP : va_P G.1 vwCl [(mo, .inr (10, [.int code, .int (nI w), .int (nI h), .int (nI b), .int (nI c), .int (nI md), .int (nI (2 * md)), .ref mS, .ref mW, .ref mF, .ref mG, .ref mH, .ref mA, .ref kW, .ref kF, .ref kG, .ref kH, .ref mE, .ref mL, .ref mO, .int oc, .ref mC, .int cc, .ref mR, .int rc, .long low, .long hig, .long (lN (rdn (s0 + z0) D s0 n)), .int 0, .int (nI ((s0 + n) + 1)), .int (nI (s0 + z0)), .int mx0])), (mS, .inl (G.2.1, 768, .inl f)), (mW, .inl (G.2.1, 9, .inl fW)), (mF, .inl (G.2.1, 3072, .inl f1)), (mG, .inl (G.2.1, 3072, .inl f2)), (mH, .inl (G.2.1, 3, .inl fh)), (mA, .inl (G.2.1, 3, .inl fp)), (mE, .inl (G.2.1, 9, .inl fE)), (mR, .inl (G.2.1, 4000, .inl gr))] H := hP
    have hD : va_D A [(mo, .inr (10, [.int code, .int (nI w), .int (nI h), .int (nI b), .int (nI c), .int (nI md), .int (nI (2 * md)), .ref mS, .ref mW, .ref mF, .ref mG, .ref mH, .ref mA, .ref kW, .ref kF, .ref kG, .ref kH, .ref mE, .ref mL, .ref mO, .int oc, .ref mC, .int cc, .ref mR, .int rc, .long low, .long hig, .long (lN (rdn (s0 + z0) D s0 n)), .int 0, .int (nI ((s0 + n) + 1)), .int (nI (s0 + z0)), .int mx0])), (mS, .inl (G.2.1, 768, .inl f)), (mW, .inl (G.2.1, 9, .inl fW)), (mF, .inl (G.2.1, 3072, .inl f1)), (mG, .inl (G.2.1, 3072, .inl f2)), (mH, .inl (G.2.1, 3, .inl fh)), (mA, .inl (G.2.1, 3, .inl fp)), (mE, .inl (G.2.1, 9, .inl fE)), (mR, .inl (G.2.1, 4000, .inl gr))] := hD
    subst hw
    refine lv_i2l hx hb dX11_readTile_43 rfl ?_
    refine x_topl (y := lN (rdb (s0 + z0) D (s0 + n))) (nI_l (by omega)) ?_
    refine lv_ladd hx hb dX11_readTile_44 ?_
    refine x_topl (y := lN ((rdn (s0 + z0) D s0 n) * 256 + (rdb (s0 + z0) D (s0 + n)))) (lN_add _ _) ?_
    refine x_topl (y := lN (rdn (s0 + z0) D s0 (n + 1))) (congrArg lN (by simp only [rdn]; omega)) ?_
    refine va_put (D := G.1) (ci := 10) (v := .long (lN (rdn (s0 + z0) D s0 (n + 1)))) (ty := tyX11 27) (C := RX11) (T := TX11) (N := 32) hx hb hts hin_X11_readTile_11 tyX11 tyX11_ok nmX11 hown hK.1 hP hD hS 0 rfl rfl 27 (by decide) (hts (.fieldLink RX11 148 "MixedPredictModel" "word" "J") (List.mem_cons_of_mem _ (List.mem_append_left _ (List.mem_append_left _ (List.mem_of_getElem? (i := 3) rfl))))) (fun _ h9 => h9) rfl (tyX11_ok 27 (by decide)) rfl rfl (Nat.le_of_ble_eq_true rfl) dX11_readTile_45 (fun H locs hP hD hS => ?_)
    have hP : va_P G.1 vwCl [(mo, .inr (10, [.int code, .int (nI w), .int (nI h), .int (nI b), .int (nI c), .int (nI md), .int (nI (2 * md)), .ref mS, .ref mW, .ref mF, .ref mG, .ref mH, .ref mA, .ref kW, .ref kF, .ref kG, .ref kH, .ref mE, .ref mL, .ref mO, .int oc, .ref mC, .int cc, .ref mR, .int rc, .long low, .long hig, .long (lN (rdn (s0 + z0) D s0 (n + 1))), .int 0, .int (nI ((s0 + n) + 1)), .int (nI (s0 + z0)), .int mx0])), (mS, .inl (G.2.1, 768, .inl f)), (mW, .inl (G.2.1, 9, .inl fW)), (mF, .inl (G.2.1, 3072, .inl f1)), (mG, .inl (G.2.1, 3072, .inl f2)), (mH, .inl (G.2.1, 3, .inl fh)), (mA, .inl (G.2.1, 3, .inl fp)), (mE, .inl (G.2.1, 9, .inl fE)), (mR, .inl (G.2.1, 4000, .inl gr))] H := hP
    have hD : va_D A [(mo, .inr (10, [.int code, .int (nI w), .int (nI h), .int (nI b), .int (nI c), .int (nI md), .int (nI (2 * md)), .ref mS, .ref mW, .ref mF, .ref mG, .ref mH, .ref mA, .ref kW, .ref kF, .ref kG, .ref kH, .ref mE, .ref mL, .ref mO, .int oc, .ref mC, .int cc, .ref mR, .int rc, .long low, .long hig, .long (lN (rdn (s0 + z0) D s0 (n + 1))), .int 0, .int (nI ((s0 + n) + 1)), .int (nI (s0 + z0)), .int mx0])), (mS, .inl (G.2.1, 768, .inl f)), (mW, .inl (G.2.1, 9, .inl fW)), (mF, .inl (G.2.1, 3072, .inl f1)), (mG, .inl (G.2.1, 3072, .inl f2)), (mH, .inl (G.2.1, 3, .inl fh)), (mA, .inl (G.2.1, 3, .inl fp)), (mE, .inl (G.2.1, 9, .inl fE)), (mR, .inl (G.2.1, 4000, .inl gr))] := hD
    refine lv_iinc (v := nI (n + 1)) (lv' := [(4, .int (nI (n + 1))), (0, .ref mo), (1, .int (nI s0)), (2, .int (nI z0)), (3, .int (nI t))]) hx hb dX11_readTile_48 hl (k := 4) rfl (by first | rfl | exact nI_add _ _) (by decide) rfl (fun ls hl => ?_)
    refine lv_goto (tgt := 25) hx hb dX11_readTile_51 (by decide) ?_
    exact ih_1 (n + 1, ls) _ _ (show 4 - (n + 1) < 4 - n from by omega) ⟨(show (n + 1) ≤ 4 from by omega), lv_sub hl [1, 2, 3, 4, 0] rfl, hP, hD, hS⟩
