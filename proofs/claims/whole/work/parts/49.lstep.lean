theorem nat_ofle {x : Int32} {n : Nat} (hn : n < 2 ^ 29) (h : 0 ≤ x ∧ x ≤ nI n) : ∃ m, m ≤ n ∧ x = nI m := by
  obtain ⟨h1, h2⟩ := h
  rw [Int32.le_iff_toInt_le] at h1
  rw [Int32.le_iff_toInt_le, nI_toInt (by omega)] at h2
  have e0 : (0 : Int32).toInt = 0 := by decide
  rw [e0] at h1
  refine ⟨x.toInt.toNat, by omega, ?_⟩
  apply Int32.toInt_inj.mp
  rw [nI_toInt (by omega)]
  omega
theorem nat_of1 {x : Int32} {n : Nat} (hn : n < 2 ^ 29) (h : 1 ≤ x ∧ x ≤ nI n) : ∃ m, 1 ≤ m ∧ m ≤ n ∧ x = nI m := by
  obtain ⟨h1, h2⟩ := h
  rw [Int32.le_iff_toInt_le] at h1
  rw [Int32.le_iff_toInt_le, nI_toInt (by omega)] at h2
  have e0 : (1 : Int32).toInt = 1 := by decide
  rw [e0] at h1
  refine ⟨x.toInt.toNat, by omega, by omega, ?_⟩
  apply Int32.toInt_inj.mp
  rw [nI_toInt (by omega)]
  omega
set_option maxHeartbeats 8000000 in
set_option maxRecDepth 100000 in
theorem lw_step {pZ : Program} {eZ : Env} {sZ : State} {mZ : MethodId} {bZ : List Frame} {tZ : Method} {cZ : Code} {Q : State → Prop} (l : Launch) (G : GG) (A : Nat → Prop) {sb L : Nat} {xs : Nat → Int32} (C0 : LCT pZ sZ mZ tZ cZ l G A sb L xs) (i9 : Nat) (hi9 : i9 + 5 ≤ L) (kc9 ks9 : Nat) (hkc : kc9 ≤ 1000) (hks : ks9 ≤ 100000) {xm pm rs as am teE whE wrE waE erE eaE chE frE faE srE saE trE taE arE prE paE teD whD wrD waD erD eaD chD frD faD srD saD trD taD arD prD paD ob oa cb ca ib iar it ri pt pta mo mS mW mF mG mH mA kW kF kG kH mE mL mO mC mR ou : Nat} {w h b c md k1 cn : Nat} {f WE EE F1E F2E HE PE WD ED F1D F2D HD PD o1 fc gr ft fR wR f1R f2R hR pR gW g1 g2 gh eR plR oR fcR grR : Nat → Int32} {m1 m2 m3 m4 m5 e1 e2 e3 e4 e5 d1 d2 d3 d4 d5 n3 n4 code oc wrs frm enn mxx : Int32} {l1 l2 l3 l4 l5 low hig wrd : Int64} {uo : Nat → Int64} {P : Nat → Nat → Nat → Nat} {Wk Hk : Nat → Int32} {Fk Sk : CHT} {cd : DV} {pl D : Nat → Nat} (hd : DIM w h b c md) (qP : PicC w h c f P) (qR : PicR w h c fR P) (qB : PicB w h c md P) (kW1 : ∀ j, j < 9 → WE j = Wk j) (kW2 : ∀ j, j < 9 → gW j = Wk j) (kF1 : ChC c md F1E Fk) (kF2 : ChR c md g1 Fk) (kS1 : ChC c md F2E Sk) (kS2 : ChR c md g2 Sk) (kH1 : ∀ j, j < c → HE j = Hk j) (kH2 : ∀ j, j < c → gh j = Hk j) (rc1 : RepO 784 cd fc) (rc2 : RepO 4000 cd fcR) (qcd : cd.1 ≤ 784) (qcb : B256 cd) (pt1 : ∀ j, j < 4 → ft j = nI (pl j)) (pt2 : ∀ j, j < 4 → plR j = nI (pl j)) (ptl : PL2 pl) (qcn : cn ≤ 4000) (qD1 : RepD cn D gr) (qD2 : RepD cn D grR)  (ls : Array Slot) (H : Heap) (locs : List Loc) (hl : lv_has ls 7 [(0, .ref sb), (1, .ref xm), (2, .ref mo), (3, .ref ou), (4, .int (nI i9))]) (hP : va_P G.1 vwCl [(xm, .inr (9, [.ref pm, .ref am, .ref teE, .ref teD, .ref ob, .ref cb, .ref ib, .ref it, .ref ri, .ref pt])), (pm, .inr (3, [.int (nI w), .int (nI h), .int (nI b), .int (nI c), .int (nI (2 * md - 1)), .int (nI md), .int (nI ((w + 7) / 8)), .ref rs])), (rs, .inr (5, [.ref as])), (as, .inl (G.2.1, w * h * c, .inl f)), (am, .inr (0, [.ref pm, .int m1, .int m2, .int m3, .int m4, .int m5])), (teE, .inr (6, [.ref whE, .ref chE, .ref pm, .ref arE, .ref prE])), (whE, .inr (7, [.ref wrE, .ref erE])), (wrE, .inr (5, [.ref waE])), (waE, .inl (G.2.1, 9, .inl WE)), (erE, .inr (5, [.ref eaE])), (eaE, .inl (G.2.1, 9, .inl EE)), (chE, .inr (2, [.ref frE, .ref srE, .ref trE, .int (nI b)])), (frE, .inr (5, [.ref faE])), (faE, .inl (G.2.1, (c * 4) * (2 * md), .inl F1E)), (srE, .inr (5, [.ref saE])), (saE, .inl (G.2.1, (c * 4) * (2 * md), .inl F2E)), (trE, .inr (5, [.ref taE])), (taE, .inl (G.2.1, c, .inl HE)), (arE, .inr (0, [.ref pm, .int e1, .int e2, .int e3, .int e4, .int e5])), (prE, .inr (5, [.ref paE])), (paE, .inl (G.2.1, c, .inl PE)), (teD, .inr (6, [.ref whD, .ref chD, .ref pm, .ref arD, .ref prD])), (whD, .inr (7, [.ref wrD, .ref erD])), (wrD, .inr (5, [.ref waD])), (waD, .inl (G.2.1, 9, .inl WD)), (erD, .inr (5, [.ref eaD])), (eaD, .inl (G.2.1, 9, .inl ED)), (chD, .inr (2, [.ref frD, .ref srD, .ref trD, .int (nI b)])), (frD, .inr (5, [.ref faD])), (faD, .inl (G.2.1, (c * 4) * (2 * md), .inl F1D)), (srD, .inr (5, [.ref saD])), (saD, .inl (G.2.1, (c * 4) * (2 * md), .inl F2D)), (trD, .inr (5, [.ref taD])), (taD, .inl (G.2.1, c, .inl HD)), (arD, .inr (0, [.ref pm, .int d1, .int d2, .int d3, .int d4, .int d5])), (prD, .inr (5, [.ref paD])), (paD, .inl (G.2.1, c, .inl PD)), (ob, .inr (1, [.ref oa, .int (nI k1)])), (oa, .inl (G.2.1, 192, .inl o1)), (cb, .inr (1, [.ref ca, .int (nI cd.1)])), (ca, .inl (G.2.1, 784, .inl fc)), (ib, .inr (1, [.ref iar, .int (nI cn)])), (iar, .inl (G.2.1, 4000, .inl gr)), (it, .inr (8, [.long l1, .long l2, .ref ob])), (ri, .inr (4, [.long l3, .long l4, .ref ib, .int n3, .int n4, .long l5])), (pt, .inr (5, [.ref pta])), (pta, .inl (G.2.1, 4, .inl ft)), (mo, .inr (10, [.int code, .int (nI w), .int (nI h), .int (nI b), .int (nI c), .int (nI md), .int (nI (2 * md)), .ref mS, .ref mW, .ref mF, .ref mG, .ref mH, .ref mA, .ref kW, .ref kF, .ref kG, .ref kH, .ref mE, .ref mL, .ref mO, .int oc, .ref mC, .int (nI cd.1), .ref mR, .int (nI cn), .long low, .long hig, .long wrd, .int wrs, .int frm, .int enn, .int mxx])), (mS, .inl (G.2.1, 768, .inl fR)), (mW, .inl (G.2.1, 9, .inl wR)), (mF, .inl (G.2.1, 3072, .inl f1R)), (mG, .inl (G.2.1, 3072, .inl f2R)), (mH, .inl (G.2.1, 3, .inl hR)), (mA, .inl (G.2.1, 3, .inl pR)), (kW, .inl (G.2.1, 9, .inl gW)), (kF, .inl (G.2.1, 3072, .inl g1)), (kG, .inl (G.2.1, 3072, .inl g2)), (kH, .inl (G.2.1, 3, .inl gh)), (mE, .inl (G.2.1, 9, .inl eR)), (mL, .inl (G.2.2.1, 4, .inl plR)), (mO, .inl (G.2.1, 4000, .inl oR)), (mC, .inl (G.2.1, 4000, .inl fcR)), (mR, .inl (G.2.1, 4000, .inl grR)), (ou, .inl (G.2.2.2, 1, .inr (.inl uo)))] H) (hD : va_D A [(xm, .inr (9, [.ref pm, .ref am, .ref teE, .ref teD, .ref ob, .ref cb, .ref ib, .ref it, .ref ri, .ref pt])), (pm, .inr (3, [.int (nI w), .int (nI h), .int (nI b), .int (nI c), .int (nI (2 * md - 1)), .int (nI md), .int (nI ((w + 7) / 8)), .ref rs])), (rs, .inr (5, [.ref as])), (as, .inl (G.2.1, w * h * c, .inl f)), (am, .inr (0, [.ref pm, .int m1, .int m2, .int m3, .int m4, .int m5])), (teE, .inr (6, [.ref whE, .ref chE, .ref pm, .ref arE, .ref prE])), (whE, .inr (7, [.ref wrE, .ref erE])), (wrE, .inr (5, [.ref waE])), (waE, .inl (G.2.1, 9, .inl WE)), (erE, .inr (5, [.ref eaE])), (eaE, .inl (G.2.1, 9, .inl EE)), (chE, .inr (2, [.ref frE, .ref srE, .ref trE, .int (nI b)])), (frE, .inr (5, [.ref faE])), (faE, .inl (G.2.1, (c * 4) * (2 * md), .inl F1E)), (srE, .inr (5, [.ref saE])), (saE, .inl (G.2.1, (c * 4) * (2 * md), .inl F2E)), (trE, .inr (5, [.ref taE])), (taE, .inl (G.2.1, c, .inl HE)), (arE, .inr (0, [.ref pm, .int e1, .int e2, .int e3, .int e4, .int e5])), (prE, .inr (5, [.ref paE])), (paE, .inl (G.2.1, c, .inl PE)), (teD, .inr (6, [.ref whD, .ref chD, .ref pm, .ref arD, .ref prD])), (whD, .inr (7, [.ref wrD, .ref erD])), (wrD, .inr (5, [.ref waD])), (waD, .inl (G.2.1, 9, .inl WD)), (erD, .inr (5, [.ref eaD])), (eaD, .inl (G.2.1, 9, .inl ED)), (chD, .inr (2, [.ref frD, .ref srD, .ref trD, .int (nI b)])), (frD, .inr (5, [.ref faD])), (faD, .inl (G.2.1, (c * 4) * (2 * md), .inl F1D)), (srD, .inr (5, [.ref saD])), (saD, .inl (G.2.1, (c * 4) * (2 * md), .inl F2D)), (trD, .inr (5, [.ref taD])), (taD, .inl (G.2.1, c, .inl HD)), (arD, .inr (0, [.ref pm, .int d1, .int d2, .int d3, .int d4, .int d5])), (prD, .inr (5, [.ref paD])), (paD, .inl (G.2.1, c, .inl PD)), (ob, .inr (1, [.ref oa, .int (nI k1)])), (oa, .inl (G.2.1, 192, .inl o1)), (cb, .inr (1, [.ref ca, .int (nI cd.1)])), (ca, .inl (G.2.1, 784, .inl fc)), (ib, .inr (1, [.ref iar, .int (nI cn)])), (iar, .inl (G.2.1, 4000, .inl gr)), (it, .inr (8, [.long l1, .long l2, .ref ob])), (ri, .inr (4, [.long l3, .long l4, .ref ib, .int n3, .int n4, .long l5])), (pt, .inr (5, [.ref pta])), (pta, .inl (G.2.1, 4, .inl ft)), (mo, .inr (10, [.int code, .int (nI w), .int (nI h), .int (nI b), .int (nI c), .int (nI md), .int (nI (2 * md)), .ref mS, .ref mW, .ref mF, .ref mG, .ref mH, .ref mA, .ref kW, .ref kF, .ref kG, .ref kH, .ref mE, .ref mL, .ref mO, .int oc, .ref mC, .int (nI cd.1), .ref mR, .int (nI cn), .long low, .long hig, .long wrd, .int wrs, .int frm, .int enn, .int mxx])), (mS, .inl (G.2.1, 768, .inl fR)), (mW, .inl (G.2.1, 9, .inl wR)), (mF, .inl (G.2.1, 3072, .inl f1R)), (mG, .inl (G.2.1, 3072, .inl f2R)), (mH, .inl (G.2.1, 3, .inl hR)), (mA, .inl (G.2.1, 3, .inl pR)), (kW, .inl (G.2.1, 9, .inl gW)), (kF, .inl (G.2.1, 3072, .inl g1)), (kG, .inl (G.2.1, 3072, .inl g2)), (kH, .inl (G.2.1, 3, .inl gh)), (mE, .inl (G.2.1, 9, .inl eR)), (mL, .inl (G.2.2.1, 4, .inl plR)), (mO, .inl (G.2.1, 4000, .inl oR)), (mC, .inl (G.2.1, 4000, .inl fcR)), (mR, .inl (G.2.1, 4000, .inl grR)), (ou, .inl (G.2.2.2, 1, .inr (.inl uo)))]) (hS : va_S A sZ.heap H locs) (KN : ∀ (ls : Array Slot) (H : Heap) (locs : List Loc), LINV G A sZ.heap sb i9 ls H locs → W pZ l eZ room_1 sZ mZ #[Value.ref sb] bZ tZ cZ H locs (kc9 + 1) (ks9 + 6) Q (F0 mZ 1033 ls [])) : W pZ l eZ room_1 sZ mZ #[Value.ref sb] bZ tZ cZ H locs kc9 ks9 Q (F0 mZ 72 ls []) := by
  obtain ⟨hx, hb, hr, hml, hown, hts, hK, hA, hTH, hX, hbl, hbA, hst, hL⟩ := id C0
  obtain ⟨dw1, dw2, dh1, dh2, db1, db2, dc1, dc2, dm1, dm2, dme⟩ := id hd
  have q3 := tln_le hd
  refine lv_aload_n hx hb dL_law_72 rfl (lv_at hl 0 rfl) ?_
  refine lv_iload hx hb dL_law_73 (lv_at hl 4 rfl) ?_
  refine va_sld (i := nI i9) hx hb hX hbl hbA hS (x_in (by omega) (by omega)) dL_law_75 ?_
  refine x_top (y := xs i9) (by rw [nI_clamp (by omega)]) ?_
  refine lv_bipush (v := 15) hx hb dL_law_76 (by decide) ?_
  refine lv_iand hx hb dL_law_78 ?_
  by_cases z_0 : (xs i9) &&& 15 = 0
  · skip
    refine lv_tableIn (off := 77) (tgt := 156) hx hb dL_law_79 (by rw [z_0]; decide) (by rw [z_0]; decide) (by rw [z_0]; decide) (by decide) ?_
    by_cases qn : ((0 ≤ (xs (i9 + 1)) ∧ (xs (i9 + 1)) < nI w) ∧ (0 ≤ (xs (i9 + 2)) ∧ (xs (i9 + 2)) < nI h) ∧ (0 ≤ (xs (i9 + 3)) ∧ (xs (i9 + 3)) < nI c))
    · by_cases qv : (0 ≤ (xs (i9 + 4)) ∧ (xs (i9 + 4)) ≤ nI (2 * md - 1))
      · skip
        obtain ⟨x, qx, e1x⟩ := nat_of (n := w) (by omega) qn.1
        obtain ⟨y, qy, e2x⟩ := nat_of (n := h) (by omega) qn.2.1
        obtain ⟨k, qk, e3x⟩ := nat_of (n := c) (by omega) qn.2.2
        obtain ⟨v, qv2, e4x⟩ := nat_ofle (by omega) qv
        exact lw_put_0 l G A C0 i9 hi9 kc9 ks9 hkc hks hd qP qR qB kW1 kW2 kF1 kF2 kS1 kS2 kH1 kH2 rc1 rc2 qcd qcb pt1 pt2 ptl qcn qD1 qD2 x y k qx qy qk v (by omega) e1x e2x e3x e4x ls H locs hl hP hD hS KN
      · exact lw_put_2 l G A C0 i9 hi9 kc9 ks9 hkc hks hd qP qR qB kW1 kW2 kF1 kF2 kS1 kS2 kH1 kH2 rc1 rc2 qcd qcb pt1 pt2 ptl qcn qD1 qD2 qn qv ls H locs hl hP hD hS KN
    · exact lw_put_1 l G A C0 i9 hi9 kc9 ks9 hkc hks hd qP qR qB kW1 kW2 kF1 kF2 kS1 kS2 kH1 kH2 rc1 rc2 qcd qcb pt1 pt2 ptl qcn qD1 qD2 qn ls H locs hl hP hD hS KN
  by_cases z_1 : (xs i9) &&& 15 = 1
  · skip
    refine lv_tableIn (off := 176) (tgt := 255) hx hb dL_law_79 (by rw [z_1]; decide) (by rw [z_1]; decide) (by rw [z_1]; decide) (by decide) ?_
    exact lw_paint l G A C0 i9 hi9 kc9 ks9 hkc hks hd qP qR qB kW1 kW2 kF1 kF2 kS1 kS2 kH1 kH2 rc1 rc2 qcd qcb pt1 pt2 ptl qcn qD1 qD2  ls H locs hl hP hD hS KN
  by_cases z_2 : (xs i9) &&& 15 = 2
  · skip
    refine lv_tableIn (off := 213) (tgt := 292) hx hb dL_law_79 (by rw [z_2]; decide) (by rw [z_2]; decide) (by rw [z_2]; decide) (by decide) ?_
    by_cases qn : ((0 ≤ (xs (i9 + 1)) ∧ (xs (i9 + 1)) < nI w) ∧ (0 ≤ (xs (i9 + 2)) ∧ (xs (i9 + 2)) < nI h) ∧ (0 ≤ (xs (i9 + 3)) ∧ (xs (i9 + 3)) < nI c))
    · skip
      obtain ⟨x, qx, e1x⟩ := nat_of (n := w) (by omega) qn.1
      obtain ⟨y, qy, e2x⟩ := nat_of (n := h) (by omega) qn.2.1
      obtain ⟨k, qk, e3x⟩ := nat_of (n := c) (by omega) qn.2.2
      exact lw_at_0 l G A C0 i9 hi9 kc9 ks9 hkc hks hd qP qR qB kW1 kW2 kF1 kF2 kS1 kS2 kH1 kH2 rc1 rc2 qcd qcb pt1 pt2 ptl qcn qD1 qD2 x y k qx qy qk e1x e2x e3x ls H locs hl hP hD hS KN
    · exact lw_at_1 l G A C0 i9 hi9 kc9 ks9 hkc hks hd qP qR qB kW1 kW2 kF1 kF2 kS1 kS2 kH1 kH2 rc1 rc2 qcd qcb pt1 pt2 ptl qcn qD1 qD2 qn ls H locs hl hP hD hS KN
  by_cases z_3 : (xs i9) &&& 15 = 3
  · skip
    refine lv_tableIn (off := 293) (tgt := 372) hx hb dL_law_79 (by rw [z_3]; decide) (by rw [z_3]; decide) (by rw [z_3]; decide) (by decide) ?_
    by_cases qn0 : (((0 ≤ (xs (i9 + 1)) ∧ (xs (i9 + 1)) < nI w) ∧ (0 ≤ (xs (i9 + 2)) ∧ (xs (i9 + 2)) < nI h) ∧ (0 ≤ (xs (i9 + 3)) ∧ (xs (i9 + 3)) < nI c)) ∧ (0 ≤ xs (i9 + 4) ∧ xs (i9 + 4) ≤ 8))
    · obtain ⟨qn, qw⟩ := qn0
      obtain ⟨x, qx, e1x⟩ := nat_of (n := w) (by omega) qn.1
      obtain ⟨y, qy, e2x⟩ := nat_of (n := h) (by omega) qn.2.1
      obtain ⟨k, qk, e3x⟩ := nat_of (n := c) (by omega) qn.2.2
      obtain ⟨v, qv2, e4x⟩ := nat_ofle (n := 8) (by omega) qw
      exact lw_predicted_0 l G A C0 i9 hi9 kc9 ks9 hkc hks hd qP qR qB kW1 kW2 kF1 kF2 kS1 kS2 kH1 kH2 rc1 rc2 qcd qcb pt1 pt2 ptl qcn qD1 qD2 x y k qx qy qk v (by omega) e1x e2x e3x e4x ls H locs hl hP hD hS KN
    · exact lw_predicted_1 l G A C0 i9 hi9 kc9 ks9 hkc hks hd qP qR qB kW1 kW2 kF1 kF2 kS1 kS2 kH1 kH2 rc1 rc2 qcd qcb pt1 pt2 ptl qcn qD1 qD2 qn0 ls H locs hl hP hD hS KN
  by_cases z_4 : (xs i9) &&& 15 = 4
  · skip
    refine lv_tableIn (off := 385) (tgt := 464) hx hb dL_law_79 (by rw [z_4]; decide) (by rw [z_4]; decide) (by rw [z_4]; decide) (by decide) ?_
    exact lw_encode l G A C0 i9 hi9 kc9 ks9 hkc hks hd qP qR qB kW1 kW2 kF1 kF2 kS1 kS2 kH1 kH2 rc1 rc2 qcd qcb pt1 pt2 ptl qcn qD1 qD2  ls H locs hl hP hD hS KN
  by_cases z_5 : (xs i9) &&& 15 = 5
  · skip
    refine lv_tableIn (off := 398) (tgt := 477) hx hb dL_law_79 (by rw [z_5]; decide) (by rw [z_5]; decide) (by rw [z_5]; decide) (by decide) ?_
    by_cases qn : (0 ≤ xs (i9 + 1) ∧ xs (i9 + 1) < nI cd.1)
    · skip
      obtain ⟨i, qi, e1x⟩ := nat_of (by omega) qn
      exact lw_byteAt_0 l G A C0 i9 hi9 kc9 ks9 hkc hks hd qP qR qB kW1 kW2 kF1 kF2 kS1 kS2 kH1 kH2 rc1 rc2 qcd qcb pt1 pt2 ptl qcn qD1 qD2 i qi e1x ls H locs hl hP hD hS KN
    · exact lw_byteAt_1 l G A C0 i9 hi9 kc9 ks9 hkc hks hd qP qR qB kW1 kW2 kF1 kF2 kS1 kS2 kH1 kH2 rc1 rc2 qcd qcb pt1 pt2 ptl qcn qD1 qD2 qn ls H locs hl hP hD hS KN
  by_cases z_6 : (xs i9) &&& 15 = 6
  · skip
    refine lv_tableIn (off := 454) (tgt := 533) hx hb dL_law_79 (by rw [z_6]; decide) (by rw [z_6]; decide) (by rw [z_6]; decide) (by decide) ?_
    by_cases qn : (0 ≤ xs (i9 + 1) ∧ xs (i9 + 1) < nI (tln w h))
    · skip
      obtain ⟨i, qi, e1x⟩ := nat_of (by omega) qn
      exact lw_plain_0 l G A C0 i9 hi9 kc9 ks9 hkc hks hd qP qR qB kW1 kW2 kF1 kF2 kS1 kS2 kH1 kH2 rc1 rc2 qcd qcb pt1 pt2 ptl qcn qD1 qD2 i qi e1x ls H locs hl hP hD hS KN
    · exact lw_plain_1 l G A C0 i9 hi9 kc9 ks9 hkc hks hd qP qR qB kW1 kW2 kF1 kF2 kS1 kS2 kH1 kH2 rc1 rc2 qcd qcb pt1 pt2 ptl qcn qD1 qD2 qn ls H locs hl hP hD hS KN
  by_cases z_7 : (xs i9) &&& 15 = 7
  · skip
    refine lv_tableIn (off := 517) (tgt := 596) hx hb dL_law_79 (by rw [z_7]; decide) (by rw [z_7]; decide) (by rw [z_7]; decide) (by decide) ?_
    by_cases qn : (0 ≤ xs (i9 + 1) ∧ xs (i9 + 1) ≤ 8)
    · skip
      obtain ⟨i, qi, e1x⟩ := nat_ofle (n := 8) (by omega) qn
      exact lw_weight_0 l G A C0 i9 hi9 kc9 ks9 hkc hks hd qP qR qB kW1 kW2 kF1 kF2 kS1 kS2 kH1 kH2 rc1 rc2 qcd qcb pt1 pt2 ptl qcn qD1 qD2 i (by omega) e1x ls H locs hl hP hD hS KN
    · exact lw_weight_1 l G A C0 i9 hi9 kc9 ks9 hkc hks hd qP qR qB kW1 kW2 kF1 kF2 kS1 kS2 kH1 kH2 rc1 rc2 qcd qcb pt1 pt2 ptl qcn qD1 qD2 qn ls H locs hl hP hD hS KN
  by_cases z_8 : (xs i9) &&& 15 = 8
  · skip
    refine lv_tableIn (off := 573) (tgt := 652) hx hb dL_law_79 (by rw [z_8]; decide) (by rw [z_8]; decide) (by rw [z_8]; decide) (by decide) ?_
    by_cases qn : (0 ≤ (xs (i9 + 2)) ∧ (xs (i9 + 2)) < nI c)
    · by_cases qn2 : ((0 ≤ (xs (i9 + 3)) ∧ (xs (i9 + 3)) ≤ 3) ∧ (1 ≤ (xs (i9 + 4)) ∧ (xs (i9 + 4)) ≤ nI (2 * md - 1)))
      · skip
        obtain ⟨k, qk, e2x⟩ := nat_of (by omega) qn
        obtain ⟨q, qq, e3x⟩ := nat_ofle (n := 3) (by omega) qn2.1
        obtain ⟨n, qn3, qn4, e4x⟩ := nat_of1 (by omega) qn2.2
        exact lw_chance_0 l G A C0 i9 hi9 kc9 ks9 hkc hks hd qP qR qB kW1 kW2 kF1 kF2 kS1 kS2 kH1 kH2 rc1 rc2 qcd qcb pt1 pt2 ptl qcn qD1 qD2 k q n qk (by omega) qn3 (by omega) e2x e3x e4x ls H locs hl hP hD hS KN
      · exact lw_chance_2 l G A C0 i9 hi9 kc9 ks9 hkc hks hd qP qR qB kW1 kW2 kF1 kF2 kS1 kS2 kH1 kH2 rc1 rc2 qcd qcb pt1 pt2 ptl qcn qD1 qD2 qn qn2 ls H locs hl hP hD hS KN
    · exact lw_chance_1 l G A C0 i9 hi9 kc9 ks9 hkc hks hd qP qR qB kW1 kW2 kF1 kF2 kS1 kS2 kH1 kH2 rc1 rc2 qcd qcb pt1 pt2 ptl qcn qD1 qD2 qn ls H locs hl hP hD hS KN
  by_cases z_9 : (xs i9) &&& 15 = 9
  · skip
    refine lv_tableIn (off := 681) (tgt := 760) hx hb dL_law_79 (by rw [z_9]; decide) (by rw [z_9]; decide) (by rw [z_9]; decide) (by decide) ?_
    by_cases qn : (0 ≤ (xs (i9 + 1)) ∧ (xs (i9 + 1)) < nI c)
    · skip
      obtain ⟨i, qi, e1x⟩ := nat_of (by omega) qn
      exact lw_share_0 l G A C0 i9 hi9 kc9 ks9 hkc hks hd qP qR qB kW1 kW2 kF1 kF2 kS1 kS2 kH1 kH2 rc1 rc2 qcd qcb pt1 pt2 ptl qcn qD1 qD2 i qi e1x ls H locs hl hP hD hS KN
    · exact lw_share_1 l G A C0 i9 hi9 kc9 ks9 hkc hks hd qP qR qB kW1 kW2 kF1 kF2 kS1 kS2 kH1 kH2 rc1 rc2 qcd qcb pt1 pt2 ptl qcn qD1 qD2 qn ls H locs hl hP hD hS KN
  by_cases z_10 : (xs i9) &&& 15 = 10
  · skip
    refine lv_tableIn (off := 737) (tgt := 816) hx hb dL_law_79 (by rw [z_10]; decide) (by rw [z_10]; decide) (by rw [z_10]; decide) (by decide) ?_
    by_cases qn : (0 ≤ (xs (i9 + 1)) ∧ (xs (i9 + 1)) ≤ 255)
    · by_cases qf : cn = 4000
      · exact lw_feed_2 l G A C0 i9 hi9 kc9 ks9 hkc hks hd qP qR qB kW1 kW2 kF1 kF2 kS1 kS2 kH1 kH2 rc1 rc2 qcd qcb pt1 pt2 ptl qcn qD1 qD2 qn qf ls H locs hl hP hD hS KN
      · skip
        obtain ⟨v, qv, e1x⟩ := nat_ofle (n := 255) (by omega) qn
        exact lw_feed_0 l G A C0 i9 hi9 kc9 ks9 hkc hks hd qP qR qB kW1 kW2 kF1 kF2 kS1 kS2 kH1 kH2 rc1 rc2 qcd qcb pt1 pt2 ptl qcn qD1 qD2 v (by omega) e1x (by omega) ls H locs hl hP hD hS KN
    · exact lw_feed_1 l G A C0 i9 hi9 kc9 ks9 hkc hks hd qP qR qB kW1 kW2 kF1 kF2 kS1 kS2 kH1 kH2 rc1 rc2 qcd qcb pt1 pt2 ptl qcn qD1 qD2 qn ls H locs hl hP hD hS KN
  by_cases z_11 : (xs i9) &&& 15 = 11
  · skip
    refine lv_tableIn (off := 793) (tgt := 872) hx hb dL_law_79 (by rw [z_11]; decide) (by rw [z_11]; decide) (by rw [z_11]; decide) (by decide) ?_
    by_cases qn : cn + cd.1 ≤ 4000
    · exact lw_pass_0 l G A C0 i9 hi9 kc9 ks9 hkc hks hd qP qR qB kW1 kW2 kF1 kF2 kS1 kS2 kH1 kH2 rc1 rc2 qcd qcb pt1 pt2 ptl qcn qD1 qD2 qn ls H locs hl hP hD hS KN
    · exact lw_pass_1 l G A C0 i9 hi9 kc9 ks9 hkc hks hd qP qR qB kW1 kW2 kF1 kF2 kS1 kS2 kH1 kH2 rc1 rc2 qcd qcb pt1 pt2 ptl qcn qD1 qD2 (by omega) ls H locs hl hP hD hS KN
  by_cases z_12 : (xs i9) &&& 15 = 12
  · skip
    refine lv_tableIn (off := 837) (tgt := 916) hx hb dL_law_79 (by rw [z_12]; decide) (by rw [z_12]; decide) (by rw [z_12]; decide) (by decide) ?_
    by_cases qn : 0 ≤ xs (i9 + 1) ∧ xs (i9 + 1) < nI cn
    · by_cases qn2 : (0 ≤ (xs (i9 + 2)) ∧ (xs (i9 + 2)) ≤ 255)
      · skip
        obtain ⟨i, qi, e1x⟩ := nat_of (by omega) qn
        obtain ⟨v, qv, e2x⟩ := nat_ofle (n := 255) (by omega) qn2
        exact lw_poke_0 l G A C0 i9 hi9 kc9 ks9 hkc hks hd qP qR qB kW1 kW2 kF1 kF2 kS1 kS2 kH1 kH2 rc1 rc2 qcd qcb pt1 pt2 ptl qcn qD1 qD2 i v qi (by omega) e1x e2x ls H locs hl hP hD hS KN
      · exact lw_poke_2 l G A C0 i9 hi9 kc9 ks9 hkc hks hd qP qR qB kW1 kW2 kF1 kF2 kS1 kS2 kH1 kH2 rc1 rc2 qcd qcb pt1 pt2 ptl qcn qD1 qD2 qn qn2 ls H locs hl hP hD hS KN
    · exact lw_poke_1 l G A C0 i9 hi9 kc9 ks9 hkc hks hd qP qR qB kW1 kW2 kF1 kF2 kS1 kS2 kH1 kH2 rc1 rc2 qcd qcb pt1 pt2 ptl qcn qD1 qD2 qn ls H locs hl hP hD hS KN
  by_cases z_13 : (xs i9) &&& 15 = 13
  · skip
    refine lv_tableIn (off := 905) (tgt := 984) hx hb dL_law_79 (by rw [z_13]; decide) (by rw [z_13]; decide) (by rw [z_13]; decide) (by decide) ?_
    exact lw_decode l G A C0 i9 hi9 kc9 ks9 hkc hks hd qP qR qB kW1 kW2 kF1 kF2 kS1 kS2 kH1 kH2 rc1 rc2 qcd qcb pt1 pt2 ptl qcn qD1 qD2  ls H locs hl hP hD hS KN
  by_cases z_14 : (xs i9) &&& 15 = 14
  · skip
    refine lv_tableIn (off := 918) (tgt := 997) hx hb dL_law_79 (by rw [z_14]; decide) (by rw [z_14]; decide) (by rw [z_14]; decide) (by decide) ?_
    exact lw_told l G A C0 i9 hi9 kc9 ks9 hkc hks hd qP qR qB kW1 kW2 kF1 kF2 kS1 kS2 kH1 kH2 rc1 rc2 qcd qcb pt1 pt2 ptl qcn qD1 qD2  ls H locs hl hP hD hS KN
  by_cases z_15 : (xs i9) &&& 15 = 15
  · skip
    refine lv_tableIn (off := 943) (tgt := 1022) hx hb dL_law_79 (by rw [z_15]; decide) (by rw [z_15]; decide) (by rw [z_15]; decide) (by decide) ?_
    exact lw_clear l G A C0 i9 hi9 kc9 ks9 hkc hks hd qP qR qB kW1 kW2 kF1 kF2 kS1 kS2 kH1 kH2 rc1 rc2 qcd qcb pt1 pt2 ptl qcn qD1 qD2  ls H locs hl hP hD hS KN
  refine lv_tableOut (tgt := 1033) hx hb dL_law_79 (by have a_0 := lv_neT (k := 0) (a := 0) z_0 rfl; have a_1 := lv_neT (k := 1) (a := 1) z_1 rfl; have a_2 := lv_neT (k := 2) (a := 2) z_2 rfl; have a_3 := lv_neT (k := 3) (a := 3) z_3 rfl; have a_4 := lv_neT (k := 4) (a := 4) z_4 rfl; have a_5 := lv_neT (k := 5) (a := 5) z_5 rfl; have a_6 := lv_neT (k := 6) (a := 6) z_6 rfl; have a_7 := lv_neT (k := 7) (a := 7) z_7 rfl; have a_8 := lv_neT (k := 8) (a := 8) z_8 rfl; have a_9 := lv_neT (k := 9) (a := 9) z_9 rfl; have a_10 := lv_neT (k := 10) (a := 10) z_10 rfl; have a_11 := lv_neT (k := 11) (a := 11) z_11 rfl; have a_12 := lv_neT (k := 12) (a := 12) z_12 rfl; have a_13 := lv_neT (k := 13) (a := 13) z_13 rfl; have a_14 := lv_neT (k := 14) (a := 14) z_14 rfl; have a_15 := lv_neT (k := 15) (a := 15) z_15 rfl; omega) (by decide) ?_
  refine W.widen (k := kc9 + 1) (n := ks9 + 6) (by omega) (by omega) ?_
  exact KN _ _ _ (LINV_mk  hd qP qR qB kW1 kW2 kF1 kF2 kS1 kS2 kH1 kH2 rc1 rc2 qcd qcb pt1 pt2 ptl qcn qD1 qD2 (lv_sub hl [0, 1, 2, 3, 4] rfl) hP hD hS)
