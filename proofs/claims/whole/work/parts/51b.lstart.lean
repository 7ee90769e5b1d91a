set_option maxHeartbeats 8000000 in
set_option maxRecDepth 100000 in
theorem lw_step2 {pZ : Program} {eZ : Env} {sZ : State} {mZ : MethodId} {bZ : List Frame} {tZ : Method} {cZ : Code} (l : Launch) (G : GG) (A : Nat → Prop) {sb L : Nat} {xs : Nat → Int32} (C0 : LCT pZ sZ mZ tZ cZ l G A sb L xs) (i9 : Nat) (hi9 : i9 + 5 ≤ L) (kc9 ks9 : Nat) (hkc : kc9 ≤ 1000) (hks : ks9 ≤ 100000) {Q : State → Prop} (ls : Array Slot) (H : Heap) (locs : List Loc) (hI : LINV G A sZ.heap sb i9 ls H locs) (KN : ∀ (ls : Array Slot) (H : Heap) (locs : List Loc), LINV G A sZ.heap sb i9 ls H locs → W pZ l eZ room_1 sZ mZ #[Value.ref sb] bZ tZ cZ H locs (kc9 + 1) (ks9 + 6) Q (F0 mZ 1033 ls [])) : W pZ l eZ room_1 sZ mZ #[Value.ref sb] bZ tZ cZ H locs kc9 ks9 Q (F0 mZ 72 ls []) :=
  LINV_elim hI (fun xm pm rs as am teE whE wrE waE erE eaE chE frE faE srE saE trE taE arE prE paE teD whD wrD waD erD eaD chD frD faD srD saD trD taD arD prD paD ob oa cb ca ib iar it ri pt pta mo mS mW mF mG mH mA kW kF kG kH mE mL mO mC mR ou w h b c md k1 cn f WE EE F1E F2E HE PE WD ED F1D F2D HD PD o1 fc gr ft fR wR f1R f2R hR pR gW g1 g2 gh eR plR oR fcR grR m1 m2 m3 m4 m5 e1 e2 e3 e4 e5 d1 d2 d3 d4 d5 n3 n4 code oc wrs frm enn mxx l1 l2 l3 l4 l5 low hig wrd uo P Wk Hk Fk Sk cd pl D hd qP qR qB kW1 kW2 kF1 kF2 kS1 kS2 kH1 kH2 rc1 rc2 qcd qcb pt1 pt2 ptl qcn qD1 qD2 hl hP hD hS => lw_step l G A C0 i9 hi9 kc9 ks9 hkc hks hd qP qR qB kW1 kW2 kF1 kF2 kS1 kS2 kH1 kH2 rc1 rc2 qcd qcb pt1 pt2 ptl qcn qD1 qD2 ls H locs hl hP hD hS KN)
set_option maxHeartbeats 8000000 in
set_option maxRecDepth 100000 in
theorem LINV_S {G : GG} {A : Nat → Prop} {H0 : Heap} {sb i9 : Nat} {ls : Array Slot} {H : Heap} {locs : List Loc} (h : LINV G A H0 sb i9 ls H locs) : va_S A H0 H locs :=
  LINV_elim h (fun xm pm rs as am teE whE wrE waE erE eaE chE frE faE srE saE trE taE arE prE paE teD whD wrD waD erD eaD chD frD faD srD saD trD taD arD prD paD ob oa cb ca ib iar it ri pt pta mo mS mW mF mG mH mA kW kF kG kH mE mL mO mC mR ou w h b c md k1 cn f WE EE F1E F2E HE PE WD ED F1D F2D HD PD o1 fc gr ft fR wR f1R f2R hR pR gW g1 g2 gh eR plR oR fcR grR m1 m2 m3 m4 m5 e1 e2 e3 e4 e5 d1 d2 d3 d4 d5 n3 n4 code oc wrs frm enn mxx l1 l2 l3 l4 l5 low hig wrd uo P Wk Hk Fk Sk cd pl D hd qP qR qB kW1 kW2 kF1 kF2 kS1 kS2 kH1 kH2 rc1 rc2 qcd qcb pt1 pt2 ptl qcn qD1 qD2 hl hP hD hS => hS)
set_option maxHeartbeats 8000000 in
set_option maxRecDepth 100000 in
theorem lw_loop {pZ : Program} {eZ : Env} {sZ : State} {mZ : MethodId} {bZ : List Frame} {tZ : Method} {cZ : Code} (l : Launch) (G : GG) (A : Nat → Prop) {sb L : Nat} {xs : Nat → Int32} (C0 : LCT pZ sZ mZ tZ cZ l G A sb L xs) (hAq : ∀ q, A q → sZ.heap.size ≤ q) (hlocks : tZ.locks = false) : ∀ (n i9 kc9 ks9 : Nat) (ls : Array Slot) (H : Heap) (locs : List Loc), L - i9 < n → i9 ≤ 400 → kc9 ≤ 100 + i9 → ks9 ≤ 50000 + 6 * i9 → LINV G A sZ.heap sb i9 ls H locs → W pZ l eZ room_1 sZ mZ #[Value.ref sb] bZ tZ cZ H locs kc9 ks9 (lw_Z bZ #[Value.ref sb] sZ) (F0 mZ 63 ls []) := by
  intro n
  induction n with
  | zero => intro i9 kc9 ks9 ls H locs hn; exact absurd hn (Nat.not_lt_zero _)
  | succ n ih =>
    intro i9 kc9 ks9 ls H locs hn h4 hkc hks hI
    obtain ⟨hx, hb, hr, hml, hown, hts, hK, hA, hTH, hX, hbl, hbA, hst, hL⟩ := id C0
    have hS := LINV_S hI
    obtain ⟨xm, mo, ou, hl, hN⟩ := LINV_ls hI
    refine lv_iload hx hb dL_law_63 (lv_at hl 4 rfl) ?_
    refine lv_aload_n hx hb dL_law_65 rfl (lv_at hl 0 rfl) ?_
    refine va_slen hx hb hX hbl hbA hS dL_law_66 ?_
    refine lv_iconst (v := 5) hx hb dL_law_67 (by decide) ?_
    refine lv_isub hx hb dL_law_68 ?_
    refine lv_icmp_gt (tgt := 1039) hx hb dL_law_69 (by decide) (fun h0 => ?_) (fun h0 => ?_)
    · refine lv_iconst (v := 1) hx hb dL_law_1039 (by decide) ?_
      refine va_forget (fun q hq => hAq _ (hS.2.2 q hq)) ?_
      refine W.widen (k := 600128) (n := 7301064) (by omega) (by omega) ?_
      exact lw_ret hx hb hr hlocks dL_law_1040
    · have h1 : ¬ L < i9 + 5 := fun z => h0 ((lw_cmp (L := L) (i := i9) (by omega) (by omega)).mpr z)
      refine lw_step2 l G A C0 i9 (by omega) kc9 ks9 (by omega) (by omega) ls H locs hI (fun ls H locs hI => ?_)
      obtain ⟨xm, mo, ou, hl, hN⟩ := LINV_ls hI
      refine lv_iinc (v := nI (i9 + 5)) (lv' := [(4, .int (nI (i9 + 5))), (0, .ref sb), (1, .ref xm), (2, .ref mo), (3, .ref ou)]) hx hb dL_law_1033 hl (k := 4) rfl (nI_add _ _) (by decide) rfl (fun ls hl => ?_)
      refine lv_goto (tgt := 63) hx hb dL_law_1036 (by decide) ?_
      exact ih (i9 + 5) (kc9 + 1) (ks9 + 6) ls H locs (by omega) (by omega) (by omega) (by omega) (hN ls (lv_sub hl [1, 2, 3, 4, 0] rfl))
