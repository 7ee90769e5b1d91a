theorem hin_X2_begin_2 : ∀ w ∈ u_ws RX2 TX2 4, w ∈ wsX2_begin := fun w h => List.mem_cons_of_mem _ (List.mem_append_left _ (List.mem_append_right _ h))
theorem hin_X2_init_2 : ∀ w ∈ u_ws RX2 TX2 4, w ∈ wsX2_init := fun w h => List.mem_cons_of_mem _ (List.mem_append_left _ (List.mem_append_right _ h))
theorem hin_X2_init_6 : ∀ w ∈ u_ws RX6 TX6 1, w ∈ wsX2_init := fun w h => List.mem_cons_of_mem _ (List.mem_append_right _ h)
theorem hin_X2_learn_2 : ∀ w ∈ u_ws RX2 TX2 4, w ∈ wsX2_learn := fun w h => List.mem_cons_of_mem _ (List.mem_append_left _ (List.mem_append_right _ h))
theorem hin_X2_mix_2 : ∀ w ∈ u_ws RX2 TX2 4, w ∈ wsX2_mix := fun w h => List.mem_cons_of_mem _ (List.mem_append_left _ (List.mem_append_right _ h))
theorem hin_X2_place_2 : ∀ w ∈ u_ws RX2 TX2 4, w ∈ wsX2_place := fun w h => List.mem_cons_of_mem _ (List.mem_append_right _ h)
theorem hin_X8_begin_8 : ∀ w ∈ u_ws RX8 TX8 2, w ∈ wsX8_begin := fun w h => List.mem_cons_of_mem _ (List.mem_append_left _ (List.mem_append_right _ h))
theorem hin_X8_get_8 : ∀ w ∈ u_ws RX8 TX8 2, w ∈ wsX8_get := fun w h => List.mem_cons_of_mem _ (List.mem_append_left _ (List.mem_append_right _ h))
theorem hin_X8_init_6 : ∀ w ∈ u_ws RX6 TX6 1, w ∈ wsX8_init := fun w h => List.mem_cons_of_mem _ (List.mem_append_left _ (List.mem_append_right _ h))
theorem hin_X8_init_8 : ∀ w ∈ u_ws RX8 TX8 2, w ∈ wsX8_init := fun w h => List.mem_cons_of_mem _ (List.mem_append_right _ h)
theorem hin_X8_learn_8 : ∀ w ∈ u_ws RX8 TX8 2, w ∈ wsX8_learn := fun w h => List.mem_cons_of_mem _ (List.mem_append_left _ (List.mem_append_right _ h))
theorem hin_X8_mix_8 : ∀ w ∈ u_ws RX8 TX8 2, w ∈ wsX8_mix := fun w h => List.mem_cons_of_mem _ (List.mem_append_left _ (List.mem_append_left _ (List.mem_append_left _ (List.mem_append_right _ h))))
set_option maxHeartbeats 4000000 in
set_option maxRecDepth 100000 in
theorem c_X8_init (l : Launch) (G : GG) (wh : Nat) (sz : Nat) : Met l yX8_init wsX8_init ({ frames := 2, cells := 4, slots := 20, locals := 35 } : Room) (w_Pc G [.ref wh] sz [(wh, .inr (7, [.null, .null]))]) (w_Qv G (va_A [(wh, .inr (7, [.null, .null]))] sz) (fun (u9 : Nat × Nat × Nat × Nat) => [(wh, .inr (7, [.ref u9.1, .ref u9.2.2.1])), (u9.1, .inr (5, [.ref u9.2.1])), (u9.2.1, .inl (G.2.1, 9, .inl (fun _ => 0))), (u9.2.2.1, .inr (5, [.ref u9.2.2.2])), (u9.2.2.2, .inl (G.2.1, 9, .inl (fun _ => 0)))]) (fun (u9 : Nat × Nat × Nat × Nat) => True)) 4 20 (va_A [(wh, .inr (7, [.null, .null]))] sz) := by
  refine w_ofW (Qf := fun A => w_Qv G A (fun (u9 : Nat × Nat × Nat × Nat) => [(wh, .inr (7, [.ref u9.1, .ref u9.2.2.1])), (u9.1, .inr (5, [.ref u9.2.1])), (u9.2.1, .inl (G.2.1, 9, .inl (fun _ => 0))), (u9.2.2.1, .inr (5, [.ref u9.2.2.2])), (u9.2.2.2, .inl (G.2.1, 9, .inl (fun _ => 0)))]) (fun (u9 : Nat × Nat × Nat × Nat) => True)) (cc := cX8_init) (maxL := 1) (ret := none) (by decide) rfl (Nat.le_of_ble_eq_true rfl) ?_
  intro pZ eZ sZ mZ bZ tZ cZ A hx hb hr hts hown hlocks hml hnm hK hA H locs hP hD hS ls hl
  have hown : sZ.vm.findClass RX8 = some mZ.cls := hown
  have hl : lv_has ls 1 [(0, .ref wh)] := hl
  refine lv_aload_n hx hb dX8_init_0 rfl (lv_at hl 0 rfl) ?_
  refine W.objInit hx hb hown (hts (.methodLink RX8 3 objectInit) (List.mem_cons_of_mem _ (List.mem_append_left _ (List.mem_append_left _ (List.mem_of_getElem? (i := 0) rfl))))) (hts (.instanceMethod objectInit) (List.mem_cons_of_mem _ (List.mem_append_left _ (List.mem_append_left _ (List.mem_of_getElem? (i := 1) rfl))))) (hts (.code objectInit ⟨#[0xb1]⟩ 1 none) (List.mem_cons_of_mem _ (List.mem_append_left _ (List.mem_append_left _ (List.mem_of_getElem? (i := 2) rfl))))) rfl (by rw [hml]; exact hl.1) rfl dX8_init_1 (Nat.le_of_ble_eq_true rfl) (Nat.le_of_ble_eq_true rfl) ?_
  refine W.eq (g2 := F0 mZ 4 ls []) rfl ?_
  refine lv_aload_n hx hb dX8_init_4 rfl (lv_at hl 0 rfl) ?_
  refine va_new (ci := 5) (fs := [.null]) (C := RX6) (T := TX6) (N := 1) hx hb hts hin_X8_init_6 tyX6 tyX6_ok hown (hts (.classLink RX8 9 RX6) (List.mem_cons_of_mem _ (List.mem_append_left _ (List.mem_append_left _ (List.mem_of_getElem? (i := 3) rfl))))) (hts (.instantiable RX6 1) (List.mem_cons_of_mem _ (List.mem_append_left _ (List.mem_append_left _ (List.mem_of_getElem? (i := 4) rfl))))) (hts (.initialized RX6) (List.mem_cons_of_mem _ (List.mem_append_left _ (List.mem_append_left _ (List.mem_of_getElem? (i := 5) rfl))))) hK.1 hP hD hS hA rfl (fun j hj => by rcases (show j = 0 by omega) with rfl <;> rfl) (by show _ ≤ 4; omega) (by show _ ≤ 20; omega) dX8_init_5 (fun q_1 H hP hD hS => ?_)
  have hP : va_P G.1 vwCl [(wh, .inr (7, [.null, .null])), (q_1, .inr (5, [.null]))] H := hP
  have hD : va_D A [(wh, .inr (7, [.null, .null])), (q_1, .inr (5, [.null]))] := hD
  refine lv_dup hx hb dX8_init_8 rfl ?_
  refine lv_bipush (v := 9) hx hb dX8_init_9 (by decide) ?_
  refine w_fin_v (WR := [(wh, .inr (7, [.null, .null]))]) (va_runI (As := [.int 9]) (rest := [.ref q_1, .ref wh]) ⟨hx, hb, hml, hown, hts⟩ (c_X6_init l G q_1 9 (by first | assumption | omega) H.size) (cwI 1 hts gX8_init_X6_init rfl rfl rfl (hts (.initialized RX6) (List.mem_cons_of_mem _ (List.mem_append_left _ (List.mem_append_left _ (List.mem_of_getElem? (i := 5) rfl))))) (hts (.methodLink RX8 11 yX6_init) (List.mem_cons_of_mem _ (List.mem_append_left _ (List.mem_append_left _ (List.mem_of_getElem? (i := 8) rfl))))) (hts (.instanceMethod yX6_init) (List.mem_cons_of_mem _ (List.mem_append_left _ (List.mem_append_left _ (List.mem_of_getElem? (i := 9) rfl))))) rfl (by decide +kernel) ⟨Nat.le_of_ble_eq_true rfl, Nat.le_of_ble_eq_true rfl⟩) (w_pre hK hP hD [1] (by decide) rfl) rfl rfl hl.1 rfl (lv_room (Nat.le_of_ble_eq_true rfl)) dX8_init_11 ⟨by show _ ≤ 4; omega, by show _ ≤ 20; omega⟩) hP hD hS hA [1] [0] rfl rfl (by decide) (by decide) [0, 1, 2] (by decide) (fun (q : Nat) => [(wh, .inr (7, [.null, .null])), (q_1, .inr (5, [.ref q])), (q, .inl (G.2.1, 9, .inl (fun _ => 0)))]) (fun _ => rfl) (fun u H locs hw hP hD hS => ?_)
  obtain ⟨q_2, rfl⟩ : ∃ z, z = u := ⟨_, rfl⟩
  have hP : va_P G.1 vwCl [(wh, .inr (7, [.null, .null])), (q_1, .inr (5, [.ref q_2])), (q_2, .inl (G.2.1, 9, .inl (fun _ => 0)))] H := hP
  have hD : va_D A [(wh, .inr (7, [.null, .null])), (q_1, .inr (5, [.ref q_2])), (q_2, .inl (G.2.1, 9, .inl (fun _ => 0)))] := hD
  refine va_putF (D := G.1) (ci := 7) (v := .ref q_1) (ty := tyX8 0) (C := RX8) (T := TX8) (N := 2) hx hb hts hin_X8_init_8 tyX8 tyX8_ok nmX8 hown hK.1 hP hD hS 0 rfl rfl 0 (by decide) (hts (.fieldLink RX8 14 "MixedPredict$Weights" "weights" "LMixedPredict$Row;") (List.mem_cons_of_mem _ (List.mem_append_left _ (List.mem_append_left _ (List.mem_of_getElem? (i := 6) rfl))))) (fun _ h9 => h9) rfl hnm rfl (tyX8_ok 0 (by decide)) rfl rfl (Nat.le_of_ble_eq_true rfl) dX8_init_14 (fun H locs hP hD hS => ?_)
  have hP : va_P G.1 vwCl [(wh, .inr (7, [.ref q_1, .null])), (q_1, .inr (5, [.ref q_2])), (q_2, .inl (G.2.1, 9, .inl (fun _ => 0)))] H := hP
  have hD : va_D A [(wh, .inr (7, [.ref q_1, .null])), (q_1, .inr (5, [.ref q_2])), (q_2, .inl (G.2.1, 9, .inl (fun _ => 0)))] := hD
  refine lv_aload_n hx hb dX8_init_17 rfl (lv_at hl 0 rfl) ?_
  refine va_new (ci := 5) (fs := [.null]) (C := RX6) (T := TX6) (N := 1) hx hb hts hin_X8_init_6 tyX6 tyX6_ok hown (hts (.classLink RX8 9 RX6) (List.mem_cons_of_mem _ (List.mem_append_left _ (List.mem_append_left _ (List.mem_of_getElem? (i := 3) rfl))))) (hts (.instantiable RX6 1) (List.mem_cons_of_mem _ (List.mem_append_left _ (List.mem_append_left _ (List.mem_of_getElem? (i := 4) rfl))))) (hts (.initialized RX6) (List.mem_cons_of_mem _ (List.mem_append_left _ (List.mem_append_left _ (List.mem_of_getElem? (i := 5) rfl))))) hK.1 hP hD hS hA rfl (fun j hj => by rcases (show j = 0 by omega) with rfl <;> rfl) (by show _ ≤ 4; omega) (by show _ ≤ 20; omega) dX8_init_18 (fun q_4 H hP hD hS => ?_)
  have hP : va_P G.1 vwCl [(wh, .inr (7, [.ref q_1, .null])), (q_1, .inr (5, [.ref q_2])), (q_2, .inl (G.2.1, 9, .inl (fun _ => 0))), (q_4, .inr (5, [.null]))] H := hP
  have hD : va_D A [(wh, .inr (7, [.ref q_1, .null])), (q_1, .inr (5, [.ref q_2])), (q_2, .inl (G.2.1, 9, .inl (fun _ => 0))), (q_4, .inr (5, [.null]))] := hD
  refine lv_dup hx hb dX8_init_21 rfl ?_
  refine lv_bipush (v := 9) hx hb dX8_init_22 (by decide) ?_
  refine w_fin_v (WR := [(wh, .inr (7, [.ref q_1, .null])), (q_1, .inr (5, [.ref q_2])), (q_2, .inl (G.2.1, 9, .inl (fun _ => 0)))]) (va_runI (As := [.int 9]) (rest := [.ref q_4, .ref wh]) ⟨hx, hb, hml, hown, hts⟩ (c_X6_init l G q_4 9 (by first | assumption | omega) H.size) (cwI 1 hts gX8_init_X6_init rfl rfl rfl (hts (.initialized RX6) (List.mem_cons_of_mem _ (List.mem_append_left _ (List.mem_append_left _ (List.mem_of_getElem? (i := 5) rfl))))) (hts (.methodLink RX8 11 yX6_init) (List.mem_cons_of_mem _ (List.mem_append_left _ (List.mem_append_left _ (List.mem_of_getElem? (i := 8) rfl))))) (hts (.instanceMethod yX6_init) (List.mem_cons_of_mem _ (List.mem_append_left _ (List.mem_append_left _ (List.mem_of_getElem? (i := 9) rfl))))) rfl (by decide +kernel) ⟨Nat.le_of_ble_eq_true rfl, Nat.le_of_ble_eq_true rfl⟩) (w_pre hK hP hD [3] (by decide) rfl) rfl rfl hl.1 rfl (lv_room (Nat.le_of_ble_eq_true rfl)) dX8_init_24 ⟨by show _ ≤ 4; omega, by show _ ≤ 20; omega⟩) hP hD hS hA [3] [0, 1, 2] rfl rfl (by decide) (by decide) [0, 1, 2, 3, 4] (by decide) (fun (q : Nat) => [(wh, .inr (7, [.ref q_1, .null])), (q_1, .inr (5, [.ref q_2])), (q_2, .inl (G.2.1, 9, .inl (fun _ => 0))), (q_4, .inr (5, [.ref q])), (q, .inl (G.2.1, 9, .inl (fun _ => 0)))]) (fun _ => rfl) (fun u H locs hw hP hD hS => ?_)
  obtain ⟨q_5, rfl⟩ : ∃ z, z = u := ⟨_, rfl⟩
  have hP : va_P G.1 vwCl [(wh, .inr (7, [.ref q_1, .null])), (q_1, .inr (5, [.ref q_2])), (q_2, .inl (G.2.1, 9, .inl (fun _ => 0))), (q_4, .inr (5, [.ref q_5])), (q_5, .inl (G.2.1, 9, .inl (fun _ => 0)))] H := hP
  have hD : va_D A [(wh, .inr (7, [.ref q_1, .null])), (q_1, .inr (5, [.ref q_2])), (q_2, .inl (G.2.1, 9, .inl (fun _ => 0))), (q_4, .inr (5, [.ref q_5])), (q_5, .inl (G.2.1, 9, .inl (fun _ => 0)))] := hD
  refine va_putF (D := G.1) (ci := 7) (v := .ref q_4) (ty := tyX8 1) (C := RX8) (T := TX8) (N := 2) hx hb hts hin_X8_init_8 tyX8 tyX8_ok nmX8 hown hK.1 hP hD hS 0 rfl rfl 1 (by decide) (hts (.fieldLink RX8 20 "MixedPredict$Weights" "expected" "LMixedPredict$Row;") (List.mem_cons_of_mem _ (List.mem_append_left _ (List.mem_append_left _ (List.mem_of_getElem? (i := 7) rfl))))) (fun _ h9 => h9) rfl hnm rfl (tyX8_ok 1 (by decide)) rfl rfl (Nat.le_of_ble_eq_true rfl) dX8_init_27 (fun H locs hP hD hS => ?_)
  have hP : va_P G.1 vwCl [(wh, .inr (7, [.ref q_1, .ref q_4])), (q_1, .inr (5, [.ref q_2])), (q_2, .inl (G.2.1, 9, .inl (fun _ => 0))), (q_4, .inr (5, [.ref q_5])), (q_5, .inl (G.2.1, 9, .inl (fun _ => 0)))] H := hP
  have hD : va_D A [(wh, .inr (7, [.ref q_1, .ref q_4])), (q_1, .inr (5, [.ref q_2])), (q_2, .inl (G.2.1, 9, .inl (fun _ => 0))), (q_4, .inr (5, [.ref q_5])), (q_5, .inl (G.2.1, 9, .inl (fun _ => 0)))] := hD
  refine W.widen (k := 4) (n := 20) (by omega) (by omega) ?_
  exact w_vret (q_1, q_2, q_4, q_5) hx hb hr hlocks (trivial) hP hD hS dX8_init_30

set_option maxHeartbeats 4000000 in
set_option maxRecDepth 100000 in
theorem c_X8_begin (l : Launch) (G : GG) (wh wr wa er ea : Nat) (fW fE : Nat → Int32)  (sz : Nat) : Met l yX8_begin wsX8_begin ({ frames := 2, cells := 0, slots := 0, locals := 44 } : Room) (w_Pc G [.ref wh] sz [(wh, .inr (7, [.ref wr, .ref er])), (wr, .inr (5, [.ref wa])), (wa, .inl (G.2.1, 9, .inl fW)), (er, .inr (5, [.ref ea])), (ea, .inl (G.2.1, 9, .inl fE))]) (w_Qv G (va_A [(wh, .inr (7, [.ref wr, .ref er])), (wr, .inr (5, [.ref wa])), (wa, .inl (G.2.1, 9, .inl fW)), (er, .inr (5, [.ref ea])), (ea, .inl (G.2.1, 9, .inl fE))] sz) (fun (_ : Unit) => [(wh, .inr (7, [.ref wr, .ref er])), (wr, .inr (5, [.ref wa])), (wa, .inl (G.2.1, 9, .inl (fillN 9 256 fW))), (er, .inr (5, [.ref ea])), (ea, .inl (G.2.1, 9, .inl fE))]) (fun (_ : Unit) => True)) 0 0 (va_A [(wh, .inr (7, [.ref wr, .ref er])), (wr, .inr (5, [.ref wa])), (wa, .inl (G.2.1, 9, .inl fW)), (er, .inr (5, [.ref ea])), (ea, .inl (G.2.1, 9, .inl fE))] sz) := by
  refine w_ofW (Qf := fun A => w_Qv G A (fun (_ : Unit) => [(wh, .inr (7, [.ref wr, .ref er])), (wr, .inr (5, [.ref wa])), (wa, .inl (G.2.1, 9, .inl (fillN 9 256 fW))), (er, .inr (5, [.ref ea])), (ea, .inl (G.2.1, 9, .inl fE))]) (fun (_ : Unit) => True)) (cc := cX8_begin) (maxL := 1) (ret := none) (by decide) rfl (Nat.le_of_ble_eq_true rfl) ?_
  intro pZ eZ sZ mZ bZ tZ cZ A hx hb hr hts hown hlocks hml hnm hK hA H locs hP hD hS ls hl
  have hown : sZ.vm.findClass RX8 = some mZ.cls := hown
  have hl : lv_has ls 1 [(0, .ref wh)] := hl
  refine lv_aload_n hx hb dX8_begin_0 rfl (lv_at hl 0 rfl) ?_
  refine va_get (D := G.1) (ci := 7) (v := .ref wr) (C := RX8) (T := TX8) (N := 2) hx hb hts hin_X8_begin_8 hown hK.1 hP 0 rfl rfl 0 (by decide) (hts (.fieldLink RX8 14 "MixedPredict$Weights" "weights" "LMixedPredict$Row;") (List.mem_cons_of_mem _ (List.mem_append_left _ (List.mem_append_left _ (List.mem_of_getElem? (i := 0) rfl))))) (fun _ h9 => h9) rfl dX8_begin_1 ?_
  refine lv_sipush (v := 256) hx hb dX8_begin_4 (by decide) ?_
  refine w_fin_v (WR := [(wh, .inr (7, [.ref wr, .ref er])), (er, .inr (5, [.ref ea])), (ea, .inl (G.2.1, 9, .inl fE))]) (va_runV (As := [.int 256]) (rest := []) ⟨hx, hb, hml, hown, hts⟩ (c_X6_fill l G wr wa 9 fW 256 (by first | assumption | omega) H.size) (cwV 1 hts gX8_begin_X6_fill rfl rfl rfl (by decide +kernel) ⟨Nat.le_of_ble_eq_true rfl, Nat.le_of_ble_eq_true rfl⟩) (x_preV (w_pre hK hP hD [1, 2] (by decide) rfl) hK hP (ci := 5) (q0 := 1) rfl rfl) rfl rfl hl.1 rfl (lv_room (Nat.le_of_ble_eq_true rfl)) dX8_begin_7 ⟨Nat.zero_le _, Nat.zero_le _⟩) hP hD hS hA [1, 2] [0, 3, 4] rfl rfl (by decide) (by decide) [0, 3, 4, 1, 2] (by decide) (fun (_ : Unit) => [(wh, .inr (7, [.ref wr, .ref er])), (wr, .inr (5, [.ref wa])), (wa, .inl (G.2.1, 9, .inl (fillN 9 256 fW))), (er, .inr (5, [.ref ea])), (ea, .inl (G.2.1, 9, .inl fE))]) (fun _ => rfl) (fun u H locs hw hP hD hS => ?_)
  have hP : va_P G.1 vwCl [(wh, .inr (7, [.ref wr, .ref er])), (wr, .inr (5, [.ref wa])), (wa, .inl (G.2.1, 9, .inl (fillN 9 256 fW))), (er, .inr (5, [.ref ea])), (ea, .inl (G.2.1, 9, .inl fE))] H := hP
  have hD : va_D A [(wh, .inr (7, [.ref wr, .ref er])), (wr, .inr (5, [.ref wa])), (wa, .inl (G.2.1, 9, .inl (fillN 9 256 fW))), (er, .inr (5, [.ref ea])), (ea, .inl (G.2.1, 9, .inl fE))] := hD
  exact w_vret () hx hb hr hlocks (trivial) hP hD hS dX8_begin_10

set_option maxHeartbeats 4000000 in
set_option maxRecDepth 100000 in
theorem c_X8_get (l : Launch) (G : GG) (wh wr wa er ea : Nat) (fW fE : Nat → Int32) (way : Nat) (hway : way < 9) : Met l yX8_get wsX8_get ({ frames := 1, cells := 0, slots := 0, locals := 21 } : Room) (r_Pc G [.ref wh, .int (nI way)] [(wh, .inr (7, [.ref wr, .ref er])), (wr, .inr (5, [.ref wa])), (wa, .inl (G.2.1, 9, .inl fW)), (er, .inr (5, [.ref ea])), (ea, .inl (G.2.1, 9, .inl fE))]) (vp_Si (fun r => r = (fW way))) 0 0 (fun _ => False) := by
  refine r_ofW (cc := cX8_get) (maxL := 2) (ret := (some .int)) (by decide) rfl (Nat.le_of_ble_eq_true rfl) ?_
  intro pZ eZ sZ mZ bZ tZ cZ hx hb hr hts hown hlocks hml hK H hH hP ls hl
  have hown : sZ.vm.findClass RX8 = some mZ.cls := hown
  have hl : lv_has ls 2 [(0, .ref wh), (1, .int (nI way))] := hl
  refine lv_aload_n hx hb dX8_get_0 rfl (lv_at hl 0 rfl) ?_
  refine va_get (D := G.1) (ci := 7) (v := .ref wr) (C := RX8) (T := TX8) (N := 2) hx hb hts hin_X8_get_8 hown hK.1 hP 0 rfl rfl 0 (by decide) (hts (.fieldLink RX8 14 "MixedPredict$Weights" "weights" "LMixedPredict$Row;") (List.mem_cons_of_mem _ (List.mem_append_left _ (List.mem_append_left _ (List.mem_of_getElem? (i := 0) rfl))))) (fun _ h9 => h9) rfl dX8_get_1 ?_
  refine lv_iload_n hx hb dX8_get_4 rfl (lv_at hl 1 rfl) ?_
  refine r_fin_i (va_runV (As := [.int (nI way)]) (rest := []) ⟨hx, hb, hml, hown, hts⟩ (c_X6_get l G wr wa 9 fW way (by first | assumption | omega) (by first | assumption | omega)) (cwV 1 hts gX8_get_X6_get rfl rfl rfl (by decide +kernel) ⟨Nat.le_of_ble_eq_true rfl, Nat.le_of_ble_eq_true rfl⟩) (x_preV (r_pre hK hP [1, 2] rfl) hK hP (ci := 5) (q0 := 1) rfl rfl) rfl rfl hl.1 rfl (lv_room (Nat.le_of_ble_eq_true rfl)) dX8_get_5 ⟨Nat.zero_le _, Nat.zero_le _⟩) (fun r_1 hw => ?_)
  subst hw
  exact r_iret hx hb hr hlocks (rfl) hH dX8_get_8

set_option maxHeartbeats 4000000 in
set_option maxRecDepth 100000 in
theorem c_X8_mix (l : Launch) (G : GG) (wh wr wa er ea : Nat) (fW fE : Nat → Int32) (ar : Nat) (pm rs : Nat) (w h b c md : Nat) (hd : DIM w h b c md) (a0 b0 c0 d0 e0 : Nat) (W : Nat → Int32) (hW : ∀ j, j < 9 → fW j = W j) (hB : WB W) (sz : Nat) : Met l yX8_mix wsX8_mix ({ frames := 3, cells := 0, slots := 0, locals := 64 } : Room) (w_Pc G [.ref wh, .ref ar] sz [(wh, .inr (7, [.ref wr, .ref er])), (wr, .inr (5, [.ref wa])), (wa, .inl (G.2.1, 9, .inl fW)), (er, .inr (5, [.ref ea])), (ea, .inl (G.2.1, 9, .inl fE)), (ar, .inr (0, [.ref pm, .int (nI a0), .int (nI b0), .int (nI c0), .int (nI d0), .int (nI e0)])), (pm, .inr (3, [.int (nI w), .int (nI h), .int (nI b), .int (nI c), .int (nI (2 * md - 1)), .int (nI md), .int (nI ((w + 7) / 8)), .ref rs]))]) (w_Qi G (va_A [(wh, .inr (7, [.ref wr, .ref er])), (wr, .inr (5, [.ref wa])), (wa, .inl (G.2.1, 9, .inl fW)), (er, .inr (5, [.ref ea])), (ea, .inl (G.2.1, 9, .inl fE)), (ar, .inr (0, [.ref pm, .int (nI a0), .int (nI b0), .int (nI c0), .int (nI d0), .int (nI e0)])), (pm, .inr (3, [.int (nI w), .int (nI h), .int (nI b), .int (nI c), .int (nI (2 * md - 1)), .int (nI md), .int (nI ((w + 7) / 8)), .ref rs]))] sz) (fun (g2 : Nat → Int32) => [(wh, .inr (7, [.ref wr, .ref er])), (wr, .inr (5, [.ref wa])), (wa, .inl (G.2.1, 9, .inl fW)), (er, .inr (5, [.ref ea])), (ea, .inl (G.2.1, 9, .inl g2)), (ar, .inr (0, [.ref pm, .int (nI a0), .int (nI b0), .int (nI c0), .int (nI d0), .int (nI e0)])), (pm, .inr (3, [.int (nI w), .int (nI h), .int (nI b), .int (nI c), .int (nI (2 * md - 1)), .int (nI md), .int (nI ((w + 7) / 8)), .ref rs]))]) (fun r (g2 : Nat → Int32) => r = (mixV W (exq a0 b0 c0 d0 e0 (2 * md - 1))) ∧ ∀ j, j < 9 → g2 j = exq a0 b0 c0 d0 e0 (2 * md - 1) j)) 0 0 (va_A [(wh, .inr (7, [.ref wr, .ref er])), (wr, .inr (5, [.ref wa])), (wa, .inl (G.2.1, 9, .inl fW)), (er, .inr (5, [.ref ea])), (ea, .inl (G.2.1, 9, .inl fE)), (ar, .inr (0, [.ref pm, .int (nI a0), .int (nI b0), .int (nI c0), .int (nI d0), .int (nI e0)])), (pm, .inr (3, [.int (nI w), .int (nI h), .int (nI b), .int (nI c), .int (nI (2 * md - 1)), .int (nI md), .int (nI ((w + 7) / 8)), .ref rs]))] sz) := by
  refine w_ofW (Qf := fun A => w_Qi G A (fun (g2 : Nat → Int32) => [(wh, .inr (7, [.ref wr, .ref er])), (wr, .inr (5, [.ref wa])), (wa, .inl (G.2.1, 9, .inl fW)), (er, .inr (5, [.ref ea])), (ea, .inl (G.2.1, 9, .inl g2)), (ar, .inr (0, [.ref pm, .int (nI a0), .int (nI b0), .int (nI c0), .int (nI d0), .int (nI e0)])), (pm, .inr (3, [.int (nI w), .int (nI h), .int (nI b), .int (nI c), .int (nI (2 * md - 1)), .int (nI md), .int (nI ((w + 7) / 8)), .ref rs]))]) (fun r (g2 : Nat → Int32) => r = (mixV W (exq a0 b0 c0 d0 e0 (2 * md - 1))) ∧ ∀ j, j < 9 → g2 j = exq a0 b0 c0 d0 e0 (2 * md - 1) j)) (cc := cX8_mix) (maxL := 6) (ret := (some .int)) (by decide) rfl (Nat.le_of_ble_eq_true rfl) ?_
  intro pZ eZ sZ mZ bZ tZ cZ A hx hb hr hts hown hlocks hml hnm hK hA H locs hP hD hS ls hl
  have hown : sZ.vm.findClass RX8 = some mZ.cls := hown
  have hl : lv_has ls 6 [(0, .ref wh), (1, .ref ar)] := hl
  refine lv_iconst (v := 0) hx hb dX8_mix_0 (by decide) ?_
  refine lv_istore_n (lv' := [(2, .int 0), (0, .ref wh), (1, .ref ar)]) hx hb dX8_mix_1 rfl hl (by decide) rfl (fun ls hl => ?_)
  refine lv_iconst (v := 0) hx hb dX8_mix_2 (by decide) ?_
  refine lv_istore_n (lv' := [(3, .int 0), (2, .int 0), (0, .ref wh), (1, .ref ar)]) hx hb dX8_mix_3 rfl hl (by decide) rfl (fun ls hl => ?_)
  refine lv_iconst (v := 0) hx hb dX8_mix_4 (by decide) ?_
  refine lv_istore (lv' := [(4, .int 0), (3, .int 0), (2, .int 0), (0, .ref wh), (1, .ref ar)]) hx hb dX8_mix_5 hl (by decide) rfl (fun ls hl => ?_)
  refine x_loop (α := (Nat) × (Int32) × (Int32) × (Nat → Int32) × (Array Slot)) (fun z9 => F0 mZ 7 z9.2.2.2.2 []) (fun z9 H locs => ((z9.1) ≤ 9 ∧ (z9.2.1) = mixS W (z9.1) ∧ (z9.2.2.1) = mixT W (exq a0 b0 c0 d0 e0 (2 * md - 1)) (z9.1) ∧ ∀ j, j < (z9.1) → (z9.2.2.2.1) j = exq a0 b0 c0 d0 e0 (2 * md - 1) j) ∧ lv_has z9.2.2.2.2 6 [(0, .ref wh), (1, .ref ar), (2, .int (z9.2.1)), (3, .int (z9.2.2.1)), (4, .int (nI (z9.1)))] ∧ va_P G.1 vwCl [(wh, .inr (7, [.ref wr, .ref er])), (wr, .inr (5, [.ref wa])), (wa, .inl (G.2.1, 9, .inl fW)), (er, .inr (5, [.ref ea])), (ea, .inl (G.2.1, 9, .inl (z9.2.2.2.1))), (ar, .inr (0, [.ref pm, .int (nI a0), .int (nI b0), .int (nI c0), .int (nI d0), .int (nI e0)])), (pm, .inr (3, [.int (nI w), .int (nI h), .int (nI b), .int (nI c), .int (nI (2 * md - 1)), .int (nI md), .int (nI ((w + 7) / 8)), .ref rs]))] H ∧ va_D A [(wh, .inr (7, [.ref wr, .ref er])), (wr, .inr (5, [.ref wa])), (wa, .inl (G.2.1, 9, .inl fW)), (er, .inr (5, [.ref ea])), (ea, .inl (G.2.1, 9, .inl (z9.2.2.2.1))), (ar, .inr (0, [.ref pm, .int (nI a0), .int (nI b0), .int (nI c0), .int (nI d0), .int (nI e0)])), (pm, .inr (3, [.int (nI w), .int (nI h), .int (nI b), .int (nI c), .int (nI (2 * md - 1)), .int (nI md), .int (nI ((w + 7) / 8)), .ref rs]))] ∧ va_S A sZ.heap H locs) (fun z9 => 9 - (z9.1)) (fun z9 H locs hI ih_1 => ?_) (0, 0, 0, fE, ls) _ _ ⟨(show 0 ≤ 9 ∧ 0 = mixS W 0 ∧ 0 = mixT W (exq a0 b0 c0 d0 e0 (2 * md - 1)) 0 ∧ ∀ j, j < 0 → fE j = exq a0 b0 c0 d0 e0 (2 * md - 1) j from ⟨Nat.zero_le _, rfl, rfl, fun j hj => absurd hj (Nat.not_lt_zero _)⟩), lv_sub hl [3, 4, 2, 1, 0] rfl, hP, hD, hS⟩
  obtain ⟨i, s9, t9, g, ls⟩ := z9
  obtain ⟨hI, hl, hP, hD, hS⟩ := hI
  have hI : i ≤ 9 ∧ s9 = mixS W i ∧ t9 = mixT W (exq a0 b0 c0 d0 e0 (2 * md - 1)) i ∧ ∀ j, j < i → g j = exq a0 b0 c0 d0 e0 (2 * md - 1) j := hI
  have hl : lv_has ls 6 [(0, .ref wh), (1, .ref ar), (2, .int s9), (3, .int t9), (4, .int (nI i))] := hl
  have hP : va_P G.1 vwCl [(wh, .inr (7, [.ref wr, .ref er])), (wr, .inr (5, [.ref wa])), (wa, .inl (G.2.1, 9, .inl fW)), (er, .inr (5, [.ref ea])), (ea, .inl (G.2.1, 9, .inl g)), (ar, .inr (0, [.ref pm, .int (nI a0), .int (nI b0), .int (nI c0), .int (nI d0), .int (nI e0)])), (pm, .inr (3, [.int (nI w), .int (nI h), .int (nI b), .int (nI c), .int (nI (2 * md - 1)), .int (nI md), .int (nI ((w + 7) / 8)), .ref rs]))] H := hP
  have hD : va_D A [(wh, .inr (7, [.ref wr, .ref er])), (wr, .inr (5, [.ref wa])), (wa, .inl (G.2.1, 9, .inl fW)), (er, .inr (5, [.ref ea])), (ea, .inl (G.2.1, 9, .inl g)), (ar, .inr (0, [.ref pm, .int (nI a0), .int (nI b0), .int (nI c0), .int (nI d0), .int (nI e0)])), (pm, .inr (3, [.int (nI w), .int (nI h), .int (nI b), .int (nI c), .int (nI (2 * md - 1)), .int (nI md), .int (nI ((w + 7) / 8)), .ref rs]))] := hD
  refine lv_iload hx hb dX8_mix_7 (lv_at hl 4 rfl) ?_
  refine lv_bipush (v := 9) hx hb dX8_mix_9 (by decide) ?_
  refine lv_icmp_ge (tgt := 66) hx hb dX8_mix_11 (by decide) (fun c_11 => ?_) (fun c_11 => ?_)
  · skip
    have c_11 : 9 ≤ i := (nI_leI (a := 9) (b := i) (by omega) (by omega)).mp c_11
    have ei : i = 9 := by omega
    subst ei
    refine lv_iload_n hx hb dX8_mix_66 rfl (lv_at hl 2 rfl) ?_
    refine lv_if_le (tgt := 80) hx hb dX8_mix_67 (by decide) (fun c_67 => ?_) (fun c_67 => ?_)
    · skip
      exact absurd c_67 (by rw [hI.2.1]; exact mixS_pos hB)
    · skip
      refine lv_iload_n hx hb dX8_mix_70 rfl (lv_at hl 3 rfl) ?_
      refine lv_iload_n hx hb dX8_mix_71 rfl (lv_at hl 2 rfl) ?_
      refine lv_iconst (v := 2) hx hb dX8_mix_72 (by decide) ?_
      refine lv_idiv hx hb dX8_mix_73 (by decide) ?_
      refine lv_iadd hx hb dX8_mix_74 ?_
      refine lv_iload_n hx hb dX8_mix_75 rfl (lv_at hl 2 rfl) ?_
      refine lv_idiv hx hb dX8_mix_76 (by rw [hI.2.1]; exact mixS_ne hB) ?_
      refine lv_goto (tgt := 81) hx hb dX8_mix_77 (by decide) ?_
      exact w_iret g hx hb hr hlocks (⟨by rw [hI.2.1, hI.2.2.1]; rfl, hI.2.2.2⟩) hP hD hS dX8_mix_81
  · skip
    have c_11 : ¬ (9 ≤ i) := fun h9 => c_11 ((nI_leI (a := 9) (b := i) (by omega) (by omega)).mpr h9)
    refine lv_aload_n hx hb dX8_mix_14 rfl (lv_at hl 1 rfl) ?_
    refine lv_iload hx hb dX8_mix_15 (lv_at hl 4 rfl) ?_
    refine r_fin_i (va_runV (As := [.int (nI i)]) (rest := []) ⟨hx, hb, hml, hown, hts⟩ (c_X0_expected l G ar pm rs w h b c md (by first | assumption | omega) a0 b0 c0 d0 e0 i (by first | assumption | omega)) (cwV 1 hts gX8_mix_X0_expected rfl rfl rfl (by decide +kernel) ⟨Nat.le_of_ble_eq_true rfl, Nat.le_of_ble_eq_true rfl⟩) (x_preV (r_pre hK hP [5, 6] rfl) hK hP (ci := 0) (q0 := 5) rfl rfl) rfl rfl hl.1 rfl (lv_room (Nat.le_of_ble_eq_true rfl)) dX8_mix_17 ⟨Nat.zero_le _, Nat.zero_le _⟩) (fun r_2 hw => ?_)
    subst hw
    refine lv_istore (lv' := [(5, .int (exq a0 b0 c0 d0 e0 (2 * md - 1) i)), (0, .ref wh), (1, .ref ar), (2, .int s9), (3, .int t9), (4, .int (nI i))]) hx hb dX8_mix_20 hl (by decide) rfl (fun ls hl => ?_)
    refine lv_aload_n hx hb dX8_mix_22 rfl (lv_at hl 1 rfl) ?_
    refine va_get (D := G.1) (ci := 7) (v := .ref er) (C := RX8) (T := TX8) (N := 2) hx hb hts hin_X8_mix_8 hown hK.1 hP 0 rfl rfl 1 (by decide) (hts (.fieldLink RX8 20 "MixedPredict$Weights" "expected" "LMixedPredict$Row;") (List.mem_cons_of_mem _ (List.mem_append_left _ (List.mem_append_left _ (List.mem_append_left _ (List.mem_append_left _ (List.mem_append_left _ (List.mem_of_getElem? (i := 0) rfl)))))))) (fun _ h9 => h9) rfl dX8_mix_23 ?_
    refine lv_iload hx hb dX8_mix_26 (lv_at hl 5 rfl) ?_
    refine lv_iload hx hb dX8_mix_28 (lv_at hl 0 rfl) ?_
    refine w_fin_v (WR := [(wh, .inr (7, [.ref wr, .ref er])), (wr, .inr (5, [.ref wa])), (wa, .inl (G.2.1, 9, .inl fW)), (ar, .inr (0, [.ref pm, .int (nI a0), .int (nI b0), .int (nI c0), .int (nI d0), .int (nI e0)])), (pm, .inr (3, [.int (nI w), .int (nI h), .int (nI b), .int (nI c), .int (nI (2 * md - 1)), .int (nI md), .int (nI ((w + 7) / 8)), .ref rs]))]) (va_runV (As := [.int (nI i), .int (exq a0 b0 c0 d0 e0 (2 * md - 1) i)]) (rest := []) ⟨hx, hb, hml, hown, hts⟩ (c_X6_set l G er ea 9 g i (exq a0 b0 c0 d0 e0 (2 * md - 1) i) (by first | assumption | omega) (by first | assumption | omega) H.size) (cwV 2 hts gX8_mix_X6_set rfl rfl rfl (by decide +kernel) ⟨Nat.le_of_ble_eq_true rfl, Nat.le_of_ble_eq_true rfl⟩) (x_preV (w_pre hK hP hD [3, 4] (by decide) rfl) hK hP (ci := 5) (q0 := 3) rfl rfl) rfl rfl hl.1 rfl (lv_room (Nat.le_of_ble_eq_true rfl)) dX8_mix_30 ⟨Nat.zero_le _, Nat.zero_le _⟩) hP hD hS hA [3, 4] [0, 1, 2, 5, 6] rfl rfl (by decide) (by decide) [0, 1, 2, 5, 6, 3, 4] (by decide) (fun (_ : Unit) => [(wh, .inr (7, [.ref wr, .ref er])), (wr, .inr (5, [.ref wa])), (wa, .inl (G.2.1, 9, .inl fW)), (er, .inr (5, [.ref ea])), (ea, .inl (G.2.1, 9, .inl (upd g i (exq a0 b0 c0 d0 e0 (2 * md - 1) i)))), (ar, .inr (0, [.ref pm, .int (nI a0), .int (nI b0), .int (nI c0), .int (nI d0), .int (nI e0)])), (pm, .inr (3, [.int (nI w), .int (nI h), .int (nI b), .int (nI c), .int (nI (2 * md - 1)), .int (nI md), .int (nI ((w + 7) / 8)), .ref rs]))]) (fun _ => rfl) (fun u H locs hw hP hD hS => ?_)
    have hP : va_P G.1 vwCl [(wh, .inr (7, [.ref wr, .ref er])), (wr, .inr (5, [.ref wa])), (wa, .inl (G.2.1, 9, .inl fW)), (er, .inr (5, [.ref ea])), (ea, .inl (G.2.1, 9, .inl (upd g i (exq a0 b0 c0 d0 e0 (2 * md - 1) i)))), (ar, .inr (0, [.ref pm, .int (nI a0), .int (nI b0), .int (nI c0), .int (nI d0), .int (nI e0)])), (pm, .inr (3, [.int (nI w), .int (nI h), .int (nI b), .int (nI c), .int (nI (2 * md - 1)), .int (nI md), .int (nI ((w + 7) / 8)), .ref rs]))] H := hP
    have hD : va_D A [(wh, .inr (7, [.ref wr, .ref er])), (wr, .inr (5, [.ref wa])), (wa, .inl (G.2.1, 9, .inl fW)), (er, .inr (5, [.ref ea])), (ea, .inl (G.2.1, 9, .inl (upd g i (exq a0 b0 c0 d0 e0 (2 * md - 1) i)))), (ar, .inr (0, [.ref pm, .int (nI a0), .int (nI b0), .int (nI c0), .int (nI d0), .int (nI e0)])), (pm, .inr (3, [.int (nI w), .int (nI h), .int (nI b), .int (nI c), .int (nI (2 * md - 1)), .int (nI md), .int (nI ((w + 7) / 8)), .ref rs]))] := hD
    refine lv_iload_n hx hb dX8_mix_33 rfl (lv_at hl 3 rfl) ?_
    refine lv_aload_n hx hb dX8_mix_34 rfl (lv_at hl 1 rfl) ?_
    refine va_get (D := G.1) (ci := 7) (v := .ref wr) (C := RX8) (T := TX8) (N := 2) hx hb hts hin_X8_mix_8 hown hK.1 hP 0 rfl rfl 0 (by decide) (hts (.fieldLink RX8 14 "MixedPredict$Weights" "weights" "LMixedPredict$Row;") (List.mem_cons_of_mem _ (List.mem_append_left _ (List.mem_append_left _ (List.mem_append_left _ (List.mem_append_left _ (List.mem_append_left _ (List.mem_of_getElem? (i := 1) rfl)))))))) (fun _ h9 => h9) rfl dX8_mix_35 ?_
    refine lv_iload hx hb dX8_mix_38 (lv_at hl 5 rfl) ?_
    refine r_fin_i (va_runV (As := [.int (nI i)]) (rest := [.int s9]) ⟨hx, hb, hml, hown, hts⟩ (c_X6_get l G wr wa 9 fW i (by first | assumption | omega) (by first | assumption | omega)) (cwV 1 hts gX8_mix_X6_get rfl rfl rfl (by decide +kernel) ⟨Nat.le_of_ble_eq_true rfl, Nat.le_of_ble_eq_true rfl⟩) (x_preV (r_pre hK hP [1, 2] rfl) hK hP (ci := 5) (q0 := 1) rfl rfl) rfl rfl hl.1 rfl (lv_room (Nat.le_of_ble_eq_true rfl)) dX8_mix_40 ⟨Nat.zero_le _, Nat.zero_le _⟩) (fun r_5 hw => ?_)
    subst hw
    refine lv_iadd hx hb dX8_mix_43 ?_
    refine lv_istore_n (lv' := [(2, .int (s9 + (fW i))), (5, .int (exq a0 b0 c0 d0 e0 (2 * md - 1) i)), (0, .ref wh), (1, .ref ar), (3, .int t9), (4, .int (nI i))]) hx hb dX8_mix_44 rfl hl (by decide) rfl (fun ls hl => ?_)
    refine lv_iload_n hx hb dX8_mix_45 rfl (lv_at hl 4 rfl) ?_
    refine lv_aload_n hx hb dX8_mix_46 rfl (lv_at hl 2 rfl) ?_
    refine va_get (D := G.1) (ci := 7) (v := .ref wr) (C := RX8) (T := TX8) (N := 2) hx hb hts hin_X8_mix_8 hown hK.1 hP 0 rfl rfl 0 (by decide) (hts (.fieldLink RX8 14 "MixedPredict$Weights" "weights" "LMixedPredict$Row;") (List.mem_cons_of_mem _ (List.mem_append_left _ (List.mem_append_left _ (List.mem_append_left _ (List.mem_append_left _ (List.mem_append_left _ (List.mem_of_getElem? (i := 1) rfl)))))))) (fun _ h9 => h9) rfl dX8_mix_47 ?_
    refine lv_iload hx hb dX8_mix_50 (lv_at hl 5 rfl) ?_
    refine r_fin_i (va_runV (As := [.int (nI i)]) (rest := [.int t9]) ⟨hx, hb, hml, hown, hts⟩ (c_X6_get l G wr wa 9 fW i (by first | assumption | omega) (by first | assumption | omega)) (cwV 1 hts gX8_mix_X6_get rfl rfl rfl (by decide +kernel) ⟨Nat.le_of_ble_eq_true rfl, Nat.le_of_ble_eq_true rfl⟩) (x_preV (r_pre hK hP [1, 2] rfl) hK hP (ci := 5) (q0 := 1) rfl rfl) rfl rfl hl.1 rfl (lv_room (Nat.le_of_ble_eq_true rfl)) dX8_mix_52 ⟨Nat.zero_le _, Nat.zero_le _⟩) (fun r_6 hw => ?_)
    subst hw
    refine lv_iload hx hb dX8_mix_55 (lv_at hl 1 rfl) ?_
    refine lv_imul hx hb dX8_mix_57 ?_
    refine lv_iadd hx hb dX8_mix_58 ?_
    refine lv_istore_n (lv' := [(3, .int (t9 + ((fW i) * (exq a0 b0 c0 d0 e0 (2 * md - 1) i)))), (2, .int (s9 + (fW i))), (5, .int (exq a0 b0 c0 d0 e0 (2 * md - 1) i)), (0, .ref wh), (1, .ref ar), (4, .int (nI i))]) hx hb dX8_mix_59 rfl hl (by decide) rfl (fun ls hl => ?_)
    refine lv_iinc (v := nI (i + 1)) (lv' := [(4, .int (nI (i + 1))), (3, .int (t9 + ((fW i) * (exq a0 b0 c0 d0 e0 (2 * md - 1) i)))), (2, .int (s9 + (fW i))), (5, .int (exq a0 b0 c0 d0 e0 (2 * md - 1) i)), (0, .ref wh), (1, .ref ar)]) hx hb dX8_mix_60 hl (k := 5) rfl (by first | rfl | exact nI_add _ _) (by decide) rfl (fun ls hl => ?_)
    refine lv_goto (tgt := 7) hx hb dX8_mix_63 (by decide) ?_
    exact ih_1 (i + 1, s9 + (fW i), t9 + ((fW i) * (exq a0 b0 c0 d0 e0 (2 * md - 1) i)), upd g i (exq a0 b0 c0 d0 e0 (2 * md - 1) i), ls) _ _ (show 9 - (i + 1) < 9 - i from by omega) ⟨(show (i + 1) ≤ 9 ∧ (s9 + (fW i)) = mixS W (i + 1) ∧ (t9 + ((fW i) * (exq a0 b0 c0 d0 e0 (2 * md - 1) i))) = mixT W (exq a0 b0 c0 d0 e0 (2 * md - 1)) (i + 1) ∧ ∀ j, j < (i + 1) → (upd g i (exq a0 b0 c0 d0 e0 (2 * md - 1) i)) j = exq a0 b0 c0 d0 e0 (2 * md - 1) j from ⟨by omega, by rw [hI.2.1, hW i (by omega)]; rfl, by rw [hI.2.2.1, hW i (by omega)]; rfl, fun j hj => if hji : j = i then (by rw [hji, pk_us]) else (by rw [pk_un hji]; exact hI.2.2.2 j (by omega))⟩), lv_sub hl [4, 5, 2, 1, 0] rfl, hP, hD, hS⟩

set_option maxHeartbeats 4000000 in
set_option maxRecDepth 100000 in
theorem c_X8_learn (l : Launch) (G : GG) (wh wr wa er ea : Nat) (fW fE : Nat → Int32) (mx v : Int32) (W e : Nat → Int32) (hW : ∀ j, j < 9 → fW j = W j) (hE : ∀ j, j < 9 → fE j = e j) (sz : Nat) : Met l yX8_learn wsX8_learn ({ frames := 1, cells := 0, slots := 0, locals := 22 } : Room) (w_Pc G [.ref wh, .int mx, .int v] sz [(wh, .inr (7, [.ref wr, .ref er])), (wr, .inr (5, [.ref wa])), (wa, .inl (G.2.1, 9, .inl fW)), (er, .inr (5, [.ref ea])), (ea, .inl (G.2.1, 9, .inl fE))]) (w_Qv G (va_A [(wh, .inr (7, [.ref wr, .ref er])), (wr, .inr (5, [.ref wa])), (wa, .inl (G.2.1, 9, .inl fW)), (er, .inr (5, [.ref ea])), (ea, .inl (G.2.1, 9, .inl fE))] sz) (fun (g2 : Nat → Int32) => [(wh, .inr (7, [.ref wr, .ref er])), (wr, .inr (5, [.ref wa])), (wa, .inl (G.2.1, 9, .inl g2)), (er, .inr (5, [.ref ea])), (ea, .inl (G.2.1, 9, .inl fE))]) (fun (g2 : Nat → Int32) => ∀ j, j < 9 → g2 j = lrnW W e mx v j)) 0 0 (va_A [(wh, .inr (7, [.ref wr, .ref er])), (wr, .inr (5, [.ref wa])), (wa, .inl (G.2.1, 9, .inl fW)), (er, .inr (5, [.ref ea])), (ea, .inl (G.2.1, 9, .inl fE))] sz) := by
  refine w_ofW (Qf := fun A => w_Qv G A (fun (g2 : Nat → Int32) => [(wh, .inr (7, [.ref wr, .ref er])), (wr, .inr (5, [.ref wa])), (wa, .inl (G.2.1, 9, .inl g2)), (er, .inr (5, [.ref ea])), (ea, .inl (G.2.1, 9, .inl fE))]) (fun (g2 : Nat → Int32) => ∀ j, j < 9 → g2 j = lrnW W e mx v j)) (cc := cX8_learn) (maxL := 6) (ret := none) (by decide) rfl (Nat.le_of_ble_eq_true rfl) ?_
  intro pZ eZ sZ mZ bZ tZ cZ A hx hb hr hts hown hlocks hml hnm hK hA H locs hP hD hS ls hl
  have hown : sZ.vm.findClass RX8 = some mZ.cls := hown
  have hl : lv_has ls 6 [(0, .ref wh), (1, .int mx), (2, .int v)] := hl
  refine lv_iload_n hx hb dX8_learn_0 rfl (lv_at hl 2 rfl) ?_
  refine lv_iload_n hx hb dX8_learn_1 rfl (lv_at hl 1 rfl) ?_
  refine lv_icmp_ne (tgt := 6) hx hb dX8_learn_2 (by decide) (fun c_2 => ?_) (fun c_2 => ?_)
  · skip
    refine lv_iconst (v := 0) hx hb dX8_learn_6 (by decide) ?_
    refine lv_istore_n (lv' := [(3, .int 0), (0, .ref wh), (1, .int mx), (2, .int v)]) hx hb dX8_learn_7 rfl hl (by decide) rfl (fun ls hl => ?_)
    refine x_loop (α := (Nat) × (Nat → Int32) × (Array Slot)) (fun z9 => F0 mZ 8 z9.2.2 []) (fun z9 H locs => ((z9.1) ≤ 9 ∧ ∀ j, j < 9 → (z9.2.1) j = if j < (z9.1) then lrn1 (W j) (e j) mx v else W j) ∧ lv_has z9.2.2 6 [(0, .ref wh), (1, .int mx), (2, .int v), (3, .int (nI (z9.1)))] ∧ va_P G.1 vwCl [(wh, .inr (7, [.ref wr, .ref er])), (wr, .inr (5, [.ref wa])), (wa, .inl (G.2.1, 9, .inl (z9.2.1))), (er, .inr (5, [.ref ea])), (ea, .inl (G.2.1, 9, .inl fE))] H ∧ va_D A [(wh, .inr (7, [.ref wr, .ref er])), (wr, .inr (5, [.ref wa])), (wa, .inl (G.2.1, 9, .inl (z9.2.1))), (er, .inr (5, [.ref ea])), (ea, .inl (G.2.1, 9, .inl fE))] ∧ va_S A sZ.heap H locs) (fun z9 => 9 - (z9.1)) (fun z9 H locs hI ih_1 => ?_) (0, fW, ls) _ _ ⟨(show 0 ≤ 9 ∧ ∀ j, j < 9 → fW j = if j < 0 then lrn1 (W j) (e j) mx v else W j from ⟨Nat.zero_le _, fun j hj => by rw [if_neg (Nat.not_lt_zero _)]; exact hW j hj⟩), lv_sub hl [1, 2, 3, 0] rfl, hP, hD, hS⟩
    obtain ⟨i, g, ls⟩ := z9
    obtain ⟨hI, hl, hP, hD, hS⟩ := hI
    have hI : i ≤ 9 ∧ ∀ j, j < 9 → g j = if j < i then lrn1 (W j) (e j) mx v else W j := hI
    have hl : lv_has ls 6 [(0, .ref wh), (1, .int mx), (2, .int v), (3, .int (nI i))] := hl
    have hP : va_P G.1 vwCl [(wh, .inr (7, [.ref wr, .ref er])), (wr, .inr (5, [.ref wa])), (wa, .inl (G.2.1, 9, .inl g)), (er, .inr (5, [.ref ea])), (ea, .inl (G.2.1, 9, .inl fE))] H := hP
    have hD : va_D A [(wh, .inr (7, [.ref wr, .ref er])), (wr, .inr (5, [.ref wa])), (wa, .inl (G.2.1, 9, .inl g)), (er, .inr (5, [.ref ea])), (ea, .inl (G.2.1, 9, .inl fE))] := hD
    refine lv_iload_n hx hb dX8_learn_8 rfl (lv_at hl 3 rfl) ?_
    refine lv_bipush (v := 9) hx hb dX8_learn_9 (by decide) ?_
    refine lv_icmp_ge (tgt := 104) hx hb dX8_learn_11 (by decide) (fun c_11 => ?_) (fun c_11 => ?_)
    · skip
      have c_11 : 9 ≤ i := (nI_leI (a := 9) (b := i) (by omega) (by omega)).mp c_11
      exact w_vret g hx hb hr hlocks (fun j hj => by rw [lrnW, if_neg c_2, hI.2 j hj, if_pos (by omega)]) hP hD hS dX8_learn_104
    · skip
      have c_11 : ¬ (9 ≤ i) := fun h9 => c_11 ((nI_leI (a := 9) (b := i) (by omega) (by omega)).mpr h9)
      refine lv_aload_n hx hb dX8_learn_14 rfl (lv_at hl 0 rfl) ?_
      refine va_get (D := G.1) (ci := 7) (v := .ref er) (C := RX8) (T := TX8) (N := 2) hx hb hts hin_X8_learn_8 hown hK.1 hP 0 rfl rfl 1 (by decide) (hts (.fieldLink RX8 20 "MixedPredict$Weights" "expected" "LMixedPredict$Row;") (List.mem_cons_of_mem _ (List.mem_append_left _ (List.mem_append_left _ (List.mem_of_getElem? (i := 0) rfl))))) (fun _ h9 => h9) rfl dX8_learn_15 ?_
      refine lv_iload_n hx hb dX8_learn_18 rfl (lv_at hl 3 rfl) ?_
      refine r_fin_i (va_runV (As := [.int (nI i)]) (rest := []) ⟨hx, hb, hml, hown, hts⟩ (c_X6_get l G er ea 9 fE i (by first | assumption | omega) (by first | assumption | omega)) (cwV 1 hts gX8_learn_X6_get rfl rfl rfl (by decide +kernel) ⟨Nat.le_of_ble_eq_true rfl, Nat.le_of_ble_eq_true rfl⟩) (x_preV (r_pre hK hP [3, 4] rfl) hK hP (ci := 5) (q0 := 3) rfl rfl) rfl rfl hl.1 rfl (lv_room (Nat.le_of_ble_eq_true rfl)) dX8_learn_19 ⟨Nat.zero_le _, Nat.zero_le _⟩) (fun r_2 hw => ?_)
      subst hw
      refine lv_istore (lv' := [(4, .int (fE i)), (0, .ref wh), (1, .int mx), (2, .int v), (3, .int (nI i))]) hx hb dX8_learn_22 hl (by decide) rfl (fun ls hl => ?_)
      have hgi : g i = W i := by rw [hI.2 i (by omega), if_neg (Nat.lt_irrefl _)]
      have hei : fE i = e i := hE i (by omega)
      refine lv_iload hx hb dX8_learn_24 (lv_at hl 0 rfl) ?_
      refine lv_iload_n hx hb dX8_learn_26 rfl (lv_at hl 2 rfl) ?_
      refine lv_icmp_eq (tgt := 98) hx hb dX8_learn_27 (by decide) (fun c_27 => ?_) (fun c_27 => ?_)
      · skip
        have hstep : ∀ j, j < 9 → g j = if j < i + 1 then lrn1 (W j) (e j) mx v else W j := by
          intro j hj
          by_cases hji : j = i
          · rw [hji, hgi, if_pos (Nat.lt_succ_self i), lrn1, if_pos (hei.symm.trans c_27)]
          · rw [hI.2 j hj]; exact ite_lt_succ hji _ _
        refine lv_iinc (v := nI (i + 1)) (lv' := [(3, .int (nI (i + 1))), (4, .int (fE i)), (0, .ref wh), (1, .int mx), (2, .int v)]) hx hb dX8_learn_98 hl (k := 4) rfl (by first | rfl | exact nI_add _ _) (by decide) rfl (fun ls hl => ?_)
        refine lv_goto (tgt := 8) hx hb dX8_learn_101 (by decide) ?_
        exact ih_1 (i + 1, g, ls) _ _ (show 9 - (i + 1) < 9 - i from by omega) ⟨(show (i + 1) ≤ 9 ∧ ∀ j, j < 9 → g j = if j < (i + 1) then lrn1 (W j) (e j) mx v else W j from ⟨by omega, hstep⟩), lv_sub hl [2, 3, 4, 0] rfl, hP, hD, hS⟩
      · skip
        have c_27b := c_27
        refine lv_iload hx hb dX8_learn_30 (lv_at hl 0 rfl) ?_
        refine lv_iload_n hx hb dX8_learn_32 rfl (lv_at hl 2 rfl) ?_
        refine x_join (α := (Int32)) (fun z9 => F0 mZ 41 ls [.int z9]) (fun z9 => (z9 = if mx < fE i then 1 else 0)) (fun z9 hJ9 => ?_) (fun hj_3 => ?_)
        · obtain ⟨v9, rfl⟩ : ∃ z, z = z9 := ⟨_, rfl⟩
          have hj9 := hJ9
          have hj9 : v9 = if mx < fE i then 1 else 0 := hj9
          subst hj9
          refine lv_iload_n hx hb dX8_learn_41 rfl (lv_at hl 3 rfl) ?_
          refine lv_iload_n hx hb dX8_learn_42 rfl (lv_at hl 2 rfl) ?_
          refine x_join (α := (Int32)) (fun z9 => F0 mZ 51 ls [.int z9, .int (if mx < fE i then 1 else 0)]) (fun z9 => (z9 = if mx < v then 1 else 0)) (fun z9 hJ9 => ?_) (fun hj_4 => ?_)
          · obtain ⟨v9, rfl⟩ : ∃ z, z = z9 := ⟨_, rfl⟩
            have hj9 := hJ9
            have hj9 : v9 = if mx < v then 1 else 0 := hj9
            subst hj9
            refine x_join (α := (Int32)) (fun z9 => F0 mZ 59 ls [.int z9]) (fun z9 => (z9 = if (mx < fE i ↔ mx < v) then 1 else 0)) (fun z9 hJ9 => ?_) (fun hj_5 => ?_)
            · obtain ⟨v9, rfl⟩ : ∃ z, z = z9 := ⟨_, rfl⟩
              have hj9 := hJ9
              have hj9 : v9 = if (mx < fE i ↔ mx < v) then 1 else 0 := hj9
              subst hj9
              refine lv_istore (lv' := [(5, .int (if (mx < fE i ↔ mx < v) then 1 else 0)), (4, .int (fE i)), (0, .ref wh), (1, .int mx), (2, .int v), (3, .int (nI i))]) hx hb dX8_learn_59 hl (by decide) rfl (fun ls hl => ?_)
              refine lv_aload_n hx hb dX8_learn_61 rfl (lv_at hl 2 rfl) ?_
              refine va_get (D := G.1) (ci := 7) (v := .ref wr) (C := RX8) (T := TX8) (N := 2) hx hb hts hin_X8_learn_8 hown hK.1 hP 0 rfl rfl 0 (by decide) (hts (.fieldLink RX8 14 "MixedPredict$Weights" "weights" "LMixedPredict$Row;") (List.mem_cons_of_mem _ (List.mem_append_left _ (List.mem_append_left _ (List.mem_of_getElem? (i := 1) rfl))))) (fun _ h9 => h9) rfl dX8_learn_62 ?_
              refine lv_iload_n hx hb dX8_learn_65 rfl (lv_at hl 5 rfl) ?_
              refine lv_aload_n hx hb dX8_learn_66 rfl (lv_at hl 2 rfl) ?_
              refine va_get (D := G.1) (ci := 7) (v := .ref wr) (C := RX8) (T := TX8) (N := 2) hx hb hts hin_X8_learn_8 hown hK.1 hP 0 rfl rfl 0 (by decide) (hts (.fieldLink RX8 14 "MixedPredict$Weights" "weights" "LMixedPredict$Row;") (List.mem_cons_of_mem _ (List.mem_append_left _ (List.mem_append_left _ (List.mem_of_getElem? (i := 1) rfl))))) (fun _ h9 => h9) rfl dX8_learn_67 ?_
              refine lv_iload_n hx hb dX8_learn_70 rfl (lv_at hl 5 rfl) ?_
              refine r_fin_i (va_runV (As := [.int (nI i)]) (rest := [.int (nI i), .ref wr]) ⟨hx, hb, hml, hown, hts⟩ (c_X6_get l G wr wa 9 g i (by first | assumption | omega) (by first | assumption | omega)) (cwV 1 hts gX8_learn_X6_get rfl rfl rfl (by decide +kernel) ⟨Nat.le_of_ble_eq_true rfl, Nat.le_of_ble_eq_true rfl⟩) (x_preV (r_pre hK hP [1, 2] rfl) hK hP (ci := 5) (q0 := 1) rfl rfl) rfl rfl hl.1 rfl (lv_room (Nat.le_of_ble_eq_true rfl)) dX8_learn_71 ⟨Nat.zero_le _, Nat.zero_le _⟩) (fun r_6 hw => ?_)
              subst hw
              refine lv_iload hx hb dX8_learn_74 (lv_at hl 0 rfl) ?_
              refine x_join (α := (Int32)) (fun z9 => F0 mZ 86 ls [.int z9, .int (g i), .int (nI i), .ref wr]) (fun z9 => (z9 = if (mx < fE i ↔ mx < v) then 8 else -8)) (fun z9 hJ9 => ?_) (fun hj_7 => ?_)
              · obtain ⟨v9, rfl⟩ : ∃ z, z = z9 := ⟨_, rfl⟩
                have hj9 := hJ9
                have hj9 : v9 = if (mx < fE i ↔ mx < v) then 8 else -8 := hj9
                subst hj9
                refine lv_iadd hx hb dX8_learn_86 ?_
                refine lv_bipush (v := 8) hx hb dX8_learn_87 (by decide) ?_
                refine lv_sipush (v := 1024) hx hb dX8_learn_89 (by decide) ?_
                refine r_fin_i (va_runSN (As := [.int ((g i) + (if (mx < fE i ↔ mx < v) then 8 else -8)), .int 8, .int 1024]) (rest := [.int (nI i), .ref wr]) ⟨hx, hb, hml, hown, hts⟩ (c_X10_brought l G ((g i) + (if (mx < fE i ↔ mx < v) then 8 else -8)) 8 1024) ⟨va_cnB 3 hts gX8_learn_X10_brought_n38 rfl rfl rfl (KK_nest hK 2 rfl) (hts (.initialized RX10) (List.mem_cons_of_mem _ (List.mem_append_left _ (List.mem_append_left _ (List.mem_of_getElem? (i := 9) rfl))))) (by decide +kernel) ⟨Nat.le_of_ble_eq_true rfl, Nat.le_of_ble_eq_true rfl⟩, (hts (.static yX10_brought) (List.mem_cons_of_mem _ (List.mem_append_left _ (List.mem_append_left _ (List.mem_of_getElem? (i := 8) rfl))))), trivial⟩ (r_pre hK hP [] rfl) rfl rfl hl.1 rfl (lv_room (Nat.le_of_ble_eq_true rfl)) dX8_learn_92 ⟨Nat.zero_le _, Nat.zero_le _⟩) (fun r_8 hw => ?_)
                subst hw
                refine w_fin_v (WR := [(wh, .inr (7, [.ref wr, .ref er])), (er, .inr (5, [.ref ea])), (ea, .inl (G.2.1, 9, .inl fE))]) (va_runV (As := [.int (nI i), .int (br ((g i) + (if (mx < fE i ↔ mx < v) then 8 else -8)) 8 1024)]) (rest := []) ⟨hx, hb, hml, hown, hts⟩ (c_X6_set l G wr wa 9 g i (br ((g i) + (if (mx < fE i ↔ mx < v) then 8 else -8)) 8 1024) (by first | assumption | omega) (by first | assumption | omega) H.size) (cwV 2 hts gX8_learn_X6_set rfl rfl rfl (by decide +kernel) ⟨Nat.le_of_ble_eq_true rfl, Nat.le_of_ble_eq_true rfl⟩) (x_preV (w_pre hK hP hD [1, 2] (by decide) rfl) hK hP (ci := 5) (q0 := 1) rfl rfl) rfl rfl hl.1 rfl (lv_room (Nat.le_of_ble_eq_true rfl)) dX8_learn_95 ⟨Nat.zero_le _, Nat.zero_le _⟩) hP hD hS hA [1, 2] [0, 3, 4] rfl rfl (by decide) (by decide) [0, 3, 4, 1, 2] (by decide) (fun (_ : Unit) => [(wh, .inr (7, [.ref wr, .ref er])), (wr, .inr (5, [.ref wa])), (wa, .inl (G.2.1, 9, .inl (upd g i (br ((g i) + (if (mx < fE i ↔ mx < v) then 8 else -8)) 8 1024)))), (er, .inr (5, [.ref ea])), (ea, .inl (G.2.1, 9, .inl fE))]) (fun _ => rfl) (fun u H locs hw hP hD hS => ?_)
                have hP : va_P G.1 vwCl [(wh, .inr (7, [.ref wr, .ref er])), (wr, .inr (5, [.ref wa])), (wa, .inl (G.2.1, 9, .inl (upd g i (br ((g i) + (if (mx < fE i ↔ mx < v) then 8 else -8)) 8 1024)))), (er, .inr (5, [.ref ea])), (ea, .inl (G.2.1, 9, .inl fE))] H := hP
                have hD : va_D A [(wh, .inr (7, [.ref wr, .ref er])), (wr, .inr (5, [.ref wa])), (wa, .inl (G.2.1, 9, .inl (upd g i (br ((g i) + (if (mx < fE i ↔ mx < v) then 8 else -8)) 8 1024)))), (er, .inr (5, [.ref ea])), (ea, .inl (G.2.1, 9, .inl fE))] := hD
                have hstep : ∀ j, j < 9 → (upd g i (br ((g i) + (if (mx < fE i ↔ mx < v) then 8 else -8)) 8 1024)) j = if j < i + 1 then lrn1 (W j) (e j) mx v else W j := by
                  intro j hj
                  by_cases hji : j = i
                  · rw [hji, pk_us, if_pos (Nat.lt_succ_self i), hgi, lrn1, if_neg (fun h => c_27 (hei.trans h)), hei]
                  · rw [pk_un hji, hI.2 j hj]; exact ite_lt_succ hji _ _
                refine lv_iinc (v := nI (i + 1)) (lv' := [(3, .int (nI (i + 1))), (5, .int (if (mx < fE i ↔ mx < v) then 1 else 0)), (4, .int (fE i)), (0, .ref wh), (1, .int mx), (2, .int v)]) hx hb dX8_learn_98 hl (k := 5) rfl (by first | rfl | exact nI_add _ _) (by decide) rfl (fun ls hl => ?_)
                refine lv_goto (tgt := 8) hx hb dX8_learn_101 (by decide) ?_
                exact ih_1 (i + 1, upd g i (br ((g i) + (if (mx < fE i ↔ mx < v) then 8 else -8)) 8 1024), ls) _ _ (show 9 - (i + 1) < 9 - i from by omega) ⟨(show (i + 1) ≤ 9 ∧ ∀ j, j < 9 → (upd g i (br ((g i) + (if (mx < fE i ↔ mx < v) then 8 else -8)) 8 1024)) j = if j < (i + 1) then lrn1 (W j) (e j) mx v else W j from ⟨by omega, hstep⟩), lv_sub hl [3, 4, 5, 0] rfl, hP, hD, hS⟩
              · skip
                refine lv_if_eq (tgt := 84) hx hb dX8_learn_76 (by decide) (fun c_76 => ?_) (fun c_76 => ?_)
                · skip
                  have c_76 := x_b0.mp c_76
                  refine lv_bipush (v := (-8)) hx hb dX8_learn_84 (by decide) ?_
                  exact hj_7 (-8) ((show ((-8)) = if (mx < fE i ↔ mx < v) then 8 else -8 from by rw [if_neg c_76]))
                · skip
                  have c_76 := Decidable.not_not.mp (fun h9 => c_76 (x_b0.mpr h9))
                  refine lv_bipush (v := 8) hx hb dX8_learn_79 (by decide) ?_
                  refine lv_goto (tgt := 86) hx hb dX8_learn_81 (by decide) ?_
                  exact hj_7 8 ((show 8 = if (mx < fE i ↔ mx < v) then 8 else -8 from by rw [if_pos c_76]))
            · skip
              refine lv_icmp_ne (tgt := 58) hx hb dX8_learn_51 (by decide) (fun c_51 => ?_) (fun c_51 => ?_)
              · skip
                refine lv_iconst (v := 0) hx hb dX8_learn_58 (by decide) ?_
                exact hj_5 0 ((show 0 = if (mx < fE i ↔ mx < v) then 1 else 0 from by rw [if_neg (fun h => c_51 (x_beq.mpr h))]))
              · skip
                refine lv_iconst (v := 1) hx hb dX8_learn_54 (by decide) ?_
                refine lv_goto (tgt := 59) hx hb dX8_learn_55 (by decide) ?_
                exact hj_5 1 ((show 1 = if (mx < fE i ↔ mx < v) then 1 else 0 from by rw [if_pos (x_beq.mp c_51)]))
          · skip
            refine lv_icmp_le (tgt := 50) hx hb dX8_learn_43 (by decide) (fun c_43 => ?_) (fun c_43 => ?_)
            · skip
              refine lv_iconst (v := 0) hx hb dX8_learn_50 (by decide) ?_
              exact hj_4 0 ((show 0 = if mx < v then 1 else 0 from by rw [if_neg (Int32.not_lt.mpr c_43)]))
            · skip
              refine lv_iconst (v := 1) hx hb dX8_learn_46 (by decide) ?_
              refine lv_goto (tgt := 51) hx hb dX8_learn_47 (by decide) ?_
              exact hj_4 1 ((show 1 = if mx < v then 1 else 0 from by rw [if_pos (Int32.not_le.mp c_43)]))
        · skip
          refine lv_icmp_le (tgt := 40) hx hb dX8_learn_33 (by decide) (fun c_33 => ?_) (fun c_33 => ?_)
          · skip
            refine lv_iconst (v := 0) hx hb dX8_learn_40 (by decide) ?_
            exact hj_3 0 ((show 0 = if mx < fE i then 1 else 0 from by rw [if_neg (Int32.not_lt.mpr c_33)]))
          · skip
            refine lv_iconst (v := 1) hx hb dX8_learn_36 (by decide) ?_
            refine lv_goto (tgt := 41) hx hb dX8_learn_37 (by decide) ?_
            exact hj_3 1 ((show 1 = if mx < fE i then 1 else 0 from by rw [if_pos (Int32.not_le.mp c_33)]))
  · skip
    exact w_vret fW hx hb hr hlocks (fun j hj => by rw [lrnW, if_pos c_2]; exact hW j hj) hP hD hS dX8_learn_5

set_option maxHeartbeats 4000000 in
set_option maxRecDepth 100000 in
theorem c_X2_init (l : Launch) (G : GG) (ch : Nat) (w h b c md : Nat) (hd : DIM w h b c md)  (sz : Nat) : Met l yX2_init wsX2_init ({ frames := 2, cells := 6, slots := 3 + c + 2 * (c * 4 * (2 * md)), locals := 35 } : Room) (w_Pc G [.ref ch, .int (nI b), .int (nI c)] sz [(ch, .inr (2, [.null, .null, .null, .int 0]))]) (w_Qv G (va_A [(ch, .inr (2, [.null, .null, .null, .int 0]))] sz) (fun (u9 : Nat × Nat × Nat × Nat × Nat × Nat) => [(ch, .inr (2, [.ref u9.1, .ref u9.2.2.1, .ref u9.2.2.2.2.1, .int (nI b)])), (u9.1, .inr (5, [.ref u9.2.1])), (u9.2.1, .inl (G.2.1, (c * 4) * (2 * md), .inl (fun _ => 0))), (u9.2.2.1, .inr (5, [.ref u9.2.2.2.1])), (u9.2.2.2.1, .inl (G.2.1, (c * 4) * (2 * md), .inl (fun _ => 0))), (u9.2.2.2.2.1, .inr (5, [.ref u9.2.2.2.2.2])), (u9.2.2.2.2.2, .inl (G.2.1, c, .inl (fun _ => 0)))]) (fun (u9 : Nat × Nat × Nat × Nat × Nat × Nat) => True)) 6 (3 + c + 2 * (c * 4 * (2 * md))) (va_A [(ch, .inr (2, [.null, .null, .null, .int 0]))] sz) := by
  refine w_ofW (Qf := fun A => w_Qv G A (fun (u9 : Nat × Nat × Nat × Nat × Nat × Nat) => [(ch, .inr (2, [.ref u9.1, .ref u9.2.2.1, .ref u9.2.2.2.2.1, .int (nI b)])), (u9.1, .inr (5, [.ref u9.2.1])), (u9.2.1, .inl (G.2.1, (c * 4) * (2 * md), .inl (fun _ => 0))), (u9.2.2.1, .inr (5, [.ref u9.2.2.2.1])), (u9.2.2.2.1, .inl (G.2.1, (c * 4) * (2 * md), .inl (fun _ => 0))), (u9.2.2.2.2.1, .inr (5, [.ref u9.2.2.2.2.2])), (u9.2.2.2.2.2, .inl (G.2.1, c, .inl (fun _ => 0)))]) (fun (u9 : Nat × Nat × Nat × Nat × Nat × Nat) => True)) (cc := cX2_init) (maxL := 3) (ret := none) (by decide) rfl (Nat.le_of_ble_eq_true rfl) ?_
  intro pZ eZ sZ mZ bZ tZ cZ A hx hb hr hts hown hlocks hml hnm hK hA H locs hP hD hS ls hl
  have hown : sZ.vm.findClass RX2 = some mZ.cls := hown
  have hl : lv_has ls 3 [(0, .ref ch), (1, .int (nI b)), (2, .int (nI c))] := hl
  obtain ⟨dw1, dw2, dh1, dh2, db1, db2, dc1, dc2, dm1, dm2, dme⟩ := id hd
  have q1 := ch_big hd
  refine lv_aload_n hx hb dX2_init_0 rfl (lv_at hl 0 rfl) ?_
  refine W.objInit hx hb hown (hts (.methodLink RX2 3 objectInit) (List.mem_cons_of_mem _ (List.mem_append_left _ (List.mem_append_left _ (List.mem_of_getElem? (i := 0) rfl))))) (hts (.instanceMethod objectInit) (List.mem_cons_of_mem _ (List.mem_append_left _ (List.mem_append_left _ (List.mem_of_getElem? (i := 1) rfl))))) (hts (.code objectInit ⟨#[0xb1]⟩ 1 none) (List.mem_cons_of_mem _ (List.mem_append_left _ (List.mem_append_left _ (List.mem_of_getElem? (i := 2) rfl))))) rfl (by rw [hml]; exact hl.1) rfl dX2_init_1 (Nat.le_of_ble_eq_true rfl) (Nat.le_of_ble_eq_true rfl) ?_
  refine W.eq (g2 := F0 mZ 4 ls []) rfl ?_
  refine lv_aload_n hx hb dX2_init_4 rfl (lv_at hl 0 rfl) ?_
  refine lv_iload_n hx hb dX2_init_5 rfl (lv_at hl 1 rfl) ?_
  refine va_putF (D := G.1) (ci := 2) (v := .int (nI b)) (ty := tyX2 3) (C := RX2) (T := TX2) (N := 4) hx hb hts hin_X2_init_2 tyX2 tyX2_ok nmX2 hown hK.1 hP hD hS 0 rfl rfl 3 (by decide) (hts (.fieldLink RX2 9 "MixedPredict$Chances" "bits" "I") (List.mem_cons_of_mem _ (List.mem_append_left _ (List.mem_append_left _ (List.mem_of_getElem? (i := 3) rfl))))) (fun _ h9 => h9) rfl hnm rfl (tyX2_ok 3 (by decide)) rfl rfl (Nat.le_of_ble_eq_true rfl) dX2_init_6 (fun H locs hP hD hS => ?_)
  have hP : va_P G.1 vwCl [(ch, .inr (2, [.null, .null, .null, .int (nI b)]))] H := hP
  have hD : va_D A [(ch, .inr (2, [.null, .null, .null, .int (nI b)]))] := hD
  refine lv_aload_n hx hb dX2_init_9 rfl (lv_at hl 0 rfl) ?_
  refine va_new (ci := 5) (fs := [.null]) (C := RX6) (T := TX6) (N := 1) hx hb hts hin_X2_init_6 tyX6 tyX6_ok hown (hts (.classLink RX2 15 RX6) (List.mem_cons_of_mem _ (List.mem_append_left _ (List.mem_append_left _ (List.mem_of_getElem? (i := 4) rfl))))) (hts (.instantiable RX6 1) (List.mem_cons_of_mem _ (List.mem_append_left _ (List.mem_append_left _ (List.mem_of_getElem? (i := 5) rfl))))) (hts (.initialized RX6) (List.mem_cons_of_mem _ (List.mem_append_left _ (List.mem_append_left _ (List.mem_of_getElem? (i := 6) rfl))))) hK.1 hP hD hS hA rfl (fun j hj => by rcases (show j = 0 by omega) with rfl <;> rfl) (by show _ ≤ 6; omega) (by show _ ≤ (3 + c + 2 * (c * 4 * (2 * md))); omega) dX2_init_10 (fun q_1 H hP hD hS => ?_)
  have hP : va_P G.1 vwCl [(ch, .inr (2, [.null, .null, .null, .int (nI b)])), (q_1, .inr (5, [.null]))] H := hP
  have hD : va_D A [(ch, .inr (2, [.null, .null, .null, .int (nI b)])), (q_1, .inr (5, [.null]))] := hD
  refine lv_dup hx hb dX2_init_13 rfl ?_
  refine lv_iload_n hx hb dX2_init_14 rfl (lv_at hl 2 rfl) ?_
  refine lv_iconst (v := 4) hx hb dX2_init_15 (by decide) ?_
  refine lv_imul hx hb dX2_init_16 ?_
  refine x_top (y := nI (c * 4)) (pk_mul _ _) ?_
  refine lv_iload_n hx hb dX2_init_17 rfl (lv_at hl 1 rfl) ?_
  refine lv_ishl hx hb dX2_init_18 ?_
  refine x_top (y := nI ((c * 4) * (2 * md))) (shl_n hd (by omega)) ?_
  refine w_fin_v (WR := [(ch, .inr (2, [.null, .null, .null, .int (nI b)]))]) (va_runI (As := [.int (nI ((c * 4) * (2 * md)))]) (rest := [.ref q_1, .ref ch]) ⟨hx, hb, hml, hown, hts⟩ (c_X6_init l G q_1 ((c * 4) * (2 * md)) (by first | assumption | omega) H.size) (cwI 1 hts gX2_init_X6_init rfl rfl rfl (hts (.initialized RX6) (List.mem_cons_of_mem _ (List.mem_append_left _ (List.mem_append_left _ (List.mem_of_getElem? (i := 6) rfl))))) (hts (.methodLink RX2 17 yX6_init) (List.mem_cons_of_mem _ (List.mem_append_left _ (List.mem_append_left _ (List.mem_of_getElem? (i := 10) rfl))))) (hts (.instanceMethod yX6_init) (List.mem_cons_of_mem _ (List.mem_append_left _ (List.mem_append_left _ (List.mem_of_getElem? (i := 11) rfl))))) rfl (by decide +kernel) ⟨Nat.le_of_ble_eq_true rfl, Nat.le_of_ble_eq_true rfl⟩) (w_pre hK hP hD [1] (by decide) rfl) rfl rfl hl.1 rfl (lv_room (Nat.le_of_ble_eq_true rfl)) dX2_init_19 ⟨by show _ ≤ 6; omega, by show _ ≤ (3 + c + 2 * (c * 4 * (2 * md))); omega⟩) hP hD hS hA [1] [0] rfl rfl (by decide) (by decide) [0, 1, 2] (by decide) (fun (q : Nat) => [(ch, .inr (2, [.null, .null, .null, .int (nI b)])), (q_1, .inr (5, [.ref q])), (q, .inl (G.2.1, ((c * 4) * (2 * md)), .inl (fun _ => 0)))]) (fun _ => rfl) (fun u H locs hw hP hD hS => ?_)
  obtain ⟨q_2, rfl⟩ : ∃ z, z = u := ⟨_, rfl⟩
  have hP : va_P G.1 vwCl [(ch, .inr (2, [.null, .null, .null, .int (nI b)])), (q_1, .inr (5, [.ref q_2])), (q_2, .inl (G.2.1, ((c * 4) * (2 * md)), .inl (fun _ => 0)))] H := hP
  have hD : va_D A [(ch, .inr (2, [.null, .null, .null, .int (nI b)])), (q_1, .inr (5, [.ref q_2])), (q_2, .inl (G.2.1, ((c * 4) * (2 * md)), .inl (fun _ => 0)))] := hD
  refine va_putF (D := G.1) (ci := 2) (v := .ref q_1) (ty := tyX2 0) (C := RX2) (T := TX2) (N := 4) hx hb hts hin_X2_init_2 tyX2 tyX2_ok nmX2 hown hK.1 hP hD hS 0 rfl rfl 0 (by decide) (hts (.fieldLink RX2 20 "MixedPredict$Chances" "first" "LMixedPredict$Row;") (List.mem_cons_of_mem _ (List.mem_append_left _ (List.mem_append_left _ (List.mem_of_getElem? (i := 7) rfl))))) (fun _ h9 => h9) rfl hnm rfl (tyX2_ok 0 (by decide)) rfl rfl (Nat.le_of_ble_eq_true rfl) dX2_init_22 (fun H locs hP hD hS => ?_)
  have hP : va_P G.1 vwCl [(ch, .inr (2, [.ref q_1, .null, .null, .int (nI b)])), (q_1, .inr (5, [.ref q_2])), (q_2, .inl (G.2.1, ((c * 4) * (2 * md)), .inl (fun _ => 0)))] H := hP
  have hD : va_D A [(ch, .inr (2, [.ref q_1, .null, .null, .int (nI b)])), (q_1, .inr (5, [.ref q_2])), (q_2, .inl (G.2.1, ((c * 4) * (2 * md)), .inl (fun _ => 0)))] := hD
  refine lv_aload_n hx hb dX2_init_25 rfl (lv_at hl 0 rfl) ?_
  refine va_new (ci := 5) (fs := [.null]) (C := RX6) (T := TX6) (N := 1) hx hb hts hin_X2_init_6 tyX6 tyX6_ok hown (hts (.classLink RX2 15 RX6) (List.mem_cons_of_mem _ (List.mem_append_left _ (List.mem_append_left _ (List.mem_of_getElem? (i := 4) rfl))))) (hts (.instantiable RX6 1) (List.mem_cons_of_mem _ (List.mem_append_left _ (List.mem_append_left _ (List.mem_of_getElem? (i := 5) rfl))))) (hts (.initialized RX6) (List.mem_cons_of_mem _ (List.mem_append_left _ (List.mem_append_left _ (List.mem_of_getElem? (i := 6) rfl))))) hK.1 hP hD hS hA rfl (fun j hj => by rcases (show j = 0 by omega) with rfl <;> rfl) (by show _ ≤ 6; omega) (by show _ ≤ (3 + c + 2 * (c * 4 * (2 * md))); omega) dX2_init_26 (fun q_4 H hP hD hS => ?_)
  have hP : va_P G.1 vwCl [(ch, .inr (2, [.ref q_1, .null, .null, .int (nI b)])), (q_1, .inr (5, [.ref q_2])), (q_2, .inl (G.2.1, ((c * 4) * (2 * md)), .inl (fun _ => 0))), (q_4, .inr (5, [.null]))] H := hP
  have hD : va_D A [(ch, .inr (2, [.ref q_1, .null, .null, .int (nI b)])), (q_1, .inr (5, [.ref q_2])), (q_2, .inl (G.2.1, ((c * 4) * (2 * md)), .inl (fun _ => 0))), (q_4, .inr (5, [.null]))] := hD
  refine lv_dup hx hb dX2_init_29 rfl ?_
  refine lv_iload_n hx hb dX2_init_30 rfl (lv_at hl 2 rfl) ?_
  refine lv_iconst (v := 4) hx hb dX2_init_31 (by decide) ?_
  refine lv_imul hx hb dX2_init_32 ?_
  refine x_top (y := nI (c * 4)) (pk_mul _ _) ?_
  refine lv_iload_n hx hb dX2_init_33 rfl (lv_at hl 1 rfl) ?_
  refine lv_ishl hx hb dX2_init_34 ?_
  refine x_top (y := nI ((c * 4) * (2 * md))) (shl_n hd (by omega)) ?_
  refine w_fin_v (WR := [(ch, .inr (2, [.ref q_1, .null, .null, .int (nI b)])), (q_1, .inr (5, [.ref q_2])), (q_2, .inl (G.2.1, ((c * 4) * (2 * md)), .inl (fun _ => 0)))]) (va_runI (As := [.int (nI ((c * 4) * (2 * md)))]) (rest := [.ref q_4, .ref ch]) ⟨hx, hb, hml, hown, hts⟩ (c_X6_init l G q_4 ((c * 4) * (2 * md)) (by first | assumption | omega) H.size) (cwI 1 hts gX2_init_X6_init rfl rfl rfl (hts (.initialized RX6) (List.mem_cons_of_mem _ (List.mem_append_left _ (List.mem_append_left _ (List.mem_of_getElem? (i := 6) rfl))))) (hts (.methodLink RX2 17 yX6_init) (List.mem_cons_of_mem _ (List.mem_append_left _ (List.mem_append_left _ (List.mem_of_getElem? (i := 10) rfl))))) (hts (.instanceMethod yX6_init) (List.mem_cons_of_mem _ (List.mem_append_left _ (List.mem_append_left _ (List.mem_of_getElem? (i := 11) rfl))))) rfl (by decide +kernel) ⟨Nat.le_of_ble_eq_true rfl, Nat.le_of_ble_eq_true rfl⟩) (w_pre hK hP hD [3] (by decide) rfl) rfl rfl hl.1 rfl (lv_room (Nat.le_of_ble_eq_true rfl)) dX2_init_35 ⟨by show _ ≤ 6; omega, by show _ ≤ (3 + c + 2 * (c * 4 * (2 * md))); omega⟩) hP hD hS hA [3] [0, 1, 2] rfl rfl (by decide) (by decide) [0, 1, 2, 3, 4] (by decide) (fun (q : Nat) => [(ch, .inr (2, [.ref q_1, .null, .null, .int (nI b)])), (q_1, .inr (5, [.ref q_2])), (q_2, .inl (G.2.1, ((c * 4) * (2 * md)), .inl (fun _ => 0))), (q_4, .inr (5, [.ref q])), (q, .inl (G.2.1, ((c * 4) * (2 * md)), .inl (fun _ => 0)))]) (fun _ => rfl) (fun u H locs hw hP hD hS => ?_)
  obtain ⟨q_5, rfl⟩ : ∃ z, z = u := ⟨_, rfl⟩
  have hP : va_P G.1 vwCl [(ch, .inr (2, [.ref q_1, .null, .null, .int (nI b)])), (q_1, .inr (5, [.ref q_2])), (q_2, .inl (G.2.1, ((c * 4) * (2 * md)), .inl (fun _ => 0))), (q_4, .inr (5, [.ref q_5])), (q_5, .inl (G.2.1, ((c * 4) * (2 * md)), .inl (fun _ => 0)))] H := hP
  have hD : va_D A [(ch, .inr (2, [.ref q_1, .null, .null, .int (nI b)])), (q_1, .inr (5, [.ref q_2])), (q_2, .inl (G.2.1, ((c * 4) * (2 * md)), .inl (fun _ => 0))), (q_4, .inr (5, [.ref q_5])), (q_5, .inl (G.2.1, ((c * 4) * (2 * md)), .inl (fun _ => 0)))] := hD
  refine va_putF (D := G.1) (ci := 2) (v := .ref q_4) (ty := tyX2 1) (C := RX2) (T := TX2) (N := 4) hx hb hts hin_X2_init_2 tyX2 tyX2_ok nmX2 hown hK.1 hP hD hS 0 rfl rfl 1 (by decide) (hts (.fieldLink RX2 24 "MixedPredict$Chances" "second" "LMixedPredict$Row;") (List.mem_cons_of_mem _ (List.mem_append_left _ (List.mem_append_left _ (List.mem_of_getElem? (i := 8) rfl))))) (fun _ h9 => h9) rfl hnm rfl (tyX2_ok 1 (by decide)) rfl rfl (Nat.le_of_ble_eq_true rfl) dX2_init_38 (fun H locs hP hD hS => ?_)
  have hP : va_P G.1 vwCl [(ch, .inr (2, [.ref q_1, .ref q_4, .null, .int (nI b)])), (q_1, .inr (5, [.ref q_2])), (q_2, .inl (G.2.1, ((c * 4) * (2 * md)), .inl (fun _ => 0))), (q_4, .inr (5, [.ref q_5])), (q_5, .inl (G.2.1, ((c * 4) * (2 * md)), .inl (fun _ => 0)))] H := hP
  have hD : va_D A [(ch, .inr (2, [.ref q_1, .ref q_4, .null, .int (nI b)])), (q_1, .inr (5, [.ref q_2])), (q_2, .inl (G.2.1, ((c * 4) * (2 * md)), .inl (fun _ => 0))), (q_4, .inr (5, [.ref q_5])), (q_5, .inl (G.2.1, ((c * 4) * (2 * md)), .inl (fun _ => 0)))] := hD
  refine lv_aload_n hx hb dX2_init_41 rfl (lv_at hl 0 rfl) ?_
  refine va_new (ci := 5) (fs := [.null]) (C := RX6) (T := TX6) (N := 1) hx hb hts hin_X2_init_6 tyX6 tyX6_ok hown (hts (.classLink RX2 15 RX6) (List.mem_cons_of_mem _ (List.mem_append_left _ (List.mem_append_left _ (List.mem_of_getElem? (i := 4) rfl))))) (hts (.instantiable RX6 1) (List.mem_cons_of_mem _ (List.mem_append_left _ (List.mem_append_left _ (List.mem_of_getElem? (i := 5) rfl))))) (hts (.initialized RX6) (List.mem_cons_of_mem _ (List.mem_append_left _ (List.mem_append_left _ (List.mem_of_getElem? (i := 6) rfl))))) hK.1 hP hD hS hA rfl (fun j hj => by rcases (show j = 0 by omega) with rfl <;> rfl) (by show _ ≤ 6; omega) (by show _ ≤ (3 + c + 2 * (c * 4 * (2 * md))); omega) dX2_init_42 (fun q_7 H hP hD hS => ?_)
  have hP : va_P G.1 vwCl [(ch, .inr (2, [.ref q_1, .ref q_4, .null, .int (nI b)])), (q_1, .inr (5, [.ref q_2])), (q_2, .inl (G.2.1, ((c * 4) * (2 * md)), .inl (fun _ => 0))), (q_4, .inr (5, [.ref q_5])), (q_5, .inl (G.2.1, ((c * 4) * (2 * md)), .inl (fun _ => 0))), (q_7, .inr (5, [.null]))] H := hP
  have hD : va_D A [(ch, .inr (2, [.ref q_1, .ref q_4, .null, .int (nI b)])), (q_1, .inr (5, [.ref q_2])), (q_2, .inl (G.2.1, ((c * 4) * (2 * md)), .inl (fun _ => 0))), (q_4, .inr (5, [.ref q_5])), (q_5, .inl (G.2.1, ((c * 4) * (2 * md)), .inl (fun _ => 0))), (q_7, .inr (5, [.null]))] := hD
  refine lv_dup hx hb dX2_init_45 rfl ?_
  refine lv_iload_n hx hb dX2_init_46 rfl (lv_at hl 2 rfl) ?_
  refine w_fin_v (WR := [(ch, .inr (2, [.ref q_1, .ref q_4, .null, .int (nI b)])), (q_1, .inr (5, [.ref q_2])), (q_2, .inl (G.2.1, ((c * 4) * (2 * md)), .inl (fun _ => 0))), (q_4, .inr (5, [.ref q_5])), (q_5, .inl (G.2.1, ((c * 4) * (2 * md)), .inl (fun _ => 0)))]) (va_runI (As := [.int (nI c)]) (rest := [.ref q_7, .ref ch]) ⟨hx, hb, hml, hown, hts⟩ (c_X6_init l G q_7 c (by first | assumption | omega) H.size) (cwI 1 hts gX2_init_X6_init rfl rfl rfl (hts (.initialized RX6) (List.mem_cons_of_mem _ (List.mem_append_left _ (List.mem_append_left _ (List.mem_of_getElem? (i := 6) rfl))))) (hts (.methodLink RX2 17 yX6_init) (List.mem_cons_of_mem _ (List.mem_append_left _ (List.mem_append_left _ (List.mem_of_getElem? (i := 10) rfl))))) (hts (.instanceMethod yX6_init) (List.mem_cons_of_mem _ (List.mem_append_left _ (List.mem_append_left _ (List.mem_of_getElem? (i := 11) rfl))))) rfl (by decide +kernel) ⟨Nat.le_of_ble_eq_true rfl, Nat.le_of_ble_eq_true rfl⟩) (w_pre hK hP hD [5] (by decide) rfl) rfl rfl hl.1 rfl (lv_room (Nat.le_of_ble_eq_true rfl)) dX2_init_47 ⟨by show _ ≤ 6; omega, by show _ ≤ (3 + c + 2 * (c * 4 * (2 * md))); omega⟩) hP hD hS hA [5] [0, 1, 2, 3, 4] rfl rfl (by decide) (by decide) [0, 1, 2, 3, 4, 5, 6] (by decide) (fun (q : Nat) => [(ch, .inr (2, [.ref q_1, .ref q_4, .null, .int (nI b)])), (q_1, .inr (5, [.ref q_2])), (q_2, .inl (G.2.1, ((c * 4) * (2 * md)), .inl (fun _ => 0))), (q_4, .inr (5, [.ref q_5])), (q_5, .inl (G.2.1, ((c * 4) * (2 * md)), .inl (fun _ => 0))), (q_7, .inr (5, [.ref q])), (q, .inl (G.2.1, c, .inl (fun _ => 0)))]) (fun _ => rfl) (fun u H locs hw hP hD hS => ?_)
  obtain ⟨q_8, rfl⟩ : ∃ z, z = u := ⟨_, rfl⟩
  have hP : va_P G.1 vwCl [(ch, .inr (2, [.ref q_1, .ref q_4, .null, .int (nI b)])), (q_1, .inr (5, [.ref q_2])), (q_2, .inl (G.2.1, ((c * 4) * (2 * md)), .inl (fun _ => 0))), (q_4, .inr (5, [.ref q_5])), (q_5, .inl (G.2.1, ((c * 4) * (2 * md)), .inl (fun _ => 0))), (q_7, .inr (5, [.ref q_8])), (q_8, .inl (G.2.1, c, .inl (fun _ => 0)))] H := hP
  have hD : va_D A [(ch, .inr (2, [.ref q_1, .ref q_4, .null, .int (nI b)])), (q_1, .inr (5, [.ref q_2])), (q_2, .inl (G.2.1, ((c * 4) * (2 * md)), .inl (fun _ => 0))), (q_4, .inr (5, [.ref q_5])), (q_5, .inl (G.2.1, ((c * 4) * (2 * md)), .inl (fun _ => 0))), (q_7, .inr (5, [.ref q_8])), (q_8, .inl (G.2.1, c, .inl (fun _ => 0)))] := hD
  refine va_putF (D := G.1) (ci := 2) (v := .ref q_7) (ty := tyX2 2) (C := RX2) (T := TX2) (N := 4) hx hb hts hin_X2_init_2 tyX2 tyX2_ok nmX2 hown hK.1 hP hD hS 0 rfl rfl 2 (by decide) (hts (.fieldLink RX2 27 "MixedPredict$Chances" "shares" "LMixedPredict$Row;") (List.mem_cons_of_mem _ (List.mem_append_left _ (List.mem_append_left _ (List.mem_of_getElem? (i := 9) rfl))))) (fun _ h9 => h9) rfl hnm rfl (tyX2_ok 2 (by decide)) rfl rfl (Nat.le_of_ble_eq_true rfl) dX2_init_50 (fun H locs hP hD hS => ?_)
  have hP : va_P G.1 vwCl [(ch, .inr (2, [.ref q_1, .ref q_4, .ref q_7, .int (nI b)])), (q_1, .inr (5, [.ref q_2])), (q_2, .inl (G.2.1, ((c * 4) * (2 * md)), .inl (fun _ => 0))), (q_4, .inr (5, [.ref q_5])), (q_5, .inl (G.2.1, ((c * 4) * (2 * md)), .inl (fun _ => 0))), (q_7, .inr (5, [.ref q_8])), (q_8, .inl (G.2.1, c, .inl (fun _ => 0)))] H := hP
  have hD : va_D A [(ch, .inr (2, [.ref q_1, .ref q_4, .ref q_7, .int (nI b)])), (q_1, .inr (5, [.ref q_2])), (q_2, .inl (G.2.1, ((c * 4) * (2 * md)), .inl (fun _ => 0))), (q_4, .inr (5, [.ref q_5])), (q_5, .inl (G.2.1, ((c * 4) * (2 * md)), .inl (fun _ => 0))), (q_7, .inr (5, [.ref q_8])), (q_8, .inl (G.2.1, c, .inl (fun _ => 0)))] := hD
  refine W.widen (k := 6) (n := 3 + c + 2 * (c * 4 * (2 * md))) (by omega) (by omega) ?_
  exact w_vret (q_1, q_2, q_4, q_5, q_7, q_8) hx hb hr hlocks (trivial) hP hD hS dX2_init_53

set_option maxHeartbeats 4000000 in
set_option maxRecDepth 100000 in
theorem c_X2_begin (l : Launch) (G : GG) (ch fr fa sr sa tr ta : Nat) (w h b c md : Nat) (hd : DIM w h b c md) (f1 f2 fh : Nat → Int32)  (sz : Nat) : Met l yX2_begin wsX2_begin ({ frames := 2, cells := 0, slots := 0, locals := 44 } : Room) (w_Pc G [.ref ch] sz [(ch, .inr (2, [.ref fr, .ref sr, .ref tr, .int (nI b)])), (fr, .inr (5, [.ref fa])), (fa, .inl (G.2.1, (c * 4) * (2 * md), .inl f1)), (sr, .inr (5, [.ref sa])), (sa, .inl (G.2.1, (c * 4) * (2 * md), .inl f2)), (tr, .inr (5, [.ref ta])), (ta, .inl (G.2.1, c, .inl fh))]) (w_Qv G (va_A [(ch, .inr (2, [.ref fr, .ref sr, .ref tr, .int (nI b)])), (fr, .inr (5, [.ref fa])), (fa, .inl (G.2.1, (c * 4) * (2 * md), .inl f1)), (sr, .inr (5, [.ref sa])), (sa, .inl (G.2.1, (c * 4) * (2 * md), .inl f2)), (tr, .inr (5, [.ref ta])), (ta, .inl (G.2.1, c, .inl fh))] sz) (fun (_ : Unit) => [(ch, .inr (2, [.ref fr, .ref sr, .ref tr, .int (nI b)])), (fr, .inr (5, [.ref fa])), (fa, .inl (G.2.1, (c * 4) * (2 * md), .inl (fillN ((c * 4) * (2 * md)) 32768 f1))), (sr, .inr (5, [.ref sa])), (sa, .inl (G.2.1, (c * 4) * (2 * md), .inl (fillN ((c * 4) * (2 * md)) 32768 f2))), (tr, .inr (5, [.ref ta])), (ta, .inl (G.2.1, c, .inl (fillN c 32 fh)))]) (fun (_ : Unit) => True)) 0 0 (va_A [(ch, .inr (2, [.ref fr, .ref sr, .ref tr, .int (nI b)])), (fr, .inr (5, [.ref fa])), (fa, .inl (G.2.1, (c * 4) * (2 * md), .inl f1)), (sr, .inr (5, [.ref sa])), (sa, .inl (G.2.1, (c * 4) * (2 * md), .inl f2)), (tr, .inr (5, [.ref ta])), (ta, .inl (G.2.1, c, .inl fh))] sz) := by
  refine w_ofW (Qf := fun A => w_Qv G A (fun (_ : Unit) => [(ch, .inr (2, [.ref fr, .ref sr, .ref tr, .int (nI b)])), (fr, .inr (5, [.ref fa])), (fa, .inl (G.2.1, (c * 4) * (2 * md), .inl (fillN ((c * 4) * (2 * md)) 32768 f1))), (sr, .inr (5, [.ref sa])), (sa, .inl (G.2.1, (c * 4) * (2 * md), .inl (fillN ((c * 4) * (2 * md)) 32768 f2))), (tr, .inr (5, [.ref ta])), (ta, .inl (G.2.1, c, .inl (fillN c 32 fh)))]) (fun (_ : Unit) => True)) (cc := cX2_begin) (maxL := 1) (ret := none) (by decide) rfl (Nat.le_of_ble_eq_true rfl) ?_
  intro pZ eZ sZ mZ bZ tZ cZ A hx hb hr hts hown hlocks hml hnm hK hA H locs hP hD hS ls hl
  have hown : sZ.vm.findClass RX2 = some mZ.cls := hown
  have hl : lv_has ls 1 [(0, .ref ch)] := hl
  obtain ⟨dw1, dw2, dh1, dh2, db1, db2, dc1, dc2, dm1, dm2, dme⟩ := id hd
  have q1 := ch_big hd
  refine lv_aload_n hx hb dX2_begin_0 rfl (lv_at hl 0 rfl) ?_
  refine va_get (D := G.1) (ci := 2) (v := .ref fr) (C := RX2) (T := TX2) (N := 4) hx hb hts hin_X2_begin_2 hown hK.1 hP 0 rfl rfl 0 (by decide) (hts (.fieldLink RX2 20 "MixedPredict$Chances" "first" "LMixedPredict$Row;") (List.mem_cons_of_mem _ (List.mem_append_left _ (List.mem_append_left _ (List.mem_of_getElem? (i := 0) rfl))))) (fun _ h9 => h9) rfl dX2_begin_1 ?_
  refine lv_ldc (v := 32768) hx hb hown (hts (.constant RX2 30 (32768)) (List.mem_cons_of_mem _ (List.mem_append_left _ (List.mem_append_left _ (List.mem_of_getElem? (i := 1) rfl))))) dX2_begin_4 ?_
  refine w_fin_v (WR := [(ch, .inr (2, [.ref fr, .ref sr, .ref tr, .int (nI b)])), (sr, .inr (5, [.ref sa])), (sa, .inl (G.2.1, (c * 4) * (2 * md), .inl f2)), (tr, .inr (5, [.ref ta])), (ta, .inl (G.2.1, c, .inl fh))]) (va_runV (As := [.int 32768]) (rest := []) ⟨hx, hb, hml, hown, hts⟩ (c_X6_fill l G fr fa ((c * 4) * (2 * md)) f1 32768 (by first | assumption | omega) H.size) (cwV 1 hts gX2_begin_X6_fill rfl rfl rfl (by decide +kernel) ⟨Nat.le_of_ble_eq_true rfl, Nat.le_of_ble_eq_true rfl⟩) (x_preV (w_pre hK hP hD [1, 2] (by decide) rfl) hK hP (ci := 5) (q0 := 1) rfl rfl) rfl rfl hl.1 rfl (lv_room (Nat.le_of_ble_eq_true rfl)) dX2_begin_6 ⟨Nat.zero_le _, Nat.zero_le _⟩) hP hD hS hA [1, 2] [0, 3, 4, 5, 6] rfl rfl (by decide) (by decide) [0, 5, 6, 1, 2, 3, 4] (by decide) (fun (_ : Unit) => [(ch, .inr (2, [.ref fr, .ref sr, .ref tr, .int (nI b)])), (fr, .inr (5, [.ref fa])), (fa, .inl (G.2.1, ((c * 4) * (2 * md)), .inl (fillN ((c * 4) * (2 * md)) 32768 f1))), (sr, .inr (5, [.ref sa])), (sa, .inl (G.2.1, (c * 4) * (2 * md), .inl f2)), (tr, .inr (5, [.ref ta])), (ta, .inl (G.2.1, c, .inl fh))]) (fun _ => rfl) (fun u H locs hw hP hD hS => ?_)
  have hP : va_P G.1 vwCl [(ch, .inr (2, [.ref fr, .ref sr, .ref tr, .int (nI b)])), (fr, .inr (5, [.ref fa])), (fa, .inl (G.2.1, ((c * 4) * (2 * md)), .inl (fillN ((c * 4) * (2 * md)) 32768 f1))), (sr, .inr (5, [.ref sa])), (sa, .inl (G.2.1, (c * 4) * (2 * md), .inl f2)), (tr, .inr (5, [.ref ta])), (ta, .inl (G.2.1, c, .inl fh))] H := hP
  have hD : va_D A [(ch, .inr (2, [.ref fr, .ref sr, .ref tr, .int (nI b)])), (fr, .inr (5, [.ref fa])), (fa, .inl (G.2.1, ((c * 4) * (2 * md)), .inl (fillN ((c * 4) * (2 * md)) 32768 f1))), (sr, .inr (5, [.ref sa])), (sa, .inl (G.2.1, (c * 4) * (2 * md), .inl f2)), (tr, .inr (5, [.ref ta])), (ta, .inl (G.2.1, c, .inl fh))] := hD
  refine lv_aload_n hx hb dX2_begin_9 rfl (lv_at hl 0 rfl) ?_
  refine va_get (D := G.1) (ci := 2) (v := .ref sr) (C := RX2) (T := TX2) (N := 4) hx hb hts hin_X2_begin_2 hown hK.1 hP 0 rfl rfl 1 (by decide) (hts (.fieldLink RX2 24 "MixedPredict$Chances" "second" "LMixedPredict$Row;") (List.mem_cons_of_mem _ (List.mem_append_left _ (List.mem_append_left _ (List.mem_of_getElem? (i := 2) rfl))))) (fun _ h9 => h9) rfl dX2_begin_10 ?_
  refine lv_ldc (v := 32768) hx hb hown (hts (.constant RX2 30 (32768)) (List.mem_cons_of_mem _ (List.mem_append_left _ (List.mem_append_left _ (List.mem_of_getElem? (i := 1) rfl))))) dX2_begin_13 ?_
  refine w_fin_v (WR := [(ch, .inr (2, [.ref fr, .ref sr, .ref tr, .int (nI b)])), (fr, .inr (5, [.ref fa])), (fa, .inl (G.2.1, ((c * 4) * (2 * md)), .inl (fillN ((c * 4) * (2 * md)) 32768 f1))), (tr, .inr (5, [.ref ta])), (ta, .inl (G.2.1, c, .inl fh))]) (va_runV (As := [.int 32768]) (rest := []) ⟨hx, hb, hml, hown, hts⟩ (c_X6_fill l G sr sa ((c * 4) * (2 * md)) f2 32768 (by first | assumption | omega) H.size) (cwV 1 hts gX2_begin_X6_fill rfl rfl rfl (by decide +kernel) ⟨Nat.le_of_ble_eq_true rfl, Nat.le_of_ble_eq_true rfl⟩) (x_preV (w_pre hK hP hD [3, 4] (by decide) rfl) hK hP (ci := 5) (q0 := 3) rfl rfl) rfl rfl hl.1 rfl (lv_room (Nat.le_of_ble_eq_true rfl)) dX2_begin_15 ⟨Nat.zero_le _, Nat.zero_le _⟩) hP hD hS hA [3, 4] [0, 1, 2, 5, 6] rfl rfl (by decide) (by decide) [0, 1, 2, 5, 6, 3, 4] (by decide) (fun (_ : Unit) => [(ch, .inr (2, [.ref fr, .ref sr, .ref tr, .int (nI b)])), (fr, .inr (5, [.ref fa])), (fa, .inl (G.2.1, ((c * 4) * (2 * md)), .inl (fillN ((c * 4) * (2 * md)) 32768 f1))), (sr, .inr (5, [.ref sa])), (sa, .inl (G.2.1, ((c * 4) * (2 * md)), .inl (fillN ((c * 4) * (2 * md)) 32768 f2))), (tr, .inr (5, [.ref ta])), (ta, .inl (G.2.1, c, .inl fh))]) (fun _ => rfl) (fun u H locs hw hP hD hS => ?_)
  have hP : va_P G.1 vwCl [(ch, .inr (2, [.ref fr, .ref sr, .ref tr, .int (nI b)])), (fr, .inr (5, [.ref fa])), (fa, .inl (G.2.1, ((c * 4) * (2 * md)), .inl (fillN ((c * 4) * (2 * md)) 32768 f1))), (sr, .inr (5, [.ref sa])), (sa, .inl (G.2.1, ((c * 4) * (2 * md)), .inl (fillN ((c * 4) * (2 * md)) 32768 f2))), (tr, .inr (5, [.ref ta])), (ta, .inl (G.2.1, c, .inl fh))] H := hP
  have hD : va_D A [(ch, .inr (2, [.ref fr, .ref sr, .ref tr, .int (nI b)])), (fr, .inr (5, [.ref fa])), (fa, .inl (G.2.1, ((c * 4) * (2 * md)), .inl (fillN ((c * 4) * (2 * md)) 32768 f1))), (sr, .inr (5, [.ref sa])), (sa, .inl (G.2.1, ((c * 4) * (2 * md)), .inl (fillN ((c * 4) * (2 * md)) 32768 f2))), (tr, .inr (5, [.ref ta])), (ta, .inl (G.2.1, c, .inl fh))] := hD
  refine lv_aload_n hx hb dX2_begin_18 rfl (lv_at hl 0 rfl) ?_
  refine va_get (D := G.1) (ci := 2) (v := .ref tr) (C := RX2) (T := TX2) (N := 4) hx hb hts hin_X2_begin_2 hown hK.1 hP 0 rfl rfl 2 (by decide) (hts (.fieldLink RX2 27 "MixedPredict$Chances" "shares" "LMixedPredict$Row;") (List.mem_cons_of_mem _ (List.mem_append_left _ (List.mem_append_left _ (List.mem_of_getElem? (i := 3) rfl))))) (fun _ h9 => h9) rfl dX2_begin_19 ?_
  refine lv_bipush (v := 32) hx hb dX2_begin_22 (by decide) ?_
  refine w_fin_v (WR := [(ch, .inr (2, [.ref fr, .ref sr, .ref tr, .int (nI b)])), (fr, .inr (5, [.ref fa])), (fa, .inl (G.2.1, ((c * 4) * (2 * md)), .inl (fillN ((c * 4) * (2 * md)) 32768 f1))), (sr, .inr (5, [.ref sa])), (sa, .inl (G.2.1, ((c * 4) * (2 * md)), .inl (fillN ((c * 4) * (2 * md)) 32768 f2)))]) (va_runV (As := [.int 32]) (rest := []) ⟨hx, hb, hml, hown, hts⟩ (c_X6_fill l G tr ta c fh 32 (by first | assumption | omega) H.size) (cwV 1 hts gX2_begin_X6_fill rfl rfl rfl (by decide +kernel) ⟨Nat.le_of_ble_eq_true rfl, Nat.le_of_ble_eq_true rfl⟩) (x_preV (w_pre hK hP hD [5, 6] (by decide) rfl) hK hP (ci := 5) (q0 := 5) rfl rfl) rfl rfl hl.1 rfl (lv_room (Nat.le_of_ble_eq_true rfl)) dX2_begin_24 ⟨Nat.zero_le _, Nat.zero_le _⟩) hP hD hS hA [5, 6] [0, 1, 2, 3, 4] rfl rfl (by decide) (by decide) [0, 1, 2, 3, 4, 5, 6] (by decide) (fun (_ : Unit) => [(ch, .inr (2, [.ref fr, .ref sr, .ref tr, .int (nI b)])), (fr, .inr (5, [.ref fa])), (fa, .inl (G.2.1, ((c * 4) * (2 * md)), .inl (fillN ((c * 4) * (2 * md)) 32768 f1))), (sr, .inr (5, [.ref sa])), (sa, .inl (G.2.1, ((c * 4) * (2 * md)), .inl (fillN ((c * 4) * (2 * md)) 32768 f2))), (tr, .inr (5, [.ref ta])), (ta, .inl (G.2.1, c, .inl (fillN c 32 fh)))]) (fun _ => rfl) (fun u H locs hw hP hD hS => ?_)
  have hP : va_P G.1 vwCl [(ch, .inr (2, [.ref fr, .ref sr, .ref tr, .int (nI b)])), (fr, .inr (5, [.ref fa])), (fa, .inl (G.2.1, ((c * 4) * (2 * md)), .inl (fillN ((c * 4) * (2 * md)) 32768 f1))), (sr, .inr (5, [.ref sa])), (sa, .inl (G.2.1, ((c * 4) * (2 * md)), .inl (fillN ((c * 4) * (2 * md)) 32768 f2))), (tr, .inr (5, [.ref ta])), (ta, .inl (G.2.1, c, .inl (fillN c 32 fh)))] H := hP
  have hD : va_D A [(ch, .inr (2, [.ref fr, .ref sr, .ref tr, .int (nI b)])), (fr, .inr (5, [.ref fa])), (fa, .inl (G.2.1, ((c * 4) * (2 * md)), .inl (fillN ((c * 4) * (2 * md)) 32768 f1))), (sr, .inr (5, [.ref sa])), (sa, .inl (G.2.1, ((c * 4) * (2 * md)), .inl (fillN ((c * 4) * (2 * md)) 32768 f2))), (tr, .inr (5, [.ref ta])), (ta, .inl (G.2.1, c, .inl (fillN c 32 fh)))] := hD
  exact w_vret () hx hb hr hlocks (trivial) hP hD hS dX2_begin_27

set_option maxHeartbeats 4000000 in
set_option maxRecDepth 100000 in
theorem c_X2_place (l : Launch) (G : GG) (ch fr fa sr sa tr ta : Nat) (w h b c md : Nat) (hd : DIM w h b c md) (f1 f2 fh : Nat → Int32) (k q n : Nat) (qk : k < 2 ^ 15) (qq : q < 4) : Met l yX2_place wsX2_place ({ frames := 0, cells := 0, slots := 0, locals := 0 } : Room) (r_Pc G [.ref ch, .int (nI k), .int (nI q), .int (nI n)] [(ch, .inr (2, [.ref fr, .ref sr, .ref tr, .int (nI b)])), (fr, .inr (5, [.ref fa])), (fa, .inl (G.2.1, (c * 4) * (2 * md), .inl f1)), (sr, .inr (5, [.ref sa])), (sa, .inl (G.2.1, (c * 4) * (2 * md), .inl f2)), (tr, .inr (5, [.ref ta])), (ta, .inl (G.2.1, c, .inl fh))]) (vp_Si (fun r => r = (nI ((k * 4 + q) * (2 * md) + n)))) 0 0 (fun _ => False) := by
  refine r_ofW (cc := cX2_place) (maxL := 4) (ret := (some .int)) (by decide) rfl (Nat.le_of_ble_eq_true rfl) ?_
  intro pZ eZ sZ mZ bZ tZ cZ hx hb hr hts hown hlocks hml hK H hH hP ls hl
  have hown : sZ.vm.findClass RX2 = some mZ.cls := hown
  have hl : lv_has ls 4 [(0, .ref ch), (1, .int (nI k)), (2, .int (nI q)), (3, .int (nI n))] := hl
  obtain ⟨dw1, dw2, dh1, dh2, db1, db2, dc1, dc2, dm1, dm2, dme⟩ := id hd
  refine lv_iload_n hx hb dX2_place_0 rfl (lv_at hl 1 rfl) ?_
  refine lv_iconst (v := 4) hx hb dX2_place_1 (by decide) ?_
  refine lv_imul hx hb dX2_place_2 ?_
  refine x_top (y := nI (k * 4)) (pk_mul _ _) ?_
  refine lv_iload_n hx hb dX2_place_3 rfl (lv_at hl 2 rfl) ?_
  refine lv_iadd hx hb dX2_place_4 ?_
  refine x_top (y := nI (k * 4 + q)) (nI_add _ _) ?_
  refine lv_aload_n hx hb dX2_place_5 rfl (lv_at hl 0 rfl) ?_
  refine va_get (D := G.1) (ci := 2) (v := .int (nI b)) (C := RX2) (T := TX2) (N := 4) hx hb hts hin_X2_place_2 hown hK.1 hP 0 rfl rfl 3 (by decide) (hts (.fieldLink RX2 9 "MixedPredict$Chances" "bits" "I") (List.mem_cons_of_mem _ (List.mem_append_left _ (List.mem_of_getElem? (i := 0) rfl)))) (fun _ h9 => h9) rfl dX2_place_6 ?_
  refine lv_ishl hx hb dX2_place_9 ?_
  refine x_top (y := nI ((k * 4 + q) * (2 * md))) (shl_n hd (by omega)) ?_
  refine lv_iload_n hx hb dX2_place_10 rfl (lv_at hl 3 rfl) ?_
  refine lv_iadd hx hb dX2_place_11 ?_
  refine x_top (y := nI ((k * 4 + q) * (2 * md) + n)) (nI_add _ _) ?_
  exact r_iret hx hb hr hlocks (rfl) hH dX2_place_12

set_option maxHeartbeats 4000000 in
set_option maxRecDepth 100000 in
theorem c_X2_mix (l : Launch) (G : GG) (ch fr fa sr sa tr ta : Nat) (w h b c md : Nat) (hd : DIM w h b c md) (f1 f2 fh : Nat → Int32) (k i1 i2 : Nat) (qk : k < c) (q1 : i1 < (c * 4) * (2 * md)) (q2 : i2 < (c * 4) * (2 * md))  : Met l yX2_mix wsX2_mix ({ frames := 1, cells := 0, slots := 0, locals := 22 } : Room) (r_Pc G [.ref ch, .int (nI k), .int (nI i1), .int (nI i2)] [(ch, .inr (2, [.ref fr, .ref sr, .ref tr, .int (nI b)])), (fr, .inr (5, [.ref fa])), (fa, .inl (G.2.1, (c * 4) * (2 * md), .inl f1)), (sr, .inr (5, [.ref sa])), (sa, .inl (G.2.1, (c * 4) * (2 * md), .inl f2)), (tr, .inr (5, [.ref ta])), (ta, .inl (G.2.1, c, .inl fh))]) (vp_Si (fun r => r = (pmx (f1 i1) (f2 i2) (fh k)))) 0 0 (fun _ => False) := by
  refine r_ofW (cc := cX2_mix) (maxL := 6) (ret := (some .int)) (by decide) rfl (Nat.le_of_ble_eq_true rfl) ?_
  intro pZ eZ sZ mZ bZ tZ cZ hx hb hr hts hown hlocks hml hK H hH hP ls hl
  have hown : sZ.vm.findClass RX2 = some mZ.cls := hown
  have hl : lv_has ls 6 [(0, .ref ch), (1, .int (nI k)), (2, .int (nI i1)), (3, .int (nI i2))] := hl
  obtain ⟨dw1, dw2, dh1, dh2, db1, db2, dc1, dc2, dm1, dm2, dme⟩ := id hd
  have q3 := ch_big hd
  refine lv_aload_n hx hb dX2_mix_0 rfl (lv_at hl 0 rfl) ?_
  refine va_get (D := G.1) (ci := 2) (v := .ref tr) (C := RX2) (T := TX2) (N := 4) hx hb hts hin_X2_mix_2 hown hK.1 hP 0 rfl rfl 2 (by decide) (hts (.fieldLink RX2 27 "MixedPredict$Chances" "shares" "LMixedPredict$Row;") (List.mem_cons_of_mem _ (List.mem_append_left _ (List.mem_append_left _ (List.mem_of_getElem? (i := 0) rfl))))) (fun _ h9 => h9) rfl dX2_mix_1 ?_
  refine lv_iload_n hx hb dX2_mix_4 rfl (lv_at hl 1 rfl) ?_
  refine r_fin_i (va_runV (As := [.int (nI k)]) (rest := []) ⟨hx, hb, hml, hown, hts⟩ (c_X6_get l G tr ta c fh k (by first | assumption | omega) (by first | assumption | omega)) (cwV 1 hts gX2_mix_X6_get rfl rfl rfl (by decide +kernel) ⟨Nat.le_of_ble_eq_true rfl, Nat.le_of_ble_eq_true rfl⟩) (x_preV (r_pre hK hP [5, 6] rfl) hK hP (ci := 5) (q0 := 5) rfl rfl) rfl rfl hl.1 rfl (lv_room (Nat.le_of_ble_eq_true rfl)) dX2_mix_5 ⟨Nat.zero_le _, Nat.zero_le _⟩) (fun r_1 hw => ?_)
  subst hw
  refine lv_istore (lv' := [(4, .int (fh k)), (0, .ref ch), (1, .int (nI k)), (2, .int (nI i1)), (3, .int (nI i2))]) hx hb dX2_mix_8 hl (by decide) rfl (fun ls hl => ?_)
  refine lv_aload_n hx hb dX2_mix_10 rfl (lv_at hl 1 rfl) ?_
  refine va_get (D := G.1) (ci := 2) (v := .ref fr) (C := RX2) (T := TX2) (N := 4) hx hb hts hin_X2_mix_2 hown hK.1 hP 0 rfl rfl 0 (by decide) (hts (.fieldLink RX2 20 "MixedPredict$Chances" "first" "LMixedPredict$Row;") (List.mem_cons_of_mem _ (List.mem_append_left _ (List.mem_append_left _ (List.mem_of_getElem? (i := 1) rfl))))) (fun _ h9 => h9) rfl dX2_mix_11 ?_
  refine lv_iload_n hx hb dX2_mix_14 rfl (lv_at hl 3 rfl) ?_
  refine r_fin_i (va_runV (As := [.int (nI i1)]) (rest := []) ⟨hx, hb, hml, hown, hts⟩ (c_X6_get l G fr fa ((c * 4) * (2 * md)) f1 i1 (by first | assumption | omega) (by first | assumption | omega)) (cwV 1 hts gX2_mix_X6_get rfl rfl rfl (by decide +kernel) ⟨Nat.le_of_ble_eq_true rfl, Nat.le_of_ble_eq_true rfl⟩) (x_preV (r_pre hK hP [1, 2] rfl) hK hP (ci := 5) (q0 := 1) rfl rfl) rfl rfl hl.1 rfl (lv_room (Nat.le_of_ble_eq_true rfl)) dX2_mix_15 ⟨Nat.zero_le _, Nat.zero_le _⟩) (fun r_2 hw => ?_)
  subst hw
  refine lv_iload hx hb dX2_mix_18 (lv_at hl 0 rfl) ?_
  refine lv_imul hx hb dX2_mix_20 ?_
  refine lv_aload_n hx hb dX2_mix_21 rfl (lv_at hl 1 rfl) ?_
  refine va_get (D := G.1) (ci := 2) (v := .ref sr) (C := RX2) (T := TX2) (N := 4) hx hb hts hin_X2_mix_2 hown hK.1 hP 0 rfl rfl 1 (by decide) (hts (.fieldLink RX2 24 "MixedPredict$Chances" "second" "LMixedPredict$Row;") (List.mem_cons_of_mem _ (List.mem_append_left _ (List.mem_append_left _ (List.mem_of_getElem? (i := 2) rfl))))) (fun _ h9 => h9) rfl dX2_mix_22 ?_
  refine lv_iload_n hx hb dX2_mix_25 rfl (lv_at hl 4 rfl) ?_
  refine r_fin_i (va_runV (As := [.int (nI i2)]) (rest := [.int ((f1 i1) * (fh k))]) ⟨hx, hb, hml, hown, hts⟩ (c_X6_get l G sr sa ((c * 4) * (2 * md)) f2 i2 (by first | assumption | omega) (by first | assumption | omega)) (cwV 1 hts gX2_mix_X6_get rfl rfl rfl (by decide +kernel) ⟨Nat.le_of_ble_eq_true rfl, Nat.le_of_ble_eq_true rfl⟩) (x_preV (r_pre hK hP [3, 4] rfl) hK hP (ci := 5) (q0 := 3) rfl rfl) rfl rfl hl.1 rfl (lv_room (Nat.le_of_ble_eq_true rfl)) dX2_mix_26 ⟨Nat.zero_le _, Nat.zero_le _⟩) (fun r_3 hw => ?_)
  subst hw
  refine lv_bipush (v := 64) hx hb dX2_mix_29 (by decide) ?_
  refine lv_iload hx hb dX2_mix_31 (lv_at hl 0 rfl) ?_
  refine lv_isub hx hb dX2_mix_33 ?_
  refine lv_imul hx hb dX2_mix_34 ?_
  refine lv_iadd hx hb dX2_mix_35 ?_
  refine lv_bipush (v := 64) hx hb dX2_mix_36 (by decide) ?_
  refine lv_idiv hx hb dX2_mix_38 (by decide) ?_
  refine lv_istore (lv' := [(5, .int ((((f1 i1) * (fh k)) + ((f2 i2) * (64 - (fh k)))) / 64)), (4, .int (fh k)), (0, .ref ch), (1, .int (nI k)), (2, .int (nI i1)), (3, .int (nI i2))]) hx hb dX2_mix_39 hl (by decide) rfl (fun ls hl => ?_)
  refine lv_iload hx hb dX2_mix_41 (lv_at hl 0 rfl) ?_
  refine lv_bipush (v := 64) hx hb dX2_mix_43 (by decide) ?_
  refine lv_ldc (v := 65472) hx hb hown (hts (.constant RX2 38 (65472)) (List.mem_cons_of_mem _ (List.mem_append_left _ (List.mem_append_left _ (List.mem_of_getElem? (i := 3) rfl))))) dX2_mix_45 ?_
  refine r_fin_i (va_runSN (As := [.int ((((f1 i1) * (fh k)) + ((f2 i2) * (64 - (fh k)))) / 64), .int 64, .int 65472]) (rest := []) ⟨hx, hb, hml, hown, hts⟩ (c_X10_brought l G ((((f1 i1) * (fh k)) + ((f2 i2) * (64 - (fh k)))) / 64) 64 65472) ⟨va_cnB 3 hts gX2_mix_X10_brought_n39 rfl rfl rfl (KK_nest hK 0 rfl) (hts (.initialized RX10) (List.mem_cons_of_mem _ (List.mem_append_left _ (List.mem_append_left _ (List.mem_of_getElem? (i := 11) rfl))))) (by decide +kernel) ⟨Nat.le_of_ble_eq_true rfl, Nat.le_of_ble_eq_true rfl⟩, (hts (.static yX10_brought) (List.mem_cons_of_mem _ (List.mem_append_left _ (List.mem_append_left _ (List.mem_of_getElem? (i := 10) rfl))))), trivial⟩ (r_pre hK hP [] rfl) rfl rfl hl.1 rfl (lv_room (Nat.le_of_ble_eq_true rfl)) dX2_mix_47 ⟨Nat.zero_le _, Nat.zero_le _⟩) (fun r_4 hw => ?_)
  subst hw
  exact r_iret hx hb hr hlocks (rfl) hH dX2_mix_50

set_option maxHeartbeats 4000000 in
set_option maxRecDepth 100000 in
theorem c_X2_learn (l : Launch) (G : GG) (ch fr fa sr sa tr ta : Nat) (w h b c md : Nat) (hd : DIM w h b c md) (f1 f2 fh : Nat → Int32) (k i1 i2 : Nat) (qk : k < c) (q1 : i1 < (c * 4) * (2 * md)) (q2 : i2 < (c * 4) * (2 * md)) (t : Nat) (qt : t < 2) (sz : Nat) : Met l yX2_learn wsX2_learn ({ frames := 1, cells := 0, slots := 0, locals := 22 } : Room) (w_Pc G [.ref ch, .int (nI k), .int (nI i1), .int (nI i2), .int (nI t)] sz [(ch, .inr (2, [.ref fr, .ref sr, .ref tr, .int (nI b)])), (fr, .inr (5, [.ref fa])), (fa, .inl (G.2.1, (c * 4) * (2 * md), .inl f1)), (sr, .inr (5, [.ref sa])), (sa, .inl (G.2.1, (c * 4) * (2 * md), .inl f2)), (tr, .inr (5, [.ref ta])), (ta, .inl (G.2.1, c, .inl fh))]) (w_Qv G (va_A [(ch, .inr (2, [.ref fr, .ref sr, .ref tr, .int (nI b)])), (fr, .inr (5, [.ref fa])), (fa, .inl (G.2.1, (c * 4) * (2 * md), .inl f1)), (sr, .inr (5, [.ref sa])), (sa, .inl (G.2.1, (c * 4) * (2 * md), .inl f2)), (tr, .inr (5, [.ref ta])), (ta, .inl (G.2.1, c, .inl fh))] sz) (fun (_ : Unit) => [(ch, .inr (2, [.ref fr, .ref sr, .ref tr, .int (nI b)])), (fr, .inr (5, [.ref fa])), (fa, .inl (G.2.1, (c * 4) * (2 * md), .inl (upd f1 i1 (lrF (f1 i1) t)))), (sr, .inr (5, [.ref sa])), (sa, .inl (G.2.1, (c * 4) * (2 * md), .inl (upd f2 i2 (lrS (f2 i2) t)))), (tr, .inr (5, [.ref ta])), (ta, .inl (G.2.1, c, .inl (upd fh k (shN (f1 i1) (f2 i2) (fh k) t))))]) (fun (_ : Unit) => True)) 0 0 (va_A [(ch, .inr (2, [.ref fr, .ref sr, .ref tr, .int (nI b)])), (fr, .inr (5, [.ref fa])), (fa, .inl (G.2.1, (c * 4) * (2 * md), .inl f1)), (sr, .inr (5, [.ref sa])), (sa, .inl (G.2.1, (c * 4) * (2 * md), .inl f2)), (tr, .inr (5, [.ref ta])), (ta, .inl (G.2.1, c, .inl fh))] sz) := by
  refine w_ofW (Qf := fun A => w_Qv G A (fun (_ : Unit) => [(ch, .inr (2, [.ref fr, .ref sr, .ref tr, .int (nI b)])), (fr, .inr (5, [.ref fa])), (fa, .inl (G.2.1, (c * 4) * (2 * md), .inl (upd f1 i1 (lrF (f1 i1) t)))), (sr, .inr (5, [.ref sa])), (sa, .inl (G.2.1, (c * 4) * (2 * md), .inl (upd f2 i2 (lrS (f2 i2) t)))), (tr, .inr (5, [.ref ta])), (ta, .inl (G.2.1, c, .inl (upd fh k (shN (f1 i1) (f2 i2) (fh k) t))))]) (fun (_ : Unit) => True)) (cc := cX2_learn) (maxL := 8) (ret := none) (by decide) rfl (Nat.le_of_ble_eq_true rfl) ?_
  intro pZ eZ sZ mZ bZ tZ cZ A hx hb hr hts hown hlocks hml hnm hK hA H locs hP hD hS ls hl
  have hown : sZ.vm.findClass RX2 = some mZ.cls := hown
  have hl : lv_has ls 8 [(0, .ref ch), (1, .int (nI k)), (2, .int (nI i1)), (3, .int (nI i2)), (4, .int (nI t))] := hl
  obtain ⟨dw1, dw2, dh1, dh2, db1, db2, dc1, dc2, dm1, dm2, dme⟩ := id hd
  have q3 := ch_big hd
  refine lv_aload_n hx hb dX2_learn_0 rfl (lv_at hl 0 rfl) ?_
  refine va_get (D := G.1) (ci := 2) (v := .ref fr) (C := RX2) (T := TX2) (N := 4) hx hb hts hin_X2_learn_2 hown hK.1 hP 0 rfl rfl 0 (by decide) (hts (.fieldLink RX2 20 "MixedPredict$Chances" "first" "LMixedPredict$Row;") (List.mem_cons_of_mem _ (List.mem_append_left _ (List.mem_append_left _ (List.mem_of_getElem? (i := 0) rfl))))) (fun _ h9 => h9) rfl dX2_learn_1 ?_
  refine lv_iload_n hx hb dX2_learn_4 rfl (lv_at hl 2 rfl) ?_
  refine r_fin_i (va_runV (As := [.int (nI i1)]) (rest := []) ⟨hx, hb, hml, hown, hts⟩ (c_X6_get l G fr fa ((c * 4) * (2 * md)) f1 i1 (by first | assumption | omega) (by first | assumption | omega)) (cwV 1 hts gX2_learn_X6_get rfl rfl rfl (by decide +kernel) ⟨Nat.le_of_ble_eq_true rfl, Nat.le_of_ble_eq_true rfl⟩) (x_preV (r_pre hK hP [1, 2] rfl) hK hP (ci := 5) (q0 := 1) rfl rfl) rfl rfl hl.1 rfl (lv_room (Nat.le_of_ble_eq_true rfl)) dX2_learn_5 ⟨Nat.zero_le _, Nat.zero_le _⟩) (fun r_1 hw => ?_)
  subst hw
  refine lv_istore (lv' := [(5, .int (f1 i1)), (0, .ref ch), (1, .int (nI k)), (2, .int (nI i1)), (3, .int (nI i2)), (4, .int (nI t))]) hx hb dX2_learn_8 hl (by decide) rfl (fun ls hl => ?_)
  refine lv_aload_n hx hb dX2_learn_10 rfl (lv_at hl 1 rfl) ?_
  refine va_get (D := G.1) (ci := 2) (v := .ref sr) (C := RX2) (T := TX2) (N := 4) hx hb hts hin_X2_learn_2 hown hK.1 hP 0 rfl rfl 1 (by decide) (hts (.fieldLink RX2 24 "MixedPredict$Chances" "second" "LMixedPredict$Row;") (List.mem_cons_of_mem _ (List.mem_append_left _ (List.mem_append_left _ (List.mem_of_getElem? (i := 1) rfl))))) (fun _ h9 => h9) rfl dX2_learn_11 ?_
  refine lv_iload_n hx hb dX2_learn_14 rfl (lv_at hl 4 rfl) ?_
  refine r_fin_i (va_runV (As := [.int (nI i2)]) (rest := []) ⟨hx, hb, hml, hown, hts⟩ (c_X6_get l G sr sa ((c * 4) * (2 * md)) f2 i2 (by first | assumption | omega) (by first | assumption | omega)) (cwV 1 hts gX2_learn_X6_get rfl rfl rfl (by decide +kernel) ⟨Nat.le_of_ble_eq_true rfl, Nat.le_of_ble_eq_true rfl⟩) (x_preV (r_pre hK hP [3, 4] rfl) hK hP (ci := 5) (q0 := 3) rfl rfl) rfl rfl hl.1 rfl (lv_room (Nat.le_of_ble_eq_true rfl)) dX2_learn_15 ⟨Nat.zero_le _, Nat.zero_le _⟩) (fun r_2 hw => ?_)
  subst hw
  refine lv_istore (lv' := [(6, .int (f2 i2)), (5, .int (f1 i1)), (0, .ref ch), (1, .int (nI k)), (2, .int (nI i1)), (3, .int (nI i2)), (4, .int (nI t))]) hx hb dX2_learn_18 hl (by decide) rfl (fun ls hl => ?_)
  refine lv_iload hx hb dX2_learn_20 (lv_at hl 1 rfl) ?_
  refine lv_iload hx hb dX2_learn_22 (lv_at hl 0 rfl) ?_
  refine x_joinH (α := (Nat → Int32) × (Array Slot)) (fun z9 => F0 mZ 93 z9.2 []) (fun z9 H locs => ((z9.1) = upd fh k (shN (f1 i1) (f2 i2) (fh k) t)) ∧ lv_has z9.2 8 [(0, .ref ch), (1, .int (nI k)), (2, .int (nI i1)), (3, .int (nI i2)), (4, .int (nI t)), (5, .int (f1 i1)), (6, .int (f2 i2))] ∧ va_P G.1 vwCl [(ch, .inr (2, [.ref fr, .ref sr, .ref tr, .int (nI b)])), (fr, .inr (5, [.ref fa])), (fa, .inl (G.2.1, (c * 4) * (2 * md), .inl f1)), (sr, .inr (5, [.ref sa])), (sa, .inl (G.2.1, (c * 4) * (2 * md), .inl f2)), (tr, .inr (5, [.ref ta])), (ta, .inl (G.2.1, c, .inl (z9.1)))] H ∧ va_D A [(ch, .inr (2, [.ref fr, .ref sr, .ref tr, .int (nI b)])), (fr, .inr (5, [.ref fa])), (fa, .inl (G.2.1, (c * 4) * (2 * md), .inl f1)), (sr, .inr (5, [.ref sa])), (sa, .inl (G.2.1, (c * 4) * (2 * md), .inl f2)), (tr, .inr (5, [.ref ta])), (ta, .inl (G.2.1, c, .inl (z9.1)))] ∧ va_S A sZ.heap H locs) (fun z9 H locs hJ9 => ?_) (fun hj_3 => ?_)
  · obtain ⟨h2, ls⟩ := z9
    obtain ⟨hj9, hl, hP, hD, hS⟩ := hJ9
    have hj9 : h2 = upd fh k (shN (f1 i1) (f2 i2) (fh k) t) := hj9
    have hl : lv_has ls 8 [(0, .ref ch), (1, .int (nI k)), (2, .int (nI i1)), (3, .int (nI i2)), (4, .int (nI t)), (5, .int (f1 i1)), (6, .int (f2 i2))] := hl
    have hP : va_P G.1 vwCl [(ch, .inr (2, [.ref fr, .ref sr, .ref tr, .int (nI b)])), (fr, .inr (5, [.ref fa])), (fa, .inl (G.2.1, (c * 4) * (2 * md), .inl f1)), (sr, .inr (5, [.ref sa])), (sa, .inl (G.2.1, (c * 4) * (2 * md), .inl f2)), (tr, .inr (5, [.ref ta])), (ta, .inl (G.2.1, c, .inl h2))] H := hP
    have hD : va_D A [(ch, .inr (2, [.ref fr, .ref sr, .ref tr, .int (nI b)])), (fr, .inr (5, [.ref fa])), (fa, .inl (G.2.1, (c * 4) * (2 * md), .inl f1)), (sr, .inr (5, [.ref sa])), (sa, .inl (G.2.1, (c * 4) * (2 * md), .inl f2)), (tr, .inr (5, [.ref ta])), (ta, .inl (G.2.1, c, .inl h2))] := hD
    subst hj9
    refine lv_aload_n hx hb dX2_learn_93 rfl (lv_at hl 0 rfl) ?_
    refine va_get (D := G.1) (ci := 2) (v := .ref fr) (C := RX2) (T := TX2) (N := 4) hx hb hts hin_X2_learn_2 hown hK.1 hP 0 rfl rfl 0 (by decide) (hts (.fieldLink RX2 20 "MixedPredict$Chances" "first" "LMixedPredict$Row;") (List.mem_cons_of_mem _ (List.mem_append_left _ (List.mem_append_left _ (List.mem_of_getElem? (i := 0) rfl))))) (fun _ h9 => h9) rfl dX2_learn_94 ?_
    refine lv_iload_n hx hb dX2_learn_97 rfl (lv_at hl 2 rfl) ?_
    refine lv_iload hx hb dX2_learn_98 (lv_at hl 4 rfl) ?_
    refine lv_iconst (v := 1) hx hb dX2_learn_100 (by decide) ?_
    refine x_join (α := (Int32)) (fun z9 => F0 mZ 126 ls [.int z9, .int (nI i1), .ref fr]) (fun z9 => (z9 = lrF (f1 i1) t)) (fun z9 hJ9 => ?_) (fun hj_4 => ?_)
    · obtain ⟨v9, rfl⟩ : ∃ z, z = z9 := ⟨_, rfl⟩
      have hj9 := hJ9
      have hj9 : v9 = lrF (f1 i1) t := hj9
      subst hj9
      refine w_fin_v (WR := [(ch, .inr (2, [.ref fr, .ref sr, .ref tr, .int (nI b)])), (sr, .inr (5, [.ref sa])), (sa, .inl (G.2.1, (c * 4) * (2 * md), .inl f2)), (tr, .inr (5, [.ref ta])), (ta, .inl (G.2.1, c, .inl (upd fh k (shN (f1 i1) (f2 i2) (fh k) t))))]) (va_runV (As := [.int (nI i1), .int (lrF (f1 i1) t)]) (rest := []) ⟨hx, hb, hml, hown, hts⟩ (c_X6_set l G fr fa ((c * 4) * (2 * md)) f1 i1 (lrF (f1 i1) t) (by first | assumption | omega) (by first | assumption | omega) H.size) (cwV 2 hts gX2_learn_X6_set rfl rfl rfl (by decide +kernel) ⟨Nat.le_of_ble_eq_true rfl, Nat.le_of_ble_eq_true rfl⟩) (x_preV (w_pre hK hP hD [1, 2] (by decide) rfl) hK hP (ci := 5) (q0 := 1) rfl rfl) rfl rfl hl.1 rfl (lv_room (Nat.le_of_ble_eq_true rfl)) dX2_learn_126 ⟨Nat.zero_le _, Nat.zero_le _⟩) hP hD hS hA [1, 2] [0, 3, 4, 5, 6] rfl rfl (by decide) (by decide) [0, 5, 6, 1, 2, 3, 4] (by decide) (fun (_ : Unit) => [(ch, .inr (2, [.ref fr, .ref sr, .ref tr, .int (nI b)])), (fr, .inr (5, [.ref fa])), (fa, .inl (G.2.1, ((c * 4) * (2 * md)), .inl (upd f1 i1 (lrF (f1 i1) t)))), (sr, .inr (5, [.ref sa])), (sa, .inl (G.2.1, (c * 4) * (2 * md), .inl f2)), (tr, .inr (5, [.ref ta])), (ta, .inl (G.2.1, c, .inl (upd fh k (shN (f1 i1) (f2 i2) (fh k) t))))]) (fun _ => rfl) (fun u H locs hw hP hD hS => ?_)
      have hP : va_P G.1 vwCl [(ch, .inr (2, [.ref fr, .ref sr, .ref tr, .int (nI b)])), (fr, .inr (5, [.ref fa])), (fa, .inl (G.2.1, ((c * 4) * (2 * md)), .inl (upd f1 i1 (lrF (f1 i1) t)))), (sr, .inr (5, [.ref sa])), (sa, .inl (G.2.1, (c * 4) * (2 * md), .inl f2)), (tr, .inr (5, [.ref ta])), (ta, .inl (G.2.1, c, .inl (upd fh k (shN (f1 i1) (f2 i2) (fh k) t))))] H := hP
      have hD : va_D A [(ch, .inr (2, [.ref fr, .ref sr, .ref tr, .int (nI b)])), (fr, .inr (5, [.ref fa])), (fa, .inl (G.2.1, ((c * 4) * (2 * md)), .inl (upd f1 i1 (lrF (f1 i1) t)))), (sr, .inr (5, [.ref sa])), (sa, .inl (G.2.1, (c * 4) * (2 * md), .inl f2)), (tr, .inr (5, [.ref ta])), (ta, .inl (G.2.1, c, .inl (upd fh k (shN (f1 i1) (f2 i2) (fh k) t))))] := hD
      refine lv_aload_n hx hb dX2_learn_129 rfl (lv_at hl 0 rfl) ?_
      refine va_get (D := G.1) (ci := 2) (v := .ref sr) (C := RX2) (T := TX2) (N := 4) hx hb hts hin_X2_learn_2 hown hK.1 hP 0 rfl rfl 1 (by decide) (hts (.fieldLink RX2 24 "MixedPredict$Chances" "second" "LMixedPredict$Row;") (List.mem_cons_of_mem _ (List.mem_append_left _ (List.mem_append_left _ (List.mem_of_getElem? (i := 1) rfl))))) (fun _ h9 => h9) rfl dX2_learn_130 ?_
      refine lv_iload_n hx hb dX2_learn_133 rfl (lv_at hl 3 rfl) ?_
      refine lv_iload hx hb dX2_learn_134 (lv_at hl 4 rfl) ?_
      refine lv_iconst (v := 1) hx hb dX2_learn_136 (by decide) ?_
      refine x_join (α := (Int32)) (fun z9 => F0 mZ 162 ls [.int z9, .int (nI i2), .ref sr]) (fun z9 => (z9 = lrS (f2 i2) t)) (fun z9 hJ9 => ?_) (fun hj_7 => ?_)
      · obtain ⟨v9, rfl⟩ : ∃ z, z = z9 := ⟨_, rfl⟩
        have hj9 := hJ9
        have hj9 : v9 = lrS (f2 i2) t := hj9
        subst hj9
        refine w_fin_v (WR := [(ch, .inr (2, [.ref fr, .ref sr, .ref tr, .int (nI b)])), (fr, .inr (5, [.ref fa])), (fa, .inl (G.2.1, ((c * 4) * (2 * md)), .inl (upd f1 i1 (lrF (f1 i1) t)))), (tr, .inr (5, [.ref ta])), (ta, .inl (G.2.1, c, .inl (upd fh k (shN (f1 i1) (f2 i2) (fh k) t))))]) (va_runV (As := [.int (nI i2), .int (lrS (f2 i2) t)]) (rest := []) ⟨hx, hb, hml, hown, hts⟩ (c_X6_set l G sr sa ((c * 4) * (2 * md)) f2 i2 (lrS (f2 i2) t) (by first | assumption | omega) (by first | assumption | omega) H.size) (cwV 2 hts gX2_learn_X6_set rfl rfl rfl (by decide +kernel) ⟨Nat.le_of_ble_eq_true rfl, Nat.le_of_ble_eq_true rfl⟩) (x_preV (w_pre hK hP hD [3, 4] (by decide) rfl) hK hP (ci := 5) (q0 := 3) rfl rfl) rfl rfl hl.1 rfl (lv_room (Nat.le_of_ble_eq_true rfl)) dX2_learn_162 ⟨Nat.zero_le _, Nat.zero_le _⟩) hP hD hS hA [3, 4] [0, 1, 2, 5, 6] rfl rfl (by decide) (by decide) [0, 1, 2, 5, 6, 3, 4] (by decide) (fun (_ : Unit) => [(ch, .inr (2, [.ref fr, .ref sr, .ref tr, .int (nI b)])), (fr, .inr (5, [.ref fa])), (fa, .inl (G.2.1, ((c * 4) * (2 * md)), .inl (upd f1 i1 (lrF (f1 i1) t)))), (sr, .inr (5, [.ref sa])), (sa, .inl (G.2.1, ((c * 4) * (2 * md)), .inl (upd f2 i2 (lrS (f2 i2) t)))), (tr, .inr (5, [.ref ta])), (ta, .inl (G.2.1, c, .inl (upd fh k (shN (f1 i1) (f2 i2) (fh k) t))))]) (fun _ => rfl) (fun u H locs hw hP hD hS => ?_)
        have hP : va_P G.1 vwCl [(ch, .inr (2, [.ref fr, .ref sr, .ref tr, .int (nI b)])), (fr, .inr (5, [.ref fa])), (fa, .inl (G.2.1, ((c * 4) * (2 * md)), .inl (upd f1 i1 (lrF (f1 i1) t)))), (sr, .inr (5, [.ref sa])), (sa, .inl (G.2.1, ((c * 4) * (2 * md)), .inl (upd f2 i2 (lrS (f2 i2) t)))), (tr, .inr (5, [.ref ta])), (ta, .inl (G.2.1, c, .inl (upd fh k (shN (f1 i1) (f2 i2) (fh k) t))))] H := hP
        have hD : va_D A [(ch, .inr (2, [.ref fr, .ref sr, .ref tr, .int (nI b)])), (fr, .inr (5, [.ref fa])), (fa, .inl (G.2.1, ((c * 4) * (2 * md)), .inl (upd f1 i1 (lrF (f1 i1) t)))), (sr, .inr (5, [.ref sa])), (sa, .inl (G.2.1, ((c * 4) * (2 * md)), .inl (upd f2 i2 (lrS (f2 i2) t)))), (tr, .inr (5, [.ref ta])), (ta, .inl (G.2.1, c, .inl (upd fh k (shN (f1 i1) (f2 i2) (fh k) t))))] := hD
        exact w_vret () hx hb hr hlocks (trivial) hP hD hS dX2_learn_165
      · skip
        refine lv_icmp_ne (tgt := 154) hx hb dX2_learn_137 (by decide) (fun c_137 => ?_) (fun c_137 => ?_)
        · skip
          have c_137 : ¬ (t = 1) := fun h9 => c_137 ((nI_eq (a := t) (b := 1) (by omega) (by omega)).mpr h9)
          refine lv_iload hx hb dX2_learn_154 (lv_at hl 6 rfl) ?_
          refine lv_iload hx hb dX2_learn_156 (lv_at hl 6 rfl) ?_
          refine lv_bipush (v := 32) hx hb dX2_learn_158 (by decide) ?_
          refine lv_idiv hx hb dX2_learn_160 (by decide) ?_
          refine lv_isub hx hb dX2_learn_161 ?_
          exact hj_7 ((f2 i2) - ((f2 i2) / 32)) ((show ((f2 i2) - ((f2 i2) / 32)) = lrS (f2 i2) t from by rw [lrS, if_neg c_137]))
        · skip
          have c_137 : t = 1 := (nI_eq (a := t) (b := 1) (by omega) (by omega)).mp c_137
          refine lv_iload hx hb dX2_learn_140 (lv_at hl 6 rfl) ?_
          refine lv_ldc (v := 65535) hx hb hown (hts (.constant RX2 47 (65535)) (List.mem_cons_of_mem _ (List.mem_append_left _ (List.mem_append_left _ (List.mem_of_getElem? (i := 3) rfl))))) dX2_learn_142 ?_
          refine lv_iload hx hb dX2_learn_144 (lv_at hl 6 rfl) ?_
          refine lv_isub hx hb dX2_learn_146 ?_
          refine lv_bipush (v := 32) hx hb dX2_learn_147 (by decide) ?_
          refine lv_idiv hx hb dX2_learn_149 (by decide) ?_
          refine lv_iadd hx hb dX2_learn_150 ?_
          refine lv_goto (tgt := 162) hx hb dX2_learn_151 (by decide) ?_
          exact hj_7 ((f2 i2) + ((65535 - (f2 i2)) / 32)) ((show ((f2 i2) + ((65535 - (f2 i2)) / 32)) = lrS (f2 i2) t from by rw [lrS, if_pos c_137]))
    · skip
      refine lv_icmp_ne (tgt := 118) hx hb dX2_learn_101 (by decide) (fun c_101 => ?_) (fun c_101 => ?_)
      · skip
        have c_101 : ¬ (t = 1) := fun h9 => c_101 ((nI_eq (a := t) (b := 1) (by omega) (by omega)).mpr h9)
        refine lv_iload hx hb dX2_learn_118 (lv_at hl 5 rfl) ?_
        refine lv_iload hx hb dX2_learn_120 (lv_at hl 5 rfl) ?_
        refine lv_bipush (v := 16) hx hb dX2_learn_122 (by decide) ?_
        refine lv_idiv hx hb dX2_learn_124 (by decide) ?_
        refine lv_isub hx hb dX2_learn_125 ?_
        exact hj_4 ((f1 i1) - ((f1 i1) / 16)) ((show ((f1 i1) - ((f1 i1) / 16)) = lrF (f1 i1) t from by rw [lrF, if_neg c_101]))
      · skip
        have c_101 : t = 1 := (nI_eq (a := t) (b := 1) (by omega) (by omega)).mp c_101
        refine lv_iload hx hb dX2_learn_104 (lv_at hl 5 rfl) ?_
        refine lv_ldc (v := 65535) hx hb hown (hts (.constant RX2 47 (65535)) (List.mem_cons_of_mem _ (List.mem_append_left _ (List.mem_append_left _ (List.mem_of_getElem? (i := 3) rfl))))) dX2_learn_106 ?_
        refine lv_iload hx hb dX2_learn_108 (lv_at hl 5 rfl) ?_
        refine lv_isub hx hb dX2_learn_110 ?_
        refine lv_bipush (v := 16) hx hb dX2_learn_111 (by decide) ?_
        refine lv_idiv hx hb dX2_learn_113 (by decide) ?_
        refine lv_iadd hx hb dX2_learn_114 ?_
        refine lv_goto (tgt := 126) hx hb dX2_learn_115 (by decide) ?_
        exact hj_4 ((f1 i1) + ((65535 - (f1 i1)) / 16)) ((show ((f1 i1) + ((65535 - (f1 i1)) / 16)) = lrF (f1 i1) t from by rw [lrF, if_pos c_101]))
  · skip
    refine lv_icmp_eq (tgt := 93) hx hb dX2_learn_24 (by decide) (fun c_24 => ?_) (fun c_24 => ?_)
    · skip
      exact hj_3 (fh, ls) H locs ⟨(show fh = upd fh k (shN (f1 i1) (f2 i2) (fh k) t) from by rw [shN, if_pos c_24, upd_self]), lv_sub hl [2, 3, 4, 5, 6, 1, 0] rfl, hP, hD, hS⟩
    · skip
      refine lv_iload hx hb dX2_learn_27 (lv_at hl 1 rfl) ?_
      refine lv_iload hx hb dX2_learn_29 (lv_at hl 0 rfl) ?_
      refine x_join (α := (Int32)) (fun z9 => F0 mZ 39 ls [.int z9]) (fun z9 => (z9 = if f2 i2 < f1 i1 then 1 else 0)) (fun z9 hJ9 => ?_) (fun hj_10 => ?_)
      · obtain ⟨v9, rfl⟩ : ∃ z, z = z9 := ⟨_, rfl⟩
        have hj9 := hJ9
        have hj9 : v9 = if f2 i2 < f1 i1 then 1 else 0 := hj9
        subst hj9
        refine lv_iload hx hb dX2_learn_39 (lv_at hl 6 rfl) ?_
        refine lv_iconst (v := 1) hx hb dX2_learn_41 (by decide) ?_
        refine x_join (α := (Int32)) (fun z9 => F0 mZ 50 ls [.int z9, .int (if f2 i2 < f1 i1 then 1 else 0)]) (fun z9 => (z9 = if t = 1 then 1 else 0)) (fun z9 hJ9 => ?_) (fun hj_11 => ?_)
        · obtain ⟨v9, rfl⟩ : ∃ z, z = z9 := ⟨_, rfl⟩
          have hj9 := hJ9
          have hj9 : v9 = if t = 1 then 1 else 0 := hj9
          subst hj9
          refine x_join (α := (Int32)) (fun z9 => F0 mZ 58 ls [.int z9]) (fun z9 => (z9 = if (f2 i2 < f1 i1 ↔ t = 1) then 1 else 0)) (fun z9 hJ9 => ?_) (fun hj_12 => ?_)
          · obtain ⟨v9, rfl⟩ : ∃ z, z = z9 := ⟨_, rfl⟩
            have hj9 := hJ9
            have hj9 : v9 = if (f2 i2 < f1 i1 ↔ t = 1) then 1 else 0 := hj9
            subst hj9
            refine lv_istore (lv' := [(7, .int (if (f2 i2 < f1 i1 ↔ t = 1) then 1 else 0)), (6, .int (f2 i2)), (5, .int (f1 i1)), (0, .ref ch), (1, .int (nI k)), (2, .int (nI i1)), (3, .int (nI i2)), (4, .int (nI t))]) hx hb dX2_learn_58 hl (by decide) rfl (fun ls hl => ?_)
            refine lv_aload_n hx hb dX2_learn_60 rfl (lv_at hl 3 rfl) ?_
            refine va_get (D := G.1) (ci := 2) (v := .ref tr) (C := RX2) (T := TX2) (N := 4) hx hb hts hin_X2_learn_2 hown hK.1 hP 0 rfl rfl 2 (by decide) (hts (.fieldLink RX2 27 "MixedPredict$Chances" "shares" "LMixedPredict$Row;") (List.mem_cons_of_mem _ (List.mem_append_left _ (List.mem_append_left _ (List.mem_of_getElem? (i := 2) rfl))))) (fun _ h9 => h9) rfl dX2_learn_61 ?_
            refine lv_iload_n hx hb dX2_learn_64 rfl (lv_at hl 4 rfl) ?_
            refine lv_aload_n hx hb dX2_learn_65 rfl (lv_at hl 3 rfl) ?_
            refine va_get (D := G.1) (ci := 2) (v := .ref tr) (C := RX2) (T := TX2) (N := 4) hx hb hts hin_X2_learn_2 hown hK.1 hP 0 rfl rfl 2 (by decide) (hts (.fieldLink RX2 27 "MixedPredict$Chances" "shares" "LMixedPredict$Row;") (List.mem_cons_of_mem _ (List.mem_append_left _ (List.mem_append_left _ (List.mem_of_getElem? (i := 2) rfl))))) (fun _ h9 => h9) rfl dX2_learn_66 ?_
            refine lv_iload_n hx hb dX2_learn_69 rfl (lv_at hl 4 rfl) ?_
            refine r_fin_i (va_runV (As := [.int (nI k)]) (rest := [.int (nI k), .ref tr]) ⟨hx, hb, hml, hown, hts⟩ (c_X6_get l G tr ta c fh k (by first | assumption | omega) (by first | assumption | omega)) (cwV 1 hts gX2_learn_X6_get rfl rfl rfl (by decide +kernel) ⟨Nat.le_of_ble_eq_true rfl, Nat.le_of_ble_eq_true rfl⟩) (x_preV (r_pre hK hP [5, 6] rfl) hK hP (ci := 5) (q0 := 5) rfl rfl) rfl rfl hl.1 rfl (lv_room (Nat.le_of_ble_eq_true rfl)) dX2_learn_70 ⟨Nat.zero_le _, Nat.zero_le _⟩) (fun r_13 hw => ?_)
            subst hw
            refine lv_iload hx hb dX2_learn_73 (lv_at hl 0 rfl) ?_
            refine x_join (α := (Int32)) (fun z9 => F0 mZ 83 ls [.int z9, .int (fh k), .int (nI k), .ref tr]) (fun z9 => (z9 = if (f2 i2 < f1 i1 ↔ t = 1) then 1 else -1)) (fun z9 hJ9 => ?_) (fun hj_14 => ?_)
            · obtain ⟨v9, rfl⟩ : ∃ z, z = z9 := ⟨_, rfl⟩
              have hj9 := hJ9
              have hj9 : v9 = if (f2 i2 < f1 i1 ↔ t = 1) then 1 else -1 := hj9
              subst hj9
              refine lv_iadd hx hb dX2_learn_83 ?_
              refine lv_iconst (v := 1) hx hb dX2_learn_84 (by decide) ?_
              refine lv_bipush (v := 63) hx hb dX2_learn_85 (by decide) ?_
              refine r_fin_i (va_runSN (As := [.int ((fh k) + (if (f2 i2 < f1 i1 ↔ t = 1) then 1 else -1)), .int 1, .int 63]) (rest := [.int (nI k), .ref tr]) ⟨hx, hb, hml, hown, hts⟩ (c_X10_brought l G ((fh k) + (if (f2 i2 < f1 i1 ↔ t = 1) then 1 else -1)) 1 63) ⟨va_cnB 3 hts gX2_learn_X10_brought_n39 rfl rfl rfl (KK_nest hK 0 rfl) (hts (.initialized RX10) (List.mem_cons_of_mem _ (List.mem_append_left _ (List.mem_append_left _ (List.mem_of_getElem? (i := 11) rfl))))) (by decide +kernel) ⟨Nat.le_of_ble_eq_true rfl, Nat.le_of_ble_eq_true rfl⟩, (hts (.static yX10_brought) (List.mem_cons_of_mem _ (List.mem_append_left _ (List.mem_append_left _ (List.mem_of_getElem? (i := 10) rfl))))), trivial⟩ (r_pre hK hP [] rfl) rfl rfl hl.1 rfl (lv_room (Nat.le_of_ble_eq_true rfl)) dX2_learn_87 ⟨Nat.zero_le _, Nat.zero_le _⟩) (fun r_15 hw => ?_)
              subst hw
              refine w_fin_v (WR := [(ch, .inr (2, [.ref fr, .ref sr, .ref tr, .int (nI b)])), (fr, .inr (5, [.ref fa])), (fa, .inl (G.2.1, (c * 4) * (2 * md), .inl f1)), (sr, .inr (5, [.ref sa])), (sa, .inl (G.2.1, (c * 4) * (2 * md), .inl f2))]) (va_runV (As := [.int (nI k), .int (br ((fh k) + (if (f2 i2 < f1 i1 ↔ t = 1) then 1 else -1)) 1 63)]) (rest := []) ⟨hx, hb, hml, hown, hts⟩ (c_X6_set l G tr ta c fh k (br ((fh k) + (if (f2 i2 < f1 i1 ↔ t = 1) then 1 else -1)) 1 63) (by first | assumption | omega) (by first | assumption | omega) H.size) (cwV 2 hts gX2_learn_X6_set rfl rfl rfl (by decide +kernel) ⟨Nat.le_of_ble_eq_true rfl, Nat.le_of_ble_eq_true rfl⟩) (x_preV (w_pre hK hP hD [5, 6] (by decide) rfl) hK hP (ci := 5) (q0 := 5) rfl rfl) rfl rfl hl.1 rfl (lv_room (Nat.le_of_ble_eq_true rfl)) dX2_learn_90 ⟨Nat.zero_le _, Nat.zero_le _⟩) hP hD hS hA [5, 6] [0, 1, 2, 3, 4] rfl rfl (by decide) (by decide) [0, 1, 2, 3, 4, 5, 6] (by decide) (fun (_ : Unit) => [(ch, .inr (2, [.ref fr, .ref sr, .ref tr, .int (nI b)])), (fr, .inr (5, [.ref fa])), (fa, .inl (G.2.1, (c * 4) * (2 * md), .inl f1)), (sr, .inr (5, [.ref sa])), (sa, .inl (G.2.1, (c * 4) * (2 * md), .inl f2)), (tr, .inr (5, [.ref ta])), (ta, .inl (G.2.1, c, .inl (upd fh k (br ((fh k) + (if (f2 i2 < f1 i1 ↔ t = 1) then 1 else -1)) 1 63))))]) (fun _ => rfl) (fun u H locs hw hP hD hS => ?_)
              have hP : va_P G.1 vwCl [(ch, .inr (2, [.ref fr, .ref sr, .ref tr, .int (nI b)])), (fr, .inr (5, [.ref fa])), (fa, .inl (G.2.1, (c * 4) * (2 * md), .inl f1)), (sr, .inr (5, [.ref sa])), (sa, .inl (G.2.1, (c * 4) * (2 * md), .inl f2)), (tr, .inr (5, [.ref ta])), (ta, .inl (G.2.1, c, .inl (upd fh k (br ((fh k) + (if (f2 i2 < f1 i1 ↔ t = 1) then 1 else -1)) 1 63))))] H := hP
              have hD : va_D A [(ch, .inr (2, [.ref fr, .ref sr, .ref tr, .int (nI b)])), (fr, .inr (5, [.ref fa])), (fa, .inl (G.2.1, (c * 4) * (2 * md), .inl f1)), (sr, .inr (5, [.ref sa])), (sa, .inl (G.2.1, (c * 4) * (2 * md), .inl f2)), (tr, .inr (5, [.ref ta])), (ta, .inl (G.2.1, c, .inl (upd fh k (br ((fh k) + (if (f2 i2 < f1 i1 ↔ t = 1) then 1 else -1)) 1 63))))] := hD
              exact hj_3 (upd fh k (br ((fh k) + (if (f2 i2 < f1 i1 ↔ t = 1) then 1 else -1)) 1 63), ls) H locs ⟨(show (upd fh k (br ((fh k) + (if (f2 i2 < f1 i1 ↔ t = 1) then 1 else -1)) 1 63)) = upd fh k (shN (f1 i1) (f2 i2) (fh k) t) from by rw [shN, if_neg c_24]), lv_sub hl [3, 4, 5, 6, 7, 2, 1] rfl, hP, hD, hS⟩
            · skip
              refine lv_if_eq (tgt := 82) hx hb dX2_learn_75 (by decide) (fun c_75 => ?_) (fun c_75 => ?_)
              · skip
                have c_75 := x_b0.mp c_75
                refine lv_iconst (v := (-1)) hx hb dX2_learn_82 (by decide) ?_
                exact hj_14 (-1) ((show ((-1)) = if (f2 i2 < f1 i1 ↔ t = 1) then 1 else -1 from by rw [if_neg c_75]))
              · skip
                have c_75 := Decidable.not_not.mp (fun h9 => c_75 (x_b0.mpr h9))
                refine lv_iconst (v := 1) hx hb dX2_learn_78 (by decide) ?_
                refine lv_goto (tgt := 83) hx hb dX2_learn_79 (by decide) ?_
                exact hj_14 1 ((show 1 = if (f2 i2 < f1 i1 ↔ t = 1) then 1 else -1 from by rw [if_pos c_75]))
          · skip
            refine lv_icmp_ne (tgt := 57) hx hb dX2_learn_50 (by decide) (fun c_50 => ?_) (fun c_50 => ?_)
            · skip
              refine lv_iconst (v := 0) hx hb dX2_learn_57 (by decide) ?_
              exact hj_12 0 ((show 0 = if (f2 i2 < f1 i1 ↔ t = 1) then 1 else 0 from by rw [if_neg (fun h => c_50 (x_beq.mpr h))]))
            · skip
              refine lv_iconst (v := 1) hx hb dX2_learn_53 (by decide) ?_
              refine lv_goto (tgt := 58) hx hb dX2_learn_54 (by decide) ?_
              exact hj_12 1 ((show 1 = if (f2 i2 < f1 i1 ↔ t = 1) then 1 else 0 from by rw [if_pos (x_beq.mp c_50)]))
        · skip
          refine lv_icmp_ne (tgt := 49) hx hb dX2_learn_42 (by decide) (fun c_42 => ?_) (fun c_42 => ?_)
          · skip
            have c_42 : ¬ (t = 1) := fun h9 => c_42 ((nI_eq (a := t) (b := 1) (by omega) (by omega)).mpr h9)
            refine lv_iconst (v := 0) hx hb dX2_learn_49 (by decide) ?_
            exact hj_11 0 ((show 0 = if t = 1 then 1 else 0 from by first | rfl | (split <;> first | rfl | omega)))
          · skip
            have c_42 : t = 1 := (nI_eq (a := t) (b := 1) (by omega) (by omega)).mp c_42
            refine lv_iconst (v := 1) hx hb dX2_learn_45 (by decide) ?_
            refine lv_goto (tgt := 50) hx hb dX2_learn_46 (by decide) ?_
            exact hj_11 1 ((show 1 = if t = 1 then 1 else 0 from by first | rfl | (split <;> first | rfl | omega)))
      · skip
        refine lv_icmp_le (tgt := 38) hx hb dX2_learn_31 (by decide) (fun c_31 => ?_) (fun c_31 => ?_)
        · skip
          refine lv_iconst (v := 0) hx hb dX2_learn_38 (by decide) ?_
          exact hj_10 0 ((show 0 = if f2 i2 < f1 i1 then 1 else 0 from by rw [if_neg (Int32.not_lt.mpr c_31)]))
        · skip
          refine lv_iconst (v := 1) hx hb dX2_learn_34 (by decide) ?_
          refine lv_goto (tgt := 39) hx hb dX2_learn_35 (by decide) ?_
          exact hj_10 1 ((show 1 = if f2 i2 < f1 i1 then 1 else 0 from by rw [if_pos (Int32.not_le.mp c_31)]))
