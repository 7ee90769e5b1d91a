theorem hin_X3_narrow_5 : ∀ w ∈ u_ws RX5 TX5 6, w ∈ wsX3_narrow := fun w h => List.mem_cons_of_mem _ (List.mem_append_left _ (List.mem_append_left _ (List.mem_append_right _ h)))
theorem hin_X3_narrow_9 : ∀ w ∈ u_ws RX9 TX9 3, w ∈ wsX3_narrow := fun w h => List.mem_cons_of_mem _ (List.mem_append_left _ (List.mem_append_right _ h))
theorem hin_X3_open_5 : ∀ w ∈ u_ws RX5 TX5 6, w ∈ wsX3_open := fun w h => List.mem_cons_of_mem _ (List.mem_append_left _ (List.mem_append_right _ h))
theorem hin_X3_open_9 : ∀ w ∈ u_ws RX9 TX9 3, w ∈ wsX3_open := fun w h => List.mem_cons_of_mem _ (List.mem_append_right _ h)
theorem hin_X5_begin_5 : ∀ w ∈ u_ws RX5 TX5 6, w ∈ wsX5_begin := fun w h => List.mem_cons_of_mem _ (List.mem_append_left _ (List.mem_append_left _ (List.mem_append_right _ h)))
theorem hin_X5_choose_5 : ∀ w ∈ u_ws RX5 TX5 6, w ∈ wsX5_choose := fun w h => List.mem_cons_of_mem _ (List.mem_append_right _ h)
theorem hin_X5_init_5 : ∀ w ∈ u_ws RX5 TX5 6, w ∈ wsX5_init := fun w h => List.mem_cons_of_mem _ (List.mem_append_right _ h)
theorem hin_X5_leave_5 : ∀ w ∈ u_ws RX5 TX5 6, w ∈ wsX5_leave := fun w h => List.mem_cons_of_mem _ (List.mem_append_left _ (List.mem_append_right _ h))
theorem hin_X9_begin_9 : ∀ w ∈ u_ws RX9 TX9 3, w ∈ wsX9_begin := fun w h => List.mem_cons_of_mem _ (List.mem_append_left _ (List.mem_append_left _ (List.mem_append_right _ h)))
theorem hin_X9_end_9 : ∀ w ∈ u_ws RX9 TX9 3, w ∈ wsX9_end := fun w h => List.mem_cons_of_mem _ (List.mem_append_left _ (List.mem_append_right _ h))
theorem hin_X9_init_9 : ∀ w ∈ u_ws RX9 TX9 3, w ∈ wsX9_init := fun w h => List.mem_cons_of_mem _ (List.mem_append_right _ h)
theorem hin_X9_leave_9 : ∀ w ∈ u_ws RX9 TX9 3, w ∈ wsX9_leave := fun w h => List.mem_cons_of_mem _ (List.mem_append_left _ (List.mem_append_right _ h))
set_option maxHeartbeats 4000000 in
set_option maxRecDepth 100000 in
theorem c_X3_init_W (l : Launch) (G : GG) (it : Nat) (sz : Nat) : Met l yX3_init wsX3_init ({ frames := 1, cells := 0, slots := 0, locals := 12 } : Room) (w_Pc G [.ref it] sz [(it, .inr (8, [.long 0, .long 0, .null]))]) (w_Qv G (va_A [(it, .inr (8, [.long 0, .long 0, .null]))] sz) (fun (_ : Unit) => [(it, .inr (8, [.long 0, .long 0, .null]))]) (fun (_ : Unit) => True)) 0 0 (va_A [(it, .inr (8, [.long 0, .long 0, .null]))] sz) := by
  refine w_ofW (Qf := fun A => w_Qv G A (fun (_ : Unit) => [(it, .inr (8, [.long 0, .long 0, .null]))]) (fun (_ : Unit) => True)) (cc := cX3_init) (maxL := 1) (ret := none) (by decide) rfl (Nat.le_of_ble_eq_true rfl) ?_
  intro pZ eZ sZ mZ bZ tZ cZ A hx hb hr hts hown hlocks hml hnm hK hA H locs hP hD hS ls hl
  have hown : sZ.vm.findClass RX3 = some mZ.cls := hown
  have hl : lv_has ls 1 [(0, .ref it)] := hl
  refine lv_aload_n hx hb dX3_init_0 rfl (lv_at hl 0 rfl) ?_
  refine W.objInit hx hb hown (hts (.methodLink RX3 1 objectInit) (List.mem_cons_of_mem _ (List.mem_of_getElem? (i := 0) rfl))) (hts (.instanceMethod objectInit) (List.mem_cons_of_mem _ (List.mem_of_getElem? (i := 1) rfl))) (hts (.code objectInit ⟨#[0xb1]⟩ 1 none) (List.mem_cons_of_mem _ (List.mem_of_getElem? (i := 2) rfl))) rfl (by rw [hml]; exact hl.1) rfl dX3_init_1 (Nat.le_of_ble_eq_true rfl) (Nat.le_of_ble_eq_true rfl) ?_
  refine W.eq (g2 := F0 mZ 4 ls []) rfl ?_
  exact w_vret () hx hb hr hlocks (trivial) hP hD hS dX3_init_4

set_option maxHeartbeats 4000000 in
set_option maxRecDepth 100000 in
theorem c_X3_init_R (l : Launch) (G : GG) (it : Nat) (sz : Nat) : Met l yX3_init wsX3_init ({ frames := 1, cells := 0, slots := 0, locals := 12 } : Room) (w_Pc G [.ref it] sz [(it, .inr (4, [.long 0, .long 0, .null, .int 0, .int 0, .long 0]))]) (w_Qv G (va_A [(it, .inr (4, [.long 0, .long 0, .null, .int 0, .int 0, .long 0]))] sz) (fun (_ : Unit) => [(it, .inr (4, [.long 0, .long 0, .null, .int 0, .int 0, .long 0]))]) (fun (_ : Unit) => True)) 0 0 (va_A [(it, .inr (4, [.long 0, .long 0, .null, .int 0, .int 0, .long 0]))] sz) := by
  refine w_ofW (Qf := fun A => w_Qv G A (fun (_ : Unit) => [(it, .inr (4, [.long 0, .long 0, .null, .int 0, .int 0, .long 0]))]) (fun (_ : Unit) => True)) (cc := cX3_init) (maxL := 1) (ret := none) (by decide) rfl (Nat.le_of_ble_eq_true rfl) ?_
  intro pZ eZ sZ mZ bZ tZ cZ A hx hb hr hts hown hlocks hml hnm hK hA H locs hP hD hS ls hl
  have hown : sZ.vm.findClass RX3 = some mZ.cls := hown
  have hl : lv_has ls 1 [(0, .ref it)] := hl
  refine lv_aload_n hx hb dX3_init_0 rfl (lv_at hl 0 rfl) ?_
  refine W.objInit hx hb hown (hts (.methodLink RX3 1 objectInit) (List.mem_cons_of_mem _ (List.mem_of_getElem? (i := 0) rfl))) (hts (.instanceMethod objectInit) (List.mem_cons_of_mem _ (List.mem_of_getElem? (i := 1) rfl))) (hts (.code objectInit ⟨#[0xb1]⟩ 1 none) (List.mem_cons_of_mem _ (List.mem_of_getElem? (i := 2) rfl))) rfl (by rw [hml]; exact hl.1) rfl dX3_init_1 (Nat.le_of_ble_eq_true rfl) (Nat.le_of_ble_eq_true rfl) ?_
  refine W.eq (g2 := F0 mZ 4 ls []) rfl ?_
  exact w_vret () hx hb hr hlocks (trivial) hP hD hS dX3_init_4

set_option maxHeartbeats 4000000 in
set_option maxRecDepth 100000 in
theorem c_X9_init (l : Launch) (G : GG) (it ob : Nat) (sz : Nat) : Met l yX9_init wsX9_init ({ frames := 2, cells := 0, slots := 0, locals := 32 } : Room) (w_Pc G [.ref it, .ref ob] sz [(it, .inr (8, [.long 0, .long 0, .null]))]) (w_Qv G (va_A [(it, .inr (8, [.long 0, .long 0, .null]))] sz) (fun (_ : Unit) => [(it, .inr (8, [.long 0, .long 0, .ref ob]))]) (fun (_ : Unit) => True)) 0 0 (va_A [(it, .inr (8, [.long 0, .long 0, .null]))] sz) := by
  refine w_ofW (Qf := fun A => w_Qv G A (fun (_ : Unit) => [(it, .inr (8, [.long 0, .long 0, .ref ob]))]) (fun (_ : Unit) => True)) (cc := cX9_init) (maxL := 2) (ret := none) (by decide) rfl (Nat.le_of_ble_eq_true rfl) ?_
  intro pZ eZ sZ mZ bZ tZ cZ A hx hb hr hts hown hlocks hml hnm hK hA H locs hP hD hS ls hl
  have hown : sZ.vm.findClass RX9 = some mZ.cls := hown
  have hl : lv_has ls 2 [(0, .ref it), (1, .ref ob)] := hl
  refine lv_aload_n hx hb dX9_init_0 rfl (lv_at hl 0 rfl) ?_
  refine w_fin_v (WR := []) (va_runIN (As := []) (rest := []) ⟨hx, hb, hml, hown, hts⟩ (c_X3_init_W l G it H.size) ⟨va_cnB 0 hts gX9_init_X3_init_n1 rfl rfl rfl (KK_nest hK 5 rfl) (hts (.initialized RX3) (List.mem_cons_of_mem _ (List.mem_append_left _ (List.mem_of_getElem? (i := 2) rfl)))) (by decide +kernel) ⟨Nat.le_of_ble_eq_true rfl, Nat.le_of_ble_eq_true rfl⟩, rfl, (hts (.instanceMethod yX3_init) (List.mem_cons_of_mem _ (List.mem_append_left _ (List.mem_of_getElem? (i := 1) rfl))))⟩ (w_pre hK hP hD [0] (by decide) rfl) rfl rfl hl.1 rfl (lv_room (Nat.le_of_ble_eq_true rfl)) dX9_init_1 ⟨Nat.zero_le _, Nat.zero_le _⟩) hP hD hS hA [0] [] rfl rfl (by decide) (by decide) [0] (by decide) (fun (_ : Unit) => [(it, .inr (8, [.long 0, .long 0, .null]))]) (fun _ => rfl) (fun u H locs hw hP hD hS => ?_)
  have hP : va_P G.1 vwCl [(it, .inr (8, [.long 0, .long 0, .null]))] H := hP
  have hD : va_D A [(it, .inr (8, [.long 0, .long 0, .null]))] := hD
  refine lv_aload_n hx hb dX9_init_4 rfl (lv_at hl 0 rfl) ?_
  refine lv_aload_n hx hb dX9_init_5 rfl (lv_at hl 1 rfl) ?_
  refine va_putF (D := G.1) (ci := 8) (v := .ref ob) (ty := tyX9 2) (C := RX9) (T := TX9) (N := 3) hx hb hts hin_X9_init_9 tyX9 tyX9_ok nmX9 hown hK.1 hP hD hS 0 rfl rfl 2 (by decide) (hts (.fieldLink RX9 7 "MixedPredict$Writer" "out" "LMixedPredict$Bytes;") (List.mem_cons_of_mem _ (List.mem_append_left _ (List.mem_of_getElem? (i := 0) rfl)))) (fun _ h9 => h9) rfl hnm rfl (tyX9_ok 2 (by decide)) rfl rfl (Nat.le_of_ble_eq_true rfl) dX9_init_6 (fun H locs hP hD hS => ?_)
  have hP : va_P G.1 vwCl [(it, .inr (8, [.long 0, .long 0, .ref ob]))] H := hP
  have hD : va_D A [(it, .inr (8, [.long 0, .long 0, .ref ob]))] := hD
  exact w_vret () hx hb hr hlocks (trivial) hP hD hS dX9_init_9

set_option maxHeartbeats 4000000 in
set_option maxRecDepth 100000 in
theorem c_X5_init (l : Launch) (G : GG) (it ib : Nat) (sz : Nat) : Met l yX5_init wsX5_init ({ frames := 2, cells := 0, slots := 0, locals := 32 } : Room) (w_Pc G [.ref it, .ref ib] sz [(it, .inr (4, [.long 0, .long 0, .null, .int 0, .int 0, .long 0]))]) (w_Qv G (va_A [(it, .inr (4, [.long 0, .long 0, .null, .int 0, .int 0, .long 0]))] sz) (fun (_ : Unit) => [(it, .inr (4, [.long 0, .long 0, .ref ib, .int 0, .int 0, .long 0]))]) (fun (_ : Unit) => True)) 0 0 (va_A [(it, .inr (4, [.long 0, .long 0, .null, .int 0, .int 0, .long 0]))] sz) := by
  refine w_ofW (Qf := fun A => w_Qv G A (fun (_ : Unit) => [(it, .inr (4, [.long 0, .long 0, .ref ib, .int 0, .int 0, .long 0]))]) (fun (_ : Unit) => True)) (cc := cX5_init) (maxL := 2) (ret := none) (by decide) rfl (Nat.le_of_ble_eq_true rfl) ?_
  intro pZ eZ sZ mZ bZ tZ cZ A hx hb hr hts hown hlocks hml hnm hK hA H locs hP hD hS ls hl
  have hown : sZ.vm.findClass RX5 = some mZ.cls := hown
  have hl : lv_has ls 2 [(0, .ref it), (1, .ref ib)] := hl
  refine lv_aload_n hx hb dX5_init_0 rfl (lv_at hl 0 rfl) ?_
  refine w_fin_v (WR := []) (va_runIN (As := []) (rest := []) ⟨hx, hb, hml, hown, hts⟩ (c_X3_init_R l G it H.size) ⟨va_cnB 0 hts gX5_init_X3_init_n1 rfl rfl rfl (KK_nest hK 4 rfl) (hts (.initialized RX3) (List.mem_cons_of_mem _ (List.mem_append_left _ (List.mem_of_getElem? (i := 2) rfl)))) (by decide +kernel) ⟨Nat.le_of_ble_eq_true rfl, Nat.le_of_ble_eq_true rfl⟩, rfl, (hts (.instanceMethod yX3_init) (List.mem_cons_of_mem _ (List.mem_append_left _ (List.mem_of_getElem? (i := 1) rfl))))⟩ (w_pre hK hP hD [0] (by decide) rfl) rfl rfl hl.1 rfl (lv_room (Nat.le_of_ble_eq_true rfl)) dX5_init_1 ⟨Nat.zero_le _, Nat.zero_le _⟩) hP hD hS hA [0] [] rfl rfl (by decide) (by decide) [0] (by decide) (fun (_ : Unit) => [(it, .inr (4, [.long 0, .long 0, .null, .int 0, .int 0, .long 0]))]) (fun _ => rfl) (fun u H locs hw hP hD hS => ?_)
  have hP : va_P G.1 vwCl [(it, .inr (4, [.long 0, .long 0, .null, .int 0, .int 0, .long 0]))] H := hP
  have hD : va_D A [(it, .inr (4, [.long 0, .long 0, .null, .int 0, .int 0, .long 0]))] := hD
  refine lv_aload_n hx hb dX5_init_4 rfl (lv_at hl 0 rfl) ?_
  refine lv_aload_n hx hb dX5_init_5 rfl (lv_at hl 1 rfl) ?_
  refine va_putF (D := G.1) (ci := 4) (v := .ref ib) (ty := tyX5 2) (C := RX5) (T := TX5) (N := 6) hx hb hts hin_X5_init_5 tyX5 tyX5_ok nmX5 hown hK.1 hP hD hS 0 rfl rfl 2 (by decide) (hts (.fieldLink RX5 7 "MixedPredict$Reader" "in" "LMixedPredict$Bytes;") (List.mem_cons_of_mem _ (List.mem_append_left _ (List.mem_of_getElem? (i := 0) rfl)))) (fun _ h9 => h9) rfl hnm rfl (tyX5_ok 2 (by decide)) rfl rfl (Nat.le_of_ble_eq_true rfl) dX5_init_6 (fun H locs hP hD hS => ?_)
  have hP : va_P G.1 vwCl [(it, .inr (4, [.long 0, .long 0, .ref ib, .int 0, .int 0, .long 0]))] H := hP
  have hD : va_D A [(it, .inr (4, [.long 0, .long 0, .ref ib, .int 0, .int 0, .long 0]))] := hD
  exact w_vret () hx hb hr hlocks (trivial) hP hD hS dX5_init_9

set_option maxHeartbeats 4000000 in
set_option maxRecDepth 100000 in
theorem c_X3_open_W (l : Launch) (G : GG) (it ob : Nat) (lo hi : Int64) (sz : Nat) : Met l yX3_open wsX3_open ({ frames := 0, cells := 0, slots := 0, locals := 0 } : Room) (w_Pc G [.ref it] sz [(it, .inr (8, [.long lo, .long hi, .ref ob]))]) (w_Qv G (va_A [(it, .inr (8, [.long lo, .long hi, .ref ob]))] sz) (fun (_ : Unit) => [(it, .inr (8, [.long (lN 0), .long (lN 4294967295), .ref ob]))]) (fun (_ : Unit) => True)) 0 0 (va_A [(it, .inr (8, [.long lo, .long hi, .ref ob]))] sz) := by
  refine w_ofW (Qf := fun A => w_Qv G A (fun (_ : Unit) => [(it, .inr (8, [.long (lN 0), .long (lN 4294967295), .ref ob]))]) (fun (_ : Unit) => True)) (cc := cX3_open) (maxL := 1) (ret := none) (by decide) rfl (Nat.le_of_ble_eq_true rfl) ?_
  intro pZ eZ sZ mZ bZ tZ cZ A hx hb hr hts hown hlocks hml hnm hK hA H locs hP hD hS ls hl
  have hown : sZ.vm.findClass RX3 = some mZ.cls := hown
  have hl : lv_has ls 1 [(0, .ref it)] := hl
  refine lv_aload_n hx hb dX3_open_0 rfl (lv_at hl 0 rfl) ?_
  refine lv_lconst (v := 0) hx hb dX3_open_1 (by decide) ?_
  refine va_put (D := G.1) (ci := 8) (v := .long 0) (ty := tyX9 0) (C := RX9) (T := TX9) (N := 3) hx hb hts hin_X3_open_9 tyX9 tyX9_ok nmX9 hown hK.1 hP hD hS 0 rfl rfl 0 (by decide) (hts (.fieldLink RX3 7 "MixedPredict$Interval" "low" "J") (List.mem_cons_of_mem _ (List.mem_append_left _ (List.mem_append_left _ (List.mem_of_getElem? (i := 0) rfl))))) (fun _ h9 => h9) rfl (tyX9_ok 0 (by decide)) rfl rfl (Nat.le_of_ble_eq_true rfl) dX3_open_2 (fun H locs hP hD hS => ?_)
  have hP : va_P G.1 vwCl [(it, .inr (8, [.long 0, .long hi, .ref ob]))] H := hP
  have hD : va_D A [(it, .inr (8, [.long 0, .long hi, .ref ob]))] := hD
  refine lv_aload_n hx hb dX3_open_5 rfl (lv_at hl 0 rfl) ?_
  refine lv_ldc2 (v := 4294967295) hx hb hown (hts (.constantLong RX3 13 (4294967295)) (List.mem_cons_of_mem _ (List.mem_append_left _ (List.mem_append_left _ (List.mem_of_getElem? (i := 1) rfl))))) dX3_open_6 ?_
  refine va_put (D := G.1) (ci := 8) (v := .long 4294967295) (ty := tyX9 1) (C := RX9) (T := TX9) (N := 3) hx hb hts hin_X3_open_9 tyX9 tyX9_ok nmX9 hown hK.1 hP hD hS 0 rfl rfl 1 (by decide) (hts (.fieldLink RX3 15 "MixedPredict$Interval" "high" "J") (List.mem_cons_of_mem _ (List.mem_append_left _ (List.mem_append_left _ (List.mem_of_getElem? (i := 2) rfl))))) (fun _ h9 => h9) rfl (tyX9_ok 1 (by decide)) rfl rfl (Nat.le_of_ble_eq_true rfl) dX3_open_9 (fun H locs hP hD hS => ?_)
  have hP : va_P G.1 vwCl [(it, .inr (8, [.long 0, .long 4294967295, .ref ob]))] H := hP
  have hD : va_D A [(it, .inr (8, [.long 0, .long 4294967295, .ref ob]))] := hD
  exact w_vret () hx hb hr hlocks (trivial) hP hD hS dX3_open_12

set_option maxHeartbeats 4000000 in
set_option maxRecDepth 100000 in
theorem c_X3_open_R (l : Launch) (G : GG) (it ib : Nat) (lo hi v : Int64) (nx en : Int32) (sz : Nat) : Met l yX3_open wsX3_open ({ frames := 0, cells := 0, slots := 0, locals := 0 } : Room) (w_Pc G [.ref it] sz [(it, .inr (4, [.long lo, .long hi, .ref ib, .int nx, .int en, .long v]))]) (w_Qv G (va_A [(it, .inr (4, [.long lo, .long hi, .ref ib, .int nx, .int en, .long v]))] sz) (fun (_ : Unit) => [(it, .inr (4, [.long (lN 0), .long (lN 4294967295), .ref ib, .int nx, .int en, .long v]))]) (fun (_ : Unit) => True)) 0 0 (va_A [(it, .inr (4, [.long lo, .long hi, .ref ib, .int nx, .int en, .long v]))] sz) := by
  refine w_ofW (Qf := fun A => w_Qv G A (fun (_ : Unit) => [(it, .inr (4, [.long (lN 0), .long (lN 4294967295), .ref ib, .int nx, .int en, .long v]))]) (fun (_ : Unit) => True)) (cc := cX3_open) (maxL := 1) (ret := none) (by decide) rfl (Nat.le_of_ble_eq_true rfl) ?_
  intro pZ eZ sZ mZ bZ tZ cZ A hx hb hr hts hown hlocks hml hnm hK hA H locs hP hD hS ls hl
  have hown : sZ.vm.findClass RX3 = some mZ.cls := hown
  have hl : lv_has ls 1 [(0, .ref it)] := hl
  refine lv_aload_n hx hb dX3_open_0 rfl (lv_at hl 0 rfl) ?_
  refine lv_lconst (v := 0) hx hb dX3_open_1 (by decide) ?_
  refine va_put (D := G.1) (ci := 4) (v := .long 0) (ty := tyX5 0) (C := RX5) (T := TX5) (N := 6) hx hb hts hin_X3_open_5 tyX5 tyX5_ok nmX5 hown hK.1 hP hD hS 0 rfl rfl 0 (by decide) (hts (.fieldLink RX3 7 "MixedPredict$Interval" "low" "J") (List.mem_cons_of_mem _ (List.mem_append_left _ (List.mem_append_left _ (List.mem_of_getElem? (i := 0) rfl))))) (fun _ h9 => h9) rfl (tyX5_ok 0 (by decide)) rfl rfl (Nat.le_of_ble_eq_true rfl) dX3_open_2 (fun H locs hP hD hS => ?_)
  have hP : va_P G.1 vwCl [(it, .inr (4, [.long 0, .long hi, .ref ib, .int nx, .int en, .long v]))] H := hP
  have hD : va_D A [(it, .inr (4, [.long 0, .long hi, .ref ib, .int nx, .int en, .long v]))] := hD
  refine lv_aload_n hx hb dX3_open_5 rfl (lv_at hl 0 rfl) ?_
  refine lv_ldc2 (v := 4294967295) hx hb hown (hts (.constantLong RX3 13 (4294967295)) (List.mem_cons_of_mem _ (List.mem_append_left _ (List.mem_append_left _ (List.mem_of_getElem? (i := 1) rfl))))) dX3_open_6 ?_
  refine va_put (D := G.1) (ci := 4) (v := .long 4294967295) (ty := tyX5 1) (C := RX5) (T := TX5) (N := 6) hx hb hts hin_X3_open_5 tyX5 tyX5_ok nmX5 hown hK.1 hP hD hS 0 rfl rfl 1 (by decide) (hts (.fieldLink RX3 15 "MixedPredict$Interval" "high" "J") (List.mem_cons_of_mem _ (List.mem_append_left _ (List.mem_append_left _ (List.mem_of_getElem? (i := 2) rfl))))) (fun _ h9 => h9) rfl (tyX5_ok 1 (by decide)) rfl rfl (Nat.le_of_ble_eq_true rfl) dX3_open_9 (fun H locs hP hD hS => ?_)
  have hP : va_P G.1 vwCl [(it, .inr (4, [.long 0, .long 4294967295, .ref ib, .int nx, .int en, .long v]))] H := hP
  have hD : va_D A [(it, .inr (4, [.long 0, .long 4294967295, .ref ib, .int nx, .int en, .long v]))] := hD
  exact w_vret () hx hb hr hlocks (trivial) hP hD hS dX3_open_12

set_option maxHeartbeats 4000000 in
set_option maxRecDepth 100000 in
theorem c_X9_choose (l : Launch) (G : GG) (it : Nat) (sp : Int64) (t : Nat) : Met l yX9_choose wsX9_choose ({ frames := 0, cells := 0, slots := 0, locals := 0 } : Room) (r_Pc G [.ref it, .long sp, .int (nI t)] []) (vp_Si (fun r => r = (nI t))) 0 0 (fun _ => False) := by
  refine r_ofW (cc := cX9_choose) (maxL := 4) (ret := (some .int)) (by decide) rfl (Nat.le_of_ble_eq_true rfl) ?_
  intro pZ eZ sZ mZ bZ tZ cZ hx hb hr hts hown hlocks hml hK H hH hP ls hl
  have hown : sZ.vm.findClass RX9 = some mZ.cls := hown
  have hl : lv_has ls 4 [(0, .ref it), (1, .long sp), (3, .int (nI t))] := hl
  refine lv_iload_n hx hb dX9_choose_0 rfl (lv_at hl 2 rfl) ?_
  exact r_iret hx hb hr hlocks (rfl) hH dX9_choose_1

set_option maxHeartbeats 4000000 in
set_option maxRecDepth 100000 in
theorem c_X9_leave (l : Launch) (G : GG) (it ob oa n : Nat) (hn : n < 2 ^ 31) (lo hi : Nat) (d : DV) (f : Nat → Int32) (ro : RepO n d f) (en : Nat) (D : Nat → Nat) (b : Nat) (sz : Nat) : Met l yX9_leave wsX9_leave ({ frames := 1, cells := 0, slots := 0, locals := 21 } : Room) (w_Pc G [.ref it, .int (nI b)] sz [(it, .inr (8, [.long (lN lo), .long (lN hi), .ref ob])), (ob, .inr (1, [.ref oa, .int (nI (min d.1 n))])), (oa, .inl (G.2.1, n, .inl f))]) (w_Qv G (va_A [(it, .inr (8, [.long (lN lo), .long (lN hi), .ref ob])), (ob, .inr (1, [.ref oa, .int (nI (min d.1 n))])), (oa, .inl (G.2.1, n, .inl f))] sz) (fun (f2 : Nat → Int32) => [(it, .inr (8, [.long (lN lo), .long (lN hi), .ref ob])), (ob, .inr (1, [.ref oa, .int (nI (min (emt true en D b d).1 n))])), (oa, .inl (G.2.1, n, .inl f2))]) (fun (f2 : Nat → Int32) => RepO n (emt true en D b d) f2)) 0 0 (va_A [(it, .inr (8, [.long (lN lo), .long (lN hi), .ref ob])), (ob, .inr (1, [.ref oa, .int (nI (min d.1 n))])), (oa, .inl (G.2.1, n, .inl f))] sz) := by
  refine w_ofW (Qf := fun A => w_Qv G A (fun (f2 : Nat → Int32) => [(it, .inr (8, [.long (lN lo), .long (lN hi), .ref ob])), (ob, .inr (1, [.ref oa, .int (nI (min (emt true en D b d).1 n))])), (oa, .inl (G.2.1, n, .inl f2))]) (fun (f2 : Nat → Int32) => RepO n (emt true en D b d) f2)) (cc := cX9_leave) (maxL := 2) (ret := none) (by decide) rfl (Nat.le_of_ble_eq_true rfl) ?_
  intro pZ eZ sZ mZ bZ tZ cZ A hx hb hr hts hown hlocks hml hnm hK hA H locs hP hD hS ls hl
  have hown : sZ.vm.findClass RX9 = some mZ.cls := hown
  have hl : lv_has ls 2 [(0, .ref it), (1, .int (nI b))] := hl
  refine lv_aload_n hx hb dX9_leave_0 rfl (lv_at hl 0 rfl) ?_
  refine va_get (D := G.1) (ci := 8) (v := .ref ob) (C := RX9) (T := TX9) (N := 3) hx hb hts hin_X9_leave_9 hown hK.1 hP 0 rfl rfl 2 (by decide) (hts (.fieldLink RX9 7 "MixedPredict$Writer" "out" "LMixedPredict$Bytes;") (List.mem_cons_of_mem _ (List.mem_append_left _ (List.mem_append_left _ (List.mem_of_getElem? (i := 0) rfl))))) (fun _ h9 => h9) rfl dX9_leave_1 ?_
  refine lv_iload_n hx hb dX9_leave_4 rfl (lv_at hl 1 rfl) ?_
  refine w_fin_v (WR := [(it, .inr (8, [.long (lN lo), .long (lN hi), .ref ob]))]) (va_runV (As := [.int (nI b)]) (rest := []) ⟨hx, hb, hml, hown, hts⟩ (c_X1_add l G ob oa n f (min d.1 n) (nI b) (by first | assumption | omega) (by first | assumption | omega) H.size) (cwV 1 hts gX9_leave_X1_add rfl rfl rfl (by decide +kernel) ⟨Nat.le_of_ble_eq_true rfl, Nat.le_of_ble_eq_true rfl⟩) (x_preV (w_pre hK hP hD [1, 2] (by decide) rfl) hK hP (ci := 1) (q0 := 1) rfl rfl) rfl rfl hl.1 rfl (lv_room (Nat.le_of_ble_eq_true rfl)) dX9_leave_5 ⟨Nat.zero_le _, Nat.zero_le _⟩) hP hD hS hA [1, 2] [0] rfl rfl (by decide) (by decide) [0, 1, 2] (by decide) (fun (_ : Unit) => [(it, .inr (8, [.long (lN lo), .long (lN hi), .ref ob])), (ob, .inr (1, [.ref oa, .int (nI (addK n (min d.1 n)))])), (oa, .inl (G.2.1, n, .inl (addF n (min d.1 n) (nI b) f)))]) (fun _ => rfl) (fun u H locs hw hP hD hS => ?_)
  have hP : va_P G.1 vwCl [(it, .inr (8, [.long (lN lo), .long (lN hi), .ref ob])), (ob, .inr (1, [.ref oa, .int (nI (addK n (min d.1 n)))])), (oa, .inl (G.2.1, n, .inl (addF n (min d.1 n) (nI b) f)))] H := hP
  have hD : va_D A [(it, .inr (8, [.long (lN lo), .long (lN hi), .ref ob])), (ob, .inr (1, [.ref oa, .int (nI (addK n (min d.1 n)))])), (oa, .inl (G.2.1, n, .inl (addF n (min d.1 n) (nI b) f)))] := hD
  have hfe : (min (emt true en D b d).1 n) = (addK n (min d.1 n)) := (addK_min n d.1).symm
  have hP : va_P G.1 vwCl [(it, .inr (8, [.long (lN lo), .long (lN hi), .ref ob])), (ob, .inr (1, [.ref oa, .int (nI (min (emt true en D b d).1 n))])), (oa, .inl (G.2.1, n, .inl (addF n (min d.1 n) (nI b) f)))] H := by rw [hfe]; exact hP
  have hD : va_D A [(it, .inr (8, [.long (lN lo), .long (lN hi), .ref ob])), (ob, .inr (1, [.ref oa, .int (nI (min (emt true en D b d).1 n))])), (oa, .inl (G.2.1, n, .inl (addF n (min d.1 n) (nI b) f)))] := by rw [hfe]; exact hD
  clear hfe
  exact w_vret (addF n (min d.1 n) (nI b) f) hx hb hr hlocks (RepO_add ro en D b) hP hD hS dX9_leave_8

set_option maxHeartbeats 4000000 in
set_option maxRecDepth 100000 in
theorem c_X9_begin (l : Launch) (G : GG) (it ob oa n k : Nat) (f : Nat → Int32) (lo hi : Int64) (sz : Nat) : Met l yX9_begin wsX9_begin ({ frames := 1, cells := 0, slots := 0, locals := 20 } : Room) (w_Pc G [.ref it] sz [(it, .inr (8, [.long lo, .long hi, .ref ob])), (ob, .inr (1, [.ref oa, .int (nI k)])), (oa, .inl (G.2.1, n, .inl f))]) (w_Qv G (va_A [(it, .inr (8, [.long lo, .long hi, .ref ob])), (ob, .inr (1, [.ref oa, .int (nI k)])), (oa, .inl (G.2.1, n, .inl f))] sz) (fun (_ : Unit) => [(it, .inr (8, [.long (lN 0), .long (lN 4294967295), .ref ob])), (ob, .inr (1, [.ref oa, .int (nI 0)])), (oa, .inl (G.2.1, n, .inl f))]) (fun (_ : Unit) => True)) 0 0 (va_A [(it, .inr (8, [.long lo, .long hi, .ref ob])), (ob, .inr (1, [.ref oa, .int (nI k)])), (oa, .inl (G.2.1, n, .inl f))] sz) := by
  refine w_ofW (Qf := fun A => w_Qv G A (fun (_ : Unit) => [(it, .inr (8, [.long (lN 0), .long (lN 4294967295), .ref ob])), (ob, .inr (1, [.ref oa, .int (nI 0)])), (oa, .inl (G.2.1, n, .inl f))]) (fun (_ : Unit) => True)) (cc := cX9_begin) (maxL := 1) (ret := none) (by decide) rfl (Nat.le_of_ble_eq_true rfl) ?_
  intro pZ eZ sZ mZ bZ tZ cZ A hx hb hr hts hown hlocks hml hnm hK hA H locs hP hD hS ls hl
  have hown : sZ.vm.findClass RX9 = some mZ.cls := hown
  have hl : lv_has ls 1 [(0, .ref it)] := hl
  refine lv_aload_n hx hb dX9_begin_0 rfl (lv_at hl 0 rfl) ?_
  refine va_get (D := G.1) (ci := 8) (v := .ref ob) (C := RX9) (T := TX9) (N := 3) hx hb hts hin_X9_begin_9 hown hK.1 hP 0 rfl rfl 2 (by decide) (hts (.fieldLink RX9 7 "MixedPredict$Writer" "out" "LMixedPredict$Bytes;") (List.mem_cons_of_mem _ (List.mem_append_left _ (List.mem_append_left _ (List.mem_append_left _ (List.mem_of_getElem? (i := 0) rfl)))))) (fun _ h9 => h9) rfl dX9_begin_1 ?_
  refine w_fin_v (WR := [(it, .inr (8, [.long lo, .long hi, .ref ob]))]) (va_runV (As := []) (rest := []) ⟨hx, hb, hml, hown, hts⟩ (c_X1_forget l G ob oa n f k H.size) (cwV 0 hts gX9_begin_X1_forget rfl rfl rfl (by decide +kernel) ⟨Nat.le_of_ble_eq_true rfl, Nat.le_of_ble_eq_true rfl⟩) (x_preV (w_pre hK hP hD [1, 2] (by decide) rfl) hK hP (ci := 1) (q0 := 1) rfl rfl) rfl rfl hl.1 rfl (lv_room (Nat.le_of_ble_eq_true rfl)) dX9_begin_4 ⟨Nat.zero_le _, Nat.zero_le _⟩) hP hD hS hA [1, 2] [0] rfl rfl (by decide) (by decide) [0, 1, 2] (by decide) (fun (_ : Unit) => [(it, .inr (8, [.long lo, .long hi, .ref ob])), (ob, .inr (1, [.ref oa, .int (nI 0)])), (oa, .inl (G.2.1, n, .inl f))]) (fun _ => rfl) (fun u H locs hw hP hD hS => ?_)
  have hP : va_P G.1 vwCl [(it, .inr (8, [.long lo, .long hi, .ref ob])), (ob, .inr (1, [.ref oa, .int (nI 0)])), (oa, .inl (G.2.1, n, .inl f))] H := hP
  have hD : va_D A [(it, .inr (8, [.long lo, .long hi, .ref ob])), (ob, .inr (1, [.ref oa, .int (nI 0)])), (oa, .inl (G.2.1, n, .inl f))] := hD
  refine lv_aload_n hx hb dX9_begin_7 rfl (lv_at hl 0 rfl) ?_
  refine w_fin_v (WR := [(ob, .inr (1, [.ref oa, .int (nI 0)])), (oa, .inl (G.2.1, n, .inl f))]) (va_runU (As := []) (rest := []) ⟨hx, hb, hml, hown, hts⟩ (c_X3_open_W l G it ob lo hi H.size) (va_cwU 0 hts gX9_begin_X3_open_u18X9 rfl rfl rfl rfl (by decide +kernel) ⟨Nat.le_of_ble_eq_true rfl, Nat.le_of_ble_eq_true rfl⟩) (x_preV (w_pre hK hP hD [0] (by decide) rfl) hK hP (ci := 8) (q0 := 0) rfl rfl) rfl rfl hl.1 rfl (lv_room (Nat.le_of_ble_eq_true rfl)) dX9_begin_8 ⟨Nat.zero_le _, Nat.zero_le _⟩) hP hD hS hA [0] [1, 2] rfl rfl (by decide) (by decide) [2, 0, 1] (by decide) (fun (_ : Unit) => [(it, .inr (8, [.long (lN 0), .long (lN 4294967295), .ref ob])), (ob, .inr (1, [.ref oa, .int (nI 0)])), (oa, .inl (G.2.1, n, .inl f))]) (fun _ => rfl) (fun u H locs hw hP hD hS => ?_)
  have hP : va_P G.1 vwCl [(it, .inr (8, [.long (lN 0), .long (lN 4294967295), .ref ob])), (ob, .inr (1, [.ref oa, .int (nI 0)])), (oa, .inl (G.2.1, n, .inl f))] H := hP
  have hD : va_D A [(it, .inr (8, [.long (lN 0), .long (lN 4294967295), .ref ob])), (ob, .inr (1, [.ref oa, .int (nI 0)])), (oa, .inl (G.2.1, n, .inl f))] := hD
  exact w_vret () hx hb hr hlocks (trivial) hP hD hS dX9_begin_11

set_option maxHeartbeats 4000000 in
set_option maxRecDepth 100000 in
theorem c_X9_end (l : Launch) (G : GG) (it ob oa n : Nat) (hn : n < 2 ^ 31) (lo hi : Nat) (d : DV) (f : Nat → Int32) (ro : RepO n d f) (en : Nat) (D : Nat → Nat) (qlo : lo < 4294967296) (sz : Nat) : Met l yX9_end wsX9_end ({ frames := 1, cells := 0, slots := 0, locals := 21 } : Room) (w_Pc G [.ref it] sz [(it, .inr (8, [.long (lN lo), .long (lN hi), .ref ob])), (ob, .inr (1, [.ref oa, .int (nI (min d.1 n))])), (oa, .inl (G.2.1, n, .inl f))]) (w_Qv G (va_A [(it, .inr (8, [.long (lN lo), .long (lN hi), .ref ob])), (ob, .inr (1, [.ref oa, .int (nI (min d.1 n))])), (oa, .inl (G.2.1, n, .inl f))] sz) (fun (f2 : Nat → Int32) => [(it, .inr (8, [.long (lN lo), .long (lN hi), .ref ob])), (ob, .inr (1, [.ref oa, .int (nI (min (wnd en D lo d).1 n))])), (oa, .inl (G.2.1, n, .inl f2))]) (fun (f2 : Nat → Int32) => RepO n (wnd en D lo d) f2)) 0 0 (va_A [(it, .inr (8, [.long (lN lo), .long (lN hi), .ref ob])), (ob, .inr (1, [.ref oa, .int (nI (min d.1 n))])), (oa, .inl (G.2.1, n, .inl f))] sz) := by
  refine w_ofW (Qf := fun A => w_Qv G A (fun (f2 : Nat → Int32) => [(it, .inr (8, [.long (lN lo), .long (lN hi), .ref ob])), (ob, .inr (1, [.ref oa, .int (nI (min (wnd en D lo d).1 n))])), (oa, .inl (G.2.1, n, .inl f2))]) (fun (f2 : Nat → Int32) => RepO n (wnd en D lo d) f2)) (cc := cX9_end) (maxL := 3) (ret := none) (by decide) rfl (Nat.le_of_ble_eq_true rfl) ?_
  intro pZ eZ sZ mZ bZ tZ cZ A hx hb hr hts hown hlocks hml hnm hK hA H locs hP hD hS ls hl
  have hown : sZ.vm.findClass RX9 = some mZ.cls := hown
  have hl : lv_has ls 3 [(0, .ref it)] := hl
  refine lv_aload_n hx hb dX9_end_0 rfl (lv_at hl 0 rfl) ?_
  refine va_get (D := G.1) (ci := 8) (v := .long (lN lo)) (C := RX9) (T := TX9) (N := 3) hx hb hts hin_X9_end_9 hown hK.1 hP 0 rfl rfl 0 (by decide) (hts (.fieldLink RX9 25 "MixedPredict$Writer" "low" "J") (List.mem_cons_of_mem _ (List.mem_append_left _ (List.mem_append_left _ (List.mem_append_left _ (List.mem_of_getElem? (i := 0) rfl)))))) (fun x9 h9 => u_same (hts (.sameField "MixedPredict$Writer" "MixedPredict$Interval" "low" "J") (List.mem_cons_of_mem _ (List.mem_append_left _ (List.mem_append_left _ (List.mem_append_left _ (List.mem_of_getElem? (i := 1) rfl)))))) x9 h9) rfl dX9_end_1 ?_
  refine lv_ldc2 (v := 65535) hx hb hown (hts (.constantLong RX9 29 (65535)) (List.mem_cons_of_mem _ (List.mem_append_left _ (List.mem_append_left _ (List.mem_append_left _ (List.mem_of_getElem? (i := 2) rfl)))))) dX9_end_4 ?_
  refine lv_ladd hx hb dX9_end_7 ?_
  refine x_topl (y := lN (lo + 65535)) (lN_add _ _) ?_
  refine lv_ldc2 (v := 4294967295) hx hb hown (hts (.constantLong RX9 31 (4294967295)) (List.mem_cons_of_mem _ (List.mem_append_left _ (List.mem_append_left _ (List.mem_append_left _ (List.mem_of_getElem? (i := 3) rfl)))))) dX9_end_8 ?_
  refine lv_land hx hb dX9_end_11 ?_
  refine x_topl (y := lN ((lo + 65535) % 4294967296)) (l_and32 _) ?_
  refine lv_lstore_n (lv' := [(1, .long (lN ((lo + 65535) % 4294967296))), (0, .ref it)]) hx hb dX9_end_12 rfl hl (by decide) rfl (fun ls hl => ?_)
  refine lv_aload_n hx hb dX9_end_13 rfl (lv_at hl 1 rfl) ?_
  refine va_get (D := G.1) (ci := 8) (v := .ref ob) (C := RX9) (T := TX9) (N := 3) hx hb hts hin_X9_end_9 hown hK.1 hP 0 rfl rfl 2 (by decide) (hts (.fieldLink RX9 7 "MixedPredict$Writer" "out" "LMixedPredict$Bytes;") (List.mem_cons_of_mem _ (List.mem_append_left _ (List.mem_append_left _ (List.mem_append_left _ (List.mem_of_getElem? (i := 4) rfl)))))) (fun _ h9 => h9) rfl dX9_end_14 ?_
  refine lv_lload_n hx hb dX9_end_17 rfl (lv_at hl 0 rfl) ?_
  refine lv_bipush (v := 24) hx hb dX9_end_18 (by decide) ?_
  refine lv_lshr hx hb dX9_end_20 rfl ?_
  refine x_topl (y := lN (((lo + 65535) % 4294967296) / 16777216)) (l_shr24 (by omega)) ?_
  refine lv_l2i hx hb dX9_end_21 rfl ?_
  refine x_top (y := nI (((lo + 65535) % 4294967296) / 16777216)) (lN_i _) ?_
  refine w_fin_v (WR := [(it, .inr (8, [.long (lN lo), .long (lN hi), .ref ob]))]) (va_runV (As := [.int (nI (((lo + 65535) % 4294967296) / 16777216))]) (rest := []) ⟨hx, hb, hml, hown, hts⟩ (c_X1_add l G ob oa n f (min d.1 n) (nI (((lo + 65535) % 4294967296) / 16777216)) (by first | assumption | omega) (by first | assumption | omega) H.size) (cwV 1 hts gX9_end_X1_add rfl rfl rfl (by decide +kernel) ⟨Nat.le_of_ble_eq_true rfl, Nat.le_of_ble_eq_true rfl⟩) (x_preV (w_pre hK hP hD [1, 2] (by decide) rfl) hK hP (ci := 1) (q0 := 1) rfl rfl) rfl rfl hl.1 rfl (lv_room (Nat.le_of_ble_eq_true rfl)) dX9_end_22 ⟨Nat.zero_le _, Nat.zero_le _⟩) hP hD hS hA [1, 2] [0] rfl rfl (by decide) (by decide) [0, 1, 2] (by decide) (fun (_ : Unit) => [(it, .inr (8, [.long (lN lo), .long (lN hi), .ref ob])), (ob, .inr (1, [.ref oa, .int (nI (addK n (min d.1 n)))])), (oa, .inl (G.2.1, n, .inl (addF n (min d.1 n) (nI (((lo + 65535) % 4294967296) / 16777216)) f)))]) (fun _ => rfl) (fun u H locs hw hP hD hS => ?_)
  have hP : va_P G.1 vwCl [(it, .inr (8, [.long (lN lo), .long (lN hi), .ref ob])), (ob, .inr (1, [.ref oa, .int (nI (addK n (min d.1 n)))])), (oa, .inl (G.2.1, n, .inl (addF n (min d.1 n) (nI (((lo + 65535) % 4294967296) / 16777216)) f)))] H := hP
  have hD : va_D A [(it, .inr (8, [.long (lN lo), .long (lN hi), .ref ob])), (ob, .inr (1, [.ref oa, .int (nI (addK n (min d.1 n)))])), (oa, .inl (G.2.1, n, .inl (addF n (min d.1 n) (nI (((lo + 65535) % 4294967296) / 16777216)) f)))] := hD
  have hfe : (min (emt true en D ((lo + 65535) % 4294967296 / 16777216) d).1 n) = (addK n (min d.1 n)) := (addK_min n d.1).symm
  have hP : va_P G.1 vwCl [(it, .inr (8, [.long (lN lo), .long (lN hi), .ref ob])), (ob, .inr (1, [.ref oa, .int (nI (min (emt true en D ((lo + 65535) % 4294967296 / 16777216) d).1 n))])), (oa, .inl (G.2.1, n, .inl (addF n (min d.1 n) (nI (((lo + 65535) % 4294967296) / 16777216)) f)))] H := by rw [hfe]; exact hP
  have hD : va_D A [(it, .inr (8, [.long (lN lo), .long (lN hi), .ref ob])), (ob, .inr (1, [.ref oa, .int (nI (min (emt true en D ((lo + 65535) % 4294967296 / 16777216) d).1 n))])), (oa, .inl (G.2.1, n, .inl (addF n (min d.1 n) (nI (((lo + 65535) % 4294967296) / 16777216)) f)))] := by rw [hfe]; exact hD
  clear hfe
  have ro2 := RepO_add ro en D ((lo + 65535) % 4294967296 / 16777216)
  refine lv_aload_n hx hb dX9_end_25 rfl (lv_at hl 1 rfl) ?_
  refine va_get (D := G.1) (ci := 8) (v := .ref ob) (C := RX9) (T := TX9) (N := 3) hx hb hts hin_X9_end_9 hown hK.1 hP 0 rfl rfl 2 (by decide) (hts (.fieldLink RX9 7 "MixedPredict$Writer" "out" "LMixedPredict$Bytes;") (List.mem_cons_of_mem _ (List.mem_append_left _ (List.mem_append_left _ (List.mem_append_left _ (List.mem_of_getElem? (i := 4) rfl)))))) (fun _ h9 => h9) rfl dX9_end_26 ?_
  refine lv_lload_n hx hb dX9_end_29 rfl (lv_at hl 0 rfl) ?_
  refine lv_bipush (v := 16) hx hb dX9_end_30 (by decide) ?_
  refine lv_lshr hx hb dX9_end_32 rfl ?_
  refine x_topl (y := lN (((lo + 65535) % 4294967296) / 65536)) (l_shr16 (by omega)) ?_
  refine lv_ldc2 (v := 255) hx hb hown (hts (.constantLong RX9 33 (255)) (List.mem_cons_of_mem _ (List.mem_append_left _ (List.mem_append_left _ (List.mem_append_left _ (List.mem_of_getElem? (i := 5) rfl)))))) dX9_end_33 ?_
  refine lv_land hx hb dX9_end_36 ?_
  refine x_topl (y := lN ((((lo + 65535) % 4294967296) / 65536) % 256)) (l_and8 _) ?_
  refine lv_l2i hx hb dX9_end_37 rfl ?_
  refine x_top (y := nI ((((lo + 65535) % 4294967296) / 65536) % 256)) (lN_i _) ?_
  refine w_fin_v (WR := [(it, .inr (8, [.long (lN lo), .long (lN hi), .ref ob]))]) (va_runV (As := [.int (nI ((((lo + 65535) % 4294967296) / 65536) % 256))]) (rest := []) ⟨hx, hb, hml, hown, hts⟩ (c_X1_add l G ob oa n (addF n (min d.1 n) (nI (((lo + 65535) % 4294967296) / 16777216)) f) (min (emt true en D ((lo + 65535) % 4294967296 / 16777216) d).1 n) (nI ((((lo + 65535) % 4294967296) / 65536) % 256)) (by first | assumption | omega) (by first | assumption | omega) H.size) (cwV 1 hts gX9_end_X1_add rfl rfl rfl (by decide +kernel) ⟨Nat.le_of_ble_eq_true rfl, Nat.le_of_ble_eq_true rfl⟩) (x_preV (w_pre hK hP hD [1, 2] (by decide) rfl) hK hP (ci := 1) (q0 := 1) rfl rfl) rfl rfl hl.1 rfl (lv_room (Nat.le_of_ble_eq_true rfl)) dX9_end_38 ⟨Nat.zero_le _, Nat.zero_le _⟩) hP hD hS hA [1, 2] [0] rfl rfl (by decide) (by decide) [0, 1, 2] (by decide) (fun (_ : Unit) => [(it, .inr (8, [.long (lN lo), .long (lN hi), .ref ob])), (ob, .inr (1, [.ref oa, .int (nI (addK n (min (emt true en D ((lo + 65535) % 4294967296 / 16777216) d).1 n)))])), (oa, .inl (G.2.1, n, .inl (addF n (min (emt true en D ((lo + 65535) % 4294967296 / 16777216) d).1 n) (nI ((((lo + 65535) % 4294967296) / 65536) % 256)) (addF n (min d.1 n) (nI (((lo + 65535) % 4294967296) / 16777216)) f))))]) (fun _ => rfl) (fun u H locs hw hP hD hS => ?_)
  have hP : va_P G.1 vwCl [(it, .inr (8, [.long (lN lo), .long (lN hi), .ref ob])), (ob, .inr (1, [.ref oa, .int (nI (addK n (min (emt true en D ((lo + 65535) % 4294967296 / 16777216) d).1 n)))])), (oa, .inl (G.2.1, n, .inl (addF n (min (emt true en D ((lo + 65535) % 4294967296 / 16777216) d).1 n) (nI ((((lo + 65535) % 4294967296) / 65536) % 256)) (addF n (min d.1 n) (nI (((lo + 65535) % 4294967296) / 16777216)) f))))] H := hP
  have hD : va_D A [(it, .inr (8, [.long (lN lo), .long (lN hi), .ref ob])), (ob, .inr (1, [.ref oa, .int (nI (addK n (min (emt true en D ((lo + 65535) % 4294967296 / 16777216) d).1 n)))])), (oa, .inl (G.2.1, n, .inl (addF n (min (emt true en D ((lo + 65535) % 4294967296 / 16777216) d).1 n) (nI ((((lo + 65535) % 4294967296) / 65536) % 256)) (addF n (min d.1 n) (nI (((lo + 65535) % 4294967296) / 16777216)) f))))] := hD
  have hfe : (min (wnd en D lo d).1 n) = (addK n (min (emt true en D ((lo + 65535) % 4294967296 / 16777216) d).1 n)) := (addK_min n _).symm
  have hP : va_P G.1 vwCl [(it, .inr (8, [.long (lN lo), .long (lN hi), .ref ob])), (ob, .inr (1, [.ref oa, .int (nI (min (wnd en D lo d).1 n))])), (oa, .inl (G.2.1, n, .inl (addF n (min (emt true en D ((lo + 65535) % 4294967296 / 16777216) d).1 n) (nI ((((lo + 65535) % 4294967296) / 65536) % 256)) (addF n (min d.1 n) (nI (((lo + 65535) % 4294967296) / 16777216)) f))))] H := by rw [hfe]; exact hP
  have hD : va_D A [(it, .inr (8, [.long (lN lo), .long (lN hi), .ref ob])), (ob, .inr (1, [.ref oa, .int (nI (min (wnd en D lo d).1 n))])), (oa, .inl (G.2.1, n, .inl (addF n (min (emt true en D ((lo + 65535) % 4294967296 / 16777216) d).1 n) (nI ((((lo + 65535) % 4294967296) / 65536) % 256)) (addF n (min d.1 n) (nI (((lo + 65535) % 4294967296) / 16777216)) f))))] := by rw [hfe]; exact hD
  clear hfe
  exact w_vret (addF n (min (emt true en D ((lo + 65535) % 4294967296 / 16777216) d).1 n) (nI ((((lo + 65535) % 4294967296) / 65536) % 256)) (addF n (min d.1 n) (nI (((lo + 65535) % 4294967296) / 16777216)) f)) hx hb hr hlocks (RepO_add ro2 en D ((lo + 65535) % 4294967296 / 65536 % 256)) hP hD hS dX9_end_41

set_option maxHeartbeats 4000000 in
set_option maxRecDepth 100000 in
theorem c_X3_narrow_W (l : Launch) (G : GG) (it ob oa n : Nat) (hn : n < 2 ^ 31) (lo hi : Nat) (d : DV) (f : Nat → Int32) (ro : RepO n d f) (en : Nat) (D : Nat → Nat) (p t : Nat) (qlo : lo < hi) (qhi : hi < 4294967296) (qp : p < 65536) (qt : t < 2) (sz : Nat) : Met l yX3_narrow wsX3_narrow ({ frames := 2, cells := 0, slots := 0, locals := 42 } : Room) (w_Pc G [.ref it, .int (nI p), .int (nI t)] sz [(it, .inr (8, [.long (lN lo), .long (lN hi), .ref ob])), (ob, .inr (1, [.ref oa, .int (nI (min d.1 n))])), (oa, .inl (G.2.1, n, .inl f))]) (w_Qi G (va_A [(it, .inr (8, [.long (lN lo), .long (lN hi), .ref ob])), (ob, .inr (1, [.ref oa, .int (nI (min d.1 n))])), (oa, .inl (G.2.1, n, .inl f))] sz) (fun (f2 : Nat → Int32) => [(it, .inr (8, [.long (lN ((narx true en D t lo hi p d).1)), .long (lN ((narx true en D t lo hi p d).2.1)), .ref ob])), (ob, .inr (1, [.ref oa, .int (nI (min (narx true en D t lo hi p d).2.2.1 n))])), (oa, .inl (G.2.1, n, .inl f2))]) (fun r (f2 : Nat → Int32) => r = (nI t) ∧ RepO n (narx true en D t lo hi p d).2.2 f2)) 0 0 (va_A [(it, .inr (8, [.long (lN lo), .long (lN hi), .ref ob])), (ob, .inr (1, [.ref oa, .int (nI (min d.1 n))])), (oa, .inl (G.2.1, n, .inl f))] sz) := by
  refine w_ofW (Qf := fun A => w_Qi G A (fun (f2 : Nat → Int32) => [(it, .inr (8, [.long (lN ((narx true en D t lo hi p d).1)), .long (lN ((narx true en D t lo hi p d).2.1)), .ref ob])), (ob, .inr (1, [.ref oa, .int (nI (min (narx true en D t lo hi p d).2.2.1 n))])), (oa, .inl (G.2.1, n, .inl f2))]) (fun r (f2 : Nat → Int32) => r = (nI t) ∧ RepO n (narx true en D t lo hi p d).2.2 f2)) (cc := cX3_narrow) (maxL := 7) (ret := (some .int)) (by decide) rfl (Nat.le_of_ble_eq_true rfl) ?_
  intro pZ eZ sZ mZ bZ tZ cZ A hx hb hr hts hown hlocks hml hnm hK hA H locs hP hD hS ls hl
  have hown : sZ.vm.findClass RX3 = some mZ.cls := hown
  have hl : lv_has ls 7 [(0, .ref it), (1, .int (nI p)), (2, .int (nI t))] := hl
  have qs := spl_in qlo qp
  have q5 : (hi - lo) * p < 4294967296 * 65536 := Nat.mul_lt_mul_of_lt_of_lt (by omega) qp
  refine lv_aload_n hx hb dX3_narrow_0 rfl (lv_at hl 0 rfl) ?_
  refine va_get (D := G.1) (ci := 8) (v := .long (lN lo)) (C := RX9) (T := TX9) (N := 3) hx hb hts hin_X3_narrow_9 hown hK.1 hP 0 rfl rfl 0 (by decide) (hts (.fieldLink RX3 7 "MixedPredict$Interval" "low" "J") (List.mem_cons_of_mem _ (List.mem_append_left _ (List.mem_append_left _ (List.mem_append_left _ (List.mem_append_left _ (List.mem_of_getElem? (i := 0) rfl))))))) (fun _ h9 => h9) rfl dX3_narrow_1 ?_
  refine lv_aload_n hx hb dX3_narrow_4 rfl (lv_at hl 0 rfl) ?_
  refine va_get (D := G.1) (ci := 8) (v := .long (lN hi)) (C := RX9) (T := TX9) (N := 3) hx hb hts hin_X3_narrow_9 hown hK.1 hP 0 rfl rfl 1 (by decide) (hts (.fieldLink RX3 15 "MixedPredict$Interval" "high" "J") (List.mem_cons_of_mem _ (List.mem_append_left _ (List.mem_append_left _ (List.mem_append_left _ (List.mem_append_left _ (List.mem_of_getElem? (i := 1) rfl))))))) (fun _ h9 => h9) rfl dX3_narrow_5 ?_
  refine lv_aload_n hx hb dX3_narrow_8 rfl (lv_at hl 0 rfl) ?_
  refine va_get (D := G.1) (ci := 8) (v := .long (lN lo)) (C := RX9) (T := TX9) (N := 3) hx hb hts hin_X3_narrow_9 hown hK.1 hP 0 rfl rfl 0 (by decide) (hts (.fieldLink RX3 7 "MixedPredict$Interval" "low" "J") (List.mem_cons_of_mem _ (List.mem_append_left _ (List.mem_append_left _ (List.mem_append_left _ (List.mem_append_left _ (List.mem_of_getElem? (i := 0) rfl))))))) (fun _ h9 => h9) rfl dX3_narrow_9 ?_
  refine lv_lsub hx hb dX3_narrow_12 ?_
  refine x_topl (y := lN (hi - lo)) (lN_sub (by omega)) ?_
  refine lv_iload_n hx hb dX3_narrow_13 rfl (lv_at hl 1 rfl) ?_
  refine lv_i2l hx hb dX3_narrow_14 rfl ?_
  refine x_topl (y := lN p) (nI_l (by omega)) ?_
  refine lv_lmul hx hb dX3_narrow_15 ?_
  refine x_topl (y := lN ((hi - lo) * p)) (lN_mul _ _) ?_
  refine lv_ldc2 (v := 65536) hx hb hown (hts (.constantLong RX3 18 (65536)) (List.mem_cons_of_mem _ (List.mem_append_left _ (List.mem_append_left _ (List.mem_append_left _ (List.mem_append_left _ (List.mem_of_getElem? (i := 2) rfl))))))) dX3_narrow_16 ?_
  refine lv_ldiv hx hb dX3_narrow_19 (by decide) ?_
  refine x_topl (y := lN (((hi - lo) * p) / 65536)) (pk_lDiv (a := (hi - lo) * p) (b := 65536) (by omega) (by omega) (by omega)) ?_
  refine lv_ladd hx hb dX3_narrow_20 ?_
  refine x_topl (y := lN (lo + (((hi - lo) * p) / 65536))) (lN_add _ _) ?_
  refine x_topl (y := lN (spl lo hi p)) (rfl) ?_
  refine lv_lstore_n (lv' := [(3, .long (lN (spl lo hi p))), (0, .ref it), (1, .int (nI p)), (2, .int (nI t))]) hx hb dX3_narrow_21 rfl hl (by decide) rfl (fun ls hl => ?_)
  refine lv_aload_n hx hb dX3_narrow_22 rfl (lv_at hl 1 rfl) ?_
  refine lv_lload_n hx hb dX3_narrow_23 rfl (lv_at hl 0 rfl) ?_
  refine lv_iload_n hx hb dX3_narrow_24 rfl (lv_at hl 3 rfl) ?_
  refine r_fin_i (va_runU (As := [.long (lN (spl lo hi p)), .int (nI t)]) (rest := []) ⟨hx, hb, hml, hown, hts⟩ (c_X9_choose l G it (lN (spl lo hi p)) t) (va_cwA 2 hts gX3_narrow_X9_choose_u20X9 rfl rfl rfl hK.2.2.1 (by decide +kernel) ⟨Nat.le_of_ble_eq_true rfl, Nat.le_of_ble_eq_true rfl⟩) (x_preV (r_pre hK hP [] rfl) hK hP (ci := 8) (q0 := 0) rfl rfl) rfl rfl hl.1 rfl (lv_room (Nat.le_of_ble_eq_true rfl)) dX3_narrow_25 ⟨Nat.zero_le _, Nat.zero_le _⟩) (fun r_1 hw => ?_)
  subst hw
  refine lv_istore (lv' := [(5, .int (nI t)), (3, .long (lN (spl lo hi p))), (0, .ref it), (1, .int (nI p)), (2, .int (nI t))]) hx hb dX3_narrow_28 hl (by decide) rfl (fun ls hl => ?_)
  refine lv_iload hx hb dX3_narrow_30 (lv_at hl 0 rfl) ?_
  refine lv_iconst (v := 1) hx hb dX3_narrow_32 (by decide) ?_
  refine x_joinH (α := (Nat) × (Nat) × (Array Slot)) (fun z9 => F0 mZ 51 z9.2.2 []) (fun z9 H locs => (nrm true en D 4 ((z9.1), (z9.2.1), d) = narx true en D t lo hi p d ∧ (z9.1) ≤ (z9.2.1) ∧ (z9.2.1) < 4294967296) ∧ lv_has z9.2.2 7 [(0, .ref it), (1, .int (nI p)), (2, .int (nI t)), (3, .long (lN (spl lo hi p))), (5, .int (nI t))] ∧ va_P G.1 vwCl [(it, .inr (8, [.long (lN z9.1), .long (lN z9.2.1), .ref ob])), (ob, .inr (1, [.ref oa, .int (nI (min d.1 n))])), (oa, .inl (G.2.1, n, .inl f))] H ∧ va_D A [(it, .inr (8, [.long (lN z9.1), .long (lN z9.2.1), .ref ob])), (ob, .inr (1, [.ref oa, .int (nI (min d.1 n))])), (oa, .inl (G.2.1, n, .inl f))] ∧ va_S A sZ.heap H locs) (fun z9 H locs hJ9 => ?_) (fun hj_2 => ?_)
  · obtain ⟨l9, h9, ls⟩ := z9
    obtain ⟨hj9, hl, hP, hD, hS⟩ := hJ9
    have hj9 : nrm true en D 4 (l9, h9, d) = narx true en D t lo hi p d ∧ l9 ≤ h9 ∧ h9 < 4294967296 := hj9
    have hl : lv_has ls 7 [(0, .ref it), (1, .int (nI p)), (2, .int (nI t)), (3, .long (lN (spl lo hi p))), (5, .int (nI t))] := hl
    have hP : va_P G.1 vwCl [(it, .inr (8, [.long (lN l9), .long (lN h9), .ref ob])), (ob, .inr (1, [.ref oa, .int (nI (min d.1 n))])), (oa, .inl (G.2.1, n, .inl f))] H := hP
    have hD : va_D A [(it, .inr (8, [.long (lN l9), .long (lN h9), .ref ob])), (ob, .inr (1, [.ref oa, .int (nI (min d.1 n))])), (oa, .inl (G.2.1, n, .inl f))] := hD
    refine lv_iconst (v := 0) hx hb dX3_narrow_51 (by decide) ?_
    refine lv_istore (lv' := [(6, .int 0), (0, .ref it), (1, .int (nI p)), (2, .int (nI t)), (3, .long (lN (spl lo hi p))), (5, .int (nI t))]) hx hb dX3_narrow_52 hl (by decide) rfl (fun ls hl => ?_)
    refine x_loop (α := (Nat) × (Nat) × (Nat) × (DV) × (Nat → Int32) × (Array Slot)) (fun z9 => F0 mZ 54 z9.2.2.2.2.2 []) (fun z9 H locs => ((z9.1) ≤ 4 ∧ nrm true en D (4 - (z9.1)) ((z9.2.1), (z9.2.2.1), (z9.2.2.2.1)) = narx true en D t lo hi p d ∧ (z9.2.1) ≤ (z9.2.2.1) ∧ (z9.2.2.1) < 4294967296 ∧ RepO n (z9.2.2.2.1) (z9.2.2.2.2.1)) ∧ lv_has z9.2.2.2.2.2 7 [(0, .ref it), (1, .int (nI p)), (2, .int (nI t)), (3, .long (lN (spl lo hi p))), (5, .int (nI t)), (6, .int (nI (z9.1)))] ∧ va_P G.1 vwCl [(it, .inr (8, [.long (lN z9.2.1), .long (lN z9.2.2.1), .ref ob])), (ob, .inr (1, [.ref oa, .int (nI (min (z9.2.2.2.1).1 n))])), (oa, .inl (G.2.1, n, .inl (z9.2.2.2.2.1)))] H ∧ va_D A [(it, .inr (8, [.long (lN z9.2.1), .long (lN z9.2.2.1), .ref ob])), (ob, .inr (1, [.ref oa, .int (nI (min (z9.2.2.2.1).1 n))])), (oa, .inl (G.2.1, n, .inl (z9.2.2.2.2.1)))] ∧ va_S A sZ.heap H locs) (fun z9 => 4 - (z9.1)) (fun z9 H locs hI ih_3 => ?_) (0, l9, h9, d, f, ls) _ _ ⟨(show 0 ≤ 4 ∧ nrm true en D (4 - 0) (l9, h9, d) = narx true en D t lo hi p d ∧ l9 ≤ h9 ∧ h9 < 4294967296 ∧ RepO n d f from ⟨Nat.zero_le _, hj9.1, hj9.2.1, hj9.2.2, ro⟩), lv_sub hl [1, 2, 3, 4, 5, 0] rfl, hP, hD, hS⟩
    obtain ⟨i, l9, h9, d9, g9, ls⟩ := z9
    obtain ⟨hI, hl, hP, hD, hS⟩ := hI
    have hI : i ≤ 4 ∧ nrm true en D (4 - i) (l9, h9, d9) = narx true en D t lo hi p d ∧ l9 ≤ h9 ∧ h9 < 4294967296 ∧ RepO n d9 g9 := hI
    have hl : lv_has ls 7 [(0, .ref it), (1, .int (nI p)), (2, .int (nI t)), (3, .long (lN (spl lo hi p))), (5, .int (nI t)), (6, .int (nI i))] := hl
    have hP : va_P G.1 vwCl [(it, .inr (8, [.long (lN l9), .long (lN h9), .ref ob])), (ob, .inr (1, [.ref oa, .int (nI (min d9.1 n))])), (oa, .inl (G.2.1, n, .inl g9))] H := hP
    have hD : va_D A [(it, .inr (8, [.long (lN l9), .long (lN h9), .ref ob])), (ob, .inr (1, [.ref oa, .int (nI (min d9.1 n))])), (oa, .inl (G.2.1, n, .inl g9))] := hD
    refine lv_iload hx hb dX3_narrow_54 (lv_at hl 5 rfl) ?_
    refine lv_iconst (v := 4) hx hb dX3_narrow_56 (by decide) ?_
    refine lv_icmp_ge (tgt := 130) hx hb dX3_narrow_57 (by decide) (fun c_57 => ?_) (fun c_57 => ?_)
    · skip
      have c_57 : 4 ≤ i := (nI_leI (a := 4) (b := i) (by omega) (by omega)).mp c_57
      have hX : narx true en D t lo hi p d = (l9, h9, d9) := by rw [← hI.2.1, show 4 - i = 0 by omega]; rfl
      have hfe : ((narx true en D t lo hi p d).1) = l9 := Eq.symm (by rw [hX])
      have hP : va_P G.1 vwCl [(it, .inr (8, [.long (lN ((narx true en D t lo hi p d).1)), .long (lN h9), .ref ob])), (ob, .inr (1, [.ref oa, .int (nI (min d9.1 n))])), (oa, .inl (G.2.1, n, .inl g9))] H := by rw [hfe]; exact hP
      have hD : va_D A [(it, .inr (8, [.long (lN ((narx true en D t lo hi p d).1)), .long (lN h9), .ref ob])), (ob, .inr (1, [.ref oa, .int (nI (min d9.1 n))])), (oa, .inl (G.2.1, n, .inl g9))] := by rw [hfe]; exact hD
      clear hfe
      have hfe : ((narx true en D t lo hi p d).2.1) = h9 := Eq.symm (by rw [hX])
      have hP : va_P G.1 vwCl [(it, .inr (8, [.long (lN ((narx true en D t lo hi p d).1)), .long (lN ((narx true en D t lo hi p d).2.1)), .ref ob])), (ob, .inr (1, [.ref oa, .int (nI (min d9.1 n))])), (oa, .inl (G.2.1, n, .inl g9))] H := by rw [hfe]; exact hP
      have hD : va_D A [(it, .inr (8, [.long (lN ((narx true en D t lo hi p d).1)), .long (lN ((narx true en D t lo hi p d).2.1)), .ref ob])), (ob, .inr (1, [.ref oa, .int (nI (min d9.1 n))])), (oa, .inl (G.2.1, n, .inl g9))] := by rw [hfe]; exact hD
      clear hfe
      have hfe : (min (narx true en D t lo hi p d).2.2.1 n) = (min d9.1 n) := Eq.symm (by rw [hX])
      have hP : va_P G.1 vwCl [(it, .inr (8, [.long (lN ((narx true en D t lo hi p d).1)), .long (lN ((narx true en D t lo hi p d).2.1)), .ref ob])), (ob, .inr (1, [.ref oa, .int (nI (min (narx true en D t lo hi p d).2.2.1 n))])), (oa, .inl (G.2.1, n, .inl g9))] H := by rw [hfe]; exact hP
      have hD : va_D A [(it, .inr (8, [.long (lN ((narx true en D t lo hi p d).1)), .long (lN ((narx true en D t lo hi p d).2.1)), .ref ob])), (ob, .inr (1, [.ref oa, .int (nI (min (narx true en D t lo hi p d).2.2.1 n))])), (oa, .inl (G.2.1, n, .inl g9))] := by rw [hfe]; exact hD
      clear hfe
      refine lv_iload hx hb dX3_narrow_130 (lv_at hl 4 rfl) ?_
      exact w_iret g9 hx hb hr hlocks (⟨rfl, by rw [hX]; exact hI.2.2.2.2⟩) hP hD hS dX3_narrow_132
    · skip
      have c_57 : ¬ (4 ≤ i) := fun z8 => c_57 ((nI_leI (a := 4) (b := i) (by omega) (by omega)).mpr z8)
      refine lv_aload_n hx hb dX3_narrow_60 rfl (lv_at hl 0 rfl) ?_
      refine va_get (D := G.1) (ci := 8) (v := .long (lN l9)) (C := RX9) (T := TX9) (N := 3) hx hb hts hin_X3_narrow_9 hown hK.1 hP 0 rfl rfl 0 (by decide) (hts (.fieldLink RX3 7 "MixedPredict$Interval" "low" "J") (List.mem_cons_of_mem _ (List.mem_append_left _ (List.mem_append_left _ (List.mem_append_left _ (List.mem_append_left _ (List.mem_of_getElem? (i := 0) rfl))))))) (fun _ h9 => h9) rfl dX3_narrow_61 ?_
      refine lv_bipush (v := 24) hx hb dX3_narrow_64 (by decide) ?_
      refine lv_lshr hx hb dX3_narrow_66 rfl ?_
      refine x_topl (y := lN (l9 / 16777216)) (l_shr24 (by omega)) ?_
      refine lv_aload_n hx hb dX3_narrow_67 rfl (lv_at hl 0 rfl) ?_
      refine va_get (D := G.1) (ci := 8) (v := .long (lN h9)) (C := RX9) (T := TX9) (N := 3) hx hb hts hin_X3_narrow_9 hown hK.1 hP 0 rfl rfl 1 (by decide) (hts (.fieldLink RX3 15 "MixedPredict$Interval" "high" "J") (List.mem_cons_of_mem _ (List.mem_append_left _ (List.mem_append_left _ (List.mem_append_left _ (List.mem_append_left _ (List.mem_of_getElem? (i := 1) rfl))))))) (fun _ h9 => h9) rfl dX3_narrow_68 ?_
      refine lv_bipush (v := 24) hx hb dX3_narrow_71 (by decide) ?_
      refine lv_lshr hx hb dX3_narrow_73 rfl ?_
      refine x_topl (y := lN (h9 / 16777216)) (l_shr24 (by omega)) ?_
      refine W.lcmp hx hb dX3_narrow_74 ?_
      refine lv_if_ne (tgt := 130) hx hb dX3_narrow_75 (by decide) (fun c_75 => ?_) (fun c_75 => ?_)
      · skip
        have c_75 := fun z8 => c_75 ((lg_cmp_eq _ _).mpr z8)
        have c_75 : ¬ (l9 / 16777216 = h9 / 16777216) := fun z8 => c_75 ((lN_eqI (a := l9 / 16777216) (b := h9 / 16777216) (by omega) (by omega)).mpr z8)
        have hX : narx true en D t lo hi p d = (l9, h9, d9) := by rw [← hI.2.1]; exact nrm_e c_75
        have hfe : ((narx true en D t lo hi p d).1) = l9 := Eq.symm (by rw [hX])
        have hP : va_P G.1 vwCl [(it, .inr (8, [.long (lN ((narx true en D t lo hi p d).1)), .long (lN h9), .ref ob])), (ob, .inr (1, [.ref oa, .int (nI (min d9.1 n))])), (oa, .inl (G.2.1, n, .inl g9))] H := by rw [hfe]; exact hP
        have hD : va_D A [(it, .inr (8, [.long (lN ((narx true en D t lo hi p d).1)), .long (lN h9), .ref ob])), (ob, .inr (1, [.ref oa, .int (nI (min d9.1 n))])), (oa, .inl (G.2.1, n, .inl g9))] := by rw [hfe]; exact hD
        clear hfe
        have hfe : ((narx true en D t lo hi p d).2.1) = h9 := Eq.symm (by rw [hX])
        have hP : va_P G.1 vwCl [(it, .inr (8, [.long (lN ((narx true en D t lo hi p d).1)), .long (lN ((narx true en D t lo hi p d).2.1)), .ref ob])), (ob, .inr (1, [.ref oa, .int (nI (min d9.1 n))])), (oa, .inl (G.2.1, n, .inl g9))] H := by rw [hfe]; exact hP
        have hD : va_D A [(it, .inr (8, [.long (lN ((narx true en D t lo hi p d).1)), .long (lN ((narx true en D t lo hi p d).2.1)), .ref ob])), (ob, .inr (1, [.ref oa, .int (nI (min d9.1 n))])), (oa, .inl (G.2.1, n, .inl g9))] := by rw [hfe]; exact hD
        clear hfe
        have hfe : (min (narx true en D t lo hi p d).2.2.1 n) = (min d9.1 n) := Eq.symm (by rw [hX])
        have hP : va_P G.1 vwCl [(it, .inr (8, [.long (lN ((narx true en D t lo hi p d).1)), .long (lN ((narx true en D t lo hi p d).2.1)), .ref ob])), (ob, .inr (1, [.ref oa, .int (nI (min (narx true en D t lo hi p d).2.2.1 n))])), (oa, .inl (G.2.1, n, .inl g9))] H := by rw [hfe]; exact hP
        have hD : va_D A [(it, .inr (8, [.long (lN ((narx true en D t lo hi p d).1)), .long (lN ((narx true en D t lo hi p d).2.1)), .ref ob])), (ob, .inr (1, [.ref oa, .int (nI (min (narx true en D t lo hi p d).2.2.1 n))])), (oa, .inl (G.2.1, n, .inl g9))] := by rw [hfe]; exact hD
        clear hfe
        refine lv_iload hx hb dX3_narrow_130 (lv_at hl 4 rfl) ?_
        exact w_iret g9 hx hb hr hlocks (⟨rfl, by rw [hX]; exact hI.2.2.2.2⟩) hP hD hS dX3_narrow_132
      · skip
        have c_75 := (lg_cmp_eq _ _).mp c_75
        have c_75 : l9 / 16777216 = h9 / 16777216 := (lN_eqI (a := l9 / 16777216) (b := h9 / 16777216) (by omega) (by omega)).mp c_75
        refine lv_aload_n hx hb dX3_narrow_78 rfl (lv_at hl 0 rfl) ?_
        refine lv_aload_n hx hb dX3_narrow_79 rfl (lv_at hl 0 rfl) ?_
        refine va_get (D := G.1) (ci := 8) (v := .long (lN l9)) (C := RX9) (T := TX9) (N := 3) hx hb hts hin_X3_narrow_9 hown hK.1 hP 0 rfl rfl 0 (by decide) (hts (.fieldLink RX3 7 "MixedPredict$Interval" "low" "J") (List.mem_cons_of_mem _ (List.mem_append_left _ (List.mem_append_left _ (List.mem_append_left _ (List.mem_append_left _ (List.mem_of_getElem? (i := 0) rfl))))))) (fun _ h9 => h9) rfl dX3_narrow_80 ?_
        refine lv_bipush (v := 24) hx hb dX3_narrow_83 (by decide) ?_
        refine lv_lshr hx hb dX3_narrow_85 rfl ?_
        refine x_topl (y := lN (l9 / 16777216)) (l_shr24 (by omega)) ?_
        refine lv_l2i hx hb dX3_narrow_86 rfl ?_
        refine x_top (y := nI (l9 / 16777216)) (lN_i _) ?_
        refine w_fin_v (WR := []) (va_runU (As := [.int (nI (l9 / 16777216))]) (rest := []) ⟨hx, hb, hml, hown, hts⟩ (c_X9_leave l G it ob oa n (by first | assumption | omega) l9 h9 d9 g9 (hI.2.2.2.2) en D (l9 / 16777216) H.size) (va_cwA 1 hts gX3_narrow_X9_leave_u24X9 rfl rfl rfl hK.2.2.2 (by decide +kernel) ⟨Nat.le_of_ble_eq_true rfl, Nat.le_of_ble_eq_true rfl⟩) (x_preV (w_pre hK hP hD [0, 1, 2] (by decide) rfl) hK hP (ci := 8) (q0 := 0) rfl rfl) rfl rfl hl.1 rfl (lv_room (Nat.le_of_ble_eq_true rfl)) dX3_narrow_87 ⟨Nat.zero_le _, Nat.zero_le _⟩) hP hD hS hA [0, 1, 2] [] rfl rfl (by decide) (by decide) [0, 1, 2] (by decide) (fun (f2 : Nat → Int32) => [(it, .inr (8, [.long (lN l9), .long (lN h9), .ref ob])), (ob, .inr (1, [.ref oa, .int (nI (min (emt true en D (l9 / 16777216) d9).1 n))])), (oa, .inl (G.2.1, n, .inl f2))]) (fun _ => rfl) (fun u H locs hw hP hD hS => ?_)
        obtain ⟨f2_4, rfl⟩ : ∃ z, z = u := ⟨_, rfl⟩
        have hP : va_P G.1 vwCl [(it, .inr (8, [.long (lN l9), .long (lN h9), .ref ob])), (ob, .inr (1, [.ref oa, .int (nI (min (emt true en D (l9 / 16777216) d9).1 n))])), (oa, .inl (G.2.1, n, .inl f2_4))] H := hP
        have hD : va_D A [(it, .inr (8, [.long (lN l9), .long (lN h9), .ref ob])), (ob, .inr (1, [.ref oa, .int (nI (min (emt true en D (l9 / 16777216) d9).1 n))])), (oa, .inl (G.2.1, n, .inl f2_4))] := hD
        have hw : RepO n (emt true en D (l9 / 16777216) d9) f2_4 := hw
        refine lv_aload_n hx hb dX3_narrow_90 rfl (lv_at hl 0 rfl) ?_
        refine lv_aload_n hx hb dX3_narrow_91 rfl (lv_at hl 0 rfl) ?_
        refine va_get (D := G.1) (ci := 8) (v := .long (lN l9)) (C := RX9) (T := TX9) (N := 3) hx hb hts hin_X3_narrow_9 hown hK.1 hP 0 rfl rfl 0 (by decide) (hts (.fieldLink RX3 7 "MixedPredict$Interval" "low" "J") (List.mem_cons_of_mem _ (List.mem_append_left _ (List.mem_append_left _ (List.mem_append_left _ (List.mem_append_left _ (List.mem_of_getElem? (i := 0) rfl))))))) (fun _ h9 => h9) rfl dX3_narrow_92 ?_
        refine lv_bipush (v := 8) hx hb dX3_narrow_95 (by decide) ?_
        refine lv_lshl hx hb dX3_narrow_97 rfl ?_
        refine x_topl (y := lN (l9 * 256)) (l_shl8 (by omega)) ?_
        refine lv_ldc2 (v := 4294967295) hx hb hown (hts (.constantLong RX3 13 (4294967295)) (List.mem_cons_of_mem _ (List.mem_append_left _ (List.mem_append_left _ (List.mem_append_left _ (List.mem_append_left _ (List.mem_of_getElem? (i := 3) rfl))))))) dX3_narrow_98 ?_
        refine lv_land hx hb dX3_narrow_101 ?_
        refine x_topl (y := lN ((l9 * 256) % 4294967296)) (l_and32 _) ?_
        refine va_put (D := G.1) (ci := 8) (v := .long (lN ((l9 * 256) % 4294967296))) (ty := tyX9 0) (C := RX9) (T := TX9) (N := 3) hx hb hts hin_X3_narrow_9 tyX9 tyX9_ok nmX9 hown hK.1 hP hD hS 0 rfl rfl 0 (by decide) (hts (.fieldLink RX3 7 "MixedPredict$Interval" "low" "J") (List.mem_cons_of_mem _ (List.mem_append_left _ (List.mem_append_left _ (List.mem_append_left _ (List.mem_append_left _ (List.mem_of_getElem? (i := 0) rfl))))))) (fun _ h9 => h9) rfl (tyX9_ok 0 (by decide)) rfl rfl (Nat.le_of_ble_eq_true rfl) dX3_narrow_102 (fun H locs hP hD hS => ?_)
        have hP : va_P G.1 vwCl [(it, .inr (8, [.long (lN ((l9 * 256) % 4294967296)), .long (lN h9), .ref ob])), (ob, .inr (1, [.ref oa, .int (nI (min (emt true en D (l9 / 16777216) d9).1 n))])), (oa, .inl (G.2.1, n, .inl f2_4))] H := hP
        have hD : va_D A [(it, .inr (8, [.long (lN ((l9 * 256) % 4294967296)), .long (lN h9), .ref ob])), (ob, .inr (1, [.ref oa, .int (nI (min (emt true en D (l9 / 16777216) d9).1 n))])), (oa, .inl (G.2.1, n, .inl f2_4))] := hD
        refine lv_aload_n hx hb dX3_narrow_105 rfl (lv_at hl 0 rfl) ?_
        refine lv_aload_n hx hb dX3_narrow_106 rfl (lv_at hl 0 rfl) ?_
        refine va_get (D := G.1) (ci := 8) (v := .long (lN h9)) (C := RX9) (T := TX9) (N := 3) hx hb hts hin_X3_narrow_9 hown hK.1 hP 0 rfl rfl 1 (by decide) (hts (.fieldLink RX3 15 "MixedPredict$Interval" "high" "J") (List.mem_cons_of_mem _ (List.mem_append_left _ (List.mem_append_left _ (List.mem_append_left _ (List.mem_append_left _ (List.mem_of_getElem? (i := 1) rfl))))))) (fun _ h9 => h9) rfl dX3_narrow_107 ?_
        refine lv_bipush (v := 8) hx hb dX3_narrow_110 (by decide) ?_
        refine lv_lshl hx hb dX3_narrow_112 rfl ?_
        refine x_topl (y := lN (h9 * 256)) (l_shl8 (by omega)) ?_
        refine lv_ldc2 (v := 4294967295) hx hb hown (hts (.constantLong RX3 13 (4294967295)) (List.mem_cons_of_mem _ (List.mem_append_left _ (List.mem_append_left _ (List.mem_append_left _ (List.mem_append_left _ (List.mem_of_getElem? (i := 3) rfl))))))) dX3_narrow_113 ?_
        refine lv_land hx hb dX3_narrow_116 ?_
        refine x_topl (y := lN ((h9 * 256) % 4294967296)) (l_and32 _) ?_
        refine lv_ldc2 (v := 255) hx hb hown (hts (.constantLong RX3 28 (255)) (List.mem_cons_of_mem _ (List.mem_append_left _ (List.mem_append_left _ (List.mem_append_left _ (List.mem_append_left _ (List.mem_of_getElem? (i := 4) rfl))))))) dX3_narrow_117 ?_
        refine lv_lor hx hb dX3_narrow_120 ?_
        refine x_topl (y := lN (((h9 * 256) % 4294967296) + 255)) (l_or255 (by omega) (by omega)) ?_
        refine va_put (D := G.1) (ci := 8) (v := .long (lN (((h9 * 256) % 4294967296) + 255))) (ty := tyX9 1) (C := RX9) (T := TX9) (N := 3) hx hb hts hin_X3_narrow_9 tyX9 tyX9_ok nmX9 hown hK.1 hP hD hS 0 rfl rfl 1 (by decide) (hts (.fieldLink RX3 15 "MixedPredict$Interval" "high" "J") (List.mem_cons_of_mem _ (List.mem_append_left _ (List.mem_append_left _ (List.mem_append_left _ (List.mem_append_left _ (List.mem_of_getElem? (i := 1) rfl))))))) (fun _ h9 => h9) rfl (tyX9_ok 1 (by decide)) rfl rfl (Nat.le_of_ble_eq_true rfl) dX3_narrow_121 (fun H locs hP hD hS => ?_)
        have hP : va_P G.1 vwCl [(it, .inr (8, [.long (lN ((l9 * 256) % 4294967296)), .long (lN (((h9 * 256) % 4294967296) + 255)), .ref ob])), (ob, .inr (1, [.ref oa, .int (nI (min (emt true en D (l9 / 16777216) d9).1 n))])), (oa, .inl (G.2.1, n, .inl f2_4))] H := hP
        have hD : va_D A [(it, .inr (8, [.long (lN ((l9 * 256) % 4294967296)), .long (lN (((h9 * 256) % 4294967296) + 255)), .ref ob])), (ob, .inr (1, [.ref oa, .int (nI (min (emt true en D (l9 / 16777216) d9).1 n))])), (oa, .inl (G.2.1, n, .inl f2_4))] := hD
        refine lv_iinc (v := nI (i + 1)) (lv' := [(6, .int (nI (i + 1))), (0, .ref it), (1, .int (nI p)), (2, .int (nI t)), (3, .long (lN (spl lo hi p))), (5, .int (nI t))]) hx hb dX3_narrow_124 hl (k := 5) rfl (by first | rfl | exact nI_add _ _) (by decide) rfl (fun ls hl => ?_)
        refine lv_goto (tgt := 54) hx hb dX3_narrow_127 (by decide) ?_
        exact ih_3 (i + 1, (l9 * 256) % 4294967296, ((h9 * 256) % 4294967296) + 255, (emt true en D (l9 / 16777216) d9), f2_4, ls) _ _ (show 4 - (i + 1) < 4 - i from by omega) ⟨(show (i + 1) ≤ 4 ∧ nrm true en D (4 - (i + 1)) (((l9 * 256) % 4294967296), (((h9 * 256) % 4294967296) + 255), ((emt true en D (l9 / 16777216) d9))) = narx true en D t lo hi p d ∧ ((l9 * 256) % 4294967296) ≤ (((h9 * 256) % 4294967296) + 255) ∧ (((h9 * 256) % 4294967296) + 255) < 4294967296 ∧ RepO n ((emt true en D (l9 / 16777216) d9)) f2_4 from ⟨by omega, by rw [← hI.2.1, show 4 - i = (4 - (i + 1)) + 1 by omega, nrm_s c_75], by omega, by omega, hw⟩), lv_sub hl [1, 2, 3, 4, 5, 0] rfl, hP, hD, hS⟩
  · skip
    refine lv_icmp_ne (tgt := 44) hx hb dX3_narrow_33 (by decide) (fun c_33 => ?_) (fun c_33 => ?_)
    · skip
      have c_33 : ¬ (t = 1) := fun z8 => c_33 ((nI_eq (a := t) (b := 1) (by omega) (by omega)).mpr z8)
      refine lv_aload_n hx hb dX3_narrow_44 rfl (lv_at hl 2 rfl) ?_
      refine lv_lload_n hx hb dX3_narrow_45 rfl (lv_at hl 1 rfl) ?_
      refine lv_lconst (v := 1) hx hb dX3_narrow_46 (by decide) ?_
      refine lv_ladd hx hb dX3_narrow_47 ?_
      refine x_topl (y := lN (spl lo hi p + 1)) (lN_add _ _) ?_
      refine va_put (D := G.1) (ci := 8) (v := .long (lN (spl lo hi p + 1))) (ty := tyX9 0) (C := RX9) (T := TX9) (N := 3) hx hb hts hin_X3_narrow_9 tyX9 tyX9_ok nmX9 hown hK.1 hP hD hS 0 rfl rfl 0 (by decide) (hts (.fieldLink RX3 7 "MixedPredict$Interval" "low" "J") (List.mem_cons_of_mem _ (List.mem_append_left _ (List.mem_append_left _ (List.mem_append_left _ (List.mem_append_left _ (List.mem_of_getElem? (i := 0) rfl))))))) (fun _ h9 => h9) rfl (tyX9_ok 0 (by decide)) rfl rfl (Nat.le_of_ble_eq_true rfl) dX3_narrow_48 (fun H locs hP hD hS => ?_)
      have hP : va_P G.1 vwCl [(it, .inr (8, [.long (lN (spl lo hi p + 1)), .long (lN hi), .ref ob])), (ob, .inr (1, [.ref oa, .int (nI (min d.1 n))])), (oa, .inl (G.2.1, n, .inl f))] H := hP
      have hD : va_D A [(it, .inr (8, [.long (lN (spl lo hi p + 1)), .long (lN hi), .ref ob])), (ob, .inr (1, [.ref oa, .int (nI (min d.1 n))])), (oa, .inl (G.2.1, n, .inl f))] := hD
      exact hj_2 (spl lo hi p + 1, hi, ls) H locs ⟨(show nrm true en D 4 ((spl lo hi p + 1), hi, d) = narx true en D t lo hi p d ∧ (spl lo hi p + 1) ≤ hi ∧ hi < 4294967296 from ⟨by rw [narx, if_neg c_33], by omega, by omega⟩), lv_sub hl [2, 3, 4, 1, 0] rfl, hP, hD, hS⟩
    · skip
      have c_33 : t = 1 := (nI_eq (a := t) (b := 1) (by omega) (by omega)).mp c_33
      refine lv_aload_n hx hb dX3_narrow_36 rfl (lv_at hl 2 rfl) ?_
      refine lv_lload_n hx hb dX3_narrow_37 rfl (lv_at hl 1 rfl) ?_
      refine va_put (D := G.1) (ci := 8) (v := .long (lN (spl lo hi p))) (ty := tyX9 1) (C := RX9) (T := TX9) (N := 3) hx hb hts hin_X3_narrow_9 tyX9 tyX9_ok nmX9 hown hK.1 hP hD hS 0 rfl rfl 1 (by decide) (hts (.fieldLink RX3 15 "MixedPredict$Interval" "high" "J") (List.mem_cons_of_mem _ (List.mem_append_left _ (List.mem_append_left _ (List.mem_append_left _ (List.mem_append_left _ (List.mem_of_getElem? (i := 1) rfl))))))) (fun _ h9 => h9) rfl (tyX9_ok 1 (by decide)) rfl rfl (Nat.le_of_ble_eq_true rfl) dX3_narrow_38 (fun H locs hP hD hS => ?_)
      have hP : va_P G.1 vwCl [(it, .inr (8, [.long (lN lo), .long (lN (spl lo hi p)), .ref ob])), (ob, .inr (1, [.ref oa, .int (nI (min d.1 n))])), (oa, .inl (G.2.1, n, .inl f))] H := hP
      have hD : va_D A [(it, .inr (8, [.long (lN lo), .long (lN (spl lo hi p)), .ref ob])), (ob, .inr (1, [.ref oa, .int (nI (min d.1 n))])), (oa, .inl (G.2.1, n, .inl f))] := hD
      refine lv_goto (tgt := 51) hx hb dX3_narrow_41 (by decide) ?_
      exact hj_2 (lo, spl lo hi p, ls) H locs ⟨(show nrm true en D 4 (lo, (spl lo hi p), d) = narx true en D t lo hi p d ∧ lo ≤ (spl lo hi p) ∧ (spl lo hi p) < 4294967296 from ⟨by rw [narx, if_pos c_33], by omega, by omega⟩), lv_sub hl [2, 3, 4, 1, 0] rfl, hP, hD, hS⟩

set_option maxHeartbeats 4000000 in
set_option maxRecDepth 100000 in
theorem c_X5_choose (l : Launch) (G : GG) (it ib ia n cn : Nat) (g : Nat → Int32) (hn : n < 2 ^ 31) (hc : cn ≤ n) (lo hi : Nat) (d : DV) (en : Nat) (D : Nat → Nat) (qD : RepD cn D g) (he : en ≤ cn) (hv : d.2.2.1 < 4294967296) (sp : Nat) (qs : sp < 4294967296) (t : Nat) : Met l yX5_choose wsX5_choose ({ frames := 0, cells := 0, slots := 0, locals := 0 } : Room) (r_Pc G [.ref it, .long (lN sp), .int (nI t)] [(it, .inr (4, [.long (lN lo), .long (lN hi), .ref ib, .int (nI d.2.2.2), .int (nI en), .long (lN d.2.2.1)])), (ib, .inr (1, [.ref ia, .int (nI cn)])), (ia, .inl (G.2.1, n, .inl g))]) (vp_Si (fun r => r = (nI (if d.2.2.1 ≤ sp then 1 else 0)))) 0 0 (fun _ => False) := by
  refine r_ofW (cc := cX5_choose) (maxL := 4) (ret := (some .int)) (by decide) rfl (Nat.le_of_ble_eq_true rfl) ?_
  intro pZ eZ sZ mZ bZ tZ cZ hx hb hr hts hown hlocks hml hK H hH hP ls hl
  have hown : sZ.vm.findClass RX5 = some mZ.cls := hown
  have hl : lv_has ls 4 [(0, .ref it), (1, .long (lN sp)), (3, .int (nI t))] := hl
  refine lv_aload_n hx hb dX5_choose_0 rfl (lv_at hl 0 rfl) ?_
  refine va_get (D := G.1) (ci := 4) (v := .long (lN d.2.2.1)) (C := RX5) (T := TX5) (N := 6) hx hb hts hin_X5_choose_5 hown hK.1 hP 0 rfl rfl 5 (by decide) (hts (.fieldLink RX5 23 "MixedPredict$Reader" "value" "J") (List.mem_cons_of_mem _ (List.mem_append_left _ (List.mem_of_getElem? (i := 0) rfl)))) (fun _ h9 => h9) rfl dX5_choose_1 ?_
  refine lv_lload_n hx hb dX5_choose_4 rfl (lv_at hl 1 rfl) ?_
  refine W.lcmp hx hb dX5_choose_5 ?_
  refine lv_if_gt (tgt := 13) hx hb dX5_choose_6 (by decide) (fun c_6 => ?_) (fun c_6 => ?_)
  · skip
    have c_6 := (lg_cmp_gt _ _).mp c_6
    have c_6 : sp < d.2.2.1 := (lN_ltI (a := sp) (b := d.2.2.1) (by omega) (by omega)).mp c_6
    refine lv_iconst (v := 0) hx hb dX5_choose_13 (by decide) ?_
    exact r_iret hx hb hr hlocks (by rw [if_neg (by omega)]; rfl) hH dX5_choose_14
  · skip
    have c_6 := fun z8 => c_6 ((lg_cmp_gt _ _).mpr z8)
    have c_6 : ¬ (sp < d.2.2.1) := fun z8 => c_6 ((lN_ltI (a := sp) (b := d.2.2.1) (by omega) (by omega)).mpr z8)
    refine lv_iconst (v := 1) hx hb dX5_choose_9 (by decide) ?_
    refine lv_goto (tgt := 14) hx hb dX5_choose_10 (by decide) ?_
    exact r_iret hx hb hr hlocks (by rw [if_pos (by omega)]; rfl) hH dX5_choose_14

set_option maxHeartbeats 4000000 in
set_option maxRecDepth 100000 in
theorem c_X5_leave (l : Launch) (G : GG) (it ib ia n cn : Nat) (g : Nat → Int32) (hn : n < 2 ^ 31) (hc : cn ≤ n) (lo hi : Nat) (d : DV) (en : Nat) (D : Nat → Nat) (qD : RepD cn D g) (he : en ≤ cn) (hv : d.2.2.1 < 4294967296) (b : Nat) (qn : d.2.2.2 < 2 ^ 30) (sz : Nat) : Met l yX5_leave wsX5_leave ({ frames := 1, cells := 0, slots := 0, locals := 21 } : Room) (w_Pc G [.ref it, .int (nI b)] sz [(it, .inr (4, [.long (lN lo), .long (lN hi), .ref ib, .int (nI d.2.2.2), .int (nI en), .long (lN d.2.2.1)])), (ib, .inr (1, [.ref ia, .int (nI cn)])), (ia, .inl (G.2.1, n, .inl g))]) (w_Qv G (va_A [(it, .inr (4, [.long (lN lo), .long (lN hi), .ref ib, .int (nI d.2.2.2), .int (nI en), .long (lN d.2.2.1)])), (ib, .inr (1, [.ref ia, .int (nI cn)])), (ia, .inl (G.2.1, n, .inl g))] sz) (fun (_ : Unit) => [(it, .inr (4, [.long (lN lo), .long (lN hi), .ref ib, .int (nI ((emt false en D b d).2.2.2)), .int (nI en), .long (lN ((emt false en D b d).2.2.1))])), (ib, .inr (1, [.ref ia, .int (nI cn)])), (ia, .inl (G.2.1, n, .inl g))]) (fun (_ : Unit) => True)) 0 0 (va_A [(it, .inr (4, [.long (lN lo), .long (lN hi), .ref ib, .int (nI d.2.2.2), .int (nI en), .long (lN d.2.2.1)])), (ib, .inr (1, [.ref ia, .int (nI cn)])), (ia, .inl (G.2.1, n, .inl g))] sz) := by
  refine w_ofW (Qf := fun A => w_Qv G A (fun (_ : Unit) => [(it, .inr (4, [.long (lN lo), .long (lN hi), .ref ib, .int (nI ((emt false en D b d).2.2.2)), .int (nI en), .long (lN ((emt false en D b d).2.2.1))])), (ib, .inr (1, [.ref ia, .int (nI cn)])), (ia, .inl (G.2.1, n, .inl g))]) (fun (_ : Unit) => True)) (cc := cX5_leave) (maxL := 2) (ret := none) (by decide) rfl (Nat.le_of_ble_eq_true rfl) ?_
  intro pZ eZ sZ mZ bZ tZ cZ A hx hb hr hts hown hlocks hml hnm hK hA H locs hP hD hS ls hl
  have hown : sZ.vm.findClass RX5 = some mZ.cls := hown
  have hl : lv_has ls 2 [(0, .ref it), (1, .int (nI b))] := hl
  have qr := rdb_lt qD he d.2.2.2
  refine lv_aload_n hx hb dX5_leave_0 rfl (lv_at hl 0 rfl) ?_
  refine lv_aload_n hx hb dX5_leave_1 rfl (lv_at hl 0 rfl) ?_
  refine va_get (D := G.1) (ci := 4) (v := .long (lN d.2.2.1)) (C := RX5) (T := TX5) (N := 6) hx hb hts hin_X5_leave_5 hown hK.1 hP 0 rfl rfl 5 (by decide) (hts (.fieldLink RX5 23 "MixedPredict$Reader" "value" "J") (List.mem_cons_of_mem _ (List.mem_append_left _ (List.mem_append_left _ (List.mem_of_getElem? (i := 0) rfl))))) (fun _ h9 => h9) rfl dX5_leave_2 ?_
  refine lv_bipush (v := 8) hx hb dX5_leave_5 (by decide) ?_
  refine lv_lshl hx hb dX5_leave_7 rfl ?_
  refine x_topl (y := lN (d.2.2.1 * 256)) (l_shl8 (by omega)) ?_
  refine lv_ldc2 (v := 4294967295) hx hb hown (hts (.constantLong RX5 31 (4294967295)) (List.mem_cons_of_mem _ (List.mem_append_left _ (List.mem_append_left _ (List.mem_of_getElem? (i := 1) rfl))))) dX5_leave_8 ?_
  refine lv_land hx hb dX5_leave_11 ?_
  refine x_topl (y := lN ((d.2.2.1 * 256) % 4294967296)) (l_and32 _) ?_
  refine lv_aload_n hx hb dX5_leave_12 rfl (lv_at hl 0 rfl) ?_
  refine va_get (D := G.1) (ci := 4) (v := .int (nI d.2.2.2)) (C := RX5) (T := TX5) (N := 6) hx hb hts hin_X5_leave_5 hown hK.1 hP 0 rfl rfl 3 (by decide) (hts (.fieldLink RX5 16 "MixedPredict$Reader" "next" "I") (List.mem_cons_of_mem _ (List.mem_append_left _ (List.mem_append_left _ (List.mem_of_getElem? (i := 2) rfl))))) (fun _ h9 => h9) rfl dX5_leave_13 ?_
  refine lv_aload_n hx hb dX5_leave_16 rfl (lv_at hl 0 rfl) ?_
  refine va_get (D := G.1) (ci := 4) (v := .int (nI en)) (C := RX5) (T := TX5) (N := 6) hx hb hts hin_X5_leave_5 hown hK.1 hP 0 rfl rfl 4 (by decide) (hts (.fieldLink RX5 20 "MixedPredict$Reader" "end" "I") (List.mem_cons_of_mem _ (List.mem_append_left _ (List.mem_append_left _ (List.mem_of_getElem? (i := 3) rfl))))) (fun _ h9 => h9) rfl dX5_leave_17 ?_
  refine x_join (α := (Int32)) (fun z9 => F0 mZ 38 ls [.int z9, .long (lN ((d.2.2.1 * 256) % 4294967296)), .ref it]) (fun z9 => (z9 = nI (rdb en D d.2.2.2))) (fun z9 hJ9 => ?_) (fun hj_1 => ?_)
  · obtain ⟨v9, rfl⟩ : ∃ z, z = z9 := ⟨_, rfl⟩
    have hj9 := hJ9
    have hj9 : v9 = nI (rdb en D d.2.2.2) := hj9
    subst hj9
    refine lv_i2l hx hb dX5_leave_38 rfl ?_
    refine x_topl (y := lN (rdb en D d.2.2.2)) (nI_l (by omega)) ?_
    refine lv_lor hx hb dX5_leave_39 ?_
    refine x_topl (y := lN (((d.2.2.1 * 256) % 4294967296) + (rdb en D d.2.2.2))) (l_or (by omega) (by omega) (by omega)) ?_
    refine va_put (D := G.1) (ci := 4) (v := .long (lN (((d.2.2.1 * 256) % 4294967296) + (rdb en D d.2.2.2)))) (ty := tyX5 5) (C := RX5) (T := TX5) (N := 6) hx hb hts hin_X5_leave_5 tyX5 tyX5_ok nmX5 hown hK.1 hP hD hS 0 rfl rfl 5 (by decide) (hts (.fieldLink RX5 23 "MixedPredict$Reader" "value" "J") (List.mem_cons_of_mem _ (List.mem_append_left _ (List.mem_append_left _ (List.mem_of_getElem? (i := 0) rfl))))) (fun _ h9 => h9) rfl (tyX5_ok 5 (by decide)) rfl rfl (Nat.le_of_ble_eq_true rfl) dX5_leave_40 (fun H locs hP hD hS => ?_)
    have hP : va_P G.1 vwCl [(it, .inr (4, [.long (lN lo), .long (lN hi), .ref ib, .int (nI d.2.2.2), .int (nI en), .long (lN (((d.2.2.1 * 256) % 4294967296) + (rdb en D d.2.2.2)))])), (ib, .inr (1, [.ref ia, .int (nI cn)])), (ia, .inl (G.2.1, n, .inl g))] H := hP
    have hD : va_D A [(it, .inr (4, [.long (lN lo), .long (lN hi), .ref ib, .int (nI d.2.2.2), .int (nI en), .long (lN (((d.2.2.1 * 256) % 4294967296) + (rdb en D d.2.2.2)))])), (ib, .inr (1, [.ref ia, .int (nI cn)])), (ia, .inl (G.2.1, n, .inl g))] := hD
    refine lv_aload_n hx hb dX5_leave_43 rfl (lv_at hl 0 rfl) ?_
    refine lv_dup hx hb dX5_leave_44 rfl ?_
    refine va_get (D := G.1) (ci := 4) (v := .int (nI d.2.2.2)) (C := RX5) (T := TX5) (N := 6) hx hb hts hin_X5_leave_5 hown hK.1 hP 0 rfl rfl 3 (by decide) (hts (.fieldLink RX5 16 "MixedPredict$Reader" "next" "I") (List.mem_cons_of_mem _ (List.mem_append_left _ (List.mem_append_left _ (List.mem_of_getElem? (i := 2) rfl))))) (fun _ h9 => h9) rfl dX5_leave_45 ?_
    refine lv_iconst (v := 1) hx hb dX5_leave_48 (by decide) ?_
    refine lv_iadd hx hb dX5_leave_49 ?_
    refine x_top (y := nI (d.2.2.2 + 1)) (nI_add _ _) ?_
    refine va_put (D := G.1) (ci := 4) (v := .int (nI (d.2.2.2 + 1))) (ty := tyX5 3) (C := RX5) (T := TX5) (N := 6) hx hb hts hin_X5_leave_5 tyX5 tyX5_ok nmX5 hown hK.1 hP hD hS 0 rfl rfl 3 (by decide) (hts (.fieldLink RX5 16 "MixedPredict$Reader" "next" "I") (List.mem_cons_of_mem _ (List.mem_append_left _ (List.mem_append_left _ (List.mem_of_getElem? (i := 2) rfl))))) (fun _ h9 => h9) rfl (tyX5_ok 3 (by decide)) rfl rfl (Nat.le_of_ble_eq_true rfl) dX5_leave_50 (fun H locs hP hD hS => ?_)
    have hP : va_P G.1 vwCl [(it, .inr (4, [.long (lN lo), .long (lN hi), .ref ib, .int (nI (d.2.2.2 + 1)), .int (nI en), .long (lN (((d.2.2.1 * 256) % 4294967296) + (rdb en D d.2.2.2)))])), (ib, .inr (1, [.ref ia, .int (nI cn)])), (ia, .inl (G.2.1, n, .inl g))] H := hP
    have hD : va_D A [(it, .inr (4, [.long (lN lo), .long (lN hi), .ref ib, .int (nI (d.2.2.2 + 1)), .int (nI en), .long (lN (((d.2.2.1 * 256) % 4294967296) + (rdb en D d.2.2.2)))])), (ib, .inr (1, [.ref ia, .int (nI cn)])), (ia, .inl (G.2.1, n, .inl g))] := hD
    have hfe : ((emt false en D b d).2.2.2) = (d.2.2.2 + 1) := (rfl).symm
    have hP : va_P G.1 vwCl [(it, .inr (4, [.long (lN lo), .long (lN hi), .ref ib, .int (nI ((emt false en D b d).2.2.2)), .int (nI en), .long (lN (((d.2.2.1 * 256) % 4294967296) + (rdb en D d.2.2.2)))])), (ib, .inr (1, [.ref ia, .int (nI cn)])), (ia, .inl (G.2.1, n, .inl g))] H := by rw [hfe]; exact hP
    have hD : va_D A [(it, .inr (4, [.long (lN lo), .long (lN hi), .ref ib, .int (nI ((emt false en D b d).2.2.2)), .int (nI en), .long (lN (((d.2.2.1 * 256) % 4294967296) + (rdb en D d.2.2.2)))])), (ib, .inr (1, [.ref ia, .int (nI cn)])), (ia, .inl (G.2.1, n, .inl g))] := by rw [hfe]; exact hD
    clear hfe
    have hfe : ((emt false en D b d).2.2.1) = (((d.2.2.1 * 256) % 4294967296) + (rdb en D d.2.2.2)) := (rfl).symm
    have hP : va_P G.1 vwCl [(it, .inr (4, [.long (lN lo), .long (lN hi), .ref ib, .int (nI ((emt false en D b d).2.2.2)), .int (nI en), .long (lN ((emt false en D b d).2.2.1))])), (ib, .inr (1, [.ref ia, .int (nI cn)])), (ia, .inl (G.2.1, n, .inl g))] H := by rw [hfe]; exact hP
    have hD : va_D A [(it, .inr (4, [.long (lN lo), .long (lN hi), .ref ib, .int (nI ((emt false en D b d).2.2.2)), .int (nI en), .long (lN ((emt false en D b d).2.2.1))])), (ib, .inr (1, [.ref ia, .int (nI cn)])), (ia, .inl (G.2.1, n, .inl g))] := by rw [hfe]; exact hD
    clear hfe
    exact w_vret () hx hb hr hlocks (trivial) hP hD hS dX5_leave_53
  · skip
    refine lv_icmp_ge (tgt := 37) hx hb dX5_leave_20 (by decide) (fun c_20 => ?_) (fun c_20 => ?_)
    · skip
      have c_20 : en ≤ d.2.2.2 := (nI_leI (a := en) (b := d.2.2.2) (by omega) (by omega)).mp c_20
      refine lv_iconst (v := 0) hx hb dX5_leave_37 (by decide) ?_
      exact hj_1 0 ((show 0 = nI (rdb en D d.2.2.2) from by rw [rdb, if_neg (by omega)]; rfl))
    · skip
      have c_20 : ¬ (en ≤ d.2.2.2) := fun z8 => c_20 ((nI_leI (a := en) (b := d.2.2.2) (by omega) (by omega)).mpr z8)
      refine lv_aload_n hx hb dX5_leave_23 rfl (lv_at hl 0 rfl) ?_
      refine va_get (D := G.1) (ci := 4) (v := .ref ib) (C := RX5) (T := TX5) (N := 6) hx hb hts hin_X5_leave_5 hown hK.1 hP 0 rfl rfl 2 (by decide) (hts (.fieldLink RX5 7 "MixedPredict$Reader" "in" "LMixedPredict$Bytes;") (List.mem_cons_of_mem _ (List.mem_append_left _ (List.mem_append_left _ (List.mem_of_getElem? (i := 4) rfl))))) (fun _ h9 => h9) rfl dX5_leave_24 ?_
      refine lv_aload_n hx hb dX5_leave_27 rfl (lv_at hl 0 rfl) ?_
      refine va_get (D := G.1) (ci := 4) (v := .int (nI d.2.2.2)) (C := RX5) (T := TX5) (N := 6) hx hb hts hin_X5_leave_5 hown hK.1 hP 0 rfl rfl 3 (by decide) (hts (.fieldLink RX5 16 "MixedPredict$Reader" "next" "I") (List.mem_cons_of_mem _ (List.mem_append_left _ (List.mem_append_left _ (List.mem_of_getElem? (i := 2) rfl))))) (fun _ h9 => h9) rfl dX5_leave_28 ?_
      refine r_fin_i (va_runV (As := [.int (nI d.2.2.2)]) (rest := [.long (lN ((d.2.2.1 * 256) % 4294967296)), .ref it]) ⟨hx, hb, hml, hown, hts⟩ (c_X1_get l G ib ia n g cn d.2.2.2 (by first | assumption | omega) (by first | assumption | omega) (by first | assumption | omega)) (cwV 1 hts gX5_leave_X1_get rfl rfl rfl (by decide +kernel) ⟨Nat.le_of_ble_eq_true rfl, Nat.le_of_ble_eq_true rfl⟩) (x_preV (r_pre hK hP [1, 2] rfl) hK hP (ci := 1) (q0 := 1) rfl rfl) rfl rfl hl.1 rfl (lv_room (Nat.le_of_ble_eq_true rfl)) dX5_leave_31 ⟨Nat.zero_le _, Nat.zero_le _⟩) (fun r_2 hw => ?_)
      subst hw
      refine lv_goto (tgt := 38) hx hb dX5_leave_34 (by decide) ?_
      exact hj_1 (getB cn g (d.2.2.2)) ((show (getB cn g (d.2.2.2)) = nI (rdb en D d.2.2.2) from by rw [rdb, if_pos (by omega), getB, if_pos (by omega), (qD _ (by omega)).1]))

set_option maxHeartbeats 4000000 in
set_option maxRecDepth 100000 in
theorem c_X5_begin (l : Launch) (G : GG) (it ib ia n cn : Nat) (g : Nat → Int32) (hn : n < 2 ^ 31) (hc : cn ≤ n) (lo hi v : Int64) (nx e0 : Int32) (fr en : Nat) (D : Nat → Nat) (qD : RepD cn D g) (he : en ≤ cn) (qf : fr < 2 ^ 29) (d0 : DV) (sz : Nat) : Met l yX5_begin wsX5_begin ({ frames := 2, cells := 0, slots := 0, locals := 42 } : Room) (w_Pc G [.ref it, .int (nI fr), .int (nI en)] sz [(it, .inr (4, [.long lo, .long hi, .ref ib, .int nx, .int e0, .long v])), (ib, .inr (1, [.ref ia, .int (nI cn)])), (ia, .inl (G.2.1, n, .inl g))]) (w_Qv G (va_A [(it, .inr (4, [.long lo, .long hi, .ref ib, .int nx, .int e0, .long v])), (ib, .inr (1, [.ref ia, .int (nI cn)])), (ia, .inl (G.2.1, n, .inl g))] sz) (fun (_ : Unit) => [(it, .inr (4, [.long (lN 0), .long (lN 4294967295), .ref ib, .int (nI ((d0.1, d0.2.1, rdn en D fr 4, fr + 4).2.2.2)), .int (nI en), .long (lN ((d0.1, d0.2.1, rdn en D fr 4, fr + 4).2.2.1))])), (ib, .inr (1, [.ref ia, .int (nI cn)])), (ia, .inl (G.2.1, n, .inl g))]) (fun (_ : Unit) => True)) 0 0 (va_A [(it, .inr (4, [.long lo, .long hi, .ref ib, .int nx, .int e0, .long v])), (ib, .inr (1, [.ref ia, .int (nI cn)])), (ia, .inl (G.2.1, n, .inl g))] sz) := by
  refine w_ofW (Qf := fun A => w_Qv G A (fun (_ : Unit) => [(it, .inr (4, [.long (lN 0), .long (lN 4294967295), .ref ib, .int (nI ((d0.1, d0.2.1, rdn en D fr 4, fr + 4).2.2.2)), .int (nI en), .long (lN ((d0.1, d0.2.1, rdn en D fr 4, fr + 4).2.2.1))])), (ib, .inr (1, [.ref ia, .int (nI cn)])), (ia, .inl (G.2.1, n, .inl g))]) (fun (_ : Unit) => True)) (cc := cX5_begin) (maxL := 4) (ret := none) (by decide) rfl (Nat.le_of_ble_eq_true rfl) ?_
  intro pZ eZ sZ mZ bZ tZ cZ A hx hb hr hts hown hlocks hml hnm hK hA H locs hP hD hS ls hl
  have hown : sZ.vm.findClass RX5 = some mZ.cls := hown
  have hl : lv_has ls 4 [(0, .ref it), (1, .int (nI fr)), (2, .int (nI en))] := hl
  have qr := rdb_lt qD he
  refine lv_aload_n hx hb dX5_begin_0 rfl (lv_at hl 0 rfl) ?_
  refine w_fin_v (WR := [(ib, .inr (1, [.ref ia, .int (nI cn)])), (ia, .inl (G.2.1, n, .inl g))]) (va_runU (As := []) (rest := []) ⟨hx, hb, hml, hown, hts⟩ (c_X3_open_R l G it ib lo hi v nx e0 H.size) (va_cwU 0 hts gX5_begin_X3_open_u13X5 rfl rfl rfl rfl (by decide +kernel) ⟨Nat.le_of_ble_eq_true rfl, Nat.le_of_ble_eq_true rfl⟩) (x_preV (w_pre hK hP hD [0] (by decide) rfl) hK hP (ci := 4) (q0 := 0) rfl rfl) rfl rfl hl.1 rfl (lv_room (Nat.le_of_ble_eq_true rfl)) dX5_begin_1 ⟨Nat.zero_le _, Nat.zero_le _⟩) hP hD hS hA [0] [1, 2] rfl rfl (by decide) (by decide) [2, 0, 1] (by decide) (fun (_ : Unit) => [(it, .inr (4, [.long (lN 0), .long (lN 4294967295), .ref ib, .int nx, .int e0, .long v])), (ib, .inr (1, [.ref ia, .int (nI cn)])), (ia, .inl (G.2.1, n, .inl g))]) (fun _ => rfl) (fun u H locs hw hP hD hS => ?_)
  have hP : va_P G.1 vwCl [(it, .inr (4, [.long (lN 0), .long (lN 4294967295), .ref ib, .int nx, .int e0, .long v])), (ib, .inr (1, [.ref ia, .int (nI cn)])), (ia, .inl (G.2.1, n, .inl g))] H := hP
  have hD : va_D A [(it, .inr (4, [.long (lN 0), .long (lN 4294967295), .ref ib, .int nx, .int e0, .long v])), (ib, .inr (1, [.ref ia, .int (nI cn)])), (ia, .inl (G.2.1, n, .inl g))] := hD
  refine lv_aload_n hx hb dX5_begin_4 rfl (lv_at hl 0 rfl) ?_
  refine lv_iload_n hx hb dX5_begin_5 rfl (lv_at hl 1 rfl) ?_
  refine va_put (D := G.1) (ci := 4) (v := .int (nI fr)) (ty := tyX5 3) (C := RX5) (T := TX5) (N := 6) hx hb hts hin_X5_begin_5 tyX5 tyX5_ok nmX5 hown hK.1 hP hD hS 0 rfl rfl 3 (by decide) (hts (.fieldLink RX5 16 "MixedPredict$Reader" "next" "I") (List.mem_cons_of_mem _ (List.mem_append_left _ (List.mem_append_left _ (List.mem_append_left _ (List.mem_append_left _ (List.mem_of_getElem? (i := 0) rfl))))))) (fun _ h9 => h9) rfl (tyX5_ok 3 (by decide)) rfl rfl (Nat.le_of_ble_eq_true rfl) dX5_begin_6 (fun H locs hP hD hS => ?_)
  have hP : va_P G.1 vwCl [(it, .inr (4, [.long (lN 0), .long (lN 4294967295), .ref ib, .int (nI fr), .int e0, .long v])), (ib, .inr (1, [.ref ia, .int (nI cn)])), (ia, .inl (G.2.1, n, .inl g))] H := hP
  have hD : va_D A [(it, .inr (4, [.long (lN 0), .long (lN 4294967295), .ref ib, .int (nI fr), .int e0, .long v])), (ib, .inr (1, [.ref ia, .int (nI cn)])), (ia, .inl (G.2.1, n, .inl g))] := hD
  refine lv_aload_n hx hb dX5_begin_9 rfl (lv_at hl 0 rfl) ?_
  refine lv_iload_n hx hb dX5_begin_10 rfl (lv_at hl 2 rfl) ?_
  refine va_put (D := G.1) (ci := 4) (v := .int (nI en)) (ty := tyX5 4) (C := RX5) (T := TX5) (N := 6) hx hb hts hin_X5_begin_5 tyX5 tyX5_ok nmX5 hown hK.1 hP hD hS 0 rfl rfl 4 (by decide) (hts (.fieldLink RX5 20 "MixedPredict$Reader" "end" "I") (List.mem_cons_of_mem _ (List.mem_append_left _ (List.mem_append_left _ (List.mem_append_left _ (List.mem_append_left _ (List.mem_of_getElem? (i := 1) rfl))))))) (fun _ h9 => h9) rfl (tyX5_ok 4 (by decide)) rfl rfl (Nat.le_of_ble_eq_true rfl) dX5_begin_11 (fun H locs hP hD hS => ?_)
  have hP : va_P G.1 vwCl [(it, .inr (4, [.long (lN 0), .long (lN 4294967295), .ref ib, .int (nI fr), .int (nI en), .long v])), (ib, .inr (1, [.ref ia, .int (nI cn)])), (ia, .inl (G.2.1, n, .inl g))] H := hP
  have hD : va_D A [(it, .inr (4, [.long (lN 0), .long (lN 4294967295), .ref ib, .int (nI fr), .int (nI en), .long v])), (ib, .inr (1, [.ref ia, .int (nI cn)])), (ia, .inl (G.2.1, n, .inl g))] := hD
  refine lv_aload_n hx hb dX5_begin_14 rfl (lv_at hl 0 rfl) ?_
  refine lv_lconst (v := 0) hx hb dX5_begin_15 (by decide) ?_
  refine va_put (D := G.1) (ci := 4) (v := .long 0) (ty := tyX5 5) (C := RX5) (T := TX5) (N := 6) hx hb hts hin_X5_begin_5 tyX5 tyX5_ok nmX5 hown hK.1 hP hD hS 0 rfl rfl 5 (by decide) (hts (.fieldLink RX5 23 "MixedPredict$Reader" "value" "J") (List.mem_cons_of_mem _ (List.mem_append_left _ (List.mem_append_left _ (List.mem_append_left _ (List.mem_append_left _ (List.mem_of_getElem? (i := 2) rfl))))))) (fun _ h9 => h9) rfl (tyX5_ok 5 (by decide)) rfl rfl (Nat.le_of_ble_eq_true rfl) dX5_begin_16 (fun H locs hP hD hS => ?_)
  have hP : va_P G.1 vwCl [(it, .inr (4, [.long (lN 0), .long (lN 4294967295), .ref ib, .int (nI fr), .int (nI en), .long 0])), (ib, .inr (1, [.ref ia, .int (nI cn)])), (ia, .inl (G.2.1, n, .inl g))] H := hP
  have hD : va_D A [(it, .inr (4, [.long (lN 0), .long (lN 4294967295), .ref ib, .int (nI fr), .int (nI en), .long 0])), (ib, .inr (1, [.ref ia, .int (nI cn)])), (ia, .inl (G.2.1, n, .inl g))] := hD
  refine lv_iconst (v := 0) hx hb dX5_begin_19 (by decide) ?_
  refine lv_istore_n (lv' := [(3, .int 0), (0, .ref it), (1, .int (nI fr)), (2, .int (nI en))]) hx hb dX5_begin_20 rfl hl (by decide) rfl (fun ls hl => ?_)
  have hfe : (fr + 0) = fr := (rfl).symm
  have hP : va_P G.1 vwCl [(it, .inr (4, [.long (lN 0), .long (lN 4294967295), .ref ib, .int (nI (fr + 0)), .int (nI en), .long 0])), (ib, .inr (1, [.ref ia, .int (nI cn)])), (ia, .inl (G.2.1, n, .inl g))] H := by rw [hfe]; exact hP
  have hD : va_D A [(it, .inr (4, [.long (lN 0), .long (lN 4294967295), .ref ib, .int (nI (fr + 0)), .int (nI en), .long 0])), (ib, .inr (1, [.ref ia, .int (nI cn)])), (ia, .inl (G.2.1, n, .inl g))] := by rw [hfe]; exact hD
  clear hfe
  have hfe : (rdn en D fr 0) = 0 := (rfl).symm
  have hP : va_P G.1 vwCl [(it, .inr (4, [.long (lN 0), .long (lN 4294967295), .ref ib, .int (nI (fr + 0)), .int (nI en), .long (lN (rdn en D fr 0))])), (ib, .inr (1, [.ref ia, .int (nI cn)])), (ia, .inl (G.2.1, n, .inl g))] H := by rw [hfe]; exact hP
  have hD : va_D A [(it, .inr (4, [.long (lN 0), .long (lN 4294967295), .ref ib, .int (nI (fr + 0)), .int (nI en), .long (lN (rdn en D fr 0))])), (ib, .inr (1, [.ref ia, .int (nI cn)])), (ia, .inl (G.2.1, n, .inl g))] := by rw [hfe]; exact hD
  clear hfe
  refine x_loop (α := (Nat) × (Array Slot)) (fun z9 => F0 mZ 21 z9.2 []) (fun z9 H locs => ((z9.1) ≤ 4) ∧ lv_has z9.2 4 [(0, .ref it), (1, .int (nI fr)), (2, .int (nI en)), (3, .int (nI (z9.1)))] ∧ va_P G.1 vwCl [(it, .inr (4, [.long (lN 0), .long (lN 4294967295), .ref ib, .int (nI (fr + (z9.1))), .int (nI en), .long (lN (rdn en D fr (z9.1)))])), (ib, .inr (1, [.ref ia, .int (nI cn)])), (ia, .inl (G.2.1, n, .inl g))] H ∧ va_D A [(it, .inr (4, [.long (lN 0), .long (lN 4294967295), .ref ib, .int (nI (fr + (z9.1))), .int (nI en), .long (lN (rdn en D fr (z9.1)))])), (ib, .inr (1, [.ref ia, .int (nI cn)])), (ia, .inl (G.2.1, n, .inl g))] ∧ va_S A sZ.heap H locs) (fun z9 => 4 - (z9.1)) (fun z9 H locs hI ih_3 => ?_) (0, ls) _ _ ⟨(show 0 ≤ 4 from by omega), lv_sub hl [1, 2, 3, 0] rfl, hP, hD, hS⟩
  obtain ⟨i, ls⟩ := z9
  obtain ⟨hI, hl, hP, hD, hS⟩ := hI
  have hI : i ≤ 4 := hI
  have hl : lv_has ls 4 [(0, .ref it), (1, .int (nI fr)), (2, .int (nI en)), (3, .int (nI i))] := hl
  have hP : va_P G.1 vwCl [(it, .inr (4, [.long (lN 0), .long (lN 4294967295), .ref ib, .int (nI (fr + i)), .int (nI en), .long (lN (rdn en D fr i))])), (ib, .inr (1, [.ref ia, .int (nI cn)])), (ia, .inl (G.2.1, n, .inl g))] H := hP
  have hD : va_D A [(it, .inr (4, [.long (lN 0), .long (lN 4294967295), .ref ib, .int (nI (fr + i)), .int (nI en), .long (lN (rdn en D fr i))])), (ib, .inr (1, [.ref ia, .int (nI cn)])), (ia, .inl (G.2.1, n, .inl g))] := hD
  refine lv_iload_n hx hb dX5_begin_21 rfl (lv_at hl 3 rfl) ?_
  refine lv_iconst (v := 4) hx hb dX5_begin_22 (by decide) ?_
  refine lv_icmp_ge (tgt := 37) hx hb dX5_begin_23 (by decide) (fun c_23 => ?_) (fun c_23 => ?_)
  · skip
    have c_23 : 4 ≤ i := (nI_leI (a := 4) (b := i) (by omega) (by omega)).mp c_23
    have hfe : (fr + 4) = (fr + i) := Eq.symm (by rw [show i = 4 by omega])
    have hP : va_P G.1 vwCl [(it, .inr (4, [.long (lN 0), .long (lN 4294967295), .ref ib, .int (nI (fr + 4)), .int (nI en), .long (lN (rdn en D fr i))])), (ib, .inr (1, [.ref ia, .int (nI cn)])), (ia, .inl (G.2.1, n, .inl g))] H := by rw [hfe]; exact hP
    have hD : va_D A [(it, .inr (4, [.long (lN 0), .long (lN 4294967295), .ref ib, .int (nI (fr + 4)), .int (nI en), .long (lN (rdn en D fr i))])), (ib, .inr (1, [.ref ia, .int (nI cn)])), (ia, .inl (G.2.1, n, .inl g))] := by rw [hfe]; exact hD
    clear hfe
    have hfe : (rdn en D fr 4) = (rdn en D fr i) := Eq.symm (by rw [show i = 4 by omega])
    have hP : va_P G.1 vwCl [(it, .inr (4, [.long (lN 0), .long (lN 4294967295), .ref ib, .int (nI (fr + 4)), .int (nI en), .long (lN (rdn en D fr 4))])), (ib, .inr (1, [.ref ia, .int (nI cn)])), (ia, .inl (G.2.1, n, .inl g))] H := by rw [hfe]; exact hP
    have hD : va_D A [(it, .inr (4, [.long (lN 0), .long (lN 4294967295), .ref ib, .int (nI (fr + 4)), .int (nI en), .long (lN (rdn en D fr 4))])), (ib, .inr (1, [.ref ia, .int (nI cn)])), (ia, .inl (G.2.1, n, .inl g))] := by rw [hfe]; exact hD
    clear hfe
    exact w_vret () hx hb hr hlocks (trivial) hP hD hS dX5_begin_37
  · skip
    have c_23 : ¬ (4 ≤ i) := fun z8 => c_23 ((nI_leI (a := 4) (b := i) (by omega) (by omega)).mpr z8)
    refine lv_aload_n hx hb dX5_begin_26 rfl (lv_at hl 0 rfl) ?_
    refine lv_iconst (v := 0) hx hb dX5_begin_27 (by decide) ?_
    refine w_fin_v (WR := []) (va_runV (As := [.int 0]) (rest := []) ⟨hx, hb, hml, hown, hts⟩ (c_X5_leave l G it ib ia n cn g (by first | assumption | omega) (by first | assumption | omega) 0 4294967295 (d0.1, d0.2.1, rdn en D fr i, fr + i) en D (by first | assumption | omega) (by first | assumption | omega) (rdn_lt qr i) 0 (by show fr + i < 2 ^ 30; omega) H.size) (cwV 1 hts gX5_begin_X5_leave rfl rfl rfl (by decide +kernel) ⟨Nat.le_of_ble_eq_true rfl, Nat.le_of_ble_eq_true rfl⟩) (x_preV (w_pre hK hP hD [0, 1, 2] (by decide) rfl) hK hP (ci := 4) (q0 := 0) rfl rfl) rfl rfl hl.1 rfl (lv_room (Nat.le_of_ble_eq_true rfl)) dX5_begin_28 ⟨Nat.zero_le _, Nat.zero_le _⟩) hP hD hS hA [0, 1, 2] [] rfl rfl (by decide) (by decide) [0, 1, 2] (by decide) (fun (_ : Unit) => [(it, .inr (4, [.long (lN 0), .long (lN 4294967295), .ref ib, .int (nI ((emt false en D 0 ((d0.1, d0.2.1, rdn en D fr i, fr + i))).2.2.2)), .int (nI en), .long (lN ((emt false en D 0 ((d0.1, d0.2.1, rdn en D fr i, fr + i))).2.2.1))])), (ib, .inr (1, [.ref ia, .int (nI cn)])), (ia, .inl (G.2.1, n, .inl g))]) (fun _ => rfl) (fun u H locs hw hP hD hS => ?_)
    have hP : va_P G.1 vwCl [(it, .inr (4, [.long (lN 0), .long (lN 4294967295), .ref ib, .int (nI ((emt false en D 0 ((d0.1, d0.2.1, rdn en D fr i, fr + i))).2.2.2)), .int (nI en), .long (lN ((emt false en D 0 ((d0.1, d0.2.1, rdn en D fr i, fr + i))).2.2.1))])), (ib, .inr (1, [.ref ia, .int (nI cn)])), (ia, .inl (G.2.1, n, .inl g))] H := hP
    have hD : va_D A [(it, .inr (4, [.long (lN 0), .long (lN 4294967295), .ref ib, .int (nI ((emt false en D 0 ((d0.1, d0.2.1, rdn en D fr i, fr + i))).2.2.2)), .int (nI en), .long (lN ((emt false en D 0 ((d0.1, d0.2.1, rdn en D fr i, fr + i))).2.2.1))])), (ib, .inr (1, [.ref ia, .int (nI cn)])), (ia, .inl (G.2.1, n, .inl g))] := hD
    refine lv_iinc (v := nI (i + 1)) (lv' := [(3, .int (nI (i + 1))), (0, .ref it), (1, .int (nI fr)), (2, .int (nI en))]) hx hb dX5_begin_31 hl (k := 3) rfl (by first | rfl | exact nI_add _ _) (by decide) rfl (fun ls hl => ?_)
    refine lv_goto (tgt := 21) hx hb dX5_begin_34 (by decide) ?_
    exact ih_3 (i + 1, ls) _ _ (show 4 - (i + 1) < 4 - i from by omega) ⟨(show (i + 1) ≤ 4 from by omega), lv_sub hl [1, 2, 3, 0] rfl, hP, hD, hS⟩

set_option maxHeartbeats 4000000 in
set_option maxRecDepth 100000 in
theorem c_X3_narrow_R (l : Launch) (G : GG) (it ib ia n cn : Nat) (g : Nat → Int32) (hn : n < 2 ^ 31) (hc : cn ≤ n) (lo hi : Nat) (d : DV) (en : Nat) (D : Nat → Nat) (qD : RepD cn D g) (he : en ≤ cn) (hv : d.2.2.1 < 4294967296) (p t : Nat) (qlo : lo < hi) (qhi : hi < 4294967296) (qp : p < 65536) (qt : t < 2) (qn : d.2.2.2 < 2 ^ 29) (sz : Nat) : Met l yX3_narrow wsX3_narrow ({ frames := 2, cells := 0, slots := 0, locals := 42 } : Room) (w_Pc G [.ref it, .int (nI p), .int (nI t)] sz [(it, .inr (4, [.long (lN lo), .long (lN hi), .ref ib, .int (nI d.2.2.2), .int (nI en), .long (lN d.2.2.1)])), (ib, .inr (1, [.ref ia, .int (nI cn)])), (ia, .inl (G.2.1, n, .inl g))]) (w_Qi G (va_A [(it, .inr (4, [.long (lN lo), .long (lN hi), .ref ib, .int (nI d.2.2.2), .int (nI en), .long (lN d.2.2.1)])), (ib, .inr (1, [.ref ia, .int (nI cn)])), (ia, .inl (G.2.1, n, .inl g))] sz) (fun (_ : Unit) => [(it, .inr (4, [.long (lN ((narx false en D (narb false t d.2.2.1 lo hi p) lo hi p d).1)), .long (lN ((narx false en D (narb false t d.2.2.1 lo hi p) lo hi p d).2.1)), .ref ib, .int (nI ((narx false en D (narb false t d.2.2.1 lo hi p) lo hi p d).2.2.2.2.2)), .int (nI en), .long (lN ((narx false en D (narb false t d.2.2.1 lo hi p) lo hi p d).2.2.2.2.1))])), (ib, .inr (1, [.ref ia, .int (nI cn)])), (ia, .inl (G.2.1, n, .inl g))]) (fun r (_ : Unit) => r = (nI (narb false t d.2.2.1 lo hi p)))) 0 0 (va_A [(it, .inr (4, [.long (lN lo), .long (lN hi), .ref ib, .int (nI d.2.2.2), .int (nI en), .long (lN d.2.2.1)])), (ib, .inr (1, [.ref ia, .int (nI cn)])), (ia, .inl (G.2.1, n, .inl g))] sz) := by
  refine w_ofW (Qf := fun A => w_Qi G A (fun (_ : Unit) => [(it, .inr (4, [.long (lN ((narx false en D (narb false t d.2.2.1 lo hi p) lo hi p d).1)), .long (lN ((narx false en D (narb false t d.2.2.1 lo hi p) lo hi p d).2.1)), .ref ib, .int (nI ((narx false en D (narb false t d.2.2.1 lo hi p) lo hi p d).2.2.2.2.2)), .int (nI en), .long (lN ((narx false en D (narb false t d.2.2.1 lo hi p) lo hi p d).2.2.2.2.1))])), (ib, .inr (1, [.ref ia, .int (nI cn)])), (ia, .inl (G.2.1, n, .inl g))]) (fun r (_ : Unit) => r = (nI (narb false t d.2.2.1 lo hi p)))) (cc := cX3_narrow) (maxL := 7) (ret := (some .int)) (by decide) rfl (Nat.le_of_ble_eq_true rfl) ?_
  intro pZ eZ sZ mZ bZ tZ cZ A hx hb hr hts hown hlocks hml hnm hK hA H locs hP hD hS ls hl
  have hown : sZ.vm.findClass RX3 = some mZ.cls := hown
  have hl : lv_has ls 7 [(0, .ref it), (1, .int (nI p)), (2, .int (nI t))] := hl
  have qs := spl_in qlo qp
  have q5 : (hi - lo) * p < 4294967296 * 65536 := Nat.mul_lt_mul_of_lt_of_lt (by omega) qp
  have qr := rdb_lt qD he
  have qb : narb false t d.2.2.1 lo hi p < 2 := narb_lt qt
  refine lv_aload_n hx hb dX3_narrow_0 rfl (lv_at hl 0 rfl) ?_
  refine va_get (D := G.1) (ci := 4) (v := .long (lN lo)) (C := RX5) (T := TX5) (N := 6) hx hb hts hin_X3_narrow_5 hown hK.1 hP 0 rfl rfl 0 (by decide) (hts (.fieldLink RX3 7 "MixedPredict$Interval" "low" "J") (List.mem_cons_of_mem _ (List.mem_append_left _ (List.mem_append_left _ (List.mem_append_left _ (List.mem_append_left _ (List.mem_of_getElem? (i := 0) rfl))))))) (fun _ h9 => h9) rfl dX3_narrow_1 ?_
  refine lv_aload_n hx hb dX3_narrow_4 rfl (lv_at hl 0 rfl) ?_
  refine va_get (D := G.1) (ci := 4) (v := .long (lN hi)) (C := RX5) (T := TX5) (N := 6) hx hb hts hin_X3_narrow_5 hown hK.1 hP 0 rfl rfl 1 (by decide) (hts (.fieldLink RX3 15 "MixedPredict$Interval" "high" "J") (List.mem_cons_of_mem _ (List.mem_append_left _ (List.mem_append_left _ (List.mem_append_left _ (List.mem_append_left _ (List.mem_of_getElem? (i := 1) rfl))))))) (fun _ h9 => h9) rfl dX3_narrow_5 ?_
  refine lv_aload_n hx hb dX3_narrow_8 rfl (lv_at hl 0 rfl) ?_
  refine va_get (D := G.1) (ci := 4) (v := .long (lN lo)) (C := RX5) (T := TX5) (N := 6) hx hb hts hin_X3_narrow_5 hown hK.1 hP 0 rfl rfl 0 (by decide) (hts (.fieldLink RX3 7 "MixedPredict$Interval" "low" "J") (List.mem_cons_of_mem _ (List.mem_append_left _ (List.mem_append_left _ (List.mem_append_left _ (List.mem_append_left _ (List.mem_of_getElem? (i := 0) rfl))))))) (fun _ h9 => h9) rfl dX3_narrow_9 ?_
  refine lv_lsub hx hb dX3_narrow_12 ?_
  refine x_topl (y := lN (hi - lo)) (lN_sub (by omega)) ?_
  refine lv_iload_n hx hb dX3_narrow_13 rfl (lv_at hl 1 rfl) ?_
  refine lv_i2l hx hb dX3_narrow_14 rfl ?_
  refine x_topl (y := lN p) (nI_l (by omega)) ?_
  refine lv_lmul hx hb dX3_narrow_15 ?_
  refine x_topl (y := lN ((hi - lo) * p)) (lN_mul _ _) ?_
  refine lv_ldc2 (v := 65536) hx hb hown (hts (.constantLong RX3 18 (65536)) (List.mem_cons_of_mem _ (List.mem_append_left _ (List.mem_append_left _ (List.mem_append_left _ (List.mem_append_left _ (List.mem_of_getElem? (i := 2) rfl))))))) dX3_narrow_16 ?_
  refine lv_ldiv hx hb dX3_narrow_19 (by decide) ?_
  refine x_topl (y := lN (((hi - lo) * p) / 65536)) (pk_lDiv (a := (hi - lo) * p) (b := 65536) (by omega) (by omega) (by omega)) ?_
  refine lv_ladd hx hb dX3_narrow_20 ?_
  refine x_topl (y := lN (lo + (((hi - lo) * p) / 65536))) (lN_add _ _) ?_
  refine x_topl (y := lN (spl lo hi p)) (rfl) ?_
  refine lv_lstore_n (lv' := [(3, .long (lN (spl lo hi p))), (0, .ref it), (1, .int (nI p)), (2, .int (nI t))]) hx hb dX3_narrow_21 rfl hl (by decide) rfl (fun ls hl => ?_)
  refine lv_aload_n hx hb dX3_narrow_22 rfl (lv_at hl 1 rfl) ?_
  refine lv_lload_n hx hb dX3_narrow_23 rfl (lv_at hl 0 rfl) ?_
  refine lv_iload_n hx hb dX3_narrow_24 rfl (lv_at hl 3 rfl) ?_
  refine r_fin_i (va_runU (As := [.long (lN (spl lo hi p)), .int (nI t)]) (rest := []) ⟨hx, hb, hml, hown, hts⟩ (c_X5_choose l G it ib ia n cn g (by first | assumption | omega) (by first | assumption | omega) lo hi (by first | assumption | omega) en (by first | assumption | omega) (by first | assumption | omega) (by first | assumption | omega) (by first | assumption | omega) (spl lo hi p) (by first | assumption | omega) t) (va_cwA 2 hts gX3_narrow_X5_choose_u20X5 rfl rfl rfl hK.2.2.1 (by decide +kernel) ⟨Nat.le_of_ble_eq_true rfl, Nat.le_of_ble_eq_true rfl⟩) (x_preV (r_pre hK hP [0, 1, 2] rfl) hK hP (ci := 4) (q0 := 0) rfl rfl) rfl rfl hl.1 rfl (lv_room (Nat.le_of_ble_eq_true rfl)) dX3_narrow_25 ⟨Nat.zero_le _, Nat.zero_le _⟩) (fun r_1 hw => ?_)
  subst hw
  refine x_top (y := nI (narb false t d.2.2.1 lo hi p)) (rfl) ?_
  refine lv_istore (lv' := [(5, .int (nI (narb false t d.2.2.1 lo hi p))), (3, .long (lN (spl lo hi p))), (0, .ref it), (1, .int (nI p)), (2, .int (nI t))]) hx hb dX3_narrow_28 hl (by decide) rfl (fun ls hl => ?_)
  refine lv_iload hx hb dX3_narrow_30 (lv_at hl 0 rfl) ?_
  refine lv_iconst (v := 1) hx hb dX3_narrow_32 (by decide) ?_
  refine x_joinH (α := (Nat) × (Nat) × (Array Slot)) (fun z9 => F0 mZ 51 z9.2.2 []) (fun z9 H locs => (nrm false en D 4 ((z9.1), (z9.2.1), d) = narx false en D (narb false t d.2.2.1 lo hi p) lo hi p d ∧ (z9.1) ≤ (z9.2.1) ∧ (z9.2.1) < 4294967296) ∧ lv_has z9.2.2 7 [(0, .ref it), (1, .int (nI p)), (2, .int (nI t)), (3, .long (lN (spl lo hi p))), (5, .int (nI (narb false t d.2.2.1 lo hi p)))] ∧ va_P G.1 vwCl [(it, .inr (4, [.long (lN z9.1), .long (lN z9.2.1), .ref ib, .int (nI d.2.2.2), .int (nI en), .long (lN d.2.2.1)])), (ib, .inr (1, [.ref ia, .int (nI cn)])), (ia, .inl (G.2.1, n, .inl g))] H ∧ va_D A [(it, .inr (4, [.long (lN z9.1), .long (lN z9.2.1), .ref ib, .int (nI d.2.2.2), .int (nI en), .long (lN d.2.2.1)])), (ib, .inr (1, [.ref ia, .int (nI cn)])), (ia, .inl (G.2.1, n, .inl g))] ∧ va_S A sZ.heap H locs) (fun z9 H locs hJ9 => ?_) (fun hj_2 => ?_)
  · obtain ⟨l9, h9, ls⟩ := z9
    obtain ⟨hj9, hl, hP, hD, hS⟩ := hJ9
    have hj9 : nrm false en D 4 (l9, h9, d) = narx false en D (narb false t d.2.2.1 lo hi p) lo hi p d ∧ l9 ≤ h9 ∧ h9 < 4294967296 := hj9
    have hl : lv_has ls 7 [(0, .ref it), (1, .int (nI p)), (2, .int (nI t)), (3, .long (lN (spl lo hi p))), (5, .int (nI (narb false t d.2.2.1 lo hi p)))] := hl
    have hP : va_P G.1 vwCl [(it, .inr (4, [.long (lN l9), .long (lN h9), .ref ib, .int (nI d.2.2.2), .int (nI en), .long (lN d.2.2.1)])), (ib, .inr (1, [.ref ia, .int (nI cn)])), (ia, .inl (G.2.1, n, .inl g))] H := hP
    have hD : va_D A [(it, .inr (4, [.long (lN l9), .long (lN h9), .ref ib, .int (nI d.2.2.2), .int (nI en), .long (lN d.2.2.1)])), (ib, .inr (1, [.ref ia, .int (nI cn)])), (ia, .inl (G.2.1, n, .inl g))] := hD
    refine lv_iconst (v := 0) hx hb dX3_narrow_51 (by decide) ?_
    refine lv_istore (lv' := [(6, .int 0), (0, .ref it), (1, .int (nI p)), (2, .int (nI t)), (3, .long (lN (spl lo hi p))), (5, .int (nI (narb false t d.2.2.1 lo hi p)))]) hx hb dX3_narrow_52 hl (by decide) rfl (fun ls hl => ?_)
    refine x_loop (α := (Nat) × (Nat) × (Nat) × (DV) × (Array Slot)) (fun z9 => F0 mZ 54 z9.2.2.2.2 []) (fun z9 H locs => ((z9.1) ≤ 4 ∧ nrm false en D (4 - (z9.1)) ((z9.2.1), (z9.2.2.1), (z9.2.2.2.1)) = narx false en D (narb false t d.2.2.1 lo hi p) lo hi p d ∧ (z9.2.1) ≤ (z9.2.2.1) ∧ (z9.2.2.1) < 4294967296 ∧ (z9.2.2.2.1).2.2.1 < 4294967296 ∧ (z9.2.2.2.1).2.2.2 ≤ d.2.2.2 + (z9.1)) ∧ lv_has z9.2.2.2.2 7 [(0, .ref it), (1, .int (nI p)), (2, .int (nI t)), (3, .long (lN (spl lo hi p))), (5, .int (nI (narb false t d.2.2.1 lo hi p))), (6, .int (nI (z9.1)))] ∧ va_P G.1 vwCl [(it, .inr (4, [.long (lN z9.2.1), .long (lN z9.2.2.1), .ref ib, .int (nI ((z9.2.2.2.1).2.2.2)), .int (nI en), .long (lN ((z9.2.2.2.1).2.2.1))])), (ib, .inr (1, [.ref ia, .int (nI cn)])), (ia, .inl (G.2.1, n, .inl g))] H ∧ va_D A [(it, .inr (4, [.long (lN z9.2.1), .long (lN z9.2.2.1), .ref ib, .int (nI ((z9.2.2.2.1).2.2.2)), .int (nI en), .long (lN ((z9.2.2.2.1).2.2.1))])), (ib, .inr (1, [.ref ia, .int (nI cn)])), (ia, .inl (G.2.1, n, .inl g))] ∧ va_S A sZ.heap H locs) (fun z9 => 4 - (z9.1)) (fun z9 H locs hI ih_3 => ?_) (0, l9, h9, d, ls) _ _ ⟨(show 0 ≤ 4 ∧ nrm false en D (4 - 0) (l9, h9, d) = narx false en D (narb false t d.2.2.1 lo hi p) lo hi p d ∧ l9 ≤ h9 ∧ h9 < 4294967296 ∧ d.2.2.1 < 4294967296 ∧ d.2.2.2 ≤ d.2.2.2 + 0 from ⟨Nat.zero_le _, hj9.1, hj9.2.1, hj9.2.2, hv, Nat.le_refl _⟩), lv_sub hl [1, 2, 3, 4, 5, 0] rfl, hP, hD, hS⟩
    obtain ⟨i, l9, h9, d9, ls⟩ := z9
    obtain ⟨hI, hl, hP, hD, hS⟩ := hI
    have hI : i ≤ 4 ∧ nrm false en D (4 - i) (l9, h9, d9) = narx false en D (narb false t d.2.2.1 lo hi p) lo hi p d ∧ l9 ≤ h9 ∧ h9 < 4294967296 ∧ d9.2.2.1 < 4294967296 ∧ d9.2.2.2 ≤ d.2.2.2 + i := hI
    have hl : lv_has ls 7 [(0, .ref it), (1, .int (nI p)), (2, .int (nI t)), (3, .long (lN (spl lo hi p))), (5, .int (nI (narb false t d.2.2.1 lo hi p))), (6, .int (nI i))] := hl
    have hP : va_P G.1 vwCl [(it, .inr (4, [.long (lN l9), .long (lN h9), .ref ib, .int (nI d9.2.2.2), .int (nI en), .long (lN d9.2.2.1)])), (ib, .inr (1, [.ref ia, .int (nI cn)])), (ia, .inl (G.2.1, n, .inl g))] H := hP
    have hD : va_D A [(it, .inr (4, [.long (lN l9), .long (lN h9), .ref ib, .int (nI d9.2.2.2), .int (nI en), .long (lN d9.2.2.1)])), (ib, .inr (1, [.ref ia, .int (nI cn)])), (ia, .inl (G.2.1, n, .inl g))] := hD
    refine lv_iload hx hb dX3_narrow_54 (lv_at hl 5 rfl) ?_
    refine lv_iconst (v := 4) hx hb dX3_narrow_56 (by decide) ?_
    refine lv_icmp_ge (tgt := 130) hx hb dX3_narrow_57 (by decide) (fun c_57 => ?_) (fun c_57 => ?_)
    · skip
      have c_57 : 4 ≤ i := (nI_leI (a := 4) (b := i) (by omega) (by omega)).mp c_57
      have hX : narx false en D (narb false t d.2.2.1 lo hi p) lo hi p d = (l9, h9, d9) := by rw [← hI.2.1, show 4 - i = 0 by omega]; rfl
      have hfe : ((narx false en D (narb false t d.2.2.1 lo hi p) lo hi p d).1) = l9 := Eq.symm (by rw [hX])
      have hP : va_P G.1 vwCl [(it, .inr (4, [.long (lN ((narx false en D (narb false t d.2.2.1 lo hi p) lo hi p d).1)), .long (lN h9), .ref ib, .int (nI d9.2.2.2), .int (nI en), .long (lN d9.2.2.1)])), (ib, .inr (1, [.ref ia, .int (nI cn)])), (ia, .inl (G.2.1, n, .inl g))] H := by rw [hfe]; exact hP
      have hD : va_D A [(it, .inr (4, [.long (lN ((narx false en D (narb false t d.2.2.1 lo hi p) lo hi p d).1)), .long (lN h9), .ref ib, .int (nI d9.2.2.2), .int (nI en), .long (lN d9.2.2.1)])), (ib, .inr (1, [.ref ia, .int (nI cn)])), (ia, .inl (G.2.1, n, .inl g))] := by rw [hfe]; exact hD
      clear hfe
      have hfe : ((narx false en D (narb false t d.2.2.1 lo hi p) lo hi p d).2.1) = h9 := Eq.symm (by rw [hX])
      have hP : va_P G.1 vwCl [(it, .inr (4, [.long (lN ((narx false en D (narb false t d.2.2.1 lo hi p) lo hi p d).1)), .long (lN ((narx false en D (narb false t d.2.2.1 lo hi p) lo hi p d).2.1)), .ref ib, .int (nI d9.2.2.2), .int (nI en), .long (lN d9.2.2.1)])), (ib, .inr (1, [.ref ia, .int (nI cn)])), (ia, .inl (G.2.1, n, .inl g))] H := by rw [hfe]; exact hP
      have hD : va_D A [(it, .inr (4, [.long (lN ((narx false en D (narb false t d.2.2.1 lo hi p) lo hi p d).1)), .long (lN ((narx false en D (narb false t d.2.2.1 lo hi p) lo hi p d).2.1)), .ref ib, .int (nI d9.2.2.2), .int (nI en), .long (lN d9.2.2.1)])), (ib, .inr (1, [.ref ia, .int (nI cn)])), (ia, .inl (G.2.1, n, .inl g))] := by rw [hfe]; exact hD
      clear hfe
      have hfe : ((narx false en D (narb false t d.2.2.1 lo hi p) lo hi p d).2.2.2.2.2) = d9.2.2.2 := Eq.symm (by rw [hX])
      have hP : va_P G.1 vwCl [(it, .inr (4, [.long (lN ((narx false en D (narb false t d.2.2.1 lo hi p) lo hi p d).1)), .long (lN ((narx false en D (narb false t d.2.2.1 lo hi p) lo hi p d).2.1)), .ref ib, .int (nI ((narx false en D (narb false t d.2.2.1 lo hi p) lo hi p d).2.2.2.2.2)), .int (nI en), .long (lN d9.2.2.1)])), (ib, .inr (1, [.ref ia, .int (nI cn)])), (ia, .inl (G.2.1, n, .inl g))] H := by rw [hfe]; exact hP
      have hD : va_D A [(it, .inr (4, [.long (lN ((narx false en D (narb false t d.2.2.1 lo hi p) lo hi p d).1)), .long (lN ((narx false en D (narb false t d.2.2.1 lo hi p) lo hi p d).2.1)), .ref ib, .int (nI ((narx false en D (narb false t d.2.2.1 lo hi p) lo hi p d).2.2.2.2.2)), .int (nI en), .long (lN d9.2.2.1)])), (ib, .inr (1, [.ref ia, .int (nI cn)])), (ia, .inl (G.2.1, n, .inl g))] := by rw [hfe]; exact hD
      clear hfe
      have hfe : ((narx false en D (narb false t d.2.2.1 lo hi p) lo hi p d).2.2.2.2.1) = d9.2.2.1 := Eq.symm (by rw [hX])
      have hP : va_P G.1 vwCl [(it, .inr (4, [.long (lN ((narx false en D (narb false t d.2.2.1 lo hi p) lo hi p d).1)), .long (lN ((narx false en D (narb false t d.2.2.1 lo hi p) lo hi p d).2.1)), .ref ib, .int (nI ((narx false en D (narb false t d.2.2.1 lo hi p) lo hi p d).2.2.2.2.2)), .int (nI en), .long (lN ((narx false en D (narb false t d.2.2.1 lo hi p) lo hi p d).2.2.2.2.1))])), (ib, .inr (1, [.ref ia, .int (nI cn)])), (ia, .inl (G.2.1, n, .inl g))] H := by rw [hfe]; exact hP
      have hD : va_D A [(it, .inr (4, [.long (lN ((narx false en D (narb false t d.2.2.1 lo hi p) lo hi p d).1)), .long (lN ((narx false en D (narb false t d.2.2.1 lo hi p) lo hi p d).2.1)), .ref ib, .int (nI ((narx false en D (narb false t d.2.2.1 lo hi p) lo hi p d).2.2.2.2.2)), .int (nI en), .long (lN ((narx false en D (narb false t d.2.2.1 lo hi p) lo hi p d).2.2.2.2.1))])), (ib, .inr (1, [.ref ia, .int (nI cn)])), (ia, .inl (G.2.1, n, .inl g))] := by rw [hfe]; exact hD
      clear hfe
      refine lv_iload hx hb dX3_narrow_130 (lv_at hl 4 rfl) ?_
      exact w_iret () hx hb hr hlocks (rfl) hP hD hS dX3_narrow_132
    · skip
      have c_57 : ¬ (4 ≤ i) := fun z8 => c_57 ((nI_leI (a := 4) (b := i) (by omega) (by omega)).mpr z8)
      refine lv_aload_n hx hb dX3_narrow_60 rfl (lv_at hl 0 rfl) ?_
      refine va_get (D := G.1) (ci := 4) (v := .long (lN l9)) (C := RX5) (T := TX5) (N := 6) hx hb hts hin_X3_narrow_5 hown hK.1 hP 0 rfl rfl 0 (by decide) (hts (.fieldLink RX3 7 "MixedPredict$Interval" "low" "J") (List.mem_cons_of_mem _ (List.mem_append_left _ (List.mem_append_left _ (List.mem_append_left _ (List.mem_append_left _ (List.mem_of_getElem? (i := 0) rfl))))))) (fun _ h9 => h9) rfl dX3_narrow_61 ?_
      refine lv_bipush (v := 24) hx hb dX3_narrow_64 (by decide) ?_
      refine lv_lshr hx hb dX3_narrow_66 rfl ?_
      refine x_topl (y := lN (l9 / 16777216)) (l_shr24 (by omega)) ?_
      refine lv_aload_n hx hb dX3_narrow_67 rfl (lv_at hl 0 rfl) ?_
      refine va_get (D := G.1) (ci := 4) (v := .long (lN h9)) (C := RX5) (T := TX5) (N := 6) hx hb hts hin_X3_narrow_5 hown hK.1 hP 0 rfl rfl 1 (by decide) (hts (.fieldLink RX3 15 "MixedPredict$Interval" "high" "J") (List.mem_cons_of_mem _ (List.mem_append_left _ (List.mem_append_left _ (List.mem_append_left _ (List.mem_append_left _ (List.mem_of_getElem? (i := 1) rfl))))))) (fun _ h9 => h9) rfl dX3_narrow_68 ?_
      refine lv_bipush (v := 24) hx hb dX3_narrow_71 (by decide) ?_
      refine lv_lshr hx hb dX3_narrow_73 rfl ?_
      refine x_topl (y := lN (h9 / 16777216)) (l_shr24 (by omega)) ?_
      refine W.lcmp hx hb dX3_narrow_74 ?_
      refine lv_if_ne (tgt := 130) hx hb dX3_narrow_75 (by decide) (fun c_75 => ?_) (fun c_75 => ?_)
      · skip
        have c_75 := fun z8 => c_75 ((lg_cmp_eq _ _).mpr z8)
        have c_75 : ¬ (l9 / 16777216 = h9 / 16777216) := fun z8 => c_75 ((lN_eqI (a := l9 / 16777216) (b := h9 / 16777216) (by omega) (by omega)).mpr z8)
        have hX : narx false en D (narb false t d.2.2.1 lo hi p) lo hi p d = (l9, h9, d9) := by rw [← hI.2.1]; exact nrm_e c_75
        have hfe : ((narx false en D (narb false t d.2.2.1 lo hi p) lo hi p d).1) = l9 := Eq.symm (by rw [hX])
        have hP : va_P G.1 vwCl [(it, .inr (4, [.long (lN ((narx false en D (narb false t d.2.2.1 lo hi p) lo hi p d).1)), .long (lN h9), .ref ib, .int (nI d9.2.2.2), .int (nI en), .long (lN d9.2.2.1)])), (ib, .inr (1, [.ref ia, .int (nI cn)])), (ia, .inl (G.2.1, n, .inl g))] H := by rw [hfe]; exact hP
        have hD : va_D A [(it, .inr (4, [.long (lN ((narx false en D (narb false t d.2.2.1 lo hi p) lo hi p d).1)), .long (lN h9), .ref ib, .int (nI d9.2.2.2), .int (nI en), .long (lN d9.2.2.1)])), (ib, .inr (1, [.ref ia, .int (nI cn)])), (ia, .inl (G.2.1, n, .inl g))] := by rw [hfe]; exact hD
        clear hfe
        have hfe : ((narx false en D (narb false t d.2.2.1 lo hi p) lo hi p d).2.1) = h9 := Eq.symm (by rw [hX])
        have hP : va_P G.1 vwCl [(it, .inr (4, [.long (lN ((narx false en D (narb false t d.2.2.1 lo hi p) lo hi p d).1)), .long (lN ((narx false en D (narb false t d.2.2.1 lo hi p) lo hi p d).2.1)), .ref ib, .int (nI d9.2.2.2), .int (nI en), .long (lN d9.2.2.1)])), (ib, .inr (1, [.ref ia, .int (nI cn)])), (ia, .inl (G.2.1, n, .inl g))] H := by rw [hfe]; exact hP
        have hD : va_D A [(it, .inr (4, [.long (lN ((narx false en D (narb false t d.2.2.1 lo hi p) lo hi p d).1)), .long (lN ((narx false en D (narb false t d.2.2.1 lo hi p) lo hi p d).2.1)), .ref ib, .int (nI d9.2.2.2), .int (nI en), .long (lN d9.2.2.1)])), (ib, .inr (1, [.ref ia, .int (nI cn)])), (ia, .inl (G.2.1, n, .inl g))] := by rw [hfe]; exact hD
        clear hfe
        have hfe : ((narx false en D (narb false t d.2.2.1 lo hi p) lo hi p d).2.2.2.2.2) = d9.2.2.2 := Eq.symm (by rw [hX])
        have hP : va_P G.1 vwCl [(it, .inr (4, [.long (lN ((narx false en D (narb false t d.2.2.1 lo hi p) lo hi p d).1)), .long (lN ((narx false en D (narb false t d.2.2.1 lo hi p) lo hi p d).2.1)), .ref ib, .int (nI ((narx false en D (narb false t d.2.2.1 lo hi p) lo hi p d).2.2.2.2.2)), .int (nI en), .long (lN d9.2.2.1)])), (ib, .inr (1, [.ref ia, .int (nI cn)])), (ia, .inl (G.2.1, n, .inl g))] H := by rw [hfe]; exact hP
        have hD : va_D A [(it, .inr (4, [.long (lN ((narx false en D (narb false t d.2.2.1 lo hi p) lo hi p d).1)), .long (lN ((narx false en D (narb false t d.2.2.1 lo hi p) lo hi p d).2.1)), .ref ib, .int (nI ((narx false en D (narb false t d.2.2.1 lo hi p) lo hi p d).2.2.2.2.2)), .int (nI en), .long (lN d9.2.2.1)])), (ib, .inr (1, [.ref ia, .int (nI cn)])), (ia, .inl (G.2.1, n, .inl g))] := by rw [hfe]; exact hD
        clear hfe
        have hfe : ((narx false en D (narb false t d.2.2.1 lo hi p) lo hi p d).2.2.2.2.1) = d9.2.2.1 := Eq.symm (by rw [hX])
        have hP : va_P G.1 vwCl [(it, .inr (4, [.long (lN ((narx false en D (narb false t d.2.2.1 lo hi p) lo hi p d).1)), .long (lN ((narx false en D (narb false t d.2.2.1 lo hi p) lo hi p d).2.1)), .ref ib, .int (nI ((narx false en D (narb false t d.2.2.1 lo hi p) lo hi p d).2.2.2.2.2)), .int (nI en), .long (lN ((narx false en D (narb false t d.2.2.1 lo hi p) lo hi p d).2.2.2.2.1))])), (ib, .inr (1, [.ref ia, .int (nI cn)])), (ia, .inl (G.2.1, n, .inl g))] H := by rw [hfe]; exact hP
        have hD : va_D A [(it, .inr (4, [.long (lN ((narx false en D (narb false t d.2.2.1 lo hi p) lo hi p d).1)), .long (lN ((narx false en D (narb false t d.2.2.1 lo hi p) lo hi p d).2.1)), .ref ib, .int (nI ((narx false en D (narb false t d.2.2.1 lo hi p) lo hi p d).2.2.2.2.2)), .int (nI en), .long (lN ((narx false en D (narb false t d.2.2.1 lo hi p) lo hi p d).2.2.2.2.1))])), (ib, .inr (1, [.ref ia, .int (nI cn)])), (ia, .inl (G.2.1, n, .inl g))] := by rw [hfe]; exact hD
        clear hfe
        refine lv_iload hx hb dX3_narrow_130 (lv_at hl 4 rfl) ?_
        exact w_iret () hx hb hr hlocks (rfl) hP hD hS dX3_narrow_132
      · skip
        have c_75 := (lg_cmp_eq _ _).mp c_75
        have c_75 : l9 / 16777216 = h9 / 16777216 := (lN_eqI (a := l9 / 16777216) (b := h9 / 16777216) (by omega) (by omega)).mp c_75
        refine lv_aload_n hx hb dX3_narrow_78 rfl (lv_at hl 0 rfl) ?_
        refine lv_aload_n hx hb dX3_narrow_79 rfl (lv_at hl 0 rfl) ?_
        refine va_get (D := G.1) (ci := 4) (v := .long (lN l9)) (C := RX5) (T := TX5) (N := 6) hx hb hts hin_X3_narrow_5 hown hK.1 hP 0 rfl rfl 0 (by decide) (hts (.fieldLink RX3 7 "MixedPredict$Interval" "low" "J") (List.mem_cons_of_mem _ (List.mem_append_left _ (List.mem_append_left _ (List.mem_append_left _ (List.mem_append_left _ (List.mem_of_getElem? (i := 0) rfl))))))) (fun _ h9 => h9) rfl dX3_narrow_80 ?_
        refine lv_bipush (v := 24) hx hb dX3_narrow_83 (by decide) ?_
        refine lv_lshr hx hb dX3_narrow_85 rfl ?_
        refine x_topl (y := lN (l9 / 16777216)) (l_shr24 (by omega)) ?_
        refine lv_l2i hx hb dX3_narrow_86 rfl ?_
        refine x_top (y := nI (l9 / 16777216)) (lN_i _) ?_
        refine w_fin_v (WR := []) (va_runU (As := [.int (nI (l9 / 16777216))]) (rest := []) ⟨hx, hb, hml, hown, hts⟩ (c_X5_leave l G it ib ia n cn g (by first | assumption | omega) (by first | assumption | omega) l9 h9 d9 en D (by first | assumption | omega) (by first | assumption | omega) (hI.2.2.2.2.1) (l9 / 16777216) (by omega) H.size) (va_cwA 1 hts gX3_narrow_X5_leave_u24X5 rfl rfl rfl hK.2.2.2 (by decide +kernel) ⟨Nat.le_of_ble_eq_true rfl, Nat.le_of_ble_eq_true rfl⟩) (x_preV (w_pre hK hP hD [0, 1, 2] (by decide) rfl) hK hP (ci := 4) (q0 := 0) rfl rfl) rfl rfl hl.1 rfl (lv_room (Nat.le_of_ble_eq_true rfl)) dX3_narrow_87 ⟨Nat.zero_le _, Nat.zero_le _⟩) hP hD hS hA [0, 1, 2] [] rfl rfl (by decide) (by decide) [0, 1, 2] (by decide) (fun (_ : Unit) => [(it, .inr (4, [.long (lN l9), .long (lN h9), .ref ib, .int (nI ((emt false en D (l9 / 16777216) d9).2.2.2)), .int (nI en), .long (lN ((emt false en D (l9 / 16777216) d9).2.2.1))])), (ib, .inr (1, [.ref ia, .int (nI cn)])), (ia, .inl (G.2.1, n, .inl g))]) (fun _ => rfl) (fun u H locs hw hP hD hS => ?_)
        have hP : va_P G.1 vwCl [(it, .inr (4, [.long (lN l9), .long (lN h9), .ref ib, .int (nI ((emt false en D (l9 / 16777216) d9).2.2.2)), .int (nI en), .long (lN ((emt false en D (l9 / 16777216) d9).2.2.1))])), (ib, .inr (1, [.ref ia, .int (nI cn)])), (ia, .inl (G.2.1, n, .inl g))] H := hP
        have hD : va_D A [(it, .inr (4, [.long (lN l9), .long (lN h9), .ref ib, .int (nI ((emt false en D (l9 / 16777216) d9).2.2.2)), .int (nI en), .long (lN ((emt false en D (l9 / 16777216) d9).2.2.1))])), (ib, .inr (1, [.ref ia, .int (nI cn)])), (ia, .inl (G.2.1, n, .inl g))] := hD
        refine lv_aload_n hx hb dX3_narrow_90 rfl (lv_at hl 0 rfl) ?_
        refine lv_aload_n hx hb dX3_narrow_91 rfl (lv_at hl 0 rfl) ?_
        refine va_get (D := G.1) (ci := 4) (v := .long (lN l9)) (C := RX5) (T := TX5) (N := 6) hx hb hts hin_X3_narrow_5 hown hK.1 hP 0 rfl rfl 0 (by decide) (hts (.fieldLink RX3 7 "MixedPredict$Interval" "low" "J") (List.mem_cons_of_mem _ (List.mem_append_left _ (List.mem_append_left _ (List.mem_append_left _ (List.mem_append_left _ (List.mem_of_getElem? (i := 0) rfl))))))) (fun _ h9 => h9) rfl dX3_narrow_92 ?_
        refine lv_bipush (v := 8) hx hb dX3_narrow_95 (by decide) ?_
        refine lv_lshl hx hb dX3_narrow_97 rfl ?_
        refine x_topl (y := lN (l9 * 256)) (l_shl8 (by omega)) ?_
        refine lv_ldc2 (v := 4294967295) hx hb hown (hts (.constantLong RX3 13 (4294967295)) (List.mem_cons_of_mem _ (List.mem_append_left _ (List.mem_append_left _ (List.mem_append_left _ (List.mem_append_left _ (List.mem_of_getElem? (i := 3) rfl))))))) dX3_narrow_98 ?_
        refine lv_land hx hb dX3_narrow_101 ?_
        refine x_topl (y := lN ((l9 * 256) % 4294967296)) (l_and32 _) ?_
        refine va_put (D := G.1) (ci := 4) (v := .long (lN ((l9 * 256) % 4294967296))) (ty := tyX5 0) (C := RX5) (T := TX5) (N := 6) hx hb hts hin_X3_narrow_5 tyX5 tyX5_ok nmX5 hown hK.1 hP hD hS 0 rfl rfl 0 (by decide) (hts (.fieldLink RX3 7 "MixedPredict$Interval" "low" "J") (List.mem_cons_of_mem _ (List.mem_append_left _ (List.mem_append_left _ (List.mem_append_left _ (List.mem_append_left _ (List.mem_of_getElem? (i := 0) rfl))))))) (fun _ h9 => h9) rfl (tyX5_ok 0 (by decide)) rfl rfl (Nat.le_of_ble_eq_true rfl) dX3_narrow_102 (fun H locs hP hD hS => ?_)
        have hP : va_P G.1 vwCl [(it, .inr (4, [.long (lN ((l9 * 256) % 4294967296)), .long (lN h9), .ref ib, .int (nI ((emt false en D (l9 / 16777216) d9).2.2.2)), .int (nI en), .long (lN ((emt false en D (l9 / 16777216) d9).2.2.1))])), (ib, .inr (1, [.ref ia, .int (nI cn)])), (ia, .inl (G.2.1, n, .inl g))] H := hP
        have hD : va_D A [(it, .inr (4, [.long (lN ((l9 * 256) % 4294967296)), .long (lN h9), .ref ib, .int (nI ((emt false en D (l9 / 16777216) d9).2.2.2)), .int (nI en), .long (lN ((emt false en D (l9 / 16777216) d9).2.2.1))])), (ib, .inr (1, [.ref ia, .int (nI cn)])), (ia, .inl (G.2.1, n, .inl g))] := hD
        refine lv_aload_n hx hb dX3_narrow_105 rfl (lv_at hl 0 rfl) ?_
        refine lv_aload_n hx hb dX3_narrow_106 rfl (lv_at hl 0 rfl) ?_
        refine va_get (D := G.1) (ci := 4) (v := .long (lN h9)) (C := RX5) (T := TX5) (N := 6) hx hb hts hin_X3_narrow_5 hown hK.1 hP 0 rfl rfl 1 (by decide) (hts (.fieldLink RX3 15 "MixedPredict$Interval" "high" "J") (List.mem_cons_of_mem _ (List.mem_append_left _ (List.mem_append_left _ (List.mem_append_left _ (List.mem_append_left _ (List.mem_of_getElem? (i := 1) rfl))))))) (fun _ h9 => h9) rfl dX3_narrow_107 ?_
        refine lv_bipush (v := 8) hx hb dX3_narrow_110 (by decide) ?_
        refine lv_lshl hx hb dX3_narrow_112 rfl ?_
        refine x_topl (y := lN (h9 * 256)) (l_shl8 (by omega)) ?_
        refine lv_ldc2 (v := 4294967295) hx hb hown (hts (.constantLong RX3 13 (4294967295)) (List.mem_cons_of_mem _ (List.mem_append_left _ (List.mem_append_left _ (List.mem_append_left _ (List.mem_append_left _ (List.mem_of_getElem? (i := 3) rfl))))))) dX3_narrow_113 ?_
        refine lv_land hx hb dX3_narrow_116 ?_
        refine x_topl (y := lN ((h9 * 256) % 4294967296)) (l_and32 _) ?_
        refine lv_ldc2 (v := 255) hx hb hown (hts (.constantLong RX3 28 (255)) (List.mem_cons_of_mem _ (List.mem_append_left _ (List.mem_append_left _ (List.mem_append_left _ (List.mem_append_left _ (List.mem_of_getElem? (i := 4) rfl))))))) dX3_narrow_117 ?_
        refine lv_lor hx hb dX3_narrow_120 ?_
        refine x_topl (y := lN (((h9 * 256) % 4294967296) + 255)) (l_or255 (by omega) (by omega)) ?_
        refine va_put (D := G.1) (ci := 4) (v := .long (lN (((h9 * 256) % 4294967296) + 255))) (ty := tyX5 1) (C := RX5) (T := TX5) (N := 6) hx hb hts hin_X3_narrow_5 tyX5 tyX5_ok nmX5 hown hK.1 hP hD hS 0 rfl rfl 1 (by decide) (hts (.fieldLink RX3 15 "MixedPredict$Interval" "high" "J") (List.mem_cons_of_mem _ (List.mem_append_left _ (List.mem_append_left _ (List.mem_append_left _ (List.mem_append_left _ (List.mem_of_getElem? (i := 1) rfl))))))) (fun _ h9 => h9) rfl (tyX5_ok 1 (by decide)) rfl rfl (Nat.le_of_ble_eq_true rfl) dX3_narrow_121 (fun H locs hP hD hS => ?_)
        have hP : va_P G.1 vwCl [(it, .inr (4, [.long (lN ((l9 * 256) % 4294967296)), .long (lN (((h9 * 256) % 4294967296) + 255)), .ref ib, .int (nI ((emt false en D (l9 / 16777216) d9).2.2.2)), .int (nI en), .long (lN ((emt false en D (l9 / 16777216) d9).2.2.1))])), (ib, .inr (1, [.ref ia, .int (nI cn)])), (ia, .inl (G.2.1, n, .inl g))] H := hP
        have hD : va_D A [(it, .inr (4, [.long (lN ((l9 * 256) % 4294967296)), .long (lN (((h9 * 256) % 4294967296) + 255)), .ref ib, .int (nI ((emt false en D (l9 / 16777216) d9).2.2.2)), .int (nI en), .long (lN ((emt false en D (l9 / 16777216) d9).2.2.1))])), (ib, .inr (1, [.ref ia, .int (nI cn)])), (ia, .inl (G.2.1, n, .inl g))] := hD
        refine lv_iinc (v := nI (i + 1)) (lv' := [(6, .int (nI (i + 1))), (0, .ref it), (1, .int (nI p)), (2, .int (nI t)), (3, .long (lN (spl lo hi p))), (5, .int (nI (narb false t d.2.2.1 lo hi p)))]) hx hb dX3_narrow_124 hl (k := 5) rfl (by first | rfl | exact nI_add _ _) (by decide) rfl (fun ls hl => ?_)
        refine lv_goto (tgt := 54) hx hb dX3_narrow_127 (by decide) ?_
        exact ih_3 (i + 1, (l9 * 256) % 4294967296, ((h9 * 256) % 4294967296) + 255, (emt false en D (l9 / 16777216) d9), ls) _ _ (show 4 - (i + 1) < 4 - i from by omega) ⟨(show (i + 1) ≤ 4 ∧ nrm false en D (4 - (i + 1)) (((l9 * 256) % 4294967296), (((h9 * 256) % 4294967296) + 255), ((emt false en D (l9 / 16777216) d9))) = narx false en D (narb false t d.2.2.1 lo hi p) lo hi p d ∧ ((l9 * 256) % 4294967296) ≤ (((h9 * 256) % 4294967296) + 255) ∧ (((h9 * 256) % 4294967296) + 255) < 4294967296 ∧ ((emt false en D (l9 / 16777216) d9)).2.2.1 < 4294967296 ∧ ((emt false en D (l9 / 16777216) d9)).2.2.2 ≤ d.2.2.2 + (i + 1) from ⟨by omega, by rw [← hI.2.1, show 4 - i = (4 - (i + 1)) + 1 by omega, nrm_s c_75], by omega, by omega, emt_v hI.2.2.2.2.1 qr, by have := @emt_nx false en D (l9 / 16777216) d9; omega⟩), lv_sub hl [1, 2, 3, 4, 5, 0] rfl, hP, hD, hS⟩
  · skip
    refine lv_icmp_ne (tgt := 44) hx hb dX3_narrow_33 (by decide) (fun c_33 => ?_) (fun c_33 => ?_)
    · skip
      have c_33 : ¬ ((narb false t d.2.2.1 lo hi p) = 1) := fun z8 => c_33 ((nI_eq (a := (narb false t d.2.2.1 lo hi p)) (b := 1) (by omega) (by omega)).mpr z8)
      refine lv_aload_n hx hb dX3_narrow_44 rfl (lv_at hl 2 rfl) ?_
      refine lv_lload_n hx hb dX3_narrow_45 rfl (lv_at hl 1 rfl) ?_
      refine lv_lconst (v := 1) hx hb dX3_narrow_46 (by decide) ?_
      refine lv_ladd hx hb dX3_narrow_47 ?_
      refine x_topl (y := lN (spl lo hi p + 1)) (lN_add _ _) ?_
      refine va_put (D := G.1) (ci := 4) (v := .long (lN (spl lo hi p + 1))) (ty := tyX5 0) (C := RX5) (T := TX5) (N := 6) hx hb hts hin_X3_narrow_5 tyX5 tyX5_ok nmX5 hown hK.1 hP hD hS 0 rfl rfl 0 (by decide) (hts (.fieldLink RX3 7 "MixedPredict$Interval" "low" "J") (List.mem_cons_of_mem _ (List.mem_append_left _ (List.mem_append_left _ (List.mem_append_left _ (List.mem_append_left _ (List.mem_of_getElem? (i := 0) rfl))))))) (fun _ h9 => h9) rfl (tyX5_ok 0 (by decide)) rfl rfl (Nat.le_of_ble_eq_true rfl) dX3_narrow_48 (fun H locs hP hD hS => ?_)
      have hP : va_P G.1 vwCl [(it, .inr (4, [.long (lN (spl lo hi p + 1)), .long (lN hi), .ref ib, .int (nI d.2.2.2), .int (nI en), .long (lN d.2.2.1)])), (ib, .inr (1, [.ref ia, .int (nI cn)])), (ia, .inl (G.2.1, n, .inl g))] H := hP
      have hD : va_D A [(it, .inr (4, [.long (lN (spl lo hi p + 1)), .long (lN hi), .ref ib, .int (nI d.2.2.2), .int (nI en), .long (lN d.2.2.1)])), (ib, .inr (1, [.ref ia, .int (nI cn)])), (ia, .inl (G.2.1, n, .inl g))] := hD
      exact hj_2 (spl lo hi p + 1, hi, ls) H locs ⟨(show nrm false en D 4 ((spl lo hi p + 1), hi, d) = narx false en D (narb false t d.2.2.1 lo hi p) lo hi p d ∧ (spl lo hi p + 1) ≤ hi ∧ hi < 4294967296 from ⟨by rw [narx, if_neg c_33], by omega, by omega⟩), lv_sub hl [2, 3, 4, 1, 0] rfl, hP, hD, hS⟩
    · skip
      have c_33 : (narb false t d.2.2.1 lo hi p) = 1 := (nI_eq (a := (narb false t d.2.2.1 lo hi p)) (b := 1) (by omega) (by omega)).mp c_33
      refine lv_aload_n hx hb dX3_narrow_36 rfl (lv_at hl 2 rfl) ?_
      refine lv_lload_n hx hb dX3_narrow_37 rfl (lv_at hl 1 rfl) ?_
      refine va_put (D := G.1) (ci := 4) (v := .long (lN (spl lo hi p))) (ty := tyX5 1) (C := RX5) (T := TX5) (N := 6) hx hb hts hin_X3_narrow_5 tyX5 tyX5_ok nmX5 hown hK.1 hP hD hS 0 rfl rfl 1 (by decide) (hts (.fieldLink RX3 15 "MixedPredict$Interval" "high" "J") (List.mem_cons_of_mem _ (List.mem_append_left _ (List.mem_append_left _ (List.mem_append_left _ (List.mem_append_left _ (List.mem_of_getElem? (i := 1) rfl))))))) (fun _ h9 => h9) rfl (tyX5_ok 1 (by decide)) rfl rfl (Nat.le_of_ble_eq_true rfl) dX3_narrow_38 (fun H locs hP hD hS => ?_)
      have hP : va_P G.1 vwCl [(it, .inr (4, [.long (lN lo), .long (lN (spl lo hi p)), .ref ib, .int (nI d.2.2.2), .int (nI en), .long (lN d.2.2.1)])), (ib, .inr (1, [.ref ia, .int (nI cn)])), (ia, .inl (G.2.1, n, .inl g))] H := hP
      have hD : va_D A [(it, .inr (4, [.long (lN lo), .long (lN (spl lo hi p)), .ref ib, .int (nI d.2.2.2), .int (nI en), .long (lN d.2.2.1)])), (ib, .inr (1, [.ref ia, .int (nI cn)])), (ia, .inl (G.2.1, n, .inl g))] := hD
      refine lv_goto (tgt := 51) hx hb dX3_narrow_41 (by decide) ?_
      exact hj_2 (lo, spl lo hi p, ls) H locs ⟨(show nrm false en D 4 (lo, (spl lo hi p), d) = narx false en D (narb false t d.2.2.1 lo hi p) lo hi p d ∧ lo ≤ (spl lo hi p) ∧ (spl lo hi p) < 4294967296 from ⟨by rw [narx, if_pos c_33], by omega, by omega⟩), lv_sub hl [2, 3, 4, 1, 0] rfl, hP, hD, hS⟩
