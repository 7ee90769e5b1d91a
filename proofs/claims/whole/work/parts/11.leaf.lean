theorem hin_X1_add_1 : ∀ w ∈ u_ws RX1 TX1 2, w ∈ wsX1_add := fun w h => List.mem_cons_of_mem _ (List.mem_append_right _ h)
theorem hin_X1_addAll_1 : ∀ w ∈ u_ws RX1 TX1 2, w ∈ wsX1_addAll := fun w h => List.mem_cons_of_mem _ (List.mem_append_right _ h)
theorem hin_X1_count_1 : ∀ w ∈ u_ws RX1 TX1 2, w ∈ wsX1_count := fun w h => List.mem_cons_of_mem _ (List.mem_append_right _ h)
theorem hin_X1_forget_1 : ∀ w ∈ u_ws RX1 TX1 2, w ∈ wsX1_forget := fun w h => List.mem_cons_of_mem _ (List.mem_append_right _ h)
theorem hin_X1_get_1 : ∀ w ∈ u_ws RX1 TX1 2, w ∈ wsX1_get := fun w h => List.mem_cons_of_mem _ (List.mem_append_right _ h)
theorem hin_X1_has_1 : ∀ w ∈ u_ws RX1 TX1 2, w ∈ wsX1_has := fun w h => List.mem_cons_of_mem _ (List.mem_append_right _ h)
theorem hin_X1_init_1 : ∀ w ∈ u_ws RX1 TX1 2, w ∈ wsX1_init := fun w h => List.mem_cons_of_mem _ (List.mem_append_right _ h)
theorem hin_X1_set_1 : ∀ w ∈ u_ws RX1 TX1 2, w ∈ wsX1_set := fun w h => List.mem_cons_of_mem _ (List.mem_append_right _ h)
theorem hin_X6_fill_6 : ∀ w ∈ u_ws RX6 TX6 1, w ∈ wsX6_fill := fun w h => List.mem_cons_of_mem _ (List.mem_append_right _ h)
theorem hin_X6_get_6 : ∀ w ∈ u_ws RX6 TX6 1, w ∈ wsX6_get := fun w h => List.mem_cons_of_mem _ (List.mem_append_right _ h)
theorem hin_X6_init_6 : ∀ w ∈ u_ws RX6 TX6 1, w ∈ wsX6_init := fun w h => List.mem_cons_of_mem _ (List.mem_append_right _ h)
theorem hin_X6_set_6 : ∀ w ∈ u_ws RX6 TX6 1, w ∈ wsX6_set := fun w h => List.mem_cons_of_mem _ (List.mem_append_right _ h)
set_option maxHeartbeats 4000000 in
set_option maxRecDepth 100000 in
theorem c_X10_brought (l : Launch) (G : GG) (v lo hi : Int32) : Met l yX10_brought wsX10_brought ({ frames := 0, cells := 0, slots := 0, locals := 0 } : Room) (r_Pc G [.int v, .int lo, .int hi] []) (vp_Si (fun r => r = (br v lo hi))) 0 0 (fun _ => False) := by
  refine r_ofW (cc := cX10_brought) (maxL := 3) (ret := (some .int)) (by decide) rfl (Nat.le_of_ble_eq_true rfl) ?_
  intro pZ eZ sZ mZ bZ tZ cZ hx hb hr hts hown hlocks hml hK H hH hP ls hl
  have hown : sZ.vm.findClass RX10 = some mZ.cls := hown
  have hl : lv_has ls 3 [(0, .int v), (1, .int lo), (2, .int hi)] := hl
  refine lv_iload_n hx hb dX10_brought_0 rfl (lv_at hl 0 rfl) ?_
  refine lv_iload_n hx hb dX10_brought_1 rfl (lv_at hl 1 rfl) ?_
  refine lv_icmp_ge (tgt := 9) hx hb dX10_brought_2 (by decide) (fun c_2 => ?_) (fun c_2 => ?_)
  · skip
    refine lv_iload_n hx hb dX10_brought_9 rfl (lv_at hl 0 rfl) ?_
    refine lv_iload_n hx hb dX10_brought_10 rfl (lv_at hl 2 rfl) ?_
    refine lv_icmp_le (tgt := 18) hx hb dX10_brought_11 (by decide) (fun c_11 => ?_) (fun c_11 => ?_)
    · skip
      refine lv_iload_n hx hb dX10_brought_18 rfl (lv_at hl 0 rfl) ?_
      exact r_iret hx hb hr hlocks (by rw [br, if_neg (Int32.not_lt.mpr c_2), if_neg (Int32.not_lt.mpr c_11)]) hH dX10_brought_19
    · skip
      refine lv_iload_n hx hb dX10_brought_14 rfl (lv_at hl 2 rfl) ?_
      refine lv_goto (tgt := 19) hx hb dX10_brought_15 (by decide) ?_
      exact r_iret hx hb hr hlocks (by rw [br, if_neg (Int32.not_lt.mpr c_2), if_pos (Int32.not_le.mp c_11)]) hH dX10_brought_19
  · skip
    refine lv_iload_n hx hb dX10_brought_5 rfl (lv_at hl 1 rfl) ?_
    refine lv_goto (tgt := 19) hx hb dX10_brought_6 (by decide) ?_
    exact r_iret hx hb hr hlocks (by rw [br, if_pos (Int32.not_le.mp c_2)]) hH dX10_brought_19

set_option maxHeartbeats 4000000 in
set_option maxRecDepth 100000 in
theorem c_J7_fill_53178 (l : Launch) (G : GG) (a n : Nat) (f : Nat → Int32) (v : Int32) (hn : n < 2 ^ 31) (sz : Nat) : Met l yJ7_fill_53178 wsJ7_fill_53178 ({ frames := 0, cells := 0, slots := 0, locals := 0 } : Room) (w_Pc G [.ref a, .int v] sz [(a, .inl (G.2.1, n, .inl f))]) (w_Qv G (va_A [(a, .inl (G.2.1, n, .inl f))] sz) (fun (_ : Unit) => [(a, .inl (G.2.1, n, .inl (fillN n v f)))]) (fun (_ : Unit) => True)) 0 0 (va_A [(a, .inl (G.2.1, n, .inl f))] sz) := by
  refine w_ofW (Qf := fun A => w_Qv G A (fun (_ : Unit) => [(a, .inl (G.2.1, n, .inl (fillN n v f)))]) (fun (_ : Unit) => True)) (cc := cJ7_fill_53178) (maxL := 4) (ret := none) (by decide) rfl (Nat.le_of_ble_eq_true rfl) ?_
  intro pZ eZ sZ mZ bZ tZ cZ A hx hb hr hts hown hlocks hml hnm hK hA H locs hP hD hS ls hl
  have hown : sZ.vm.findClass RJ7 = some mZ.cls := hown
  have hl : lv_has ls 4 [(0, .ref a), (1, .int v)] := hl
  refine lv_iconst (v := 0) hx hb dJ7_fill_53178_0 (by decide) ?_
  refine lv_istore_n (lv' := [(2, .int 0), (0, .ref a), (1, .int v)]) hx hb dJ7_fill_53178_1 rfl hl (by decide) rfl (fun ls hl => ?_)
  refine lv_aload_n hx hb dJ7_fill_53178_2 rfl (lv_at hl 1 rfl) ?_
  refine va_alen hx hb hK.1 hP 0 0 rfl rfl (v := nI n) rfl dJ7_fill_53178_3 ?_
  refine lv_istore_n (lv' := [(3, .int (nI n)), (2, .int 0), (0, .ref a), (1, .int v)]) hx hb dJ7_fill_53178_4 rfl hl (by decide) rfl (fun ls hl => ?_)
  refine x_loop (α := (Nat) × (Nat → Int32) × (Array Slot)) (fun z9 => F0 mZ 5 z9.2.2 []) (fun z9 H locs => ((z9.1) ≤ n ∧ (z9.2.1) = fillN (z9.1) v f) ∧ lv_has z9.2.2 4 [(0, .ref a), (1, .int v), (2, .int (nI (z9.1))), (3, .int (nI n))] ∧ va_P G.1 vwCl [(a, .inl (G.2.1, n, .inl (z9.2.1)))] H ∧ va_D A [(a, .inl (G.2.1, n, .inl (z9.2.1)))] ∧ va_S A sZ.heap H locs) (fun z9 => n - (z9.1)) (fun z9 H locs hI ih_1 => ?_) (0, f, ls) _ _ ⟨(show 0 ≤ n ∧ f = fillN 0 v f from ⟨Nat.zero_le _, (fillN_0 v f).symm⟩), lv_sub hl [2, 3, 1, 0] rfl, hP, hD, hS⟩
  obtain ⟨i, g, ls⟩ := z9
  obtain ⟨hI, hl, hP, hD, hS⟩ := hI
  have hI : i ≤ n ∧ g = fillN i v f := hI
  have hl : lv_has ls 4 [(0, .ref a), (1, .int v), (2, .int (nI i)), (3, .int (nI n))] := hl
  have hP : va_P G.1 vwCl [(a, .inl (G.2.1, n, .inl g))] H := hP
  have hD : va_D A [(a, .inl (G.2.1, n, .inl g))] := hD
  refine lv_iload_n hx hb dJ7_fill_53178_5 rfl (lv_at hl 2 rfl) ?_
  refine lv_iload_n hx hb dJ7_fill_53178_6 rfl (lv_at hl 3 rfl) ?_
  refine lv_icmp_ge (tgt := 20) hx hb dJ7_fill_53178_7 (by decide) (fun c_7 => ?_) (fun c_7 => ?_)
  · skip
    have c_7 : n ≤ i := (nI_leI (a := n) (b := i) (by omega) (by omega)).mp c_7
    have hfe : (fillN n v f) = g := Eq.symm (by rw [hI.2, show i = n by omega])
    have hP : va_P G.1 vwCl [(a, .inl (G.2.1, n, .inl (fillN n v f)))] H := by rw [hfe]; exact hP
    have hD : va_D A [(a, .inl (G.2.1, n, .inl (fillN n v f)))] := by rw [hfe]; exact hD
    clear hfe
    exact w_vret () hx hb hr hlocks (trivial) hP hD hS dJ7_fill_53178_20
  · skip
    have c_7 : ¬ (n ≤ i) := fun h9 => c_7 ((nI_leI (a := n) (b := i) (by omega) (by omega)).mpr h9)
    refine lv_aload_n hx hb dJ7_fill_53178_10 rfl (lv_at hl 0 rfl) ?_
    refine lv_iload_n hx hb dJ7_fill_53178_11 rfl (lv_at hl 2 rfl) ?_
    refine lv_iload_n hx hb dJ7_fill_53178_12 rfl (lv_at hl 1 rfl) ?_
    refine x_iast (i := i) hx hb hK.1 hP hD hS 0 0 rfl rfl (by omega) (by omega) dJ7_fill_53178_13 (fun H locs hP hD hS => ?_)
    have hP : va_P G.1 vwCl [(a, .inl (G.2.1, n, .inl (upd g i v)))] H := hP
    have hD : va_D A [(a, .inl (G.2.1, n, .inl (upd g i v)))] := hD
    refine lv_iinc (v := nI (i + 1)) (lv' := [(2, .int (nI (i + 1))), (0, .ref a), (1, .int v), (3, .int (nI n))]) hx hb dJ7_fill_53178_14 hl (k := 2) rfl (by first | rfl | exact nI_add _ _) (by decide) rfl (fun ls hl => ?_)
    refine lv_goto (tgt := 5) hx hb dJ7_fill_53178_17 (by decide) ?_
    exact ih_1 (i + 1, upd g i v, ls) _ _ (show n - (i + 1) < n - i from by omega) ⟨(show (i + 1) ≤ n ∧ (upd g i v) = fillN (i + 1) v f from ⟨by omega, by rw [hI.2, fillN_s]⟩), lv_sub hl [1, 2, 0, 3] rfl, hP, hD, hS⟩

set_option maxHeartbeats 4000000 in
set_option maxRecDepth 100000 in
theorem c_X6_init (l : Launch) (G : GG) (h0 n : Nat) (hn : n < 2 ^ 26) (sz : Nat) : Met l yX6_init wsX6_init ({ frames := 1, cells := 1, slots := n, locals := 14 } : Room) (w_Pc G [.ref h0, .int (nI n)] sz [(h0, .inr (5, [.null]))]) (w_Qv G (va_A [(h0, .inr (5, [.null]))] sz) (fun (q : Nat) => [(h0, .inr (5, [.ref q])), (q, .inl (G.2.1, n, .inl (fun _ => 0)))]) (fun (q : Nat) => True)) 1 n (va_A [(h0, .inr (5, [.null]))] sz) := by
  refine w_ofW (Qf := fun A => w_Qv G A (fun (q : Nat) => [(h0, .inr (5, [.ref q])), (q, .inl (G.2.1, n, .inl (fun _ => 0)))]) (fun (q : Nat) => True)) (cc := cX6_init) (maxL := 2) (ret := none) (by decide) rfl (Nat.le_of_ble_eq_true rfl) ?_
  intro pZ eZ sZ mZ bZ tZ cZ A hx hb hr hts hown hlocks hml hnm hK hA H locs hP hD hS ls hl
  have hown : sZ.vm.findClass RX6 = some mZ.cls := hown
  have hl : lv_has ls 2 [(0, .ref h0), (1, .int (nI n))] := hl
  refine lv_aload_n hx hb dX6_init_0 rfl (lv_at hl 0 rfl) ?_
  refine W.objInit hx hb hown (hts (.methodLink RX6 1 objectInit) (List.mem_cons_of_mem _ (List.mem_append_left _ (List.mem_of_getElem? (i := 0) rfl)))) (hts (.instanceMethod objectInit) (List.mem_cons_of_mem _ (List.mem_append_left _ (List.mem_of_getElem? (i := 1) rfl)))) (hts (.code objectInit ⟨#[0xb1]⟩ 1 none) (List.mem_cons_of_mem _ (List.mem_append_left _ (List.mem_of_getElem? (i := 2) rfl)))) rfl (by rw [hml]; exact hl.1) rfl dX6_init_1 (Nat.le_of_ble_eq_true rfl) (Nat.le_of_ble_eq_true rfl) ?_
  refine W.eq (g2 := F0 mZ 4 ls []) rfl ?_
  refine lv_aload_n hx hb dX6_init_4 rfl (lv_at hl 0 rfl) ?_
  refine lv_iconst (v := 0) hx hb dX6_init_5 (by decide) ?_
  refine lv_iload_n hx hb dX6_init_6 rfl (lv_at hl 1 rfl) ?_
  refine va_mmax hx hb (hml.trans hl.1.symm) hown (hts (.methodLink RX6 7 Lib.Math.max.name) (List.mem_cons_of_mem _ (List.mem_append_left _ (List.mem_of_getElem? (i := 3) rfl)))) (hts (.static Lib.Math.max.name) (List.mem_cons_of_mem _ (List.mem_append_left _ (List.mem_of_getElem? (i := 4) rfl)))) (hts (.initialized "java/lang/Math") (List.mem_cons_of_mem _ (List.mem_append_left _ (List.mem_of_getElem? (i := 5) rfl)))) (hts (.code Lib.Math.max.name Lib.Math.max.code 2 (some .int)) (List.mem_cons_of_mem _ (List.mem_append_left _ (List.mem_of_getElem? (i := 6) rfl)))) (Nat.le_of_ble_eq_true rfl) (Nat.le_of_ble_eq_true rfl) (Nat.zero_le _) (Nat.zero_le _) dX6_init_7 ?_
  refine x_top (y := nI (max 0 n)) (mm_max (a := 0) (b := n) (by omega) (by omega)) ?_
  refine x_top (y := nI n) (by rw [Nat.zero_max]) ?_
  refine x_newi hx hb (hts (.arrayClass .int) (List.mem_cons_of_mem _ (List.mem_append_left _ (List.mem_of_getElem? (i := 7) rfl)))) hK hP hD hS hA (by omega) (by show _ ≤ 1; omega) (by show _ ≤ n; omega) dX6_init_10 (fun q_1 H hP hD hS => ?_)
  have hP : va_P G.1 vwCl [(h0, .inr (5, [.null])), (q_1, .inl (G.2.1, n, .inl (fun _ => 0)))] H := hP
  have hD : va_D A [(h0, .inr (5, [.null])), (q_1, .inl (G.2.1, n, .inl (fun _ => 0)))] := hD
  refine va_putF (D := G.1) (ci := 5) (v := .ref q_1) (ty := tyX6 0) (C := RX6) (T := TX6) (N := 1) hx hb hts hin_X6_init_6 tyX6 tyX6_ok nmX6 hown hK.1 hP hD hS 0 rfl rfl 0 (by decide) (hts (.fieldLink RX6 13 "MixedPredict$Row" "numbers" "[I") (List.mem_cons_of_mem _ (List.mem_append_left _ (List.mem_of_getElem? (i := 8) rfl)))) (fun _ h9 => h9) rfl hnm rfl (tyX6_ok 0 (by decide)) rfl rfl (Nat.le_of_ble_eq_true rfl) dX6_init_12 (fun H locs hP hD hS => ?_)
  have hP : va_P G.1 vwCl [(h0, .inr (5, [.ref q_1])), (q_1, .inl (G.2.1, n, .inl (fun _ => 0)))] H := hP
  have hD : va_D A [(h0, .inr (5, [.ref q_1])), (q_1, .inl (G.2.1, n, .inl (fun _ => 0)))] := hD
  refine W.widen (k := 1) (n := n) (by omega) (by omega) ?_
  exact w_vret q_1 hx hb hr hlocks (trivial) hP hD hS dX6_init_15

set_option maxHeartbeats 4000000 in
set_option maxRecDepth 100000 in
theorem c_X6_get (l : Launch) (G : GG) (h0 a n : Nat) (f : Nat → Int32) (i : Nat) (hi : i < n) (hn : n < 2 ^ 31) : Met l yX6_get wsX6_get ({ frames := 0, cells := 0, slots := 0, locals := 0 } : Room) (r_Pc G [.ref h0, .int (nI i)] [(h0, .inr (5, [.ref a])), (a, .inl (G.2.1, n, .inl f))]) (vp_Si (fun r => r = (f i))) 0 0 (fun _ => False) := by
  refine r_ofW (cc := cX6_get) (maxL := 2) (ret := (some .int)) (by decide) rfl (Nat.le_of_ble_eq_true rfl) ?_
  intro pZ eZ sZ mZ bZ tZ cZ hx hb hr hts hown hlocks hml hK H hH hP ls hl
  have hown : sZ.vm.findClass RX6 = some mZ.cls := hown
  have hl : lv_has ls 2 [(0, .ref h0), (1, .int (nI i))] := hl
  refine lv_iload_n hx hb dX6_get_0 rfl (lv_at hl 1 rfl) ?_
  refine lv_if_lt (tgt := 22) hx hb dX6_get_1 (by decide) (fun c_1 => ?_) (fun c_1 => ?_)
  · skip
    have c_1 : i < 0 := (nI_ltI (a := i) (b := 0) (by omega) (by omega)).mp c_1
    exfalso; omega
  · skip
    have c_1 : ¬ (i < 0) := fun h9 => c_1 ((nI_ltI (a := i) (b := 0) (by omega) (by omega)).mpr h9)
    refine lv_iload_n hx hb dX6_get_4 rfl (lv_at hl 1 rfl) ?_
    refine lv_aload_n hx hb dX6_get_5 rfl (lv_at hl 0 rfl) ?_
    refine va_get (D := G.1) (ci := 5) (v := .ref a) (C := RX6) (T := TX6) (N := 1) hx hb hts hin_X6_get_6 hown hK.1 hP 0 rfl rfl 0 (by decide) (hts (.fieldLink RX6 13 "MixedPredict$Row" "numbers" "[I") (List.mem_cons_of_mem _ (List.mem_append_left _ (List.mem_of_getElem? (i := 0) rfl)))) (fun _ h9 => h9) rfl dX6_get_6 ?_
    refine va_alen hx hb hK.1 hP 1 0 rfl rfl (v := nI n) rfl dX6_get_9 ?_
    refine lv_icmp_ge (tgt := 22) hx hb dX6_get_10 (by decide) (fun c_10 => ?_) (fun c_10 => ?_)
    · skip
      have c_10 : n ≤ i := (nI_leI (a := n) (b := i) (by omega) (by omega)).mp c_10
      exfalso; omega
    · skip
      have c_10 : ¬ (n ≤ i) := fun h9 => c_10 ((nI_leI (a := n) (b := i) (by omega) (by omega)).mpr h9)
      refine lv_aload_n hx hb dX6_get_13 rfl (lv_at hl 0 rfl) ?_
      refine va_get (D := G.1) (ci := 5) (v := .ref a) (C := RX6) (T := TX6) (N := 1) hx hb hts hin_X6_get_6 hown hK.1 hP 0 rfl rfl 0 (by decide) (hts (.fieldLink RX6 13 "MixedPredict$Row" "numbers" "[I") (List.mem_cons_of_mem _ (List.mem_append_left _ (List.mem_of_getElem? (i := 0) rfl)))) (fun _ h9 => h9) rfl dX6_get_14 ?_
      refine lv_iload_n hx hb dX6_get_17 rfl (lv_at hl 1 rfl) ?_
      refine x_iald (i := i) hx hb hK.1 hP 1 0 rfl rfl (by omega) (by omega) dX6_get_18 ?_
      refine lv_goto (tgt := 23) hx hb dX6_get_19 (by decide) ?_
      exact r_iret hx hb hr hlocks (rfl) hH dX6_get_23

set_option maxHeartbeats 4000000 in
set_option maxRecDepth 100000 in
theorem c_X6_set (l : Launch) (G : GG) (h0 a n : Nat) (f : Nat → Int32) (i : Nat) (v : Int32) (hi : i < n) (hn : n < 2 ^ 31) (sz : Nat) : Met l yX6_set wsX6_set ({ frames := 0, cells := 0, slots := 0, locals := 0 } : Room) (w_Pc G [.ref h0, .int (nI i), .int v] sz [(h0, .inr (5, [.ref a])), (a, .inl (G.2.1, n, .inl f))]) (w_Qv G (va_A [(h0, .inr (5, [.ref a])), (a, .inl (G.2.1, n, .inl f))] sz) (fun (_ : Unit) => [(h0, .inr (5, [.ref a])), (a, .inl (G.2.1, n, .inl (upd f i v)))]) (fun (_ : Unit) => True)) 0 0 (va_A [(h0, .inr (5, [.ref a])), (a, .inl (G.2.1, n, .inl f))] sz) := by
  refine w_ofW (Qf := fun A => w_Qv G A (fun (_ : Unit) => [(h0, .inr (5, [.ref a])), (a, .inl (G.2.1, n, .inl (upd f i v)))]) (fun (_ : Unit) => True)) (cc := cX6_set) (maxL := 3) (ret := none) (by decide) rfl (Nat.le_of_ble_eq_true rfl) ?_
  intro pZ eZ sZ mZ bZ tZ cZ A hx hb hr hts hown hlocks hml hnm hK hA H locs hP hD hS ls hl
  have hown : sZ.vm.findClass RX6 = some mZ.cls := hown
  have hl : lv_has ls 3 [(0, .ref h0), (1, .int (nI i)), (2, .int v)] := hl
  refine lv_iload_n hx hb dX6_set_0 rfl (lv_at hl 1 rfl) ?_
  refine lv_if_lt (tgt := 20) hx hb dX6_set_1 (by decide) (fun c_1 => ?_) (fun c_1 => ?_)
  · skip
    have c_1 : i < 0 := (nI_ltI (a := i) (b := 0) (by omega) (by omega)).mp c_1
    exfalso; omega
  · skip
    have c_1 : ¬ (i < 0) := fun h9 => c_1 ((nI_ltI (a := i) (b := 0) (by omega) (by omega)).mpr h9)
    refine lv_iload_n hx hb dX6_set_4 rfl (lv_at hl 1 rfl) ?_
    refine lv_aload_n hx hb dX6_set_5 rfl (lv_at hl 0 rfl) ?_
    refine va_get (D := G.1) (ci := 5) (v := .ref a) (C := RX6) (T := TX6) (N := 1) hx hb hts hin_X6_set_6 hown hK.1 hP 0 rfl rfl 0 (by decide) (hts (.fieldLink RX6 13 "MixedPredict$Row" "numbers" "[I") (List.mem_cons_of_mem _ (List.mem_append_left _ (List.mem_of_getElem? (i := 0) rfl)))) (fun _ h9 => h9) rfl dX6_set_6 ?_
    refine va_alen hx hb hK.1 hP 1 0 rfl rfl (v := nI n) rfl dX6_set_9 ?_
    refine lv_icmp_ge (tgt := 20) hx hb dX6_set_10 (by decide) (fun c_10 => ?_) (fun c_10 => ?_)
    · skip
      have c_10 : n ≤ i := (nI_leI (a := n) (b := i) (by omega) (by omega)).mp c_10
      exfalso; omega
    · skip
      have c_10 : ¬ (n ≤ i) := fun h9 => c_10 ((nI_leI (a := n) (b := i) (by omega) (by omega)).mpr h9)
      refine lv_aload_n hx hb dX6_set_13 rfl (lv_at hl 0 rfl) ?_
      refine va_get (D := G.1) (ci := 5) (v := .ref a) (C := RX6) (T := TX6) (N := 1) hx hb hts hin_X6_set_6 hown hK.1 hP 0 rfl rfl 0 (by decide) (hts (.fieldLink RX6 13 "MixedPredict$Row" "numbers" "[I") (List.mem_cons_of_mem _ (List.mem_append_left _ (List.mem_of_getElem? (i := 0) rfl)))) (fun _ h9 => h9) rfl dX6_set_14 ?_
      refine lv_iload_n hx hb dX6_set_17 rfl (lv_at hl 1 rfl) ?_
      refine lv_iload_n hx hb dX6_set_18 rfl (lv_at hl 2 rfl) ?_
      refine x_iast (i := i) hx hb hK.1 hP hD hS 1 0 rfl rfl (by omega) (by omega) dX6_set_19 (fun H locs hP hD hS => ?_)
      have hP : va_P G.1 vwCl [(h0, .inr (5, [.ref a])), (a, .inl (G.2.1, n, .inl (upd f i v)))] H := hP
      have hD : va_D A [(h0, .inr (5, [.ref a])), (a, .inl (G.2.1, n, .inl (upd f i v)))] := hD
      exact w_vret () hx hb hr hlocks (trivial) hP hD hS dX6_set_20

set_option maxHeartbeats 4000000 in
set_option maxRecDepth 100000 in
theorem c_X6_fill (l : Launch) (G : GG) (h0 a n : Nat) (f : Nat → Int32) (v : Int32) (hn : n < 2 ^ 31) (sz : Nat) : Met l yX6_fill wsX6_fill ({ frames := 1, cells := 0, slots := 0, locals := 23 } : Room) (w_Pc G [.ref h0, .int v] sz [(h0, .inr (5, [.ref a])), (a, .inl (G.2.1, n, .inl f))]) (w_Qv G (va_A [(h0, .inr (5, [.ref a])), (a, .inl (G.2.1, n, .inl f))] sz) (fun (_ : Unit) => [(h0, .inr (5, [.ref a])), (a, .inl (G.2.1, n, .inl (fillN n v f)))]) (fun (_ : Unit) => True)) 0 0 (va_A [(h0, .inr (5, [.ref a])), (a, .inl (G.2.1, n, .inl f))] sz) := by
  refine w_ofW (Qf := fun A => w_Qv G A (fun (_ : Unit) => [(h0, .inr (5, [.ref a])), (a, .inl (G.2.1, n, .inl (fillN n v f)))]) (fun (_ : Unit) => True)) (cc := cX6_fill) (maxL := 2) (ret := none) (by decide) rfl (Nat.le_of_ble_eq_true rfl) ?_
  intro pZ eZ sZ mZ bZ tZ cZ A hx hb hr hts hown hlocks hml hnm hK hA H locs hP hD hS ls hl
  have hown : sZ.vm.findClass RX6 = some mZ.cls := hown
  have hl : lv_has ls 2 [(0, .ref h0), (1, .int v)] := hl
  refine lv_aload_n hx hb dX6_fill_0 rfl (lv_at hl 0 rfl) ?_
  refine va_get (D := G.1) (ci := 5) (v := .ref a) (C := RX6) (T := TX6) (N := 1) hx hb hts hin_X6_fill_6 hown hK.1 hP 0 rfl rfl 0 (by decide) (hts (.fieldLink RX6 13 "MixedPredict$Row" "numbers" "[I") (List.mem_cons_of_mem _ (List.mem_append_left _ (List.mem_of_getElem? (i := 0) rfl)))) (fun _ h9 => h9) rfl dX6_fill_1 ?_
  refine lv_iload_n hx hb dX6_fill_4 rfl (lv_at hl 1 rfl) ?_
  refine w_fin_v (WR := [(h0, .inr (5, [.ref a]))]) (va_runS (As := [.ref a, .int v]) (rest := []) ⟨hx, hb, hml, hown, hts⟩ (c_J7_fill_53178 l G a n f v (by first | assumption | omega) H.size) (va_cwS 2 hts gX6_fill_J7_fill_53178 rfl rfl rfl (by decide +kernel) ⟨Nat.le_of_ble_eq_true rfl, Nat.le_of_ble_eq_true rfl⟩) (w_pre hK hP hD [1] (by decide) rfl) rfl rfl hl.1 rfl (lv_room (Nat.le_of_ble_eq_true rfl)) dX6_fill_5 ⟨Nat.zero_le _, Nat.zero_le _⟩) hP hD hS hA [1] [0] rfl rfl (by decide) (by decide) [0, 1] (by decide) (fun (_ : Unit) => [(h0, .inr (5, [.ref a])), (a, .inl (G.2.1, n, .inl (fillN n v f)))]) (fun _ => rfl) (fun u H locs hw hP hD hS => ?_)
  have hP : va_P G.1 vwCl [(h0, .inr (5, [.ref a])), (a, .inl (G.2.1, n, .inl (fillN n v f)))] H := hP
  have hD : va_D A [(h0, .inr (5, [.ref a])), (a, .inl (G.2.1, n, .inl (fillN n v f)))] := hD
  exact w_vret () hx hb hr hlocks (trivial) hP hD hS dX6_fill_8

set_option maxHeartbeats 4000000 in
set_option maxRecDepth 100000 in
theorem c_X1_init (l : Launch) (G : GG) (h0 n : Nat) (hn : n < 2 ^ 26) (sz : Nat) : Met l yX1_init wsX1_init ({ frames := 1, cells := 1, slots := n, locals := 14 } : Room) (w_Pc G [.ref h0, .int (nI n)] sz [(h0, .inr (1, [.null, .int 0]))]) (w_Qv G (va_A [(h0, .inr (1, [.null, .int 0]))] sz) (fun (q : Nat) => [(h0, .inr (1, [.ref q, .int (nI 0)])), (q, .inl (G.2.1, n, .inl (fun _ => 0)))]) (fun (q : Nat) => True)) 1 n (va_A [(h0, .inr (1, [.null, .int 0]))] sz) := by
  refine w_ofW (Qf := fun A => w_Qv G A (fun (q : Nat) => [(h0, .inr (1, [.ref q, .int (nI 0)])), (q, .inl (G.2.1, n, .inl (fun _ => 0)))]) (fun (q : Nat) => True)) (cc := cX1_init) (maxL := 2) (ret := none) (by decide) rfl (Nat.le_of_ble_eq_true rfl) ?_
  intro pZ eZ sZ mZ bZ tZ cZ A hx hb hr hts hown hlocks hml hnm hK hA H locs hP hD hS ls hl
  have hown : sZ.vm.findClass RX1 = some mZ.cls := hown
  have hl : lv_has ls 2 [(0, .ref h0), (1, .int (nI n))] := hl
  refine lv_aload_n hx hb dX1_init_0 rfl (lv_at hl 0 rfl) ?_
  refine W.objInit hx hb hown (hts (.methodLink RX1 1 objectInit) (List.mem_cons_of_mem _ (List.mem_append_left _ (List.mem_of_getElem? (i := 0) rfl)))) (hts (.instanceMethod objectInit) (List.mem_cons_of_mem _ (List.mem_append_left _ (List.mem_of_getElem? (i := 1) rfl)))) (hts (.code objectInit ⟨#[0xb1]⟩ 1 none) (List.mem_cons_of_mem _ (List.mem_append_left _ (List.mem_of_getElem? (i := 2) rfl)))) rfl (by rw [hml]; exact hl.1) rfl dX1_init_1 (Nat.le_of_ble_eq_true rfl) (Nat.le_of_ble_eq_true rfl) ?_
  refine W.eq (g2 := F0 mZ 4 ls []) rfl ?_
  refine lv_aload_n hx hb dX1_init_4 rfl (lv_at hl 0 rfl) ?_
  refine lv_iconst (v := 0) hx hb dX1_init_5 (by decide) ?_
  refine lv_iload_n hx hb dX1_init_6 rfl (lv_at hl 1 rfl) ?_
  refine va_mmax hx hb (hml.trans hl.1.symm) hown (hts (.methodLink RX1 7 Lib.Math.max.name) (List.mem_cons_of_mem _ (List.mem_append_left _ (List.mem_of_getElem? (i := 3) rfl)))) (hts (.static Lib.Math.max.name) (List.mem_cons_of_mem _ (List.mem_append_left _ (List.mem_of_getElem? (i := 4) rfl)))) (hts (.initialized "java/lang/Math") (List.mem_cons_of_mem _ (List.mem_append_left _ (List.mem_of_getElem? (i := 5) rfl)))) (hts (.code Lib.Math.max.name Lib.Math.max.code 2 (some .int)) (List.mem_cons_of_mem _ (List.mem_append_left _ (List.mem_of_getElem? (i := 6) rfl)))) (Nat.le_of_ble_eq_true rfl) (Nat.le_of_ble_eq_true rfl) (Nat.zero_le _) (Nat.zero_le _) dX1_init_7 ?_
  refine x_top (y := nI (max 0 n)) (mm_max (a := 0) (b := n) (by omega) (by omega)) ?_
  refine x_top (y := nI n) (by rw [Nat.zero_max]) ?_
  refine x_newi hx hb (hts (.arrayClass .int) (List.mem_cons_of_mem _ (List.mem_append_left _ (List.mem_of_getElem? (i := 7) rfl)))) hK hP hD hS hA (by omega) (by show _ ≤ 1; omega) (by show _ ≤ n; omega) dX1_init_10 (fun q_1 H hP hD hS => ?_)
  have hP : va_P G.1 vwCl [(h0, .inr (1, [.null, .int 0])), (q_1, .inl (G.2.1, n, .inl (fun _ => 0)))] H := hP
  have hD : va_D A [(h0, .inr (1, [.null, .int 0])), (q_1, .inl (G.2.1, n, .inl (fun _ => 0)))] := hD
  refine va_putF (D := G.1) (ci := 1) (v := .ref q_1) (ty := tyX1 0) (C := RX1) (T := TX1) (N := 2) hx hb hts hin_X1_init_1 tyX1 tyX1_ok nmX1 hown hK.1 hP hD hS 0 rfl rfl 0 (by decide) (hts (.fieldLink RX1 13 "MixedPredict$Bytes" "row" "[I") (List.mem_cons_of_mem _ (List.mem_append_left _ (List.mem_of_getElem? (i := 8) rfl)))) (fun _ h9 => h9) rfl hnm rfl (tyX1_ok 0 (by decide)) rfl rfl (Nat.le_of_ble_eq_true rfl) dX1_init_12 (fun H locs hP hD hS => ?_)
  have hP : va_P G.1 vwCl [(h0, .inr (1, [.ref q_1, .int 0])), (q_1, .inl (G.2.1, n, .inl (fun _ => 0)))] H := hP
  have hD : va_D A [(h0, .inr (1, [.ref q_1, .int 0])), (q_1, .inl (G.2.1, n, .inl (fun _ => 0)))] := hD
  refine W.widen (k := 1) (n := n) (by omega) (by omega) ?_
  exact w_vret q_1 hx hb hr hlocks (trivial) hP hD hS dX1_init_15

set_option maxHeartbeats 4000000 in
set_option maxRecDepth 100000 in
theorem c_X1_count (l : Launch) (G : GG) (h0 a n : Nat) (f : Nat → Int32) (k : Nat)  : Met l yX1_count wsX1_count ({ frames := 0, cells := 0, slots := 0, locals := 0 } : Room) (r_Pc G [.ref h0] [(h0, .inr (1, [.ref a, .int (nI k)])), (a, .inl (G.2.1, n, .inl f))]) (vp_Si (fun r => r = (nI k))) 0 0 (fun _ => False) := by
  refine r_ofW (cc := cX1_count) (maxL := 1) (ret := (some .int)) (by decide) rfl (Nat.le_of_ble_eq_true rfl) ?_
  intro pZ eZ sZ mZ bZ tZ cZ hx hb hr hts hown hlocks hml hK H hH hP ls hl
  have hown : sZ.vm.findClass RX1 = some mZ.cls := hown
  have hl : lv_has ls 1 [(0, .ref h0)] := hl
  refine lv_aload_n hx hb dX1_count_0 rfl (lv_at hl 0 rfl) ?_
  refine va_get (D := G.1) (ci := 1) (v := .int (nI k)) (C := RX1) (T := TX1) (N := 2) hx hb hts hin_X1_count_1 hown hK.1 hP 0 rfl rfl 1 (by decide) (hts (.fieldLink RX1 19 "MixedPredict$Bytes" "count" "I") (List.mem_cons_of_mem _ (List.mem_append_left _ (List.mem_of_getElem? (i := 0) rfl)))) (fun _ h9 => h9) rfl dX1_count_1 ?_
  exact r_iret hx hb hr hlocks (rfl) hH dX1_count_4

set_option maxHeartbeats 4000000 in
set_option maxRecDepth 100000 in
theorem c_X1_has (l : Launch) (G : GG) (h0 a n : Nat) (f : Nat → Int32) (k : Nat) (i : Int32) : Met l yX1_has wsX1_has ({ frames := 0, cells := 0, slots := 0, locals := 0 } : Room) (r_Pc G [.ref h0, .int i] [(h0, .inr (1, [.ref a, .int (nI k)])), (a, .inl (G.2.1, n, .inl f))]) (vp_Si (fun r => r = (if (0 ≤ i ∧ i < nI k) then 1 else 0))) 0 0 (fun _ => False) := by
  refine r_ofW (cc := cX1_has) (maxL := 2) (ret := (some .boolean)) (by decide) rfl (Nat.le_of_ble_eq_true rfl) ?_
  intro pZ eZ sZ mZ bZ tZ cZ hx hb hr hts hown hlocks hml hK H hH hP ls hl
  have hown : sZ.vm.findClass RX1 = some mZ.cls := hown
  have hl : lv_has ls 2 [(0, .ref h0), (1, .int i)] := hl
  refine lv_iload_n hx hb dX1_has_0 rfl (lv_at hl 1 rfl) ?_
  refine lv_if_lt (tgt := 16) hx hb dX1_has_1 (by decide) (fun c_1 => ?_) (fun c_1 => ?_)
  · skip
    refine lv_iconst (v := 0) hx hb dX1_has_16 (by decide) ?_
    exact r_zret hx hb hr hlocks (rfl) (by rw [if_neg (fun h => Int32.not_lt.mpr h.1 c_1)]) hH dX1_has_17
  · skip
    refine lv_iload_n hx hb dX1_has_4 rfl (lv_at hl 1 rfl) ?_
    refine lv_aload_n hx hb dX1_has_5 rfl (lv_at hl 0 rfl) ?_
    refine va_get (D := G.1) (ci := 1) (v := .int (nI k)) (C := RX1) (T := TX1) (N := 2) hx hb hts hin_X1_has_1 hown hK.1 hP 0 rfl rfl 1 (by decide) (hts (.fieldLink RX1 19 "MixedPredict$Bytes" "count" "I") (List.mem_cons_of_mem _ (List.mem_append_left _ (List.mem_of_getElem? (i := 0) rfl)))) (fun _ h9 => h9) rfl dX1_has_6 ?_
    refine lv_icmp_ge (tgt := 16) hx hb dX1_has_9 (by decide) (fun c_9 => ?_) (fun c_9 => ?_)
    · skip
      refine lv_iconst (v := 0) hx hb dX1_has_16 (by decide) ?_
      exact r_zret hx hb hr hlocks (rfl) (by rw [if_neg (fun h => Int32.not_lt.mpr c_9 h.2)]) hH dX1_has_17
    · skip
      refine lv_iconst (v := 1) hx hb dX1_has_12 (by decide) ?_
      refine lv_goto (tgt := 17) hx hb dX1_has_13 (by decide) ?_
      exact r_zret hx hb hr hlocks (rfl) (by rw [if_pos ⟨Int32.not_lt.mp c_1, Int32.not_le.mp c_9⟩]) hH dX1_has_17

set_option maxHeartbeats 4000000 in
set_option maxRecDepth 100000 in
theorem c_X1_get (l : Launch) (G : GG) (h0 a n : Nat) (f : Nat → Int32) (k : Nat) (i : Nat) (hk : k ≤ n) (hn : n < 2 ^ 31) (hi : i < 2 ^ 31) : Met l yX1_get wsX1_get ({ frames := 0, cells := 0, slots := 0, locals := 0 } : Room) (r_Pc G [.ref h0, .int (nI i)] [(h0, .inr (1, [.ref a, .int (nI k)])), (a, .inl (G.2.1, n, .inl f))]) (vp_Si (fun r => r = (getB k f i))) 0 0 (fun _ => False) := by
  refine r_ofW (cc := cX1_get) (maxL := 2) (ret := (some .int)) (by decide) rfl (Nat.le_of_ble_eq_true rfl) ?_
  intro pZ eZ sZ mZ bZ tZ cZ hx hb hr hts hown hlocks hml hK H hH hP ls hl
  have hown : sZ.vm.findClass RX1 = some mZ.cls := hown
  have hl : lv_has ls 2 [(0, .ref h0), (1, .int (nI i))] := hl
  refine lv_iload_n hx hb dX1_get_0 rfl (lv_at hl 1 rfl) ?_
  refine lv_if_lt (tgt := 30) hx hb dX1_get_1 (by decide) (fun c_1 => ?_) (fun c_1 => ?_)
  · skip
    have c_1 : i < 0 := (nI_ltI (a := i) (b := 0) (by omega) (by omega)).mp c_1
    exfalso; omega
  · skip
    have c_1 : ¬ (i < 0) := fun h9 => c_1 ((nI_ltI (a := i) (b := 0) (by omega) (by omega)).mpr h9)
    refine lv_iload_n hx hb dX1_get_4 rfl (lv_at hl 1 rfl) ?_
    refine lv_aload_n hx hb dX1_get_5 rfl (lv_at hl 0 rfl) ?_
    refine va_get (D := G.1) (ci := 1) (v := .int (nI k)) (C := RX1) (T := TX1) (N := 2) hx hb hts hin_X1_get_1 hown hK.1 hP 0 rfl rfl 1 (by decide) (hts (.fieldLink RX1 19 "MixedPredict$Bytes" "count" "I") (List.mem_cons_of_mem _ (List.mem_append_left _ (List.mem_of_getElem? (i := 0) rfl)))) (fun _ h9 => h9) rfl dX1_get_6 ?_
    refine lv_icmp_ge (tgt := 30) hx hb dX1_get_9 (by decide) (fun c_9 => ?_) (fun c_9 => ?_)
    · skip
      have c_9 : k ≤ i := (nI_leI (a := k) (b := i) (by omega) (by omega)).mp c_9
      refine lv_iconst (v := 0) hx hb dX1_get_30 (by decide) ?_
      exact r_iret hx hb hr hlocks (by rw [getB, if_neg (by omega)]) hH dX1_get_31
    · skip
      have c_9 : ¬ (k ≤ i) := fun h9 => c_9 ((nI_leI (a := k) (b := i) (by omega) (by omega)).mpr h9)
      refine lv_iload_n hx hb dX1_get_12 rfl (lv_at hl 1 rfl) ?_
      refine lv_aload_n hx hb dX1_get_13 rfl (lv_at hl 0 rfl) ?_
      refine va_get (D := G.1) (ci := 1) (v := .ref a) (C := RX1) (T := TX1) (N := 2) hx hb hts hin_X1_get_1 hown hK.1 hP 0 rfl rfl 0 (by decide) (hts (.fieldLink RX1 13 "MixedPredict$Bytes" "row" "[I") (List.mem_cons_of_mem _ (List.mem_append_left _ (List.mem_of_getElem? (i := 1) rfl)))) (fun _ h9 => h9) rfl dX1_get_14 ?_
      refine va_alen hx hb hK.1 hP 1 0 rfl rfl (v := nI n) rfl dX1_get_17 ?_
      refine lv_icmp_ge (tgt := 30) hx hb dX1_get_18 (by decide) (fun c_18 => ?_) (fun c_18 => ?_)
      · skip
        have c_18 : n ≤ i := (nI_leI (a := n) (b := i) (by omega) (by omega)).mp c_18
        exfalso; omega
      · skip
        have c_18 : ¬ (n ≤ i) := fun h9 => c_18 ((nI_leI (a := n) (b := i) (by omega) (by omega)).mpr h9)
        refine lv_aload_n hx hb dX1_get_21 rfl (lv_at hl 0 rfl) ?_
        refine va_get (D := G.1) (ci := 1) (v := .ref a) (C := RX1) (T := TX1) (N := 2) hx hb hts hin_X1_get_1 hown hK.1 hP 0 rfl rfl 0 (by decide) (hts (.fieldLink RX1 13 "MixedPredict$Bytes" "row" "[I") (List.mem_cons_of_mem _ (List.mem_append_left _ (List.mem_of_getElem? (i := 1) rfl)))) (fun _ h9 => h9) rfl dX1_get_22 ?_
        refine lv_iload_n hx hb dX1_get_25 rfl (lv_at hl 1 rfl) ?_
        refine x_iald (i := i) hx hb hK.1 hP 1 0 rfl rfl (by omega) (by omega) dX1_get_26 ?_
        refine lv_goto (tgt := 31) hx hb dX1_get_27 (by decide) ?_
        exact r_iret hx hb hr hlocks (by rw [getB, if_pos (by omega)]) hH dX1_get_31

set_option maxHeartbeats 4000000 in
set_option maxRecDepth 100000 in
theorem c_X1_set (l : Launch) (G : GG) (h0 a n : Nat) (f : Nat → Int32) (k : Nat) (i : Nat) (v : Int32) (hi : i < k) (hk : k ≤ n) (hn : n < 2 ^ 31) (sz : Nat) : Met l yX1_set wsX1_set ({ frames := 0, cells := 0, slots := 0, locals := 0 } : Room) (w_Pc G [.ref h0, .int (nI i), .int v] sz [(h0, .inr (1, [.ref a, .int (nI k)])), (a, .inl (G.2.1, n, .inl f))]) (w_Qv G (va_A [(h0, .inr (1, [.ref a, .int (nI k)])), (a, .inl (G.2.1, n, .inl f))] sz) (fun (_ : Unit) => [(h0, .inr (1, [.ref a, .int (nI k)])), (a, .inl (G.2.1, n, .inl (upd f i v)))]) (fun (_ : Unit) => True)) 0 0 (va_A [(h0, .inr (1, [.ref a, .int (nI k)])), (a, .inl (G.2.1, n, .inl f))] sz) := by
  refine w_ofW (Qf := fun A => w_Qv G A (fun (_ : Unit) => [(h0, .inr (1, [.ref a, .int (nI k)])), (a, .inl (G.2.1, n, .inl (upd f i v)))]) (fun (_ : Unit) => True)) (cc := cX1_set) (maxL := 3) (ret := none) (by decide) rfl (Nat.le_of_ble_eq_true rfl) ?_
  intro pZ eZ sZ mZ bZ tZ cZ A hx hb hr hts hown hlocks hml hnm hK hA H locs hP hD hS ls hl
  have hown : sZ.vm.findClass RX1 = some mZ.cls := hown
  have hl : lv_has ls 3 [(0, .ref h0), (1, .int (nI i)), (2, .int v)] := hl
  refine lv_iload_n hx hb dX1_set_0 rfl (lv_at hl 1 rfl) ?_
  refine lv_if_lt (tgt := 28) hx hb dX1_set_1 (by decide) (fun c_1 => ?_) (fun c_1 => ?_)
  · skip
    have c_1 : i < 0 := (nI_ltI (a := i) (b := 0) (by omega) (by omega)).mp c_1
    exfalso; omega
  · skip
    have c_1 : ¬ (i < 0) := fun h9 => c_1 ((nI_ltI (a := i) (b := 0) (by omega) (by omega)).mpr h9)
    refine lv_iload_n hx hb dX1_set_4 rfl (lv_at hl 1 rfl) ?_
    refine lv_aload_n hx hb dX1_set_5 rfl (lv_at hl 0 rfl) ?_
    refine va_get (D := G.1) (ci := 1) (v := .int (nI k)) (C := RX1) (T := TX1) (N := 2) hx hb hts hin_X1_set_1 hown hK.1 hP 0 rfl rfl 1 (by decide) (hts (.fieldLink RX1 19 "MixedPredict$Bytes" "count" "I") (List.mem_cons_of_mem _ (List.mem_append_left _ (List.mem_of_getElem? (i := 0) rfl)))) (fun _ h9 => h9) rfl dX1_set_6 ?_
    refine lv_icmp_ge (tgt := 28) hx hb dX1_set_9 (by decide) (fun c_9 => ?_) (fun c_9 => ?_)
    · skip
      have c_9 : k ≤ i := (nI_leI (a := k) (b := i) (by omega) (by omega)).mp c_9
      exfalso; omega
    · skip
      have c_9 : ¬ (k ≤ i) := fun h9 => c_9 ((nI_leI (a := k) (b := i) (by omega) (by omega)).mpr h9)
      refine lv_iload_n hx hb dX1_set_12 rfl (lv_at hl 1 rfl) ?_
      refine lv_aload_n hx hb dX1_set_13 rfl (lv_at hl 0 rfl) ?_
      refine va_get (D := G.1) (ci := 1) (v := .ref a) (C := RX1) (T := TX1) (N := 2) hx hb hts hin_X1_set_1 hown hK.1 hP 0 rfl rfl 0 (by decide) (hts (.fieldLink RX1 13 "MixedPredict$Bytes" "row" "[I") (List.mem_cons_of_mem _ (List.mem_append_left _ (List.mem_of_getElem? (i := 1) rfl)))) (fun _ h9 => h9) rfl dX1_set_14 ?_
      refine va_alen hx hb hK.1 hP 1 0 rfl rfl (v := nI n) rfl dX1_set_17 ?_
      refine lv_icmp_ge (tgt := 28) hx hb dX1_set_18 (by decide) (fun c_18 => ?_) (fun c_18 => ?_)
      · skip
        have c_18 : n ≤ i := (nI_leI (a := n) (b := i) (by omega) (by omega)).mp c_18
        exfalso; omega
      · skip
        have c_18 : ¬ (n ≤ i) := fun h9 => c_18 ((nI_leI (a := n) (b := i) (by omega) (by omega)).mpr h9)
        refine lv_aload_n hx hb dX1_set_21 rfl (lv_at hl 0 rfl) ?_
        refine va_get (D := G.1) (ci := 1) (v := .ref a) (C := RX1) (T := TX1) (N := 2) hx hb hts hin_X1_set_1 hown hK.1 hP 0 rfl rfl 0 (by decide) (hts (.fieldLink RX1 13 "MixedPredict$Bytes" "row" "[I") (List.mem_cons_of_mem _ (List.mem_append_left _ (List.mem_of_getElem? (i := 1) rfl)))) (fun _ h9 => h9) rfl dX1_set_22 ?_
        refine lv_iload_n hx hb dX1_set_25 rfl (lv_at hl 1 rfl) ?_
        refine lv_iload_n hx hb dX1_set_26 rfl (lv_at hl 2 rfl) ?_
        refine x_iast (i := i) hx hb hK.1 hP hD hS 1 0 rfl rfl (by omega) (by omega) dX1_set_27 (fun H locs hP hD hS => ?_)
        have hP : va_P G.1 vwCl [(h0, .inr (1, [.ref a, .int (nI k)])), (a, .inl (G.2.1, n, .inl (upd f i v)))] H := hP
        have hD : va_D A [(h0, .inr (1, [.ref a, .int (nI k)])), (a, .inl (G.2.1, n, .inl (upd f i v)))] := hD
        exact w_vret () hx hb hr hlocks (trivial) hP hD hS dX1_set_28

set_option maxHeartbeats 4000000 in
set_option maxRecDepth 100000 in
theorem c_X1_add (l : Launch) (G : GG) (h0 a n : Nat) (f : Nat → Int32) (k : Nat) (v : Int32) (hk : k ≤ n) (hn : n < 2 ^ 31) (sz : Nat) : Met l yX1_add wsX1_add ({ frames := 0, cells := 0, slots := 0, locals := 0 } : Room) (w_Pc G [.ref h0, .int v] sz [(h0, .inr (1, [.ref a, .int (nI k)])), (a, .inl (G.2.1, n, .inl f))]) (w_Qv G (va_A [(h0, .inr (1, [.ref a, .int (nI k)])), (a, .inl (G.2.1, n, .inl f))] sz) (fun (_ : Unit) => [(h0, .inr (1, [.ref a, .int (nI (addK n k))])), (a, .inl (G.2.1, n, .inl (addF n k v f)))]) (fun (_ : Unit) => True)) 0 0 (va_A [(h0, .inr (1, [.ref a, .int (nI k)])), (a, .inl (G.2.1, n, .inl f))] sz) := by
  refine w_ofW (Qf := fun A => w_Qv G A (fun (_ : Unit) => [(h0, .inr (1, [.ref a, .int (nI (addK n k))])), (a, .inl (G.2.1, n, .inl (addF n k v f)))]) (fun (_ : Unit) => True)) (cc := cX1_add) (maxL := 2) (ret := none) (by decide) rfl (Nat.le_of_ble_eq_true rfl) ?_
  intro pZ eZ sZ mZ bZ tZ cZ A hx hb hr hts hown hlocks hml hnm hK hA H locs hP hD hS ls hl
  have hown : sZ.vm.findClass RX1 = some mZ.cls := hown
  have hl : lv_has ls 2 [(0, .ref h0), (1, .int v)] := hl
  refine lv_aload_n hx hb dX1_add_0 rfl (lv_at hl 0 rfl) ?_
  refine va_get (D := G.1) (ci := 1) (v := .int (nI k)) (C := RX1) (T := TX1) (N := 2) hx hb hts hin_X1_add_1 hown hK.1 hP 0 rfl rfl 1 (by decide) (hts (.fieldLink RX1 19 "MixedPredict$Bytes" "count" "I") (List.mem_cons_of_mem _ (List.mem_append_left _ (List.mem_of_getElem? (i := 0) rfl)))) (fun _ h9 => h9) rfl dX1_add_1 ?_
  refine lv_if_lt (tgt := 39) hx hb dX1_add_4 (by decide) (fun c_4 => ?_) (fun c_4 => ?_)
  · skip
    have c_4 : k < 0 := (nI_ltI (a := k) (b := 0) (by omega) (by omega)).mp c_4
    exfalso; omega
  · skip
    have c_4 : ¬ (k < 0) := fun h9 => c_4 ((nI_ltI (a := k) (b := 0) (by omega) (by omega)).mpr h9)
    refine lv_aload_n hx hb dX1_add_7 rfl (lv_at hl 0 rfl) ?_
    refine va_get (D := G.1) (ci := 1) (v := .int (nI k)) (C := RX1) (T := TX1) (N := 2) hx hb hts hin_X1_add_1 hown hK.1 hP 0 rfl rfl 1 (by decide) (hts (.fieldLink RX1 19 "MixedPredict$Bytes" "count" "I") (List.mem_cons_of_mem _ (List.mem_append_left _ (List.mem_of_getElem? (i := 0) rfl)))) (fun _ h9 => h9) rfl dX1_add_8 ?_
    refine lv_aload_n hx hb dX1_add_11 rfl (lv_at hl 0 rfl) ?_
    refine va_get (D := G.1) (ci := 1) (v := .ref a) (C := RX1) (T := TX1) (N := 2) hx hb hts hin_X1_add_1 hown hK.1 hP 0 rfl rfl 0 (by decide) (hts (.fieldLink RX1 13 "MixedPredict$Bytes" "row" "[I") (List.mem_cons_of_mem _ (List.mem_append_left _ (List.mem_of_getElem? (i := 1) rfl)))) (fun _ h9 => h9) rfl dX1_add_12 ?_
    refine va_alen hx hb hK.1 hP 1 0 rfl rfl (v := nI n) rfl dX1_add_15 ?_
    refine lv_icmp_ge (tgt := 39) hx hb dX1_add_16 (by decide) (fun c_16 => ?_) (fun c_16 => ?_)
    · skip
      have c_16 : n ≤ k := (nI_leI (a := n) (b := k) (by omega) (by omega)).mp c_16
      have hfe : (addF n k v f) = f := Eq.symm (by rw [addF, if_neg (by omega)])
      have hP : va_P G.1 vwCl [(h0, .inr (1, [.ref a, .int (nI k)])), (a, .inl (G.2.1, n, .inl (addF n k v f)))] H := by rw [hfe]; exact hP
      have hD : va_D A [(h0, .inr (1, [.ref a, .int (nI k)])), (a, .inl (G.2.1, n, .inl (addF n k v f)))] := by rw [hfe]; exact hD
      clear hfe
      have hfe : (addK n k) = k := Eq.symm (by rw [addK, if_neg (by omega)])
      have hP : va_P G.1 vwCl [(h0, .inr (1, [.ref a, .int (nI (addK n k))])), (a, .inl (G.2.1, n, .inl (addF n k v f)))] H := by rw [hfe]; exact hP
      have hD : va_D A [(h0, .inr (1, [.ref a, .int (nI (addK n k))])), (a, .inl (G.2.1, n, .inl (addF n k v f)))] := by rw [hfe]; exact hD
      clear hfe
      exact w_vret () hx hb hr hlocks (trivial) hP hD hS dX1_add_39
    · skip
      have c_16 : ¬ (n ≤ k) := fun h9 => c_16 ((nI_leI (a := n) (b := k) (by omega) (by omega)).mpr h9)
      refine lv_aload_n hx hb dX1_add_19 rfl (lv_at hl 0 rfl) ?_
      refine va_get (D := G.1) (ci := 1) (v := .ref a) (C := RX1) (T := TX1) (N := 2) hx hb hts hin_X1_add_1 hown hK.1 hP 0 rfl rfl 0 (by decide) (hts (.fieldLink RX1 13 "MixedPredict$Bytes" "row" "[I") (List.mem_cons_of_mem _ (List.mem_append_left _ (List.mem_of_getElem? (i := 1) rfl)))) (fun _ h9 => h9) rfl dX1_add_20 ?_
      refine lv_aload_n hx hb dX1_add_23 rfl (lv_at hl 0 rfl) ?_
      refine va_get (D := G.1) (ci := 1) (v := .int (nI k)) (C := RX1) (T := TX1) (N := 2) hx hb hts hin_X1_add_1 hown hK.1 hP 0 rfl rfl 1 (by decide) (hts (.fieldLink RX1 19 "MixedPredict$Bytes" "count" "I") (List.mem_cons_of_mem _ (List.mem_append_left _ (List.mem_of_getElem? (i := 0) rfl)))) (fun _ h9 => h9) rfl dX1_add_24 ?_
      refine lv_iload_n hx hb dX1_add_27 rfl (lv_at hl 1 rfl) ?_
      refine x_iast (i := k) hx hb hK.1 hP hD hS 1 0 rfl rfl (by omega) (by omega) dX1_add_28 (fun H locs hP hD hS => ?_)
      have hP : va_P G.1 vwCl [(h0, .inr (1, [.ref a, .int (nI k)])), (a, .inl (G.2.1, n, .inl (upd f k v)))] H := hP
      have hD : va_D A [(h0, .inr (1, [.ref a, .int (nI k)])), (a, .inl (G.2.1, n, .inl (upd f k v)))] := hD
      refine lv_aload_n hx hb dX1_add_29 rfl (lv_at hl 0 rfl) ?_
      refine lv_dup hx hb dX1_add_30 rfl ?_
      refine va_get (D := G.1) (ci := 1) (v := .int (nI k)) (C := RX1) (T := TX1) (N := 2) hx hb hts hin_X1_add_1 hown hK.1 hP 0 rfl rfl 1 (by decide) (hts (.fieldLink RX1 19 "MixedPredict$Bytes" "count" "I") (List.mem_cons_of_mem _ (List.mem_append_left _ (List.mem_of_getElem? (i := 0) rfl)))) (fun _ h9 => h9) rfl dX1_add_31 ?_
      refine lv_iconst (v := 1) hx hb dX1_add_34 (by decide) ?_
      refine lv_iadd hx hb dX1_add_35 ?_
      refine x_top (y := nI (k + 1)) (nI_add _ _) ?_
      refine va_put (D := G.1) (ci := 1) (v := .int (nI (k + 1))) (ty := tyX1 1) (C := RX1) (T := TX1) (N := 2) hx hb hts hin_X1_add_1 tyX1 tyX1_ok nmX1 hown hK.1 hP hD hS 0 rfl rfl 1 (by decide) (hts (.fieldLink RX1 19 "MixedPredict$Bytes" "count" "I") (List.mem_cons_of_mem _ (List.mem_append_left _ (List.mem_of_getElem? (i := 0) rfl)))) (fun _ h9 => h9) rfl (tyX1_ok 1 (by decide)) rfl rfl (Nat.le_of_ble_eq_true rfl) dX1_add_36 (fun H locs hP hD hS => ?_)
      have hP : va_P G.1 vwCl [(h0, .inr (1, [.ref a, .int (nI (k + 1))])), (a, .inl (G.2.1, n, .inl (upd f k v)))] H := hP
      have hD : va_D A [(h0, .inr (1, [.ref a, .int (nI (k + 1))])), (a, .inl (G.2.1, n, .inl (upd f k v)))] := hD
      have hfe : (addF n k v f) = (upd f k v) := Eq.symm (by rw [addF, if_pos (by omega)])
      have hP : va_P G.1 vwCl [(h0, .inr (1, [.ref a, .int (nI (k + 1))])), (a, .inl (G.2.1, n, .inl (addF n k v f)))] H := by rw [hfe]; exact hP
      have hD : va_D A [(h0, .inr (1, [.ref a, .int (nI (k + 1))])), (a, .inl (G.2.1, n, .inl (addF n k v f)))] := by rw [hfe]; exact hD
      clear hfe
      have hfe : (addK n k) = (k + 1) := Eq.symm (by rw [addK, if_pos (by omega)])
      have hP : va_P G.1 vwCl [(h0, .inr (1, [.ref a, .int (nI (addK n k))])), (a, .inl (G.2.1, n, .inl (addF n k v f)))] H := by rw [hfe]; exact hP
      have hD : va_D A [(h0, .inr (1, [.ref a, .int (nI (addK n k))])), (a, .inl (G.2.1, n, .inl (addF n k v f)))] := by rw [hfe]; exact hD
      clear hfe
      exact w_vret () hx hb hr hlocks (trivial) hP hD hS dX1_add_39

set_option maxHeartbeats 4000000 in
set_option maxRecDepth 100000 in
theorem c_X1_forget (l : Launch) (G : GG) (h0 a n : Nat) (f : Nat → Int32) (k : Nat)  (sz : Nat) : Met l yX1_forget wsX1_forget ({ frames := 0, cells := 0, slots := 0, locals := 0 } : Room) (w_Pc G [.ref h0] sz [(h0, .inr (1, [.ref a, .int (nI k)])), (a, .inl (G.2.1, n, .inl f))]) (w_Qv G (va_A [(h0, .inr (1, [.ref a, .int (nI k)])), (a, .inl (G.2.1, n, .inl f))] sz) (fun (_ : Unit) => [(h0, .inr (1, [.ref a, .int (nI 0)])), (a, .inl (G.2.1, n, .inl f))]) (fun (_ : Unit) => True)) 0 0 (va_A [(h0, .inr (1, [.ref a, .int (nI k)])), (a, .inl (G.2.1, n, .inl f))] sz) := by
  refine w_ofW (Qf := fun A => w_Qv G A (fun (_ : Unit) => [(h0, .inr (1, [.ref a, .int (nI 0)])), (a, .inl (G.2.1, n, .inl f))]) (fun (_ : Unit) => True)) (cc := cX1_forget) (maxL := 1) (ret := none) (by decide) rfl (Nat.le_of_ble_eq_true rfl) ?_
  intro pZ eZ sZ mZ bZ tZ cZ A hx hb hr hts hown hlocks hml hnm hK hA H locs hP hD hS ls hl
  have hown : sZ.vm.findClass RX1 = some mZ.cls := hown
  have hl : lv_has ls 1 [(0, .ref h0)] := hl
  refine lv_aload_n hx hb dX1_forget_0 rfl (lv_at hl 0 rfl) ?_
  refine lv_iconst (v := 0) hx hb dX1_forget_1 (by decide) ?_
  refine va_put (D := G.1) (ci := 1) (v := .int 0) (ty := tyX1 1) (C := RX1) (T := TX1) (N := 2) hx hb hts hin_X1_forget_1 tyX1 tyX1_ok nmX1 hown hK.1 hP hD hS 0 rfl rfl 1 (by decide) (hts (.fieldLink RX1 19 "MixedPredict$Bytes" "count" "I") (List.mem_cons_of_mem _ (List.mem_append_left _ (List.mem_of_getElem? (i := 0) rfl)))) (fun _ h9 => h9) rfl (tyX1_ok 1 (by decide)) rfl rfl (Nat.le_of_ble_eq_true rfl) dX1_forget_2 (fun H locs hP hD hS => ?_)
  have hP : va_P G.1 vwCl [(h0, .inr (1, [.ref a, .int 0])), (a, .inl (G.2.1, n, .inl f))] H := hP
  have hD : va_D A [(h0, .inr (1, [.ref a, .int 0])), (a, .inl (G.2.1, n, .inl f))] := hD
  exact w_vret () hx hb hr hlocks (trivial) hP hD hS dX1_forget_5

set_option maxHeartbeats 4000000 in
set_option maxRecDepth 100000 in
theorem c_X1_addAll (l : Launch) (G : GG) (h0 a n : Nat) (f : Nat → Int32) (k : Nat) (h1 a1 n1 : Nat) (g : Nat → Int32) (k1 : Nat) (hk : k + k1 ≤ n) (hn : n < 2 ^ 31) (hk1 : k1 ≤ n1) (hn1 : n1 < 2 ^ 31) (sz : Nat) : Met l yX1_addAll wsX1_addAll ({ frames := 1, cells := 0, slots := 0, locals := 21 } : Room) (w_Pc G [.ref h0, .ref h1] sz [(h0, .inr (1, [.ref a, .int (nI k)])), (a, .inl (G.2.1, n, .inl f)), (h1, .inr (1, [.ref a1, .int (nI k1)])), (a1, .inl (G.2.1, n1, .inl g))]) (w_Qv G (va_A [(h0, .inr (1, [.ref a, .int (nI k)])), (a, .inl (G.2.1, n, .inl f)), (h1, .inr (1, [.ref a1, .int (nI k1)])), (a1, .inl (G.2.1, n1, .inl g))] sz) (fun (_ : Unit) => [(h0, .inr (1, [.ref a, .int (nI (k + k1))])), (a, .inl (G.2.1, n, .inl (catF f k g k1))), (h1, .inr (1, [.ref a1, .int (nI k1)])), (a1, .inl (G.2.1, n1, .inl g))]) (fun (_ : Unit) => True)) 0 0 (va_A [(h0, .inr (1, [.ref a, .int (nI k)])), (a, .inl (G.2.1, n, .inl f)), (h1, .inr (1, [.ref a1, .int (nI k1)])), (a1, .inl (G.2.1, n1, .inl g))] sz) := by
  refine w_ofW (Qf := fun A => w_Qv G A (fun (_ : Unit) => [(h0, .inr (1, [.ref a, .int (nI (k + k1))])), (a, .inl (G.2.1, n, .inl (catF f k g k1))), (h1, .inr (1, [.ref a1, .int (nI k1)])), (a1, .inl (G.2.1, n1, .inl g))]) (fun (_ : Unit) => True)) (cc := cX1_addAll) (maxL := 3) (ret := none) (by decide) rfl (Nat.le_of_ble_eq_true rfl) ?_
  intro pZ eZ sZ mZ bZ tZ cZ A hx hb hr hts hown hlocks hml hnm hK hA H locs hP hD hS ls hl
  have hown : sZ.vm.findClass RX1 = some mZ.cls := hown
  have hl : lv_has ls 3 [(0, .ref h0), (1, .ref h1)] := hl
  refine lv_iconst (v := 0) hx hb dX1_addAll_0 (by decide) ?_
  refine lv_istore_n (lv' := [(2, .int 0), (0, .ref h0), (1, .ref h1)]) hx hb dX1_addAll_1 rfl hl (by decide) rfl (fun ls hl => ?_)
  refine x_loop (α := (Nat) × (Nat → Int32) × (Nat) × (Array Slot)) (fun z9 => F0 mZ 2 z9.2.2.2 []) (fun z9 H locs => ((z9.1) ≤ k1 ∧ (z9.2.1) = catF f k g (z9.1) ∧ (z9.2.2.1) = k + (z9.1)) ∧ lv_has z9.2.2.2 3 [(0, .ref h0), (1, .ref h1), (2, .int (nI (z9.1)))] ∧ va_P G.1 vwCl [(h0, .inr (1, [.ref a, .int (nI z9.2.2.1)])), (a, .inl (G.2.1, n, .inl (z9.2.1))), (h1, .inr (1, [.ref a1, .int (nI k1)])), (a1, .inl (G.2.1, n1, .inl g))] H ∧ va_D A [(h0, .inr (1, [.ref a, .int (nI z9.2.2.1)])), (a, .inl (G.2.1, n, .inl (z9.2.1))), (h1, .inr (1, [.ref a1, .int (nI k1)])), (a1, .inl (G.2.1, n1, .inl g))] ∧ va_S A sZ.heap H locs) (fun z9 => k1 - (z9.1)) (fun z9 H locs hI ih_1 => ?_) (0, f, k, ls) _ _ ⟨(show 0 ≤ k1 ∧ f = catF f k g 0 ∧ k = k + 0 from ⟨Nat.zero_le _, (catF_0 f k g).symm, rfl⟩), lv_sub hl [1, 2, 0] rfl, hP, hD, hS⟩
  obtain ⟨i, f2, k2, ls⟩ := z9
  obtain ⟨hI, hl, hP, hD, hS⟩ := hI
  have hI : i ≤ k1 ∧ f2 = catF f k g i ∧ k2 = k + i := hI
  have hl : lv_has ls 3 [(0, .ref h0), (1, .ref h1), (2, .int (nI i))] := hl
  have hP : va_P G.1 vwCl [(h0, .inr (1, [.ref a, .int (nI k2)])), (a, .inl (G.2.1, n, .inl f2)), (h1, .inr (1, [.ref a1, .int (nI k1)])), (a1, .inl (G.2.1, n1, .inl g))] H := hP
  have hD : va_D A [(h0, .inr (1, [.ref a, .int (nI k2)])), (a, .inl (G.2.1, n, .inl f2)), (h1, .inr (1, [.ref a1, .int (nI k1)])), (a1, .inl (G.2.1, n1, .inl g))] := hD
  refine lv_iload_n hx hb dX1_addAll_2 rfl (lv_at hl 2 rfl) ?_
  refine lv_aload_n hx hb dX1_addAll_3 rfl (lv_at hl 1 rfl) ?_
  refine va_get (D := G.1) (ci := 1) (v := .int (nI k1)) (C := RX1) (T := TX1) (N := 2) hx hb hts hin_X1_addAll_1 hown hK.1 hP 2 rfl rfl 1 (by decide) (hts (.fieldLink RX1 19 "MixedPredict$Bytes" "count" "I") (List.mem_cons_of_mem _ (List.mem_append_left _ (List.mem_of_getElem? (i := 0) rfl)))) (fun _ h9 => h9) rfl dX1_addAll_4 ?_
  refine lv_icmp_ge (tgt := 25) hx hb dX1_addAll_7 (by decide) (fun c_7 => ?_) (fun c_7 => ?_)
  · skip
    have c_7 : k1 ≤ i := (nI_leI (a := k1) (b := i) (by omega) (by omega)).mp c_7
    have hfe : (catF f k g k1) = f2 := Eq.symm (by rw [hI.2.1, show i = k1 by omega])
    have hP : va_P G.1 vwCl [(h0, .inr (1, [.ref a, .int (nI k2)])), (a, .inl (G.2.1, n, .inl (catF f k g k1))), (h1, .inr (1, [.ref a1, .int (nI k1)])), (a1, .inl (G.2.1, n1, .inl g))] H := by rw [hfe]; exact hP
    have hD : va_D A [(h0, .inr (1, [.ref a, .int (nI k2)])), (a, .inl (G.2.1, n, .inl (catF f k g k1))), (h1, .inr (1, [.ref a1, .int (nI k1)])), (a1, .inl (G.2.1, n1, .inl g))] := by rw [hfe]; exact hD
    clear hfe
    have hfe : (k + k1) = k2 := Eq.symm (by omega)
    have hP : va_P G.1 vwCl [(h0, .inr (1, [.ref a, .int (nI (k + k1))])), (a, .inl (G.2.1, n, .inl (catF f k g k1))), (h1, .inr (1, [.ref a1, .int (nI k1)])), (a1, .inl (G.2.1, n1, .inl g))] H := by rw [hfe]; exact hP
    have hD : va_D A [(h0, .inr (1, [.ref a, .int (nI (k + k1))])), (a, .inl (G.2.1, n, .inl (catF f k g k1))), (h1, .inr (1, [.ref a1, .int (nI k1)])), (a1, .inl (G.2.1, n1, .inl g))] := by rw [hfe]; exact hD
    clear hfe
    exact w_vret () hx hb hr hlocks (trivial) hP hD hS dX1_addAll_25
  · skip
    have c_7 : ¬ (k1 ≤ i) := fun h9 => c_7 ((nI_leI (a := k1) (b := i) (by omega) (by omega)).mpr h9)
    refine lv_aload_n hx hb dX1_addAll_10 rfl (lv_at hl 0 rfl) ?_
    refine lv_aload_n hx hb dX1_addAll_11 rfl (lv_at hl 1 rfl) ?_
    refine lv_iload_n hx hb dX1_addAll_12 rfl (lv_at hl 2 rfl) ?_
    refine r_fin_i (va_runV (As := [.int (nI i)]) (rest := [.ref h0]) ⟨hx, hb, hml, hown, hts⟩ (c_X1_get l G h1 a1 n1 g k1 i (by first | assumption | omega) (by first | assumption | omega) (by first | assumption | omega)) (cwV 1 hts gX1_addAll_X1_get rfl rfl rfl (by decide +kernel) ⟨Nat.le_of_ble_eq_true rfl, Nat.le_of_ble_eq_true rfl⟩) (x_preV (r_pre hK hP [2, 3] rfl) hK hP (ci := 1) (q0 := 2) rfl rfl) rfl rfl hl.1 rfl (lv_room (Nat.le_of_ble_eq_true rfl)) dX1_addAll_13 ⟨Nat.zero_le _, Nat.zero_le _⟩) (fun r_2 hw => ?_)
    subst hw
    refine w_fin_v (WR := [(h1, .inr (1, [.ref a1, .int (nI k1)])), (a1, .inl (G.2.1, n1, .inl g))]) (va_runV (As := [.int (getB k1 g i)]) (rest := []) ⟨hx, hb, hml, hown, hts⟩ (c_X1_add l G h0 a n f2 k2 (getB k1 g i) (by first | assumption | omega) (by first | assumption | omega) H.size) (cwV 1 hts gX1_addAll_X1_add rfl rfl rfl (by decide +kernel) ⟨Nat.le_of_ble_eq_true rfl, Nat.le_of_ble_eq_true rfl⟩) (x_preV (w_pre hK hP hD [0, 1] (by decide) rfl) hK hP (ci := 1) (q0 := 0) rfl rfl) rfl rfl hl.1 rfl (lv_room (Nat.le_of_ble_eq_true rfl)) dX1_addAll_16 ⟨Nat.zero_le _, Nat.zero_le _⟩) hP hD hS hA [0, 1] [2, 3] rfl rfl (by decide) (by decide) [2, 3, 0, 1] (by decide) (fun (_ : Unit) => [(h0, .inr (1, [.ref a, .int (nI (addK n k2))])), (a, .inl (G.2.1, n, .inl (addF n k2 (getB k1 g i) f2))), (h1, .inr (1, [.ref a1, .int (nI k1)])), (a1, .inl (G.2.1, n1, .inl g))]) (fun _ => rfl) (fun u H locs hw hP hD hS => ?_)
    have hP : va_P G.1 vwCl [(h0, .inr (1, [.ref a, .int (nI (addK n k2))])), (a, .inl (G.2.1, n, .inl (addF n k2 (getB k1 g i) f2))), (h1, .inr (1, [.ref a1, .int (nI k1)])), (a1, .inl (G.2.1, n1, .inl g))] H := hP
    have hD : va_D A [(h0, .inr (1, [.ref a, .int (nI (addK n k2))])), (a, .inl (G.2.1, n, .inl (addF n k2 (getB k1 g i) f2))), (h1, .inr (1, [.ref a1, .int (nI k1)])), (a1, .inl (G.2.1, n1, .inl g))] := hD
    refine lv_iinc (v := nI (i + 1)) (lv' := [(2, .int (nI (i + 1))), (0, .ref h0), (1, .ref h1)]) hx hb dX1_addAll_19 hl (k := 2) rfl (by first | rfl | exact nI_add _ _) (by decide) rfl (fun ls hl => ?_)
    refine lv_goto (tgt := 2) hx hb dX1_addAll_22 (by decide) ?_
    have e1 : addK n k2 = k2 + 1 := by rw [addK, if_pos (by omega)]
    have e2 : addF n k2 (getB k1 g i) f2 = catF f k g (i + 1) := by rw [addF, if_pos (by omega), getB, if_pos (by omega), hI.2.2, hI.2.1, catF_s]
    exact ih_1 (i + 1, addF n k2 (getB k1 g i) f2, addK n k2, ls) _ _ (show k1 - (i + 1) < k1 - i from by omega) ⟨(show (i + 1) ≤ k1 ∧ (addF n k2 (getB k1 g i) f2) = catF f k g (i + 1) ∧ (addK n k2) = k + (i + 1) from ⟨by omega, e2, by omega⟩), lv_sub hl [1, 2, 0] rfl, hP, hD, hS⟩
