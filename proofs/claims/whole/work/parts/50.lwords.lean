set_option maxHeartbeats 8000000 in
set_option maxRecDepth 100000 in
theorem lw_KK {s : State} {sb : Nat} (hts : ∀ w ∈ lw_tbl, w.before #[Value.ref sb] s = true) : ∃ G : GG, KK G s := by
  obtain ⟨c0, i0, hK0⟩ := u_known (C := RX0) (T := TX0) (N := 6) (n := 6) hts icX0 (hts (.instantiable RX0 6) (List.mem_of_getElem? (i := 185) rfl))
  obtain ⟨c1, i1, hK1⟩ := u_known (C := RX1) (T := TX1) (N := 2) (n := 2) hts icX1 (hts (.instantiable RX1 2) (List.mem_of_getElem? (i := 65) rfl))
  obtain ⟨c2, i2, hK2⟩ := u_known (C := RX2) (T := TX2) (N := 4) (n := 4) hts icX2 (hts (.instantiable RX2 4) (List.mem_of_getElem? (i := 233) rfl))
  obtain ⟨c4, i4, hK4⟩ := u_known (C := RX4) (T := TX4) (N := 8) (n := 8) hts icX4 (hts (.instantiable RX4 8) (List.mem_of_getElem? (i := 135) rfl))
  obtain ⟨c5, i5, hK5⟩ := u_known (C := RX5) (T := TX5) (N := 6) (n := 6) hts icX5 (hts (.instantiable RX5 6) (List.mem_of_getElem? (i := 103) rfl))
  obtain ⟨c6, i6, hK6⟩ := u_known (C := RX6) (T := TX6) (N := 1) (n := 1) hts icX6 (hts (.instantiable RX6 1) (List.mem_of_getElem? (i := 124) rfl))
  obtain ⟨c7, i7, hK7⟩ := u_known (C := RX7) (T := TX7) (N := 5) (n := 5) hts icX7 (hts (.instantiable RX7 5) (List.mem_of_getElem? (i := 210) rfl))
  obtain ⟨c8, i8, hK8⟩ := u_known (C := RX8) (T := TX8) (N := 2) (n := 2) hts icX8 (hts (.instantiable RX8 2) (List.mem_of_getElem? (i := 216) rfl))
  obtain ⟨c9, i9, hK9⟩ := u_known (C := RX9) (T := TX9) (N := 3) (n := 3) hts icX9 (hts (.instantiable RX9 3) (List.mem_of_getElem? (i := 82) rfl))
  obtain ⟨c10, i10, hK10⟩ := u_known (C := RX10) (T := TX10) (N := 10) (n := 10) hts icX10 (hts (.instantiable RX10 10) (List.mem_of_getElem? (i := 57) rfl))
  obtain ⟨c11, i11, hK11⟩ := u_known (C := RX11) (T := TX11) (N := 32) (n := 32) hts icX11 (hts (.instantiable RX11 32) (List.mem_of_getElem? (i := 807) rfl))
  obtain ⟨cI, kI, tI, fI, gI, hI⟩ := Cond.arrayClass_spec (hts (.arrayClass .int) (List.mem_of_getElem? (i := 80) rfl))
  obtain ⟨cZ, kZ, tZ, fZ, gZ, hZ⟩ := Cond.arrayClass_spec (hts (.arrayClass .boolean) (List.mem_of_getElem? (i := 925) rfl))
  obtain ⟨cJ, kJ, tJ, fJ, gJ, hJ⟩ := Cond.arrayClass_spec (hts (.arrayClass .long) (List.mem_of_getElem? (i := 1099) rfl))
  obtain ⟨dC, dI, hKc⟩ : ∃ (dC : Nat → ClassId) (dI : Nat → Nat → Nat), ∀ (k : Nat) (q : vw_C), vwCl[k]? = some q → u_Kn s q.1 q.2.1 q.2.2 (dC k) (dI k) := by
    refine ⟨fun k => if k = 0 then c0 else if k = 1 then c1 else if k = 2 then c2 else if k = 3 then c4 else if k = 4 then c5 else if k = 5 then c6 else if k = 6 then c7 else if k = 7 then c8 else if k = 8 then c9 else if k = 9 then c10 else c11, fun k => if k = 0 then i0 else if k = 1 then i1 else if k = 2 then i2 else if k = 3 then i4 else if k = 4 then i5 else if k = 5 then i6 else if k = 6 then i7 else if k = 7 then i8 else if k = 8 then i9 else if k = 9 then i10 else i11, ?_⟩
    intro k q hq
    match k, hq with
    | 0, hq => cases hq; exact hK0
    | 1, hq => cases hq; exact hK1
    | 2, hq => cases hq; exact hK2
    | 3, hq => cases hq; exact hK4
    | 4, hq => cases hq; exact hK5
    | 5, hq => cases hq; exact hK6
    | 6, hq => cases hq; exact hK7
    | 7, hq => cases hq; exact hK8
    | 8, hq => cases hq; exact hK9
    | 9, hq => cases hq; exact hK10
    | 10, hq => cases hq; exact hK11
    | k + 11, hq => simp [vwCl] at hq
  refine ⟨((dC, dI), cI, cZ, cJ), ⟨hKc, ?_⟩, ?_, va_Nw.of rfl (hts (.declares yI_choose) (List.mem_of_getElem? (i := 448) rfl)), va_Nw.of rfl (hts (.declares yI_leave) (List.mem_of_getElem? (i := 457) rfl))⟩
  · intro k q hk
    match k, hk with
    | 0, hk => cases hk; exact ⟨fun n z => ⟨fun k h => (by cases h), kI, gI, tI, hI⟩, fI⟩
    | 1, hk => cases hk; exact ⟨fun n z => ⟨fun k h => (by cases h), kZ, gZ, tZ, hZ⟩, fZ⟩
    | 2, hk => cases hk; exact ⟨fun n z => ⟨fun k h => (by cases h), kJ, gJ, tJ, hJ⟩, fJ⟩
    | k + 3, hk => simp [tyG] at hk
  · intro w hw
    simp only [wNW, List.mem_cons, List.not_mem_nil, or_false] at hw
    rcases hw with rfl | rfl | rfl | rfl | rfl | rfl
    · exact va_Nw.of rfl (hts _ (List.mem_of_getElem? (i := 439) rfl))
    · exact va_Nw.of rfl (hts _ (List.mem_of_getElem? (i := 406) rfl))
    · exact va_Nw.of rfl (hts _ (List.mem_of_getElem? (i := 491) rfl))
    · exact va_Nw.of rfl (hts _ (List.mem_of_getElem? (i := 217) rfl))
    · exact va_Nw.of rfl (hts _ (List.mem_of_getElem? (i := 107) rfl))
    · exact va_Nw.of rfl (hts _ (List.mem_of_getElem? (i := 86) rfl))
set_option maxHeartbeats 8000000 in
set_option maxRecDepth 100000 in
theorem lw_TH {s : State} {sb : Nat} {A : Nat → Prop} (hts : ∀ w ∈ lw_tbl, w.before #[Value.ref sb] s = true) (hgv : (Jvm.Cond.and given_1 narrow_1).before #[Value.ref sb] s = true) (hA : ∀ a : Nat, a < s.heap.size → ¬ A a) : TH A s s.heap := by
  have hg := flat_of_before _ hgv
  refine ⟨⟨?_, va_Nc.of (hg (.not (.castable "java/lang/IllegalArgumentException" "java/lang/IndexOutOfBoundsException")) (by decide +kernel)), va_Nc.of (hg (.not (.castable "java/lang/UnsupportedOperationException" "java/lang/IllegalArgumentException")) (by decide +kernel)), ?_⟩, vx_Zqof (hts (.laysStatic "java/lang/Throwable" "UNASSIGNED_STACK" "[Ljava/lang/StackTraceElement;") (List.mem_of_getElem? (i := 636) rfl)) (hts (.initialized "java/lang/Throwable") (List.mem_of_getElem? (i := 50) rfl)) (hg (.isRef (.static "java/lang/Throwable" "UNASSIGNED_STACK" "[Ljava/lang/StackTraceElement;")) (by decide +kernel)) hA, vx_Zqof (hts (.laysStatic "java/lang/Throwable" "SUPPRESSED_SENTINEL" "Ljava/util/List;") (List.mem_of_getElem? (i := 638) rfl)) (hts (.initialized "java/lang/Throwable") (List.mem_of_getElem? (i := 50) rfl)) (hg (.isRef (.static "java/lang/Throwable" "SUPPRESSED_SENTINEL" "Ljava/util/List;")) (by decide +kernel)) hA⟩
  · intro w hw
    simp only [wTH, List.mem_cons, List.not_mem_nil, or_false] at hw
    rcases hw with rfl | rfl | rfl | rfl | rfl | rfl
    · exact va_Nw.of rfl (hts _ (List.mem_of_getElem? (i := 613) rfl))
    · exact va_Nw.of rfl (hts _ (List.mem_of_getElem? (i := 615) rfl))
    · exact va_Nw.of rfl (hts _ (List.mem_of_getElem? (i := 617) rfl))
    · exact va_Nw.of rfl (hts _ (List.mem_of_getElem? (i := 611) rfl))
    · exact va_Nw.of rfl (hts _ (List.mem_of_getElem? (i := 679) rfl))
    · exact va_Nw.of rfl (hts _ (List.mem_of_getElem? (i := 772) rfl))
  · intro q hq
    simp only [wST, List.mem_cons, List.not_mem_nil, or_false] at hq
    rcases hq with rfl | rfl | rfl | rfl | rfl | rfl | rfl | rfl | rfl | rfl | rfl | rfl
    · obtain ⟨a, c, cA, kA, q1, -⟩ := Cond.exactly_spec (hg (.exactly (.string "MixedPredict" 85) "java/lang/String") (by decide +kernel))
      exact ⟨a, vk_R.of (hts (.stringRef "MixedPredict" 85 "no such sample") (List.mem_of_getElem? (i := 650) rfl)) q1⟩
    · obtain ⟨a, c, cA, kA, q1, -⟩ := Cond.exactly_spec (hg (.exactly (.string "MixedPredict" 96) "java/lang/String") (by decide +kernel))
      exact ⟨a, vk_R.of (hts (.stringRef "MixedPredict" 96 "no such number of a sample") (List.mem_of_getElem? (i := 686) rfl)) q1⟩
    · obtain ⟨a, c, cA, kA, q1, -⟩ := Cond.exactly_spec (hg (.exactly (.string "MixedPredict" 115) "java/lang/String") (by decide +kernel))
      exact ⟨a, vk_R.of (hts (.stringRef "MixedPredict" 115 "no such way") (List.mem_of_getElem? (i := 707) rfl)) q1⟩
    · obtain ⟨a, c, cA, kA, q1, -⟩ := Cond.exactly_spec (hg (.exactly (.string "MixedPredict" 157) "java/lang/String") (by decide +kernel))
      exact ⟨a, vk_R.of (hts (.stringRef "MixedPredict" 157 "no such coded byte") (List.mem_of_getElem? (i := 721) rfl)) q1⟩
    · obtain ⟨a, c, cA, kA, q1, -⟩ := Cond.exactly_spec (hg (.exactly (.string "MixedPredict" 162) "java/lang/String") (by decide +kernel))
      exact ⟨a, vk_R.of (hts (.stringRef "MixedPredict" 162 "no such tile") (List.mem_of_getElem? (i := 729) rfl)) q1⟩
    · obtain ⟨a, c, cA, kA, q1, -⟩ := Cond.exactly_spec (hg (.exactly (.string "MixedPredict" 175) "java/lang/String") (by decide +kernel))
      exact ⟨a, vk_R.of (hts (.stringRef "MixedPredict" 175 "no such channel") (List.mem_of_getElem? (i := 750) rfl)) q1⟩
    · obtain ⟨a, c, cA, kA, q1, -⟩ := Cond.exactly_spec (hg (.exactly (.string "MixedPredict" 177) "java/lang/String") (by decide +kernel))
      exact ⟨a, vk_R.of (hts (.stringRef "MixedPredict" 177 "no such class") (List.mem_of_getElem? (i := 751) rfl)) q1⟩
    · obtain ⟨a, c, cA, kA, q1, -⟩ := Cond.exactly_spec (hg (.exactly (.string "MixedPredict" 179) "java/lang/String") (by decide +kernel))
      exact ⟨a, vk_R.of (hts (.stringRef "MixedPredict" 179 "no such node") (List.mem_of_getElem? (i := 752) rfl)) q1⟩
    · obtain ⟨a, c, cA, kA, q1, -⟩ := Cond.exactly_spec (hg (.exactly (.string "MixedPredict" 199) "java/lang/String") (by decide +kernel))
      exact ⟨a, vk_R.of (hts (.stringRef "MixedPredict" 199 "no byte") (List.mem_of_getElem? (i := 769) rfl)) q1⟩
    · obtain ⟨a, c, cA, kA, q1, -⟩ := Cond.exactly_spec (hg (.exactly (.string "MixedPredict" 203) "java/lang/String") (by decide +kernel))
      exact ⟨a, vk_R.of (hts (.stringRef "MixedPredict" 203 "too many bytes to be read") (List.mem_of_getElem? (i := 779) rfl)) q1⟩
    · obtain ⟨a, c, cA, kA, q1, -⟩ := Cond.exactly_spec (hg (.exactly (.string "MixedPredict" 212) "java/lang/String") (by decide +kernel))
      exact ⟨a, vk_R.of (hts (.stringRef "MixedPredict" 212 "no such byte to be read") (List.mem_of_getElem? (i := 800) rfl)) q1⟩
    · obtain ⟨a, c, cA, kA, q1, -⟩ := Cond.exactly_spec (hg (.exactly (.string "MixedPredict" 214) "java/lang/String") (by decide +kernel))
      exact ⟨a, vk_R.of (hts (.stringRef "MixedPredict" 214 "no mask of a byte") (List.mem_of_getElem? (i := 801) rfl)) q1⟩
