/-! Throws: what a state has for them besides its world; a method that throws; a method with handlers; catching. -/
def wTH : List Cond := [.declares (Bundle.initS "java/lang/RuntimeException"), .declares (Bundle.initS "java/lang/Exception"), .declares (Bundle.initS Bundle.tN), .castable "java/lang/IndexOutOfBoundsException" "java/lang/IndexOutOfBoundsException", .castable "java/lang/IllegalArgumentException" "java/lang/IllegalArgumentException", .castable "java/lang/UnsupportedOperationException" "java/lang/UnsupportedOperationException"]
def wST : List (Nat × String) := [(85, "no such sample"), (96, "no such number of a sample"), (115, "no such way"), (157, "no such coded byte"), (162, "no such tile"), (175, "no such channel"), (177, "no such class"), (179, "no such node"), (199, "no byte"), (203, "too many bytes to be read"), (212, "no such byte to be read"), (214, "no mask of a byte")]
theorem wTH_ot : ∀ w ∈ wTH, w.onTables = true := by
  intro w hw
  simp only [wTH, List.mem_cons, List.not_mem_nil, or_false] at hw
  rcases hw with rfl | rfl | rfl | rfl | rfl | rfl <;> rfl
def TNv (U : State) : Prop := (∀ w ∈ wTH, va_Nw w U) ∧ va_Nc "java/lang/IllegalArgumentException" "java/lang/IndexOutOfBoundsException" U ∧ va_Nc "java/lang/UnsupportedOperationException" "java/lang/IllegalArgumentException" U ∧ ∀ q ∈ wST, ∃ a, vk_R RX10 q.1 q.2 a U
/-- what throws need, the statics outside A -/
def TH (A : Nat → Prop) (U : State) (H : Heap) : Prop := TNv U ∧ vx_Zq Bundle.tN "UNASSIGNED_STACK" Bundle.steD A U H ∧ vx_Zq Bundle.tN "SUPPRESSED_SENTINEL" Bundle.listD A U H
theorem TNv_warm {u U : State} (hW : u.WarmedH U.vm) (h : TNv u) : TNv U := by
  obtain ⟨h1, h2, h3, h4⟩ := h
  refine ⟨?_, h2.moved hW.alike, h3.moved hW.alike, fun q hq => ?_⟩
  · intro w hw
    have h9 := h1 w hw
    simp only [wTH, List.mem_cons, List.not_mem_nil, or_false] at hw
    rcases hw with rfl | rfl | rfl | rfl | rfl | rfl
    · exact va_Nw.warmD hW h9
    · exact va_Nw.warmD hW h9
    · exact va_Nw.warmD hW h9
    · exact va_Nw.warmC hW h9
    · exact va_Nw.warmC hW h9
    · exact va_Nw.warmC hW h9
  · obtain ⟨a, ha⟩ := h4 q hq
    exact ⟨a, vk_R.warm hW ha⟩
theorem TNv_call {U : State} {g : JFrame} {mk : MethodId} {a : Array Value} (h : TNv U) : TNv (U.calling g mk a) := by
  obtain ⟨h1, h2, h3, h4⟩ := h
  refine ⟨fun w hw => va_Nw.same (u := U) (U := U.calling g mk a) (wTH_ot w hw) rfl (h1 w hw), va_Nc.moved (u := U) (U := U.calling g mk a) (Vm.Alike.refl U.vm) h2, va_Nc.moved (u := U) (U := U.calling g mk a) (Vm.Alike.refl U.vm) h3, fun q hq => ?_⟩
  obtain ⟨b, hb⟩ := h4 q hq
  exact ⟨b, vk_R.same (u := U) (U := U.calling g mk a) rfl hb⟩
theorem TH_call {A : Nat → Prop} {U : State} {g : JFrame} {mk : MethodId} {a : Array Value} (h : TH A U U.heap) : TH A (U.calling g mk a) (U.calling g mk a).heap :=
  ⟨TNv_call h.1, vx_Zq.moved (u := U) (U := U.calling g mk a) (Vm.Alike.refl U.vm) h.2.1, vx_Zq.moved (u := U) (U := U.calling g mk a) (Vm.Alike.refl U.vm) h.2.2⟩
theorem TH_to {A B : Nat → Prop} {s U : State} {H : Heap} {locs : List Loc} (h : TH A s s.heap) (hS : va_S A s.heap H locs) (hB : ∀ q, B q → A q) (hW : s.WarmedH U.vm) (hU : U.heap = H) : TH B U U.heap := by
  rw [hU]
  exact ⟨TNv_warm hW h.1, vx_Zq.moved hW.alike ((h.2.1.kept hS.2.1).narrow hB), vx_Zq.moved hW.alike ((h.2.2.kept hS.2.1).narrow hB)⟩
def tx_Pc (G : GG) (av : List Value) (ws : va_W) : Array Value → State → Prop := va_Pc av (fun U => va_P G.1 vwCl ws U.heap ∧ KK G U ∧ TH (fun _ => False) U U.heap)
def x_Pc (G : GG) (av : List Value) (sz : Nat) (ws : va_W) : Array Value → State → Prop := va_Pc av (fun U => U.heap.size = sz ∧ va_P G.1 vwCl ws U.heap ∧ KK G U ∧ va_D (fun _ => True) ws ∧ TH (va_A ws sz) U U.heap)
theorem t_blind {G : GG} {av : List Value} {ws : va_W} : FrameBlind (tx_Pc G av ws) := fun a U g mk q => by
  obtain ⟨q0, qP, qK, qT⟩ := q
  exact ⟨q0, qP, KK_call qK, TH_call qT⟩
theorem x_blind {G : GG} {av : List Value} {sz : Nat} {ws : va_W} : FrameBlind (x_Pc G av sz ws) := fun a U g mk q => by
  obtain ⟨q0, q1, qP, qK, qD, qT⟩ := q
  exact ⟨q0, q1, qP, KK_call qK, qD, TH_call qT⟩
/-- a call that throws E, and changes nothing -/
def tx_Qc : Array Value → State → Outcome → State → Prop := va_Qi (S := Unit) (fun _ _ => False) (fun _ _ => True) (fun _ => False)
def tx_XC (E : String) : String → State → State → Prop := vx_X (S := Unit) (fun _ => True) (fun E9 _ _ => E9 = E) (fun _ => False)
theorem t_ofW {l : Launch} {y : MethodName} {ws ws' : List Cond} {rm : Room} {G : GG} {av : List Value} {WC : va_W} {E : String} {cc : ByteArray} {maxL : Nat} {ret : Option FieldType} (hy : plainName y.cls = true) (hw : ws = Cond.code y cc maxL ret :: ws') (hlen : (lg_sl av).length ≤ maxL)
    (body : ∀ (p : Program) (e : Env) (s : State) (m : MethodId) (below : List Frame) (meth : Method) (c : Code), p.tables.exec = Jvm.exec → c.code = cc → meth.sig.returnType = ret → (∀ w ∈ ws, w.before av.toArray s = true) → s.vm.findClass y.cls = some m.cls → meth.locks = false → c.maxLocals = maxL → KK G s → TH (fun _ => False) s s.heap → (∀ x ∈ c.exceptionTable.toList, False) → ∀ (H : Heap), H = s.heap → va_P G.1 vwCl WC H → ∀ ls, lv_has ls maxL (lv_args 0 av) → W p l e rm s m av.toArray below meth c H [] 0 0 (vx_MQ below tx_Qc (tx_XC E) av.toArray s 1 6 (fun _ => False)) (F0 m 0 ls [])) :
    vx_Met l y ws rm (tx_Pc G av WC) tx_Qc (tx_XC E) 1 6 (fun _ => False) := by
  refine vx_ofW (cc := cc) (maxL := maxL) (ret := ret) hy hw ?_
  intro p e s m args below meth c s₁ B hml hx hv
  obtain ⟨rfl, hP, hK, hT⟩ := hv
  have hl := lv_entry av (n := maxL) hlen
  rw [lg_entry_eq]
  exact body p e s m below meth c B.exec B.bytes B.returns (atoms_spec (ws := ws) B.pre) (findClass_of_methodNamed B.named) B.notSynchronized hml hK hT hx s.heap rfl hP _ hl
/-- what the throws' words are -/
abbrev xUp : List String := ["java/lang/RuntimeException", "java/lang/Exception"]
theorem xb_87 : ∀ w ∈ (vx_atS RX10 87 "java/lang/IndexOutOfBoundsException" ["java/lang/RuntimeException", "java/lang/Exception"]).filter (fun w => !goodWord w), w ∈ wTH := by decide +kernel
theorem xb_98 : ∀ w ∈ (vx_atS RX10 98 "java/lang/IllegalArgumentException" ["java/lang/RuntimeException", "java/lang/Exception"]).filter (fun w => !goodWord w), w ∈ wTH := by decide +kernel
theorem xb_205 : ∀ w ∈ (vx_atS RX10 205 "java/lang/UnsupportedOperationException" ["java/lang/RuntimeException", "java/lang/Exception"]).filter (fun w => !goodWord w), w ∈ wTH := by decide +kernel
theorem xg_87 : ∀ w ∈ Cond.classLink RX10 83 "java/lang/IndexOutOfBoundsException" :: Cond.initialized "java/lang/IndexOutOfBoundsException" :: vx_atS RX10 87 "java/lang/IndexOutOfBoundsException" ["java/lang/RuntimeException", "java/lang/Exception"], vx_ot w = true := by decide +kernel
theorem xg_98 : ∀ w ∈ Cond.classLink RX10 94 "java/lang/IllegalArgumentException" :: Cond.initialized "java/lang/IllegalArgumentException" :: vx_atS RX10 98 "java/lang/IllegalArgumentException" ["java/lang/RuntimeException", "java/lang/Exception"], vx_ot w = true := by decide +kernel
theorem xg_205 : ∀ w ∈ Cond.classLink RX10 201 "java/lang/UnsupportedOperationException" :: Cond.initialized "java/lang/UnsupportedOperationException" :: vx_atS RX10 205 "java/lang/UnsupportedOperationException" ["java/lang/RuntimeException", "java/lang/Exception"], vx_ot w = true := by decide +kernel
section
variable {p : Program} {l : Launch} {e : Env} {R : Room} {s : State} {m : MethodId} {args : Array Value} {below : List Frame} {meth : Method} {c : Code} {H : Heap} {locs : List Loc} {cells slots : Nat} {Q : State → Prop}
variable {pc : Nat} {ls : Array Slot} {rest : List Value}
theorem t_throw {cc : ByteArray} {E text : String} {ik is ic : Nat} (hexec : p.tables.exec = Jvm.exec) (hb : c.code = cc) (hst : l.stackTraces = false) (hown : s.vm.findClass RX10 = some m.cls) (hcls : Bundle.fit E = true)
    (hk : (Cond.classLink RX10 ik E).before args s = true) (hini : (Cond.initialized E).before args s = true) (hsi : (is, text) ∈ wST) (hth : TH (fun _ => False) s s.heap)
    (hgw : ∀ w ∈ (vx_atS RX10 ic E ["java/lang/RuntimeException", "java/lang/Exception"]).filter goodWord, w.before args s = true) (hbad : ∀ w ∈ (vx_atS RX10 ic E ["java/lang/RuntimeException", "java/lang/Exception"]).filter (fun w => !goodWord w), w ∈ wTH)
    (hgood : ∀ w ∈ Cond.classLink RX10 ik E :: Cond.initialized E :: vx_atS RX10 ic E ["java/lang/RuntimeException", "java/lang/Exception"], vx_ot w = true) (hH : H = s.heap) (hsize : ls.size = c.maxLocals)
    (d0 : decode cc pc = .ok (.new ik, 3)) (d3 : decode cc (pc + 3) = .ok (.dup, 1)) (d4 : decode cc (pc + 4) = .ok (.ldc is, 2)) (d6 : decode cc (pc + 6) = .ok (.invokespecial ic, 3)) (d9 : decode cc (pc + 9) = .ok (.athrow, 1))
    (hex : ∀ x ∈ c.exceptionTable.toList, False) (hRf : 5 < R.frames) (hRl : (rest.map fun v => v.category).sum + 82 ≤ R.locals) (hRc : 1 ≤ R.cells) (hRs : 6 ≤ R.slots) (hlocks : meth.locks = false) :
    W p l e R s m args below meth c H [] 0 0 (vx_MQ below tx_Qc (tx_XC E) args s 1 6 (fun _ => False)) (F0 m pc ls rest) := by
  obtain ⟨sa, hstr⟩ := hth.1.2.2.2 (is, text) hsi
  subst hH
  refine vx_throwS (A := fun _ => False) (names := ["java/lang/RuntimeException", "java/lang/Exception"]) (sa := sa) (text := text) hexec hb hst hown hcls ?_ hk hini hstr (vx_hat hgw hbad (fun w hw => va_Nw.use (wTH_ot w hw) (hth.1.1 w hw))) hgood hth.2.1 hth.2.2 va_S.rf hsize d0 d3 d4 d6 d9 (fun x hx => (hex x hx).elim) hRf hRl (by omega) (by omega) hlocks (fun t _ h1 h2 => ⟨(), trivial, rfl, h1, fun q hq _ => h2 q hq⟩) (fun z hz => by cases hz) (by omega) (by omega)
  intro n hn
  simp only [List.mem_cons, List.not_mem_nil, or_false] at hn
  rcases hn with rfl | rfl <;> decide +kernel
theorem t_pre {G : GG} {av : List Value} {ws WC : va_W} {A : Nat → Prop} (hK : KK G s) (hP : va_P G.1 vwCl ws H) (hS : va_S A s.heap H locs) (hT : TH A s s.heap) (is : List Nat) (hC : is.filterMap (fun i => ws[i]?) = WC) : PreS s H (tx_Pc G av WC) av :=
  ⟨t_blind, fun U hU hW => ⟨rfl, by rw [hU]; exact hP.sub is hC, KK_warm hW hK, TH_to hT hS (fun _ h => h.elim) hW hU⟩⟩
theorem x_pre {G : GG} {av : List Value} {A : Nat → Prop} {ws WC : va_W} (hK : KK G s) (hP : va_P G.1 vwCl ws H) (hD : va_D A ws) (hS : va_S A s.heap H locs) (hA : ∀ q, s.heap.size ≤ q → A q) (hT : TH A s s.heap) (is : List Nat) (hn : va_nd is = true) (hC : is.map (fun i => ws[i]?) = WC.map some) : PreS s H (x_Pc G av H.size WC) av :=
  ⟨x_blind, fun U hU hW => ⟨rfl, by rw [hU], by rw [hU]; exact hP.sub is (x_fm hC), KK_warm hW hK, (hD.sub is hn hC).weaken (fun _ _ _ _ => trivial), TH_to hT hS (va_free hD hS hA is hC) hW hU⟩⟩
/-- behind a call that throws: the world as it was, the throw over the frame -/
theorem t_fin {E : String} {A : Nat → Prop} {D : va_G} {cl : List vw_C} {ws : va_W} {H0 : Heap} {a : Array Value} {st0 : List Value} (hr : vx_Run p l e R s m args below meth c H locs cells slots 1 6 (F0 m pc ls st0) rest (tx_Qc a) (tx_XC E) (fun _ => False)) (hP : va_P D cl ws H) (hS : va_S A H0 H locs)
    (kk : ∀ (H1 : Heap) (locs1 : List Loc) (q : Nat) (ce : Cell), va_P D cl ws H1 → va_S A H0 H1 locs1 → H1[q]? = some ce → ce.vm = .none → s.vm.findClass E = some ce.cls → vx_W p l e R s m args below meth c H1 locs1 (cells + 1) (slots + 6) Q (F0 m pc ls rest) q) : W p l e R s m args below meth c H locs cells slots Q (F0 m pc ls st0) := by
  refine vx_calli hr hS (fun _ _ h => h.elim) (fun _ h => h.elim) (fun _ _ h => h.elim) (fun E9 ce q9 u t H1 locs1 ht hal _ hE hz hk hS1 hce hcv hcl => ?_) (fun r u t H1 locs1 _ _ hpost _ _ _ _ => hpost.elim)
  have hE9 : E9 = E := hE
  subst hE9
  exact kk H1 locs1 q9 ce (hP.kept (fun k x hx => hk x.1 (vx_lt hP hx) (fun h => h))) hS1 hce hcv hcl
/-- caught by the first row of the table, or by the second -/
theorem t_catch1 {E : String} {A : Nat → Prop} {ce : Cell} {q : Addr} {z : Nat × Nat × Nat × Nat} {suf : List (Nat × Nat × Nat × Nat)} (hown : s.vm.findClass RL = some m.cls) (hET : c.exceptionTable.toList = tableOf (z :: suf)) (hx : covers ⟨z.1, z.2.1, z.2.2.1, z.2.2.2⟩ pc = true) (h0 : z.2.2.2 ≠ 0) (hlink : (Cond.classLink RL z.2.2.2 E).before args s = true) (hcast : va_Nw (.castable E E) s) (hcell : H[q]? = some ce) (hv : ce.vm = .none) (hcl : s.vm.findClass E = some ce.cls)
    (kk : W p l e R s m args below meth c H locs cells slots Q (F0 m z.2.2.1 ls [.ref q])) : vx_W p l e R s m args below meth c H locs cells slots Q (F0 m pc ls rest) q :=
  vx_catch (name := E) (E := E) hown [] ⟨z.1, z.2.1, z.2.2.1, z.2.2.2⟩ (tableOf suf) hET (fun z hz => by cases hz) hx h0 hlink (va_Nw.use rfl hcast) hcell hv hcl kk
theorem t_catch2 {E E1 : String} {A : Nat → Prop} {ce : Cell} {q : Addr} {z1 z : Nat × Nat × Nat × Nat} {suf : List (Nat × Nat × Nat × Nat)} (hown : s.vm.findClass RL = some m.cls) (hET : c.exceptionTable.toList = tableOf (z1 :: z :: suf)) (h01 : z1.2.2.2 ≠ 0) (hlink1 : (Cond.classLink RL z1.2.2.2 E1).before args s = true) (hno : va_Nc E E1 s) (hx : covers ⟨z.1, z.2.1, z.2.2.1, z.2.2.2⟩ pc = true) (h0 : z.2.2.2 ≠ 0) (hlink : (Cond.classLink RL z.2.2.2 E).before args s = true) (hcast : va_Nw (.castable E E) s) (hcell : H[q]? = some ce) (hv : ce.vm = .none) (hcl : s.vm.findClass E = some ce.cls)
    (kk : W p l e R s m args below meth c H locs cells slots Q (F0 m z.2.2.1 ls [.ref q])) : vx_W p l e R s m args below meth c H locs cells slots Q (F0 m pc ls rest) q :=
  vx_catch (name := E) (E := E) hown [⟨z1.1, z1.2.1, z1.2.2.1, z1.2.2.2⟩] ⟨z.1, z.2.1, z.2.2.1, z.2.2.2⟩ (tableOf suf) hET (fun z hz => by
    rcases List.mem_singleton.mp hz with rfl
    exact Or.inr ⟨h01, E1, hlink1, hno⟩) hx h0 hlink (va_Nw.use rfl hcast) hcell hv hcl kk
end
/-- the body of a method with handlers that itself throws nothing -/
theorem h_ofW {l : Launch} {y : MethodName} {ws ws' : List Cond} {rm : Room} {G : GG} {av : List Value} {sz : Nat} {WC : va_W} {Qf : (Nat → Prop) → Array Value → State → Outcome → State → Prop} {mc ms : Nat} {cc : ByteArray} {maxL : Nat} {ret : Option FieldType} {hh : List (Nat × Nat × Nat × Nat)} (hy : plainName y.cls = true) (hw : ws = Cond.codeWith y cc maxL ret hh :: ws') (hlen : (lg_sl av).length ≤ maxL)
    (body : ∀ (p : Program) (e : Env) (s : State) (m : MethodId) (below : List Frame) (meth : Method) (c : Code) (A : Nat → Prop), p.tables.exec = Jvm.exec → c.code = cc → meth.sig.returnType = ret → (∀ w ∈ ws, w.before av.toArray s = true) → s.vm.findClass y.cls = some m.cls → meth.locks = false → c.maxLocals = maxL → meth.name = y.name → KK G s → (∀ q, s.heap.size ≤ q → A q) → TH A s s.heap → c.exceptionTable.toList = tableOf hh → ∀ (H : Heap) (locs : List Loc), va_P G.1 vwCl WC H → va_D A WC → va_S A s.heap H locs → ∀ ls, lv_has ls maxL (lv_args 0 av) → W p l e rm s m av.toArray below meth c H locs 0 0 (MQ below (Qf A) av.toArray s mc ms A) (F0 m 0 ls [])) :
    Met l y ws rm (x_Pc G av sz WC) (Qf (va_A WC sz)) mc ms (va_A WC sz) := by
  refine MetFree.of_bodyS (code := cc) (maxLocals := maxL) (ret := ret) hy ?_ ?_
  · intro args s m h hn
    obtain ⟨m9, meth, c, hn9, h1, h2, h3, h4, -, h5, h6, -⟩ := Cond.codeWith_spec (atoms_spec (ws := ws) h _ (by rw [hw]; exact List.mem_cons_self))
    cases hn.symm.trans hn9
    exact ⟨meth, c, h1, h2, h3, h4, h5, h6⟩
  · intro p e s m args below meth c s₁ B hml0 hv _
    obtain ⟨rfl, hsz, hP, hK, hD0, hT⟩ := hv
    subst hsz
    have hts := atoms_spec (ws := ws) B.pre
    have hcw := hts _ (by rw [hw]; exact List.mem_cons_self)
    have hml : c.maxLocals = maxL := hml0
    have hh0 : s₁.heap = s.heap := by rw [B.state]; rfl
    have hl := lv_entry av (n := maxL) hlen
    have K := body p e s m below meth c _ B.exec B.bytes B.returns hts (findClass_of_methodNamed B.named) B.notSynchronized hml (name_of_methodNamed B.named B.method).1 hK (fun q h => Or.inr h) hT (vx_table (x := y) B hcw) s.heap [] hP (hD0.self (sz := s.heap.size)) va_S.rf _ hl
    rw [← lg_entry_eq] at K
    obtain ⟨t, a1, o, b1, b2, b3⟩ := K s₁ hh0 (Stand.of_body B)
    exact ⟨t, o, a1, b1, b2, ⟨b3.1, b3.2⟩⟩
theorem lt9_le {x : Int32} (h : x < 9) : x ≤ 8 := by
  rw [Int32.lt_iff_toInt_lt] at h
  rw [Int32.le_iff_toInt_le]
  have e1 : (9 : Int32).toInt = 9 := by decide
  have e2 : (8 : Int32).toInt = 8 := by decide
  rw [e1] at h; rw [e2]; omega
theorem lt4_le {x : Int32} (h : x < 4) : x ≤ 3 := by
  rw [Int32.lt_iff_toInt_lt] at h
  rw [Int32.le_iff_toInt_le]
  have e1 : (4 : Int32).toInt = 4 := by decide
  have e2 : (3 : Int32).toInt = 3 := by decide
  rw [e1] at h; rw [e2]; omega
