/-! Rows of this claim's own, over the kit's: one bundle of what the tables say (KK), contracts in one shape (w_Pc, w_Qi ..; r_Pc for methods that only read), calls, joins and loops in one row each. -/
/-- the links between nest mates that the words lists leave out -/
def wNW : List Cond := [.methodLinkNest RX2 39 yX10_brought "MixedPredict", .methodLinkNest RX4 67 yX10_brought "MixedPredict", .methodLinkNest RX8 38 yX10_brought "MixedPredict", .methodLinkNest RX7 11 yX8_init "MixedPredict", .methodLinkNest RX5 1 yX3_init "MixedPredict", .methodLinkNest RX9 1 yX3_init "MixedPredict"]
abbrev GG : Type := va_G × ClassId × ClassId × ClassId
abbrev tyG (G : GG) : List (ClassId × FieldType) := [(G.2.1, .int), (G.2.2.1, .boolean), (G.2.2.2, .long)]
abbrev yI_choose : MethodName := ⟨"MixedPredict$Interval", "choose", "(JI)I"⟩
abbrev yI_leave : MethodName := ⟨"MixedPredict$Interval", "leave", "(I)V"⟩
def KK (G : GG) (U : State) : Prop := va_K G.1 vwCl (tyG G) U ∧ (∀ w ∈ wNW, va_Nw w U) ∧ va_Nw (.declares yI_choose) U ∧ va_Nw (.declares yI_leave) U
theorem KN_all {P : Cond → Prop} (h : ∀ (i : Nat) (a : String) (k : Nat) (x : MethodName) (z : String), wNW[i]? = some (.methodLinkNest a k x z) → P (.methodLinkNest a k x z)) : ∀ w ∈ wNW, P w := by
  intro w hw
  obtain ⟨i, hi, he⟩ := List.mem_iff_getElem.mp hw
  have h6 : i < 6 := hi
  rcases (show i = 0 ∨ i = 1 ∨ i = 2 ∨ i = 3 ∨ i = 4 ∨ i = 5 by omega) with rfl | rfl | rfl | rfl | rfl | rfl <;> subst he <;> first | exact h 0 _ _ _ _ rfl | exact h 1 _ _ _ _ rfl | exact h 2 _ _ _ _ rfl | exact h 3 _ _ _ _ rfl | exact h 4 _ _ _ _ rfl | exact h 5 _ _ _ _ rfl
theorem KK_warm {G : GG} {u U : State} (hW : u.WarmedH U.vm) (h : KK G u) : KK G U := ⟨va_K.moved hW.alike h.1, KN_all (fun i a k x z hi => va_Nw.warmM hW (h.2.1 _ (List.mem_of_getElem? hi))), va_Nw.warmD hW h.2.2.1, va_Nw.warmD hW h.2.2.2⟩
theorem KK_call {G : GG} {U : State} {g : JFrame} {mk : MethodId} {a : Array Value} (h : KK G U) : KK G (U.calling g mk a) := ⟨va_K.moved (u := U) (U := U.calling g mk a) (Vm.Alike.refl U.vm) h.1, KN_all (fun i a2 k x z hi => va_Nw.same (u := U) (U := U.calling g mk a) rfl rfl (h.2.1 _ (List.mem_of_getElem? hi))), va_Nw.same (u := U) (U := U.calling g mk a) rfl rfl h.2.2.1, va_Nw.same (u := U) (U := U.calling g mk a) rfl rfl h.2.2.2⟩
theorem KK_nest {G : GG} {U : State} (h : KK G U) (k : Nat) {w : Cond} (hk : wNW[k]? = some w) : va_Nw w U := h.2.1 w (List.mem_of_getElem? hk)
theorem x_fm {ws ws' : va_W} {is : List Nat} (h : is.map (fun i => ws[i]?) = ws'.map some) : is.filterMap (fun i => ws[i]?) = ws' := by
  have h1 : is.filterMap (fun i => ws[i]?) = (is.map (fun i => ws[i]?)).filterMap id := by rw [List.filterMap_map]; rfl
  rw [h1, h, List.filterMap_map]
  exact List.filterMap_some
/-- a method's start: writes / only reads -/
def w_Pc (G : GG) (av : List Value) (sz : Nat) (ws : va_W) : Array Value → State → Prop := va_Pc av (fun U => U.heap.size = sz ∧ va_P G.1 vwCl ws U.heap ∧ KK G U ∧ va_D (fun _ => True) ws)
def r_Pc (G : GG) (av : List Value) (ws : va_W) : Array Value → State → Prop := va_Pc av (fun U => va_P G.1 vwCl ws U.heap ∧ KK G U)
def w_B {S : Type} (G : GG) (A : Nat → Prop) (W1 : S → va_W) : S → State → Prop := fun u t => va_P G.1 vwCl (W1 u) t.heap ∧ va_D A (W1 u)
def w_Qi {S : Type} (G : GG) (A : Nat → Prop) (W1 : S → va_W) (post : Int32 → S → Prop) : Array Value → State → Outcome → State → Prop := va_Qi post (w_B G A W1) A
def w_Ql {S : Type} (G : GG) (A : Nat → Prop) (W1 : S → va_W) (post : Int64 → S → Prop) : Array Value → State → Outcome → State → Prop := va_Ql post (w_B G A W1) A
def w_Qv {S : Type} (G : GG) (A : Nat → Prop) (W1 : S → va_W) (post : S → Prop) : Array Value → State → Outcome → State → Prop := va_Qv post (w_B G A W1) A
theorem w_blind {G : GG} {av : List Value} {sz : Nat} {ws : va_W} : FrameBlind (w_Pc G av sz ws) := fun a U g mk q => by
  obtain ⟨q0, q1, qP, qK, qD⟩ := q
  exact ⟨q0, q1, qP, KK_call qK, qD⟩
theorem r_blind {G : GG} {av : List Value} {ws : va_W} : FrameBlind (r_Pc G av ws) := fun a U g mk q => by
  obtain ⟨q0, qP, qK⟩ := q
  exact ⟨q0, qP, KK_call qK⟩
section
variable {p : Program} {l : Launch} {e : Env} {R : Room} {s : State} {m : MethodId} {args : Array Value} {below : List Frame} {meth : Method} {c : Code} {H : Heap} {locs : List Loc} {cells slots : Nat} {Q : State → Prop}
variable {pc : Nat} {ls : Array Slot} {rest : List Value}
theorem x_top {x y : Int32} (h : x = y) (k : W p l e R s m args below meth c H locs cells slots Q (F0 m pc ls (.int y :: rest))) : W p l e R s m args below meth c H locs cells slots Q (F0 m pc ls (.int x :: rest)) := by rw [h]; exact k
theorem x_topl {x y : Int64} (h : x = y) (k : W p l e R s m args below meth c H locs cells slots Q (F0 m pc ls (.long y :: rest))) : W p l e R s m args below meth c H locs cells slots Q (F0 m pc ls (.long x :: rest)) := by rw [h]; exact k
/-- a place where roads meet, the heap the same -/
theorem x_join {α : Type} (g : α → JFrame) (P : α → Prop) {g0 : JFrame} (k : ∀ a, P a → W p l e R s m args below meth c H locs cells slots Q (g a)) (b : (∀ a, P a → W p l e R s m args below meth c H locs cells slots Q (g a)) → W p l e R s m args below meth c H locs cells slots Q g0) : W p l e R s m args below meth c H locs cells slots Q g0 := b k
theorem x_joinH {α : Type} (g : α → JFrame) (P : α → Heap → List Loc → Prop) {g0 : JFrame} (k : ∀ a H locs, P a H locs → W p l e R s m args below meth c H locs cells slots Q (g a)) (b : (∀ a H locs, P a H locs → W p l e R s m args below meth c H locs cells slots Q (g a)) → W p l e R s m args below meth c H locs cells slots Q g0) : W p l e R s m args below meth c H locs cells slots Q g0 := b k
theorem x_loop {α : Type} (g : α → JFrame) (I : α → Heap → List Loc → Prop) (μ : α → Nat) (hs : ∀ a H locs, I a H locs → (∀ a' H' locs', μ a' < μ a → I a' H' locs' → W p l e R s m args below meth c H' locs' cells slots Q (g a')) → W p l e R s m args below meth c H locs cells slots Q (g a)) (a : α) (H : Heap) (locs : List Loc) (h : I a H locs) : W p l e R s m args below meth c H locs cells slots Q (g a) := by
  have key : ∀ n a H locs, μ a < n → I a H locs → W p l e R s m args below meth c H locs cells slots Q (g a) := by
    intro n
    induction n with
    | zero => intro a H locs h; exact absurd h (Nat.not_lt_zero _)
    | succ n ih => intro a H locs h hI; exact hs a H locs hI (fun a' H' locs' h' hI' => ih a' H' locs' (by omega) hI')
  exact key _ a H locs (Nat.lt_succ_self _) h
theorem x_loopR {α : Type} (g : α → JFrame) (I : α → Prop) (μ : α → Nat) (hs : ∀ a, I a → (∀ a', μ a' < μ a → I a' → W p l e R s m args below meth c H locs cells slots Q (g a')) → W p l e R s m args below meth c H locs cells slots Q (g a)) (a : α) (h : I a) : W p l e R s m args below meth c H locs cells slots Q (g a) := by
  have key : ∀ n a, μ a < n → I a → W p l e R s m args below meth c H locs cells slots Q (g a) := by
    intro n
    induction n with
    | zero => intro a h; exact absurd h (Nat.not_lt_zero _)
    | succ n ih => intro a h hI; exact hs a hI (fun a' h' hI' => ih a' (by omega) hI')
  exact key _ a (Nat.lt_succ_self _) h
end
/-- the body of a method that writes: what it has at its first instruction -/
theorem w_ofW {l : Launch} {y : MethodName} {ws ws' : List Cond} {rm : Room} {G : GG} {av : List Value} {sz : Nat} {WC : va_W} {Qf : (Nat → Prop) → Array Value → State → Outcome → State → Prop} {mc ms : Nat} {cc : ByteArray} {maxL : Nat} {ret : Option FieldType} (hy : plainName y.cls = true) (hw : ws = Cond.code y cc maxL ret :: ws') (hlen : (lg_sl av).length ≤ maxL)
    (body : ∀ (p : Program) (e : Env) (s : State) (m : MethodId) (below : List Frame) (meth : Method) (c : Code) (A : Nat → Prop), p.tables.exec = Jvm.exec → c.code = cc → meth.sig.returnType = ret → (∀ w ∈ ws, w.before av.toArray s = true) → s.vm.findClass y.cls = some m.cls → meth.locks = false → c.maxLocals = maxL → meth.name = y.name → KK G s → (∀ q, s.heap.size ≤ q → A q) → ∀ (H : Heap) (locs : List Loc), va_P G.1 vwCl WC H → va_D A WC → va_S A s.heap H locs → ∀ ls, lv_has ls maxL (lv_args 0 av) → W p l e rm s m av.toArray below meth c H locs 0 0 (MQ below (Qf A) av.toArray s mc ms A) (F0 m 0 ls [])) :
    Met l y ws rm (w_Pc G av sz WC) (Qf (va_A WC sz)) mc ms (va_A WC sz) := by
  refine Met.ofW (cc := cc) (maxL := maxL) (ret := ret) hy hw ?_
  intro p e s m args below meth c s₁ B hml hv
  obtain ⟨rfl, hsz, hP, hK, hD0⟩ := hv
  subst hsz
  have hl := lv_entry av (n := maxL) hlen
  rw [lg_entry_eq]
  exact body p e s m below meth c _ B.exec B.bytes B.returns (atoms_spec (ws := ws) B.pre) (findClass_of_methodNamed B.named) B.notSynchronized hml (name_of_methodNamed B.named B.method).1 hK (fun q h => Or.inr h) s.heap [] hP (hD0.self (sz := s.heap.size)) va_S.rf _ hl
/-- the body of a method that only reads -/
theorem r_ofW {l : Launch} {y : MethodName} {ws ws' : List Cond} {rm : Room} {G : GG} {av : List Value} {WC : va_W} {Qf : Array Value → State → Outcome → State → Prop} {cc : ByteArray} {maxL : Nat} {ret : Option FieldType} (hy : plainName y.cls = true) (hw : ws = Cond.code y cc maxL ret :: ws') (hlen : (lg_sl av).length ≤ maxL)
    (body : ∀ (p : Program) (e : Env) (s : State) (m : MethodId) (below : List Frame) (meth : Method) (c : Code), p.tables.exec = Jvm.exec → c.code = cc → meth.sig.returnType = ret → (∀ w ∈ ws, w.before av.toArray s = true) → s.vm.findClass y.cls = some m.cls → meth.locks = false → c.maxLocals = maxL → KK G s → ∀ (H : Heap), H = s.heap → va_P G.1 vwCl WC H → ∀ ls, lv_has ls maxL (lv_args 0 av) → W p l e rm s m av.toArray below meth c H [] 0 0 (MQ below Qf av.toArray s 0 0 (fun _ => False)) (F0 m 0 ls [])) :
    Met l y ws rm (r_Pc G av WC) Qf 0 0 (fun _ => False) := by
  refine Met.ofW (cc := cc) (maxL := maxL) (ret := ret) hy hw ?_
  intro p e s m args below meth c s₁ B hml hv
  obtain ⟨rfl, hP, hK⟩ := hv
  have hl := lv_entry av (n := maxL) hlen
  rw [lg_entry_eq]
  exact body p e s m below meth c B.exec B.bytes B.returns (atoms_spec (ws := ws) B.pre) (findClass_of_methodNamed B.named) B.notSynchronized hml hK s.heap rfl hP _ hl
section
variable {p : Program} {l : Launch} {e : Env} {R : Room} {s : State} {m : MethodId} {args : Array Value} {below : List Frame} {meth : Method} {c : Code} {H : Heap} {locs : List Loc} {cells slots : Nat} {Q : State → Prop}
variable {pc : Nat} {ls : Array Slot} {rest : List Value} {cc : ByteArray}
/-- ends of a method that only reads -/
theorem r_iret {v : Int32} {post : Int32 → Prop} (hexec : p.tables.exec = Jvm.exec) (hb : c.code = cc) (hr : meth.sig.returnType = some .int) (hlocks : meth.locks = false) (hpost : post v) (hH : H = s.heap) (hdg : decode cc pc = .ok (.ireturn, 1)) : W p l e R s m args below meth c H [] 0 0 (MQ below (vp_Si post) args s 0 0 (fun _ => False)) (F0 m pc ls [.int v]) :=
  W.iret hexec hb hr (fun t ht _ => ⟨v, rfl, hpost, by rw [ht, hH]⟩) (fun q h => by cases h) hdg hlocks
theorem r_zret {v : Int32} {post : Int32 → Prop} (hexec : p.tables.exec = Jvm.exec) (hb : c.code = cc) (hr : meth.sig.returnType = some .boolean) (hlocks : meth.locks = false) (hz : narrow .boolean (.int v) = .int v) (hpost : post v) (hH : H = s.heap) (hdg : decode cc pc = .ok (.ireturn, 1)) : W p l e R s m args below meth c H [] 0 0 (MQ below (vp_Si post) args s 0 0 (fun _ => False)) (F0 m pc ls [.int v]) :=
  W.zret hexec hb hr hz (fun t ht _ => ⟨v, rfl, hpost, by rw [ht, hH]⟩) (fun q h => by cases h) hdg hlocks
/-- ends of a method that writes -/
theorem w_iret {G : GG} {A : Nat → Prop} {S : Type} {W1 : S → va_W} {v : Int32} {post : Int32 → S → Prop} (u : S) (hexec : p.tables.exec = Jvm.exec) (hb : c.code = cc) (hr : meth.sig.returnType = some .int) (hlocks : meth.locks = false) (hpost : post v u) (hP : va_P G.1 vwCl (W1 u) H) (hD : va_D A (W1 u)) (hS : va_S A s.heap H locs) (hdg : decode cc pc = .ok (.ireturn, 1)) : W p l e R s m args below meth c H locs cells slots (MQ below (w_Qi G A W1 post) args s cells slots A) (F0 m pc ls [.int v]) :=
  W.iret hexec hb hr (fun t ht _ => ⟨⟨v, u, rfl, hpost, by rw [w_B, ht]; exact ⟨hP, hD⟩⟩, hS.F ht⟩) hS.2.2 hdg hlocks
theorem w_zret {G : GG} {A : Nat → Prop} {S : Type} {W1 : S → va_W} {v : Int32} {post : Int32 → S → Prop} (u : S) (hexec : p.tables.exec = Jvm.exec) (hb : c.code = cc) (hr : meth.sig.returnType = some .boolean) (hlocks : meth.locks = false) (hz : narrow .boolean (.int v) = .int v) (hpost : post v u) (hP : va_P G.1 vwCl (W1 u) H) (hD : va_D A (W1 u)) (hS : va_S A s.heap H locs) (hdg : decode cc pc = .ok (.ireturn, 1)) : W p l e R s m args below meth c H locs cells slots (MQ below (w_Qi G A W1 post) args s cells slots A) (F0 m pc ls [.int v]) :=
  W.zret hexec hb hr hz (fun t ht _ => ⟨⟨v, u, rfl, hpost, by rw [w_B, ht]; exact ⟨hP, hD⟩⟩, hS.F ht⟩) hS.2.2 hdg hlocks
theorem w_vret {G : GG} {A : Nat → Prop} {S : Type} {W1 : S → va_W} {post : S → Prop} (u : S) (hexec : p.tables.exec = Jvm.exec) (hb : c.code = cc) (hr : meth.sig.returnType = none) (hlocks : meth.locks = false) (hpost : post u) (hP : va_P G.1 vwCl (W1 u) H) (hD : va_D A (W1 u)) (hS : va_S A s.heap H locs) (hdg : decode cc pc = .ok (.return_, 1)) : W p l e R s m args below meth c H locs cells slots (MQ below (w_Qv G A W1 post) args s cells slots A) (F0 m pc ls []) :=
  W.vret hexec hb hr (fun t ht _ => ⟨⟨u, rfl, hpost, by rw [w_B, ht]; exact ⟨hP, hD⟩⟩, hS.F ht⟩) hS.2.2 hdg hlocks
/-- what a call's start asks -/
theorem r_pre {G : GG} {av : List Value} {ws WC : va_W} (hK : KK G s) (hP : va_P G.1 vwCl ws H) (is : List Nat) (hC : is.filterMap (fun i => ws[i]?) = WC) : PreS s H (r_Pc G av WC) av :=
  ⟨r_blind, fun U hU hW => ⟨rfl, by rw [hU]; exact hP.sub is hC, KK_warm hW hK⟩⟩
theorem w_pre {G : GG} {av : List Value} {A : Nat → Prop} {ws WC : va_W} (hK : KK G s) (hP : va_P G.1 vwCl ws H) (hD : va_D A ws) (is : List Nat) (hn : va_nd is = true) (hC : is.map (fun i => ws[i]?) = WC.map some) : PreS s H (w_Pc G av H.size WC) av :=
  ⟨w_blind, fun U hU hW => ⟨rfl, by rw [hU], by rw [hU]; exact hP.sub is (x_fm hC), KK_warm hW hK, (hD.sub is hn hC).weaken (fun _ _ _ _ => trivial)⟩⟩
theorem x_preV {Pc : Array Value → State → Prop} {G : GG} {b : Addr} {As : List Value} {ws : va_W} {q0 ci : Nat} {q : vw_C} {fs : List Value} (hp : PreS s H Pc (.ref b :: As)) (hK : KK G s) (hP : va_P G.1 vwCl ws H) (hc : vwCl[ci]? = some q) (he : ws[q0]? = some (b, .inr (ci, fs))) : PreV s H q.1 b Pc As := ⟨hp.1, va_recv hK.1 hP hc he, hp.2⟩
/-- behind a call that writes: the callee's cells put back among the others -/
theorem w_fin_i {G : GG} {A : Nat → Prop} {S : Type} {W1 : S → va_W} {post : Int32 → S → Prop} {ws WC WR : va_W} {H0 : Heap} {mc ms : Nat} {a : Array Value} {st0 : List Value} (hr : va_Run p l e R s m args below meth c H locs cells slots mc ms (F0 m pc ls st0) rest (w_Qi G (va_A WC H.size) W1 post a) (va_A WC H.size)) (hP : va_P G.1 vwCl ws H) (hD : va_D A ws) (hS : va_S A H0 H locs) (hA : ∀ q, H0.size ≤ q → A q) (isC isR : List Nat) (hC : isC.map (fun i => ws[i]?) = WC.map some) (hR : isR.map (fun i => ws[i]?) = WR.map some) (hn : va_nd isR = true) (hdis : ∀ i ∈ isR, i ∉ isC) (perm : List Nat) (hnp : va_nd perm = true) (W2 : S → va_W) (hperm : ∀ u, perm.map (fun i => (WR ++ W1 u)[i]?) = (W2 u).map some)
    (kk : ∀ (r : Int32) (u : S) (H1 : Heap) (locs1 : List Loc), post r u → va_P G.1 vwCl (W2 u) H1 → va_D A (W2 u) → va_S A H0 H1 locs1 → W p l e R s m args below meth c H1 locs1 (cells + mc) (slots + ms) Q (F0 m (pc + 3) ls (.int r :: rest))) : W p l e R s m args below meth c H locs cells slots Q (F0 m pc ls st0) := by
  have hFc := va_free (wc := WC) hD hS hA isC hC
  refine va_calli hr hS (fun q _ h => hFc q h) hFc (fun r u t H1 locs1 ht hvm hw hB hz1 hk1 hS1 => ?_)
  obtain ⟨hP1, hD1⟩ := hB
  rw [ht] at hP1
  obtain ⟨hPj, hDj⟩ := va_join hP hD isC isR hC hR hn hdis hk1 hFc hP1 hD1
  exact kk r u H1 locs1 hw (hPj.sub perm (x_fm (hperm u))) (hDj.sub perm hnp (hperm u)) hS1
theorem w_fin_v {G : GG} {A : Nat → Prop} {S : Type} {W1 : S → va_W} {post : S → Prop} {ws WC WR : va_W} {H0 : Heap} {mc ms : Nat} {a : Array Value} {st0 : List Value} (hr : va_Run p l e R s m args below meth c H locs cells slots mc ms (F0 m pc ls st0) rest (w_Qv G (va_A WC H.size) W1 post a) (va_A WC H.size)) (hP : va_P G.1 vwCl ws H) (hD : va_D A ws) (hS : va_S A H0 H locs) (hA : ∀ q, H0.size ≤ q → A q) (isC isR : List Nat) (hC : isC.map (fun i => ws[i]?) = WC.map some) (hR : isR.map (fun i => ws[i]?) = WR.map some) (hn : va_nd isR = true) (hdis : ∀ i ∈ isR, i ∉ isC) (perm : List Nat) (hnp : va_nd perm = true) (W2 : S → va_W) (hperm : ∀ u, perm.map (fun i => (WR ++ W1 u)[i]?) = (W2 u).map some)
    (kk : ∀ (u : S) (H1 : Heap) (locs1 : List Loc), post u → va_P G.1 vwCl (W2 u) H1 → va_D A (W2 u) → va_S A H0 H1 locs1 → W p l e R s m args below meth c H1 locs1 (cells + mc) (slots + ms) Q (F0 m (pc + 3) ls rest)) : W p l e R s m args below meth c H locs cells slots Q (F0 m pc ls st0) := by
  have hFc := va_free (wc := WC) hD hS hA isC hC
  refine va_callv hr hS (fun q _ h => hFc q h) hFc (fun u t H1 locs1 ht hvm hw hB hz1 hk1 hS1 => ?_)
  obtain ⟨hP1, hD1⟩ := hB
  rw [ht] at hP1
  obtain ⟨hPj, hDj⟩ := va_join hP hD isC isR hC hR hn hdis hk1 hFc hP1 hD1
  exact kk u H1 locs1 hw (hPj.sub perm (x_fm (hperm u))) (hDj.sub perm hnp (hperm u)) hS1
/-- a call that only reads, out of va_Run -/
theorem r_fin_i {post : Int32 → Prop} {a : Array Value} {st0 : List Value} (hr : va_Run p l e R s m args below meth c H locs cells slots 0 0 (F0 m pc ls st0) rest (vp_Si post a) (fun _ => False)) (kk : ∀ r : Int32, post r → W p l e R s m args below meth c H locs cells slots Q (F0 m (pc + 3) ls (.int r :: rest))) : W p l e R s m args below meth c H locs cells slots Q (F0 m pc ls st0) := by
  intro T hT X
  obtain ⟨v, st₀, t, T', L, h0, X', hL, e1, -, ⟨r, hv, hp, hh⟩, st⟩ := hr T hT X
  cases hv
  obtain ⟨t2, a1, b1⟩ := kk r hp T' (by rw [e1, hh, h0]) (Stand.forget X' (fun q h => (hL q h).elim))
  exact ⟨t2, st t2 a1, b1⟩
end
/-- a boolean's two values -/
theorem x_b0 {P : Prop} [Decidable P] : (if P then (1 : Int32) else 0) = 0 ↔ ¬ P := by
  by_cases h : P <;> simp [h]
theorem x_bn {P : Prop} [Decidable P] : narrow .boolean (.int (if P then (1 : Int32) else 0)) = .int (if P then (1 : Int32) else 0) := by
  by_cases h : P <;> simp [h] <;> rfl
section
variable {p : Program} {l : Launch} {e : Env} {R : Room} {s : State} {m : MethodId} {args : Array Value} {below : List Frame} {meth : Method} {c : Code} {H : Heap} {locs : List Loc} {cells slots : Nat} {Q : State → Prop}
variable {pc : Nat} {ls : Array Slot} {rest : List Value} {cc : ByteArray} {D : va_G} {cl : List vw_C} {ws : va_W} {tys : List (ClassId × FieldType)} {a : Nat} {A : Nat → Prop} {H0 : Heap}
theorem x_in {i n : Nat} (hi : i < n) (h31 : i < 2 ^ 31) : vp_in (nI i) n := fun h => h.elim (nI_pos h31) (fun h => by rw [nI_clamp h31] at h; omega)
theorem x_iald {i : Nat} (hexec : p.tables.exec = Jvm.exec) (hb : c.code = cc) (hK : va_K D cl tys s) (hP : va_P D cl ws H) (q0 t0 : Nat) {cA : ClassId} {n : Nat} {f : Nat → Int32} (ha : ws[q0]? = some (a, .inl (cA, n, .inl f))) (ht : tys[t0]? = some (cA, .int)) (hi : i < n) (h31 : i < 2 ^ 31) (hdg : decode cc pc = .ok (.iaload, 1)) (kk : W p l e R s m args below meth c H locs cells slots Q (F0 m (pc + 1) ls (.int (f i) :: rest))) : W p l e R s m args below meth c H locs cells slots Q (F0 m pc ls (.int (nI i) :: .ref a :: rest)) :=
  va_iald hexec hb hK hP q0 t0 ha ht (x_in hi h31) hdg (by rw [nI_clamp h31]; exact kk)
theorem x_zald {i : Nat} (hexec : p.tables.exec = Jvm.exec) (hb : c.code = cc) (hK : va_K D cl tys s) (hP : va_P D cl ws H) (q0 t0 : Nat) {cA : ClassId} {n : Nat} {f : Nat → Int32} (ha : ws[q0]? = some (a, .inl (cA, n, .inl f))) (ht : tys[t0]? = some (cA, .boolean)) (hi : i < n) (h31 : i < 2 ^ 31) (hdg : decode cc pc = .ok (.baload, 1)) (kk : W p l e R s m args below meth c H locs cells slots Q (F0 m (pc + 1) ls (.int (f i) :: rest))) : W p l e R s m args below meth c H locs cells slots Q (F0 m pc ls (.int (nI i) :: .ref a :: rest)) :=
  va_zald hexec hb hK hP q0 t0 ha ht (x_in hi h31) hdg (by rw [nI_clamp h31]; exact kk)
theorem x_iast {i : Nat} {x : Int32} (hexec : p.tables.exec = Jvm.exec) (hb : c.code = cc) (hK : va_K D cl tys s) (hP : va_P D cl ws H) (hD : va_D A ws) (hS : va_S A H0 H locs) (q0 t0 : Nat) {cA : ClassId} {n : Nat} {f : Nat → Int32} (ha : ws[q0]? = some (a, .inl (cA, n, .inl f))) (ht : tys[t0]? = some (cA, .int)) (hi : i < n) (h31 : i < 2 ^ 31) (hdg : decode cc pc = .ok (.iastore, 1)) (kk : ∀ (H1 : Heap) (locs1 : List Loc), va_P D cl (ws.set q0 (a, .inl (cA, n, .inl (upd f i x)))) H1 → va_D A (ws.set q0 (a, .inl (cA, n, .inl (upd f i x)))) → va_S A H0 H1 locs1 → W p l e R s m args below meth c H1 locs1 cells slots Q (F0 m (pc + 1) ls rest)) : W p l e R s m args below meth c H locs cells slots Q (F0 m pc ls (.int x :: .int (nI i) :: .ref a :: rest)) :=
  va_iast hexec hb hK hP hD hS q0 t0 ha ht (x_in hi h31) hdg (by rw [nI_clamp h31]; exact kk)
theorem x_zast {i : Nat} {x : Int32} (hexec : p.tables.exec = Jvm.exec) (hb : c.code = cc) (hK : va_K D cl tys s) (hP : va_P D cl ws H) (hD : va_D A ws) (hS : va_S A H0 H locs) (q0 t0 : Nat) {cA : ClassId} {n : Nat} {f : Nat → Int32} (ha : ws[q0]? = some (a, .inl (cA, n, .inl f))) (ht : tys[t0]? = some (cA, .boolean)) (hi : i < n) (h31 : i < 2 ^ 31) (hx : narrow .boolean (.int x) = .int x) (hdg : decode cc pc = .ok (.bastore, 1)) (kk : ∀ (H1 : Heap) (locs1 : List Loc), va_P D cl (ws.set q0 (a, .inl (cA, n, .inl (upd f i x)))) H1 → va_D A (ws.set q0 (a, .inl (cA, n, .inl (upd f i x)))) → va_S A H0 H1 locs1 → W p l e R s m args below meth c H1 locs1 cells slots Q (F0 m (pc + 1) ls rest)) : W p l e R s m args below meth c H locs cells slots Q (F0 m pc ls (.int x :: .int (nI i) :: .ref a :: rest)) := by
  have e : vp_nar .boolean x = x := by unfold vp_nar; rw [hx]
  refine va_zast hexec hb hK hP hD hS q0 t0 ha ht (x_in hi h31) hdg ?_
  rw [nI_clamp h31, e]
  exact kk
theorem x_newi {G : GG} {n : Nat} (hexec : p.tables.exec = Jvm.exec) (hb : c.code = cc) (harr : (Cond.arrayClass .int).before args s = true) (hK : KK G s) (hP : va_P G.1 vwCl ws H) (hD : va_D A ws) (hS : va_S A H0 H locs) (hA : ∀ q, H0.size ≤ q → A q) (hn : n < 2 ^ 26) (hcells : cells + 1 ≤ R.cells) (hslots : slots + n ≤ R.slots) (hdg : decode cc pc = .ok (.newarray .int, 2)) (kk : ∀ (q : Nat) (H1 : Heap), va_P G.1 vwCl (ws ++ [(q, .inl (G.2.1, n, .inl (fun _ => 0)))]) H1 → va_D A (ws ++ [(q, .inl (G.2.1, n, .inl (fun _ => 0)))]) → va_S A H0 H1 locs → W p l e R s m args below meth c H1 locs (cells + 1) (slots + n) Q (F0 m (pc + 2) ls (.ref q :: rest))) : W p l e R s m args below meth c H locs cells slots Q (F0 m pc ls (.int (nI n) :: rest)) := by
  refine va_newa (atype := .int) (ty := .int) (N' := n) (a0 := (n, .inl (fun _ => 0))) hexec hb harr rfl hK.1 hP hD hS hA (fun cA => rfl) (nI_pos (by omega)) (nI_clamp (by omega)) (by show n * 4 ≤ _; omega) hcells hslots hdg (fun q cA H1 hK1 hP1 hD1 hS1 => ?_)
  have e : cA = G.2.1 := by
    have h1 := (hK1.2 3 (cA, .int) rfl).2
    have h2 := (hK1.2 0 (G.2.1, .int) rfl).2
    exact Option.some.inj (h1.symm.trans h2)
  subst e
  exact kk q H1 hP1 hD1 hS1
theorem x_newz {G : GG} {n : Nat} (hexec : p.tables.exec = Jvm.exec) (hb : c.code = cc) (harr : (Cond.arrayClass .boolean).before args s = true) (hK : KK G s) (hP : va_P G.1 vwCl ws H) (hD : va_D A ws) (hS : va_S A H0 H locs) (hA : ∀ q, H0.size ≤ q → A q) (hn : n < 2 ^ 26) (hcells : cells + 1 ≤ R.cells) (hslots : slots + n ≤ R.slots) (hdg : decode cc pc = .ok (.newarray .boolean, 2)) (kk : ∀ (q : Nat) (H1 : Heap), va_P G.1 vwCl (ws ++ [(q, .inl (G.2.2.1, n, .inl (fun _ => 0)))]) H1 → va_D A (ws ++ [(q, .inl (G.2.2.1, n, .inl (fun _ => 0)))]) → va_S A H0 H1 locs → W p l e R s m args below meth c H1 locs (cells + 1) (slots + n) Q (F0 m (pc + 2) ls (.ref q :: rest))) : W p l e R s m args below meth c H locs cells slots Q (F0 m pc ls (.int (nI n) :: rest)) := by
  refine va_newa (atype := .boolean) (ty := .boolean) (N' := n) (a0 := (n, .inl (fun _ => 0))) hexec hb harr rfl hK.1 hP hD hS hA (fun cA => rfl) (nI_pos (by omega)) (nI_clamp (by omega)) (by show n * 1 ≤ _; omega) hcells hslots hdg (fun q cA H1 hK1 hP1 hD1 hS1 => ?_)
  have e : cA = G.2.2.1 := by
    have h1 := (hK1.2 3 (cA, .boolean) rfl).2
    have h2 := (hK1.2 1 (G.2.2.1, .boolean) rfl).2
    exact Option.some.inj (h1.symm.trans h2)
  subst e
  exact kk q H1 hP1 hD1 hS1
end
theorem x_bf {P : Prop} [Decidable P] : fits .boolean (.int (if P then (1 : Int32) else 0)) = true := by
  by_cases h : P <;> simp [h] <;> rfl
/-- int numbers brought between two bounds -/
def br (v lo hi : Int32) : Int32 := if v < lo then lo else if hi < v then hi else v
def dst (a c : Nat) : Nat := (a - c) + (c - a)
def fillN (n : Nat) (v : Int32) (f : Nat → Int32) : Nat → Int32 := fun j => if j < n then v else f j
theorem fillN_0 (v : Int32) (f : Nat → Int32) : fillN 0 v f = f := by funext j; simp [fillN]
theorem fillN_s (n : Nat) (v : Int32) (f : Nat → Int32) : upd (fillN n v f) n v = fillN (n + 1) v f := by
  funext j
  simp only [upd, fillN]
  by_cases h : j = n
  · simp [h]
  · by_cases h2 : j < n
    · simp [h, h2, Nat.lt_succ_of_lt h2]
    · simp [h, h2, show ¬ j < n + 1 by omega]
theorem mm_min {a b : Nat} (ha : a < 2 ^ 31) (hb : b < 2 ^ 31) : (if nI b < nI a then nI b else nI a) = nI (min a b) := by
  by_cases h : b < a
  · rw [if_pos ((nI_ltI hb ha).mpr h), Nat.min_eq_right (Nat.le_of_lt h)]
  · rw [if_neg (fun q => h ((nI_ltI hb ha).mp q)), Nat.min_eq_left (Nat.le_of_not_lt h)]
theorem mm_max {a b : Nat} (ha : a < 2 ^ 31) (hb : b < 2 ^ 31) : (if nI a < nI b then nI b else nI a) = nI (max a b) := by
  by_cases h : a < b
  · rw [if_pos ((nI_ltI ha hb).mpr h), Nat.max_eq_right (Nat.le_of_lt h)]
  · rw [if_neg (fun q => h ((nI_ltI ha hb).mp q)), Nat.max_eq_left (Nat.le_of_not_lt h)]
theorem mm_abs {a b : Nat} (ha : a < 2 ^ 30) (hb : b < 2 ^ 30) : (if 0 ≤ nI a - nI b then nI a - nI b else 0 - (nI a - nI b)) = nI (dst a b) := by
  by_cases h : b ≤ a
  · rw [pk_sub h, if_pos (nI_pos' (by omega))]
    congr 1
    simp only [dst]; omega
  · have h1 : nI a - nI b < 0 := pk_sneg hb (by omega)
    rw [if_neg (Int32.not_le.mpr h1)]
    have h2 : (0 : Int32) - (nI a - nI b) = nI b - nI a := by
      rw [Int32.sub_eq_add_neg, Int32.neg_sub, Int32.zero_add]
    rw [h2, pk_sub (by omega)]
    congr 1
    simp only [dst]; omega
theorem x_subP {D : va_G} {cl : List vw_C} {ws : va_W} {H : Heap} (h : va_P D cl ws H) (ws' : va_W) (is : List Nat) (hs : is.map (fun i => ws[i]?) = ws'.map some) : va_P D cl ws' H := h.sub is (x_fm hs)
theorem x_subD {A : Nat → Prop} {ws : va_W} (h : va_D A ws) (ws' : va_W) (is : List Nat) (hn : va_nd is = true) (hs : is.map (fun i => ws[i]?) = ws'.map some) : va_D A ws' := h.sub is hn hs
def addK (n k : Nat) : Nat := if k < n then k + 1 else k
def addF (n k : Nat) (v : Int32) (f : Nat → Int32) : Nat → Int32 := if k < n then upd f k v else f
def getB (k : Nat) (f : Nat → Int32) (i : Nat) : Int32 := if i < k then f i else 0
def catF (f : Nat → Int32) (k : Nat) (g : Nat → Int32) (m : Nat) : Nat → Int32 := fun j => if k ≤ j ∧ j < k + m then g (j - k) else f j
theorem catF_0 (f : Nat → Int32) (k : Nat) (g : Nat → Int32) : catF f k g 0 = f := by
  funext j; simp only [catF]; rw [if_neg (by omega)]
theorem catF_s (f : Nat → Int32) (k : Nat) (g : Nat → Int32) (m : Nat) : upd (catF f k g m) (k + m) (g m) = catF f k g (m + 1) := by
  funext j
  simp only [upd, catF]
  by_cases h : j = k + m
  · rw [if_pos h, if_pos (by omega), h]; congr 1; omega
  · rw [if_neg h]
    by_cases h2 : k ≤ j ∧ j < k + m
    · rw [if_pos h2, if_pos (by omega)]
    · rw [if_neg h2, if_neg (by omega)]
theorem l_shr {a d : Nat} {D : Int64} (hD : (D.toBitVec.smod 64).toNat = d) (h : a < 2 ^ 62) : lN a >>> D = lN (a / 2 ^ d) := by
  have hd : a / 2 ^ d ≤ a := Nat.div_le_self _ _
  apply Int64.toInt_inj.mp
  have e : (lN a >>> D).toInt = (lN a).toInt >>> d := by
    rw [← hD]
    exact BitVec.toInt_sshiftRight ..
  rw [e, Int.shiftRight_eq_div_pow, pk_lT (by omega), pk_lT (by omega)]
  rfl
theorem l_shr24 {a : Nat} (h : a < 2 ^ 62) : lN a >>> ((24 : Int32).toInt64 &&& 63) = lN (a / 16777216) := l_shr (d := 24) (by decide) h
theorem l_shr16 {a : Nat} (h : a < 2 ^ 62) : lN a >>> ((16 : Int32).toInt64 &&& 63) = lN (a / 65536) := l_shr (d := 16) (by decide) h
theorem l_shl8 {a : Nat} (ha : a < 2 ^ 62) : lN a <<< ((8 : Int32).toInt64 &&& 63) = lN (a * 256) := by
  apply Int64.toBitVec_inj.mp
  have hy : ((8 : Int32).toInt64 &&& 63).toBitVec.smod 64 = BitVec.ofNat 64 8 := by decide
  rw [Int64.toBitVec_shiftLeft, hy]
  apply BitVec.eq_of_toNat_eq
  have hb : (lN a).toBitVec.toNat = a := Nat.mod_eq_of_lt (by omega)
  have hk' : (BitVec.ofNat 64 8).toNat = 8 := by decide
  have h : ((lN a).toBitVec <<< BitVec.ofNat 64 8).toNat = (a * 2 ^ 8) % 2 ^ 64 := by simp only [BitVec.shiftLeft_eq', BitVec.toNat_shiftLeft, hb, hk', Nat.shiftLeft_eq]
  exact h
theorem l_and (a k : Nat) (hk : k < 64) : lN a &&& lN (2 ^ k - 1) = lN (a % 2 ^ k) := by
  apply Int64.toBitVec_inj.mp
  apply BitVec.eq_of_toNat_eq
  show ((BitVec.ofNat 64 a) &&& (BitVec.ofNat 64 (2 ^ k - 1))).toNat = (BitVec.ofNat 64 (a % 2 ^ k)).toNat
  have h1 : 2 ^ k < 2 ^ 64 := Nat.pow_lt_pow_right (by decide) hk
  have h2 : 2 ^ k ∣ 2 ^ 64 := Nat.pow_dvd_pow 2 (Nat.le_of_lt hk)
  have h3 : a % 2 ^ k < 2 ^ k := Nat.mod_lt _ (Nat.two_pow_pos k)
  rw [BitVec.toNat_and, BitVec.toNat_ofNat, BitVec.toNat_ofNat, BitVec.toNat_ofNat, Nat.mod_eq_of_lt (show 2 ^ k - 1 < 2 ^ 64 by omega), Nat.and_two_pow_sub_one_eq_mod, Nat.mod_mod_of_dvd _ h2, Nat.mod_eq_of_lt (show a % 2 ^ k < 2 ^ 64 by omega)]
theorem l_and32 (a : Nat) : lN a &&& 4294967295 = lN (a % 4294967296) := l_and a 32 (by decide)
theorem l_and8 (a : Nat) : lN a &&& 255 = lN (a % 256) := l_and a 8 (by decide)
theorem l_or {a b : Nat} (ha : a % 256 = 0) (hb : b < 256) (h : a < 2 ^ 62) : lN a ||| lN b = lN (a + b) := by
  apply Int64.toBitVec_inj.mp
  apply BitVec.eq_of_toNat_eq
  show ((BitVec.ofNat 64 a) ||| (BitVec.ofNat 64 b)).toNat = (BitVec.ofNat 64 (a + b)).toNat
  rw [BitVec.toNat_or, BitVec.toNat_ofNat, BitVec.toNat_ofNat, BitVec.toNat_ofNat, Nat.mod_eq_of_lt (show a < 2 ^ 64 by omega), Nat.mod_eq_of_lt (show b < 2 ^ 64 by omega), Nat.mod_eq_of_lt (show a + b < 2 ^ 64 by omega)]
  have e : a = 2 ^ 8 * (a / 256) := by omega
  rw [e]
  exact (Nat.two_pow_add_eq_or_of_lt (i := 8) (by omega) (a / 256)).symm
theorem l_or255 {a : Nat} (ha : a % 256 = 0) (h : a < 2 ^ 62) : lN a ||| 255 = lN (a + 255) := l_or ha (by decide) h
theorem lN_ltI {a b : Nat} (ha : a < 2 ^ 63) (hb : b < 2 ^ 63) : lN a < lN b ↔ a < b := pk_lLT ha hb
theorem lN_leI {a b : Nat} (ha : a < 2 ^ 63) (hb : b < 2 ^ 63) : lN a ≤ lN b ↔ a ≤ b := pk_lLE ha hb
theorem lN_eqI {a b : Nat} (ha : a < 2 ^ 63) (hb : b < 2 ^ 63) : lN a = lN b ↔ a = b := pk_lEQ ha hb
