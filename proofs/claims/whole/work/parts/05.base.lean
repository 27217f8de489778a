section BASE
abbrev GT : Type := va_G × (Nat → ClassId)
abbrev classes : List vw_C := [(RX0, TX0, 10), (RX1, TX1, 2), (RX2, TX2, 16), (RX3, TX3, 24), (RJx4a65c, TJx4a65c, 3)]
abbrev tys (G : GT) : List (ClassId × FieldType) := [(G.2 0, .int), (G.2 1, .double), (G.2 2, .boolean), (G.2 3, .object "java/lang/Object"), (G.2 4, .long)]
/-- what the tables say at Z, the start of the law -/
def ZOK (G : GT) (Z : State) : Prop := (∀ w ∈ WS, w.before #[] Z = true) ∧ va_K G.1 classes (tys G) Z ∧ va_Nw (.methodLinkNest RX0 45 yX2_leadsTo RX2) Z ∧ va_Nw (.methodLinkNest RX0 49 yX2_nodeBehind RX2) Z ∧ va_Nw (.methodLinkNest RX2 21 yX1_init RX2) Z ∧ va_Nw (.castable RX0 RX0) Z
/-- a state that holds the world w, all of it made behind Z -/
def IN (G : GT) (Z : State) (w : va_W) (U : State) : Prop := va_P G.1 classes w U.heap ∧ va_D (fun q => Z.heap.size ≤ q) w ∧ Z.WarmedH U.vm ∧ Z.heap.size ≤ U.heap.size ∧ ∀ q : Nat, q < Z.heap.size → U.heap[q]? = Z.heap[q]?
def QM (G : GT) (Z : State) (ws : va_W) (sz : Nat) (post : Option Value → va_W → Prop) : Array Value → State → Outcome → State → Prop := fun _ st o t =>
  (∃ (v : Option Value) (w : va_W), o = .returned v ∧ post v w ∧ IN G Z w t ∧ va_D (va_A ws sz) w) ∧ va_F (va_A ws sz) st t
/-- the contract of a method that returns: world ws before, (answer, world) as post says behind -/
def CM (l : Launch) (G : GT) (Z : State) (y : MethodName) (cc : ByteArray) (n : Nat) (ret : Option FieldType) (rm : Room) (av : List Value) (ws : va_W) (post : Option Value → va_W → Prop) : Prop :=
  ∀ sz : Nat, Met l y [.code y cc n ret] rm (va_Pc av (fun U => U.heap.size = sz ∧ IN G Z ws U)) (QM G Z ws sz post) rm.cells rm.slots (va_A ws sz)
/-- within a body -/
def Cx (G : GT) (Z : State) (ws0 : va_W) (p : Program) (s : State) (m : MethodId) (args : Array Value) (meth : Method) (c : Code) (own : String) (cc : ByteArray) (nL : Nat) (ret : Option FieldType) : Prop :=
  CallFix p m c cc nL s args WS own ∧ meth.sig.returnType = ret ∧ va_K G.1 classes (tys G) s ∧ meth.locks = false ∧ Z.WarmedH s.vm ∧ va_D (fun q => Z.heap.size ≤ q) ws0 ∧ Z.heap.size ≤ s.heap.size ∧ (∀ q : Nat, q < Z.heap.size → s.heap[q]? = Z.heap[q]?) ∧ ZOK G Z
def Hp (G : GT) (ws0 : va_W) (s : State) (H : Heap) (locs : List Loc) (w : va_W) : Prop := va_P G.1 classes w H ∧ va_D (va_A ws0 s.heap.size) w ∧ va_S (va_A ws0 s.heap.size) s.heap H locs
theorem gi1 {w : Cond} (h : w ∈ WS) : GoodIn WS [w] := fun x hx => by rw [List.mem_singleton.mp hx]; exact ⟨h, good_of_word (WS_good h)⟩
variable {l : Launch} {G : GT} {Z : State} {ws0 w : va_W} {p : Program} {e : Env} {R : Room} {s : State} {m : MethodId} {args : Array Value} {below : List Frame} {meth : Method} {c : Code} {H : Heap} {locs : List Loc} {cells slots : Nat} {Q : State → Prop} {own : String} {cc : ByteArray} {nL : Nat} {ret : Option FieldType} {pc : Nat} {ls : Array Slot} {rest : List Value} {post : Option Value → va_W → Prop}
theorem A_ge (hD : va_D (fun q => Z.heap.size ≤ q) ws0) (hz : Z.heap.size ≤ s.heap.size) {q : Nat} (h : va_A ws0 s.heap.size q) : Z.heap.size ≤ q := by
  rcases h with ⟨k, e, h⟩ | h
  · exact hD.2 k (q, e) h
  · exact Nat.le_trans hz h
theorem Cx.hx (C : Cx G Z ws0 p s m args meth c own cc nL ret) : p.tables.exec = Jvm.exec := C.1.1
theorem Cx.hb (C : Cx G Z ws0 p s m args meth c own cc nL ret) : c.code = cc := C.1.2.1
theorem Cx.hml (C : Cx G Z ws0 p s m args meth c own cc nL ret) : c.maxLocals = nL := C.1.2.2.1
theorem Cx.hown (C : Cx G Z ws0 p s m args meth c own cc nL ret) : s.vm.findClass own = some m.cls := C.1.2.2.2.1
theorem Cx.hts (C : Cx G Z ws0 p s m args meth c own cc nL ret) : ∀ w ∈ WS, w.before args s = true := C.1.2.2.2.2
theorem Cx.hr (C : Cx G Z ws0 p s m args meth c own cc nL ret) : meth.sig.returnType = ret := C.2.1
theorem Cx.hK (C : Cx G Z ws0 p s m args meth c own cc nL ret) : va_K G.1 classes (tys G) s := C.2.2.1
theorem Cx.hlk (C : Cx G Z ws0 p s m args meth c own cc nL ret) : meth.locks = false := C.2.2.2.1
theorem Cx.hW (C : Cx G Z ws0 p s m args meth c own cc nL ret) : Z.WarmedH s.vm := C.2.2.2.2.1
theorem Cx.hD (C : Cx G Z ws0 p s m args meth c own cc nL ret) : va_D (fun q => Z.heap.size ≤ q) ws0 := C.2.2.2.2.2.1
theorem Cx.hz (C : Cx G Z ws0 p s m args meth c own cc nL ret) : Z.heap.size ≤ s.heap.size := C.2.2.2.2.2.2.1
theorem Cx.ho (C : Cx G Z ws0 p s m args meth c own cc nL ret) : ∀ q : Nat, q < Z.heap.size → s.heap[q]? = Z.heap[q]? := C.2.2.2.2.2.2.2.1
theorem Cx.hZ (C : Cx G Z ws0 p s m args meth c own cc nL ret) : ZOK G Z := C.2.2.2.2.2.2.2.2
theorem Hp.S (h : Hp G ws0 s H locs w) : va_S (va_A ws0 s.heap.size) s.heap H locs := h.2.2
theorem Hp_in (C : Cx G Z ws0 p s m args meth c own cc nL ret) (h : Hp G ws0 s H locs w) {t : State} (ht : t.heap = H) (hW : s.WarmedH t.vm) : IN G Z w t := by
  refine ⟨by rw [ht]; exact h.1, h.2.1.weaken (fun k q _ hq => A_ge C.hD C.hz hq), State.WarmedH.trans C.hW hW, ?_, fun q hq => ?_⟩
  · rw [ht]; exact Nat.le_trans C.hz h.2.2.1
  · rw [ht, h.2.2.2.1 q (Nat.lt_of_lt_of_le hq C.hz) (fun hA => absurd (A_ge C.hD C.hz hA) (Nat.not_le.mpr hq))]
    exact C.ho q hq
theorem Hp_end (C : Cx G Z ws0 p s m args meth c own cc nL ret) (h : Hp G ws0 s H locs w) {t : State} (ht : t.heap = H) (hW : s.WarmedH t.vm) {v : Option Value} (hp : post v w) {a : Array Value} : QM G Z ws0 s.heap.size post a s (.returned v) t :=
  ⟨⟨v, w, rfl, hp, Hp_in C h ht hW, h.2.1⟩, h.2.2.F ht⟩
theorem CM_ofW {y : MethodName} {n : Nat} {rm : Room} {av : List Value} {ws : va_W} (hZ : ZOK G Z) (hy : plainName y.cls = true) (hlen : (lg_sl av).length ≤ n)
    (body : ∀ (p : Program) (e : Env) (s : State) (m : MethodId) (below : List Frame) (meth : Method) (c : Code) (ls : Array Slot), Cx G Z ws p s m av.toArray meth c y.cls cc n ret → Hp G ws s s.heap [] ws → lv_has ls n (lv_args 0 av) → meth.name = y.name →
      W p l e rm s m av.toArray below meth c s.heap [] 0 0 (MQ below (QM G Z ws s.heap.size post) av.toArray s rm.cells rm.slots (va_A ws s.heap.size)) (F0 m 0 ls [])) : CM l G Z y cc n ret rm av ws post := by
  intro sz
  refine Met.ofW (cc := cc) (maxL := n) (ret := ret) hy rfl ?_
  intro p e s m args below meth c s₁ B hml hv
  obtain ⟨rfl, rfl, hP, hD, hW, hz, ho⟩ := hv
  have hts : ∀ w ∈ WS, w.before av.toArray s = true := fun w hw => word_at hW (good_of_word (WS_good hw)) (hZ.1 w hw)
  have hl := lv_entry av (n := n) hlen
  rw [lg_entry_eq]
  exact body p e s m below meth c _ ⟨⟨B.exec, B.bytes, hml, findClass_of_methodNamed B.named, hts⟩, B.returns, va_K.moved hW.alike hZ.2.1, B.notSynchronized, hW, hD, hz, ho, hZ⟩ ⟨hP, hD.self, va_S.rf⟩ hl (name_of_methodNamed B.named B.method).1
theorem r_iret {v : Int32} (C : Cx G Z ws0 p s m args meth c own cc nL (some .int)) (h : Hp G ws0 s H locs w) (hd : decode cc pc = .ok (.ireturn, 1)) (hp : post (some (.int v)) w) : W p l e R s m args below meth c H locs cells slots (MQ below (QM G Z ws0 s.heap.size post) args s cells slots (va_A ws0 s.heap.size)) (F0 m pc ls [.int v]) :=
  W.iret C.hx C.hb C.hr (fun t ht hW => Hp_end C h ht hW hp) h.2.2.2.2 hd C.hlk
theorem r_zret {v : Int32} {ty : FieldType} (C : Cx G Z ws0 p s m args meth c own cc nL (some ty)) (h : Hp G ws0 s H locs w) (hd : decode cc pc = .ok (.ireturn, 1)) (hn : narrow ty (.int v) = .int v) (hp : post (some (.int v)) w) : W p l e R s m args below meth c H locs cells slots (MQ below (QM G Z ws0 s.heap.size post) args s cells slots (va_A ws0 s.heap.size)) (F0 m pc ls [.int v]) :=
  W.zret C.hx C.hb C.hr hn (fun t ht hW => Hp_end C h ht hW hp) h.2.2.2.2 hd C.hlk
theorem r_dret {v : UInt64} (C : Cx G Z ws0 p s m args meth c own cc nL (some .double)) (h : Hp G ws0 s H locs w) (hd : decode cc pc = .ok (.dreturn, 1)) (hp : post (some (.double v)) w) : W p l e R s m args below meth c H locs cells slots (MQ below (QM G Z ws0 s.heap.size post) args s cells slots (va_A ws0 s.heap.size)) (F0 m pc ls [.double v]) :=
  W.dret C.hx C.hb C.hr (fun t ht hW => Hp_end C h ht hW hp) h.2.2.2.2 hd C.hlk
theorem r_vret (C : Cx G Z ws0 p s m args meth c own cc nL none) (h : Hp G ws0 s H locs w) (hd : decode cc pc = .ok (.return_, 1)) (hp : post none w) : W p l e R s m args below meth c H locs cells slots (MQ below (QM G Z ws0 s.heap.size post) args s cells slots (va_A ws0 s.heap.size)) (F0 m pc ls []) :=
  W.vret C.hx C.hb C.hr (fun t ht hW => Hp_end C h ht hW hp) h.2.2.2.2 hd C.hlk
theorem r_aret {v : Value} {rt : FieldType} (C : Cx G Z ws0 p s m args meth c own cc nL (some rt)) (h : Hp G ws0 s H locs w) (hrt : (∃ n, rt = .object n) ∨ ∃ t, rt = .array t) (hv : v = .null ∨ ∃ a, v = .ref a) (hd : decode cc pc = .ok (.areturn, 1)) (hp : post (some v) w) : W p l e R s m args below meth c H locs cells slots (MQ below (QM G Z ws0 s.heap.size post) args s cells slots (va_A ws0 s.heap.size)) (F0 m pc ls [v]) :=
  W.aret C.hx C.hb C.hr hrt hv (fun t ht hW => Hp_end C h ht hW hp) h.2.2.2.2 hd C.hlk
/-- a call whose callee has the whole world -/
theorem r_run {mc ms : Nat} {st0 : List Value} {a : Array Value} (h : Hp G ws0 s H locs w) (hr : va_Run p l e R s m args below meth c H locs cells slots mc ms (F0 m pc ls st0) rest (QM G Z w H.size post a) (va_A w H.size))
    (kk : ∀ (v : Option Value) (w' : va_W) (H1 : Heap) (locs1 : List Loc), post v w' → Hp G ws0 s H1 locs1 w' → W p l e R s m args below meth c H1 locs1 (cells + mc) (slots + ms) Q (F0 m (pc + 3) ls (v.toList ++ rest))) : W p l e R s m args below meth c H locs cells slots Q (F0 m pc ls st0) := by
  intro T hT X
  obtain ⟨v, st₀, t, T', L, h0, X', hL, e1, e2, ⟨⟨v', w', hv, hp, hI, hDw⟩, hF⟩, st⟩ := hr T hT X
  cases hv
  obtain ⟨hz, hk⟩ := hF
  rw [h0] at hz hk
  have hsub : ∀ q, va_A w H.size q → va_A ws0 s.heap.size q := by
    intro q hq
    rcases hq with ⟨k, e, hq⟩ | hq
    · exact h.2.1.2 k (q, e) hq
    · exact Or.inr (Nat.le_trans h.2.2.1 hq)
  have hS : va_S (va_A ws0 s.heap.size) s.heap T'.heap (locs ++ L) := by
    refine ⟨Nat.le_trans h.2.2.1 (by rw [e1]; exact hz), fun q h1 h2 => ?_, fun q hq => ?_⟩
    · rw [e1, hk q (Nat.lt_of_lt_of_le h1 h.2.2.1) (fun z => h2 (hsub q z))]
      exact h.2.2.2.1 q h1 h2
    · rcases List.mem_append.mp hq with h9 | h9
      · exact h.2.2.2.2 q h9
      · exact hsub _ (hL q h9)
  obtain ⟨t2, a1, b1⟩ := kk v w' T'.heap (locs ++ L) hp ⟨by rw [e1]; exact hI.1, hDw.weaken (fun k q _ hq => hsub _ hq), hS⟩ T' rfl X'
  exact ⟨t2, st t2 a1, b1⟩
def MFs (y : MethodName) (bytes : ByteArray) (maxL : Nat) (ret : Option FieldType) (n : Nat) : Prop := Cond.code y bytes maxL ret ∈ WS ∧ Cond.static y ∈ WS ∧ Cond.initialized y.cls ∈ WS ∧ (y.cls ≠ "java/lang/invoke/MethodHandle" ∧ y.cls ≠ "java/lang/invoke/VarHandle" ∧ (parseMethodDescriptor y.desc).map (fun d => d.parameters.length) = some n)
def MFv (y : MethodName) (bytes : ByteArray) (maxL : Nat) (ret : Option FieldType) (n : Nat) : Prop := Cond.code y bytes maxL ret ∈ WS ∧ Cond.instanceMethod y ∈ WS ∧ Cond.selects y.cls y y ∈ WS ∧ Cond.initialized y.cls ∈ WS ∧ (y.cls ≠ "java/lang/invoke/MethodHandle" ∧ y.cls ≠ "java/lang/invoke/VarHandle" ∧ (parseMethodDescriptor y.desc).map (fun d => d.parameters.length) = some n)
def MFi (y : MethodName) (bytes : ByteArray) (maxL : Nat) (n : Nat) : Prop := Cond.code y bytes maxL none ∈ WS ∧ Cond.instanceMethod y ∈ WS ∧ Cond.initialized y.cls ∈ WS ∧ y.name = "<init>" ∧ (y.cls ≠ "java/lang/invoke/MethodHandle" ∧ y.cls ≠ "java/lang/invoke/VarHandle" ∧ (parseMethodDescriptor y.desc).map (fun d => d.parameters.length) = some n)
theorem pre_in (C : Cx G Z ws0 p s m args meth c own cc nL ret) (h : Hp G ws0 s H locs w) {As : List Value} : PreS s H (va_Pc As (fun U => U.heap.size = H.size ∧ IN G Z w U)) As :=
  ⟨fun _ _ _ _ q => q, fun U hU hW => ⟨rfl, by rw [hU], Hp_in C h hU hW⟩⟩
theorem r_callS {y : MethodName} {bytes : ByteArray} {maxL n index : Nat} {ret' : Option FieldType} {rm : Room} {As st0 : List Value} (hM : CM l G Z y bytes maxL ret' rm As w post) (C : Cx G Z ws0 p s m args meth c own cc nL ret) (h : Hp G ws0 s H locs w) (F : MFs y bytes maxL ret' n) (km : Cond.methodLink own index y ∈ WS) (hls : ls.size = nL) (hd : decode cc pc = .ok (.invokestatic index, 3)) (hR : rm.frames + 1 ≤ R.frames ∧ 8 + (maxL + 11) + rm.locals ≤ R.locals ∧ cells + rm.cells ≤ R.cells ∧ slots + rm.slots ≤ R.slots) (hn : As.length = n) (hst : st0 = As.reverse ++ rest) (hW : (rest.map fun v => v.category).sum ≤ 8)
    (kk : ∀ (v : Option Value) (w' : va_W) (H1 : Heap) (locs1 : List Loc), post v w' → Hp G ws0 s H1 locs1 w' → W p l e R s m args below meth c H1 locs1 (cells + rm.cells) (slots + rm.slots) Q (F0 m (pc + 3) ls (v.toList ++ rest))) : W p l e R s m args below meth c H locs cells slots Q (F0 m pc ls st0) :=
  r_run h (va_runS (As := As) (rest := rest) C.1 (hM H.size) ⟨callB_of n C.hts (gi1 F.1) rfl rfl rfl (C.hts _ F.2.2.1) (C.hts _ km) F.2.2.2 ⟨hR.1, hR.2.1⟩, C.hts _ F.2.1⟩ (pre_in C h) rfl hn hls hst (lv_room hW) hd hR.2.2) kk
theorem r_callV {y : MethodName} {bytes : ByteArray} {maxL n index q0 ci N b : Nat} {T : u_T} {fs : List Value} {ret' : Option FieldType} {rm : Room} {As st0 : List Value} (hM : CM l G Z y bytes maxL ret' rm (.ref b :: As) w post) (C : Cx G Z ws0 p s m args meth c own cc nL ret) (h : Hp G ws0 s H locs w) (F : MFv y bytes maxL ret' n) (km : Cond.methodLink own index y ∈ WS) (hls : ls.size = nL) (hd : decode cc pc = .ok (.invokevirtual index, 3)) (hb : w[q0]? = some (b, .inr (ci, fs))) (hc : classes[ci]? = some (y.cls, T, N)) (hR : rm.frames + 1 ≤ R.frames ∧ 8 + (maxL + 11) + rm.locals ≤ R.locals ∧ cells + rm.cells ≤ R.cells ∧ slots + rm.slots ≤ R.slots) (hn : As.length = n) (hst : st0 = As.reverse ++ .ref b :: rest) (hW : (rest.map fun v => v.category).sum ≤ 8)
    (kk : ∀ (v : Option Value) (w' : va_W) (H1 : Heap) (locs1 : List Loc), post v w' → Hp G ws0 s H1 locs1 w' → W p l e R s m args below meth c H1 locs1 (cells + rm.cells) (slots + rm.slots) Q (F0 m (pc + 3) ls (v.toList ++ rest))) : W p l e R s m args below meth c H locs cells slots Q (F0 m pc ls st0) :=
  r_run h (va_runV (As := As) (rest := rest) (b := b) (C := y.cls) C.1 (hM H.size) ⟨callB_of n C.hts (gi1 F.1) rfl rfl rfl (C.hts _ F.2.2.2.1) (C.hts _ km) F.2.2.2.2 ⟨hR.1, hR.2.1⟩, C.hts _ F.2.1, C.hts _ F.2.2.1⟩ ⟨(pre_in C h).1, va_recv C.hK h.1 hc hb, (pre_in C h).2⟩ rfl hn hls hst (lv_room hW) hd hR.2.2) kk
theorem r_callI {y : MethodName} {bytes : ByteArray} {maxL n index b : Nat} {rm : Room} {As st0 : List Value} (hM : CM l G Z y bytes maxL none rm (.ref b :: As) w post) (C : Cx G Z ws0 p s m args meth c own cc nL ret) (h : Hp G ws0 s H locs w) (F : MFi y bytes maxL n) (km : Cond.methodLink own index y ∈ WS) (hls : ls.size = nL) (hd : decode cc pc = .ok (.invokespecial index, 3)) (hR : rm.frames + 1 ≤ R.frames ∧ 8 + (maxL + 11) + rm.locals ≤ R.locals ∧ cells + rm.cells ≤ R.cells ∧ slots + rm.slots ≤ R.slots) (hn : As.length = n) (hst : st0 = As.reverse ++ .ref b :: rest) (hW : (rest.map fun v => v.category).sum ≤ 8)
    (kk : ∀ (v : Option Value) (w' : va_W) (H1 : Heap) (locs1 : List Loc), post v w' → Hp G ws0 s H1 locs1 w' → W p l e R s m args below meth c H1 locs1 (cells + rm.cells) (slots + rm.slots) Q (F0 m (pc + 3) ls (v.toList ++ rest))) : W p l e R s m args below meth c H locs cells slots Q (F0 m pc ls st0) :=
  r_run h (va_runI (As := As) (rest := rest) (b := b) C.1 (hM H.size) ⟨callB_of n C.hts (gi1 F.1) rfl rfl rfl (C.hts _ F.2.2.1) (C.hts _ km) F.2.2.2.2 ⟨hR.1, hR.2.1⟩, F.2.2.2.1, C.hts _ F.2.1⟩ (pre_in C h) rfl hn hls hst (lv_room hW) hd hR.2.2) kk
/-- nest mates -/
theorem r_callSN {y : MethodName} {bytes : ByteArray} {maxL n index : Nat} {host : String} {ret' : Option FieldType} {rm : Room} {As st0 : List Value} (hM : CM l G Z y bytes maxL ret' rm As w post) (C : Cx G Z ws0 p s m args meth c own cc nL ret) (h : Hp G ws0 s H locs w) (F : MFs y bytes maxL ret' n) (km : va_Nw (.methodLinkNest own index y host) Z) (hls : ls.size = nL) (hd : decode cc pc = .ok (.invokestatic index, 3)) (hR : rm.frames + 1 ≤ R.frames ∧ 8 + (maxL + 11) + rm.locals ≤ R.locals ∧ cells + rm.cells ≤ R.cells ∧ slots + rm.slots ≤ R.slots) (hn : As.length = n) (hst : st0 = As.reverse ++ rest) (hW : (rest.map fun v => v.category).sum ≤ 8)
    (kk : ∀ (v : Option Value) (w' : va_W) (H1 : Heap) (locs1 : List Loc), post v w' → Hp G ws0 s H1 locs1 w' → W p l e R s m args below meth c H1 locs1 (cells + rm.cells) (slots + rm.slots) Q (F0 m (pc + 3) ls (v.toList ++ rest))) : W p l e R s m args below meth c H locs cells slots Q (F0 m pc ls st0) :=
  r_run h (va_runSN (As := As) (rest := rest) (host := host) C.1 (hM H.size) ⟨va_cnB n C.hts (gi1 F.1) rfl rfl rfl (va_Nw.warmM C.hW km) (C.hts _ F.2.2.1) F.2.2.2 ⟨hR.1, hR.2.1⟩, C.hts _ F.2.1, trivial⟩ (pre_in C h) rfl hn hls hst (lv_room hW) hd hR.2.2) kk
theorem r_callIN {y : MethodName} {bytes : ByteArray} {maxL n index b : Nat} {host : String} {rm : Room} {As st0 : List Value} (hM : CM l G Z y bytes maxL none rm (.ref b :: As) w post) (C : Cx G Z ws0 p s m args meth c own cc nL ret) (h : Hp G ws0 s H locs w) (F : MFi y bytes maxL n) (km : va_Nw (.methodLinkNest own index y host) Z) (hls : ls.size = nL) (hd : decode cc pc = .ok (.invokespecial index, 3)) (hR : rm.frames + 1 ≤ R.frames ∧ 8 + (maxL + 11) + rm.locals ≤ R.locals ∧ cells + rm.cells ≤ R.cells ∧ slots + rm.slots ≤ R.slots) (hn : As.length = n) (hst : st0 = As.reverse ++ .ref b :: rest) (hW : (rest.map fun v => v.category).sum ≤ 8)
    (kk : ∀ (v : Option Value) (w' : va_W) (H1 : Heap) (locs1 : List Loc), post v w' → Hp G ws0 s H1 locs1 w' → W p l e R s m args below meth c H1 locs1 (cells + rm.cells) (slots + rm.slots) Q (F0 m (pc + 3) ls (v.toList ++ rest))) : W p l e R s m args below meth c H locs cells slots Q (F0 m pc ls st0) :=
  r_run h (va_runIN (As := As) (rest := rest) (b := b) (host := host) C.1 (hM H.size) ⟨va_cnB n C.hts (gi1 F.1) rfl rfl rfl (va_Nw.warmM C.hW km) (C.hts _ F.2.2.1) F.2.2.2.2 ⟨hR.1, hR.2.1⟩, F.2.2.2.1, C.hts _ F.2.1⟩ (pre_in C h) rfl hn hls hst (lv_room hW) hd hR.2.2) kk
/-- fields and arrays -/
theorem r_get {index q0 ci N a : Nat} {T : u_T} {Cn : String} {fs : List Value} {v : Value} (k : Nat) (C : Cx G Z ws0 p s m args meth c own cc nL ret) (h : Hp G ws0 s H locs w) (hb : w[q0]? = some (a, .inr (ci, fs))) (hc : classes[ci]? = some (Cn, T, N)) (hin : ∀ x ∈ u_ws Cn T N, x ∈ WS) (hk : k < N) (kf : Cond.fieldLink own index (T k).1 (T k).2.1 (T k).2.2.1 ∈ WS) (hv : fs[k]? = some v) (hd : decode cc pc = .ok (.getfield index, 3)) (kk : W p l e R s m args below meth c H locs cells slots Q (F0 m (pc + 3) ls (v :: rest))) : W p l e R s m args below meth c H locs cells slots Q (F0 m pc ls (.ref a :: rest)) :=
  va_get (D := G.1) (C := Cn) (T := T) (N := N) C.hx C.hb C.hts hin C.hown C.hK h.1 q0 hb hc k hk (C.hts _ kf) (fun _ h9 => h9) hv hd kk
theorem r_put {index q0 ci N a : Nat} {T : u_T} {Cn : String} {fs : List Value} {v : Value} {ty : FieldType} {ty0 : Nat → FieldType} (k : Nat) (C : Cx G Z ws0 p s m args meth c own cc nL ret) (h : Hp G ws0 s H locs w) (hb : w[q0]? = some (a, .inr (ci, fs))) (hc : classes[ci]? = some (Cn, T, N)) (hin : ∀ x ∈ u_ws Cn T N, x ∈ WS) (hty : ∀ k, k < N → parseFieldDescriptor (T k).2.2.1 = some (ty0 k)) (hnm : ∀ a, a < N → ∀ b, b < N → a ≠ b → (T a).2.1 ≠ (T b).2.1) (hk : k < N) (kf : Cond.fieldLink own index (T k).1 (T k).2.1 (T k).2.2.1 ∈ WS) (hfin : (T k).2.2.2 = false) (hpd : parseFieldDescriptor (T k).2.2.1 = some ty) (hn : narrow ty v = v) (hfit : fits ty v = true) (hl : k < fs.length) (hd : decode cc pc = .ok (.putfield index, 3))
    (kk : ∀ (H1 : Heap) (locs1 : List Loc), Hp G ws0 s H1 locs1 (w.set q0 (a, .inr (ci, fs.set k v))) → W p l e R s m args below meth c H1 locs1 cells slots Q (F0 m (pc + 3) ls rest)) : W p l e R s m args below meth c H locs cells slots Q (F0 m pc ls (v :: .ref a :: rest)) :=
  va_put (D := G.1) (C := Cn) (T := T) (N := N) C.hx C.hb C.hts hin ty0 hty hnm C.hown C.hK h.1 h.2.1 h.2.2 q0 hb hc k hk (C.hts _ kf) (fun _ h9 => h9) hfin hpd hn hfit hl hd (fun H1 locs1 a1 a2 a3 => kk H1 locs1 ⟨a1, a2, a3⟩)
theorem r_putF {index q0 ci N a : Nat} {T : u_T} {Cn : String} {fs : List Value} {v : Value} {ty : FieldType} {ty0 : Nat → FieldType} (k : Nat) (C : Cx G Z ws0 p s m args meth c own cc nL ret) (h : Hp G ws0 s H locs w) (hb : w[q0]? = some (a, .inr (ci, fs))) (hc : classes[ci]? = some (Cn, T, N)) (hin : ∀ x ∈ u_ws Cn T N, x ∈ WS) (hty : ∀ k, k < N → parseFieldDescriptor (T k).2.2.1 = some (ty0 k)) (hnm : ∀ a, a < N → ∀ b, b < N → a ≠ b → (T a).2.1 ≠ (T b).2.1) (hk : k < N) (kf : Cond.fieldLink own index (T k).1 (T k).2.1 (T k).2.2.1 ∈ WS) (hfin : (T k).2.2.2 = true) (hin2 : meth.name = "<init>") (hdecl : (T k).1 = own) (hpd : parseFieldDescriptor (T k).2.2.1 = some ty) (hn : narrow ty v = v) (hfit : fits ty v = true) (hl : k < fs.length) (hd : decode cc pc = .ok (.putfield index, 3))
    (kk : ∀ (H1 : Heap) (locs1 : List Loc), Hp G ws0 s H1 locs1 (w.set q0 (a, .inr (ci, fs.set k v))) → W p l e R s m args below meth c H1 locs1 cells slots Q (F0 m (pc + 3) ls rest)) : W p l e R s m args below meth c H locs cells slots Q (F0 m pc ls (v :: .ref a :: rest)) :=
  va_putF (D := G.1) (C := Cn) (T := T) (N := N) C.hx C.hb C.hts hin ty0 hty hnm C.hown C.hK h.1 h.2.1 h.2.2 q0 hb hc k hk (C.hts _ kf) (fun _ h9 => h9) hfin hin2 hdecl hpd hn hfit hl hd (fun H1 locs1 a1 a2 a3 => kk H1 locs1 ⟨a1, a2, a3⟩)
theorem r_iald {q0 n a : Nat} {f : Nat → Int32} {i : Int32} (C : Cx G Z ws0 p s m args meth c own cc nL ret) (h : Hp G ws0 s H locs w) (ha : w[q0]? = some (a, .inl (G.2 0, n, .inl f))) (hd : decode cc pc = .ok (.iaload, 1)) (hin : vp_in i n) (kk : W p l e R s m args below meth c H locs cells slots Q (F0 m (pc + 1) ls (.int (f i.toNatClampNeg) :: rest))) : W p l e R s m args below meth c H locs cells slots Q (F0 m pc ls (.int i :: .ref a :: rest)) :=
  va_iald C.hx C.hb C.hK h.1 q0 0 ha rfl hin hd kk
theorem r_zald {q0 n a : Nat} {f : Nat → Int32} {i : Int32} (C : Cx G Z ws0 p s m args meth c own cc nL ret) (h : Hp G ws0 s H locs w) (ha : w[q0]? = some (a, .inl (G.2 2, n, .inl f))) (hd : decode cc pc = .ok (.baload, 1)) (hin : vp_in i n) (kk : W p l e R s m args below meth c H locs cells slots Q (F0 m (pc + 1) ls (.int (f i.toNatClampNeg) :: rest))) : W p l e R s m args below meth c H locs cells slots Q (F0 m pc ls (.int i :: .ref a :: rest)) :=
  va_zald C.hx C.hb C.hK h.1 q0 2 ha rfl hin hd kk
theorem r_dald {q0 n a : Nat} {f : Nat → UInt64} {i : Int32} (C : Cx G Z ws0 p s m args meth c own cc nL ret) (h : Hp G ws0 s H locs w) (ha : w[q0]? = some (a, .inl (G.2 1, n, .inr (.inr (.inr (.inl f)))))) (hd : decode cc pc = .ok (.daload, 1)) (hin : vp_in i n) (kk : W p l e R s m args below meth c H locs cells slots Q (F0 m (pc + 1) ls (.double (f i.toNatClampNeg) :: rest))) : W p l e R s m args below meth c H locs cells slots Q (F0 m pc ls (.int i :: .ref a :: rest)) :=
  va_dald C.hx C.hb C.hK h.1 q0 1 ha rfl hin hd kk
theorem r_iast {q0 n a : Nat} {f : Nat → Int32} {i x : Int32} (C : Cx G Z ws0 p s m args meth c own cc nL ret) (h : Hp G ws0 s H locs w) (ha : w[q0]? = some (a, .inl (G.2 0, n, .inl f))) (hd : decode cc pc = .ok (.iastore, 1)) (hin : vp_in i n) (kk : ∀ (H1 : Heap) (locs1 : List Loc), Hp G ws0 s H1 locs1 (w.set q0 (a, .inl (G.2 0, n, .inl (upd f i.toNatClampNeg x)))) → W p l e R s m args below meth c H1 locs1 cells slots Q (F0 m (pc + 1) ls rest)) : W p l e R s m args below meth c H locs cells slots Q (F0 m pc ls (.int x :: .int i :: .ref a :: rest)) :=
  va_iast C.hx C.hb C.hK h.1 h.2.1 h.2.2 q0 0 ha rfl hin hd (fun H1 locs1 a1 a2 a3 => kk H1 locs1 ⟨a1, a2, a3⟩)
theorem r_zast {q0 n a : Nat} {f : Nat → Int32} {i x : Int32} (C : Cx G Z ws0 p s m args meth c own cc nL ret) (h : Hp G ws0 s H locs w) (ha : w[q0]? = some (a, .inl (G.2 2, n, .inl f))) (hd : decode cc pc = .ok (.bastore, 1)) (hin : vp_in i n) (kk : ∀ (H1 : Heap) (locs1 : List Loc), Hp G ws0 s H1 locs1 (w.set q0 (a, .inl (G.2 2, n, .inl (upd f i.toNatClampNeg (vp_nar .boolean x))))) → W p l e R s m args below meth c H1 locs1 cells slots Q (F0 m (pc + 1) ls rest)) : W p l e R s m args below meth c H locs cells slots Q (F0 m pc ls (.int x :: .int i :: .ref a :: rest)) :=
  va_zast C.hx C.hb C.hK h.1 h.2.1 h.2.2 q0 2 ha rfl hin hd (fun H1 locs1 a1 a2 a3 => kk H1 locs1 ⟨a1, a2, a3⟩)
theorem r_dast {q0 n a : Nat} {f : Nat → UInt64} {i : Int32} {x : UInt64} (C : Cx G Z ws0 p s m args meth c own cc nL ret) (h : Hp G ws0 s H locs w) (ha : w[q0]? = some (a, .inl (G.2 1, n, .inr (.inr (.inr (.inl f)))))) (hd : decode cc pc = .ok (.dastore, 1)) (hin : vp_in i n) (kk : ∀ (H1 : Heap) (locs1 : List Loc), Hp G ws0 s H1 locs1 (w.set q0 (a, .inl (G.2 1, n, .inr (.inr (.inr (.inl (vf_upd f i.toNatClampNeg x))))))) → W p l e R s m args below meth c H1 locs1 cells slots Q (F0 m (pc + 1) ls rest)) : W p l e R s m args below meth c H locs cells slots Q (F0 m pc ls (.double x :: .int i :: .ref a :: rest)) :=
  va_dast C.hx C.hb C.hK h.1 h.2.1 h.2.2 q0 1 ha rfl hin hd (fun H1 locs1 a1 a2 a3 => kk H1 locs1 ⟨a1, a2, a3⟩)
end BASE
