section FRAME
variable {l : Launch} {G : GT} {Z : State} {ws0 w wr : va_W} {p : Program} {e : Env} {R : Room} {s : State} {m : MethodId} {args : Array Value} {below : List Frame} {meth : Method} {c : Code} {H : Heap} {locs : List Loc} {cells slots : Nat} {Q : State → Prop} {own : String} {cc : ByteArray} {nL : Nat} {ret : Option FieldType} {pc : Nat} {ls : Array Slot} {rest : List Value} {post : Option Value → va_W → Prop} {px : String → Prop}
theorem Hp_mem {w' : va_W} (h : Hp G ws0 s H locs w) (hs : ∀ q ∈ w', q ∈ w) (hn : (w'.map Prod.fst).Nodup) : Hp G ws0 s H locs w' := by
  refine ⟨fun k q hq => ?_, va_D_of hn (fun q hq => ?_), h.2.2⟩
  · obtain ⟨i, hi⟩ := List.getElem?_of_mem (hs q (List.mem_of_getElem? hq))
    exact h.1 i q hi
  · obtain ⟨i, hi⟩ := List.getElem?_of_mem (hs q hq)
    exact h.2.1.2 i q hi
theorem Hp_perm {w' : va_W} (h : Hp G ws0 s H locs w) (hp : w.Perm w') : Hp G ws0 s H locs w' :=
  Hp_mem h (fun q hq => hp.mem_iff.mpr hq) ((hp.map Prod.fst).nodup_iff.mp (va_D_nd h.2.1))
theorem Hp_r (h : Hp G ws0 s H locs (wr ++ w)) : Hp G ws0 s H locs w := by
  refine Hp_mem h (fun q hq => List.mem_append_right _ hq) ?_
  have := va_D_nd h.2.1
  rw [List.map_append] at this
  exact (List.nodup_append.mp this).2.1
/-- the frame: what is beside the callee's world stays -/
theorem Hp_join {H1 : Heap} {locs1 : List Loc} {w' : va_W} (h : Hp G ws0 s H locs (wr ++ w)) (hk : ∀ q : Nat, q < H.size → ¬ va_A w H.size q → H1[q]? = H[q]?) (hP : va_P G.1 classes w' H1) (hD : va_D (va_A w H.size) w') (hsub : ∀ q, va_A w H.size q → va_A ws0 s.heap.size q) (hS : va_S (va_A ws0 s.heap.size) s.heap H1 locs1) : Hp G ws0 s H1 locs1 (wr ++ w') := by
  have apart : ∀ q ∈ wr, q.1 < H.size ∧ ¬ va_A w H.size q.1 := by
    intro q hq
    obtain ⟨i, hi⟩ := List.getElem?_of_mem hq
    have hi' : (wr ++ w)[i]? = some q := by rw [List.getElem?_append_left (List.getElem?_eq_some_iff.mp hi).1]; exact hi
    have hl := (h.1 i q hi').lt
    refine ⟨hl, fun hA => ?_⟩
    rcases hA with ⟨k, e, hk'⟩ | hA
    · have hk2 : (wr ++ w)[wr.length + k]? = some (q.1, e) := by rw [List.getElem?_append_right (by omega), Nat.add_sub_cancel_left]; exact hk'
      have := h.2.1.1 i (wr.length + k) q (q.1, e) hi' hk2 rfl
      have := (List.getElem?_eq_some_iff.mp hi).1
      omega
    · omega
  have hDr : va_D (va_A ws0 s.heap.size) wr := by
    have hn := va_D_nd h.2.1
    rw [List.map_append] at hn
    refine va_D_of (List.nodup_append.mp hn).1 (fun q hq => ?_)
    obtain ⟨i, hi⟩ := List.getElem?_of_mem (List.mem_append_left w hq)
    exact h.2.1.2 i q hi
  refine ⟨va_P.app (fun k q hq => ?_) hP, va_D.app hDr (hD.weaken (fun k q _ hq => hsub _ hq)) (fun i j x y hx hy hxy => ?_), hS⟩
  · have hm := List.mem_of_getElem? hq
    obtain ⟨i, hi⟩ := List.getElem?_of_mem (List.mem_append_left w hm)
    exact (h.1 i q hi).kept (hk q.1 (apart q hm).1 (apart q hm).2)
  · exact (apart x (List.mem_of_getElem? hx)).2 (by rw [hxy]; exact hD.2 j y hy)
theorem Hp_sub (h : Hp G ws0 s H locs (wr ++ w)) : ∀ q, va_A w H.size q → va_A ws0 s.heap.size q := by
  intro q hq
  rcases hq with ⟨k, e, hq⟩ | hq
  · obtain ⟨i, hi⟩ := List.getElem?_of_mem (List.mem_append_right wr (List.mem_of_getElem? hq))
    exact h.2.1.2 i (q, e) hi
  · exact Or.inr (Nat.le_trans h.2.2.1 hq)
theorem S_keep (h : Hp G ws0 s H locs (wr ++ w)) {st₀ t T' : State} {L : List Loc} (h0 : st₀.heap = H) (e1 : T'.heap = t.heap) (hF : va_F (va_A w H.size) st₀ t) (hL : ∀ q ∈ L, va_A w H.size q.base) : va_S (va_A ws0 s.heap.size) s.heap T'.heap (locs ++ L) ∧ ∀ q : Nat, q < H.size → ¬ va_A w H.size q → T'.heap[q]? = H[q]? := by
  have hsub := Hp_sub h
  obtain ⟨hz, hk⟩ := hF
  rw [h0] at hz hk
  refine ⟨⟨Nat.le_trans h.2.2.1 (by rw [e1]; exact hz), fun q h1 h2 => ?_, fun q hq => ?_⟩, fun q h1 h2 => by rw [e1]; exact hk q h1 h2⟩
  · rw [e1, hk q (Nat.lt_of_lt_of_le h1 h.2.2.1) (fun z => h2 (hsub q z))]
    exact h.2.2.2.1 q h1 h2
  · rcases List.mem_append.mp hq with h9 | h9
    · exact h.2.2.2.2 q h9
    · exact hsub _ (hL q h9)
theorem r_runF {mc ms : Nat} {st0 : List Value} {a : Array Value} (h : Hp G ws0 s H locs (wr ++ w)) (hr : va_Run p l e R s m args below meth c H locs cells slots mc ms (F0 m pc ls st0) rest (QM G Z w H.size post a) (va_A w H.size))
    (kk : ∀ (v : Option Value) (w' : va_W) (H1 : Heap) (locs1 : List Loc), post v w' → Hp G ws0 s H1 locs1 (wr ++ w') → W p l e R s m args below meth c H1 locs1 (cells + mc) (slots + ms) Q (F0 m (pc + 3) ls (v.toList ++ rest))) : W p l e R s m args below meth c H locs cells slots Q (F0 m pc ls st0) := by
  intro T hT X
  obtain ⟨v, st₀, t, T', L, h0, X', hL, e1, e2, ⟨⟨v', w', hv, hp, hI, hDw⟩, hF⟩, st⟩ := hr T hT X
  cases hv
  obtain ⟨hS, hk⟩ := S_keep h h0 e1 hF hL
  obtain ⟨t2, a1, b1⟩ := kk v w' T'.heap (locs ++ L) hp (Hp_join h hk (by rw [e1]; exact hI.1) hDw (Hp_sub h) hS) T' rfl X'
  exact ⟨t2, st t2 a1, b1⟩
theorem r_runXF {mc ms : Nat} {st0 : List Value} {a : Array Value} (h : Hp G ws0 s H locs (wr ++ w)) (hr : vx_Run p l e R s m args below meth c H locs cells slots mc ms (F0 m pc ls st0) rest (QM G Z w H.size post a) (QX G Z w H.size px) (va_A w H.size))
    (kx : ∀ (E : String) (ce : Cell) (q : Addr) (H1 : Heap) (locs1 : List Loc), px E → Hp G ws0 s H1 locs1 (wr ++ w) → H1[q]? = some ce → ce.vm = .none → s.vm.findClass E = some ce.cls → vx_W p l e R s m args below meth c H1 locs1 (cells + mc) (slots + ms) Q (F0 m pc ls rest) q)
    (kk : ∀ (v : Option Value) (w' : va_W) (H1 : Heap) (locs1 : List Loc), post v w' → Hp G ws0 s H1 locs1 (wr ++ w') → W p l e R s m args below meth c H1 locs1 (cells + mc) (slots + ms) Q (F0 m (pc + 3) ls (v.toList ++ rest))) : W p l e R s m args below meth c H locs cells slots Q (F0 m pc ls st0) := by
  intro T hT X
  rcases hr T hT X with ⟨v, st₀, t, T', L, h0, X', hL, e1, e2, ⟨⟨v', w', hv, hp, hI, hDw⟩, hF⟩, st⟩ | ⟨q, st₀, t, T', L, E, ce, h0, X', hL, e1, e2, ⟨hp, hI, hDw, hF⟩, hce, hcv, hcl, st⟩
  · cases hv
    obtain ⟨hS, hk⟩ := S_keep h h0 e1 hF hL
    obtain ⟨t2, a1, b1⟩ := kk v w' T'.heap (locs ++ L) hp (Hp_join h hk (by rw [e1]; exact hI.1) hDw (Hp_sub h) hS) T' rfl X'
    exact ⟨t2, st t2 a1, b1⟩
  · obtain ⟨hS, hk⟩ := S_keep h h0 e1 hF hL
    obtain ⟨t2, a1, b1⟩ := kx E ce q T'.heap (locs ++ L) hp (Hp_join h hk (by rw [e1]; exact hI) hDw (Hp_sub h) hS) (by rw [e1]; exact hce) hcv hcl T' rfl X'
    exact ⟨t2, st.trans a1, b1⟩
theorem r_callVF {y : MethodName} {bytes : ByteArray} {maxL n index q0 ci N b : Nat} {T : u_T} {fs : List Value} {ret' : Option FieldType} {rm : Room} {As st0 : List Value} (hM : CM l G Z y bytes maxL ret' rm (.ref b :: As) w post) (C : Cx G Z ws0 p s m args meth c own cc nL ret) (h : Hp G ws0 s H locs (wr ++ w)) (F : MFv y bytes maxL ret' n) (km : Cond.methodLink own index y ∈ WS) (hls : ls.size = nL) (hd : decode cc pc = .ok (.invokevirtual index, 3)) (hb : w[q0]? = some (b, .inr (ci, fs))) (hc : classes[ci]? = some (y.cls, T, N)) (hR : rm.frames + 1 ≤ R.frames ∧ 8 + (maxL + 11) + rm.locals ≤ R.locals ∧ cells + rm.cells ≤ R.cells ∧ slots + rm.slots ≤ R.slots) (hn : As.length = n) (hst : st0 = As.reverse ++ .ref b :: rest) (hW : (rest.map fun v => v.category).sum ≤ 8)
    (kk : ∀ (v : Option Value) (w' : va_W) (H1 : Heap) (locs1 : List Loc), post v w' → Hp G ws0 s H1 locs1 (wr ++ w') → W p l e R s m args below meth c H1 locs1 (cells + rm.cells) (slots + rm.slots) Q (F0 m (pc + 3) ls (v.toList ++ rest))) : W p l e R s m args below meth c H locs cells slots Q (F0 m pc ls st0) :=
  r_runF h (va_runV (As := As) (rest := rest) (b := b) (C := y.cls) C.1 (hM H.size) ⟨callB_of n C.hts (gi1 F.1) rfl rfl rfl (C.hts _ F.2.2.2.1) (C.hts _ km) F.2.2.2.2 ⟨hR.1, hR.2.1⟩, C.hts _ F.2.1, C.hts _ F.2.2.1⟩ ⟨(pre_in C (Hp_r h)).1, va_recv C.hK (Hp_r h).1 hc hb, (pre_in C (Hp_r h)).2⟩ rfl hn hls hst (lv_room hW) hd hR.2.2) kk
theorem r_callVXF {y : MethodName} {bytes : ByteArray} {maxL n index q0 ci N b : Nat} {T : u_T} {fs : List Value} {ret' : Option FieldType} {rm : Room} {As st0 : List Value} (hM : CMX l G Z y bytes maxL ret' rm (.ref b :: As) w post px) (C : Cx G Z ws0 p s m args meth c own cc nL ret) (h : Hp G ws0 s H locs (wr ++ w)) (F : MFv y bytes maxL ret' n) (km : Cond.methodLink own index y ∈ WS) (hls : ls.size = nL) (hd : decode cc pc = .ok (.invokevirtual index, 3)) (hb : w[q0]? = some (b, .inr (ci, fs))) (hc : classes[ci]? = some (y.cls, T, N)) (hR : rm.frames + 1 ≤ R.frames ∧ 8 + (maxL + 11) + rm.locals ≤ R.locals ∧ cells + rm.cells ≤ R.cells ∧ slots + rm.slots ≤ R.slots) (hn : As.length = n) (hst : st0 = As.reverse ++ .ref b :: rest) (hW : (rest.map fun v => v.category).sum ≤ 8)
    (kx : ∀ (E : String) (ce : Cell) (q : Addr) (H1 : Heap) (locs1 : List Loc), px E → Hp G ws0 s H1 locs1 (wr ++ w) → H1[q]? = some ce → ce.vm = .none → s.vm.findClass E = some ce.cls → vx_W p l e R s m args below meth c H1 locs1 (cells + rm.cells) (slots + rm.slots) Q (F0 m pc ls rest) q)
    (kk : ∀ (v : Option Value) (w' : va_W) (H1 : Heap) (locs1 : List Loc), post v w' → Hp G ws0 s H1 locs1 (wr ++ w') → W p l e R s m args below meth c H1 locs1 (cells + rm.cells) (slots + rm.slots) Q (F0 m (pc + 3) ls (v.toList ++ rest))) : W p l e R s m args below meth c H locs cells slots Q (F0 m pc ls st0) :=
  r_runXF h (vx_runV (As := As) (rest := rest) (b := b) (C := y.cls) C.1 (hM H.size) ⟨callB_of n C.hts (gi1 F.1) rfl rfl rfl (C.hts _ F.2.2.2.1) (C.hts _ km) F.2.2.2.2 ⟨hR.1, hR.2.1⟩, C.hts _ F.2.1, C.hts _ F.2.2.1⟩ ⟨(pre_in C (Hp_r h)).1, va_recv C.hK (Hp_r h).1 hc hb, (pre_in C (Hp_r h)).2⟩ rfl hn hls hst (lv_room hW) hd hR.2.2) kx kk
theorem r_callIF {y : MethodName} {bytes : ByteArray} {maxL n index b : Nat} {rm : Room} {As st0 : List Value} (hM : CM l G Z y bytes maxL none rm (.ref b :: As) w post) (C : Cx G Z ws0 p s m args meth c own cc nL ret) (h : Hp G ws0 s H locs (wr ++ w)) (F : MFi y bytes maxL n) (km : Cond.methodLink own index y ∈ WS) (hls : ls.size = nL) (hd : decode cc pc = .ok (.invokespecial index, 3)) (hR : rm.frames + 1 ≤ R.frames ∧ 8 + (maxL + 11) + rm.locals ≤ R.locals ∧ cells + rm.cells ≤ R.cells ∧ slots + rm.slots ≤ R.slots) (hn : As.length = n) (hst : st0 = As.reverse ++ .ref b :: rest) (hW : (rest.map fun v => v.category).sum ≤ 8)
    (kk : ∀ (v : Option Value) (w' : va_W) (H1 : Heap) (locs1 : List Loc), post v w' → Hp G ws0 s H1 locs1 (wr ++ w') → W p l e R s m args below meth c H1 locs1 (cells + rm.cells) (slots + rm.slots) Q (F0 m (pc + 3) ls (v.toList ++ rest))) : W p l e R s m args below meth c H locs cells slots Q (F0 m pc ls st0) :=
  r_runF h (va_runI (As := As) (rest := rest) (b := b) C.1 (hM H.size) ⟨callB_of n C.hts (gi1 F.1) rfl rfl rfl (C.hts _ F.2.2.1) (C.hts _ km) F.2.2.2.2 ⟨hR.1, hR.2.1⟩, F.2.2.2.1, C.hts _ F.2.1⟩ (pre_in C (Hp_r h)) rfl hn hls hst (lv_room hW) hd hR.2.2) kk
/-- a static method with a table of handlers -/
def CMW (l : Launch) (G : GT) (Z : State) (y : MethodName) (cc : ByteArray) (n : Nat) (ret : Option FieldType) (hh : List (Nat × Nat × Nat × Nat)) (rm : Room) (av : List Value) (ws : va_W) (post : Option Value → va_W → Prop) : Prop :=
  ∀ sz : Nat, Met l y [.codeWith y cc n ret hh] rm (va_Pc av (fun U => U.heap.size = sz ∧ IN G Z ws U)) (QM G Z ws sz post) rm.cells rm.slots (va_A ws sz)
theorem CMW_ofW {y : MethodName} {n : Nat} {rm : Room} {av : List Value} {ws : va_W} {hh : List (Nat × Nat × Nat × Nat)} (hZ : ZOK G Z) (hy : plainName y.cls = true) (hlen : (lg_sl av).length ≤ n)
    (body : ∀ (p : Program) (e : Env) (s : State) (m : MethodId) (below : List Frame) (meth : Method) (c : Code) (ls : Array Slot), Cx G Z ws p s m av.toArray meth c y.cls cc n ret → Hp G ws s s.heap [] ws → lv_has ls n (lv_args 0 av) → c.exceptionTable.toList = tableOf hh →
      W p l e rm s m av.toArray below meth c s.heap [] 0 0 (MQ below (QM G Z ws s.heap.size post) av.toArray s rm.cells rm.slots (va_A ws s.heap.size)) (F0 m 0 ls [])) : CMW l G Z y cc n ret hh rm av ws post := by
  intro sz
  refine va_MetW (cc := cc) (maxL := n) (ret := ret) hy rfl ?_
  intro p e s m args below meth c s₁ B hml hv
  obtain ⟨rfl, rfl, hP, hD, hW, hz, ho⟩ := hv
  have hts : ∀ w ∈ WS, w.before av.toArray s = true := fun w hw => word_at hW (good_of_word (WS_good hw)) (hZ.1 w hw)
  have hl := lv_entry av (n := n) hlen
  have htab := vx_table (x := y) B (atoms_spec (ws := [Cond.codeWith y cc n ret hh]) B.pre _ List.mem_cons_self)
  rw [lg_entry_eq]
  exact body p e s m below meth c _ ⟨⟨B.exec, B.bytes, hml, findClass_of_methodNamed B.named, hts⟩, B.returns, va_K.moved hW.alike hZ.2.1, B.notSynchronized, hW, hD, hz, ho, hZ⟩ ⟨hP, hD.self, va_S.rf⟩ hl htab
def MFw (y : MethodName) (bytes : ByteArray) (maxL : Nat) (ret : Option FieldType) (hh : List (Nat × Nat × Nat × Nat)) (n : Nat) : Prop := Cond.codeWith y bytes maxL ret hh ∈ WS ∧ Cond.static y ∈ WS ∧ Cond.initialized y.cls ∈ WS ∧ (y.cls ≠ "java/lang/invoke/MethodHandle" ∧ y.cls ≠ "java/lang/invoke/VarHandle" ∧ (parseMethodDescriptor y.desc).map (fun d => d.parameters.length) = some n)
theorem r_callWF {y : MethodName} {bytes : ByteArray} {maxL n index : Nat} {ret' : Option FieldType} {hh : List (Nat × Nat × Nat × Nat)} {rm : Room} {As st0 : List Value} (hM : CMW l G Z y bytes maxL ret' hh rm As w post) (C : Cx G Z ws0 p s m args meth c own cc nL ret) (h : Hp G ws0 s H locs (wr ++ w)) (F : MFw y bytes maxL ret' hh n) (km : Cond.methodLink own index y ∈ WS) (hls : ls.size = nL) (hd : decode cc pc = .ok (.invokestatic index, 3)) (hR : rm.frames + 1 ≤ R.frames ∧ 8 + (maxL + 11) + rm.locals ≤ R.locals ∧ cells + rm.cells ≤ R.cells ∧ slots + rm.slots ≤ R.slots) (hn : As.length = n) (hst : st0 = As.reverse ++ rest) (hW : (rest.map fun v => v.category).sum ≤ 8)
    (kk : ∀ (v : Option Value) (w' : va_W) (H1 : Heap) (locs1 : List Loc), post v w' → Hp G ws0 s H1 locs1 (wr ++ w') → W p l e R s m args below meth c H1 locs1 (cells + rm.cells) (slots + rm.slots) Q (F0 m (pc + 3) ls (v.toList ++ rest))) : W p l e R s m args below meth c H locs cells slots Q (F0 m pc ls st0) :=
  r_runF h (vx_runSW (hh := hh) (As := As) (rest := rest) C.1 (hM H.size) ⟨⟨rfl, rfl, hR.1, hR.2.1, pay_in C.hts (gi1 F.1), List.mem_cons_self⟩, C.hts _ F.1, C.hts _ F.2.2.1, ⟨F.2.2.2.1, F.2.2.2.2.1⟩, fun sig hsig => by have h2 := F.2.2.2.2.2; rw [hsig] at h2; exact (Option.some.inj h2).symm, C.hts _ km, C.hts _ F.2.1⟩ (pre_in C (Hp_r h)) rfl hn hls hst (lv_room hW) hd hR.2.2) kk
theorem r_last {q0 n a : Nat} {f : Nat → Int64} {i : Int32} {x : Int64} (C : Cx G Z ws0 p s m args meth c own cc nL ret) (h : Hp G ws0 s H locs w) (ha : w[q0]? = some (a, .inl (G.2 4, n, .inr (.inl f)))) (hd : decode cc pc = .ok (.lastore, 1)) (hin : vp_in i n) (kk : ∀ (H1 : Heap) (locs1 : List Loc), Hp G ws0 s H1 locs1 (w.set q0 (a, .inl (G.2 4, n, .inr (.inl (vp_updL f i.toNatClampNeg x))))) → W p l e R s m args below meth c H1 locs1 cells slots Q (F0 m (pc + 1) ls rest)) : W p l e R s m args below meth c H locs cells slots Q (F0 m pc ls (.long x :: .int i :: .ref a :: rest)) :=
  va_last C.hx C.hb C.hK h.1 h.2.1 h.2.2 q0 4 ha rfl hin hd (fun H1 locs1 a1 a2 a3 => kk H1 locs1 ⟨a1, a2, a3⟩)
theorem r_lald {q0 n a : Nat} {f : Nat → Int64} {i : Int32} (C : Cx G Z ws0 p s m args meth c own cc nL ret) (h : Hp G ws0 s H locs w) (ha : w[q0]? = some (a, .inl (G.2 4, n, .inr (.inl f)))) (hd : decode cc pc = .ok (.laload, 1)) (hin : vp_in i n) (kk : W p l e R s m args below meth c H locs cells slots Q (F0 m (pc + 1) ls (.long (f i.toNatClampNeg) :: rest))) : W p l e R s m args below meth c H locs cells slots Q (F0 m pc ls (.int i :: .ref a :: rest)) :=
  va_lald C.hx C.hb C.hK h.1 q0 4 ha rfl hin hd kk
theorem vin01 : vp_in (0 : Int32) 1 := by unfold vp_in; decide
end FRAME
section WRAP
variable {l : Launch} {G : GT} {Z : State} {E0 : Nat} {ad : Nat → Nat}
set_option maxHeartbeats 4000000 in
theorem c_L_cut {ao : Nat} {fo : Nat → Int64} {S : HS} {a0 : Int32} {a1 : Int32} {a2 : UInt64} {a3 : Int32} {post : Int32 → HS → Int64 → Prop} (hZ : ZOK G Z) (h9 : ZO2 l E0 Z) (h : wp_X2_cut a0 a1 a2 a3 S (fun r S1 => post 0 S1 r.toInt64) (fun E => (E = xIAE ∧ post 1 S (fo 0)) ∨ (E = xUOE ∧ post 2 S (fo 0)))) : CMW l G Z yL_cut cL_cut 8 (some .int) [(0, 14, 17, 13), (0, 14, 21, 15)] (rmB 8 247 4 120) [.ref (ad 0), .int a0, .int a1, .double a2, .int a3, .ref ao] ((ao, .inl (G.2 4, 1, .inr (.inl fo))) :: wH G E0 ad S) (fun v w1 => ∃ (k : Int32) (S1 : HS) (f1 : Nat → Int64), v = some (.int k) ∧ w1 = (ao, .inl (G.2 4, 1, .inr (.inl f1))) :: wH G E0 ad S1 ∧ post k S1 (f1 0)) := by
  refine CMW_ofW hZ (by decide) (lb rfl) (fun p e s m below meth c ls C hp hl htab => ?_)
  have C : Cx G Z _ p s m _ meth c RL cL_cut 8 (some .int) := C
  have hl : lv_has ls 8 [(0, .ref (ad 0)), (1, .int a0), (2, .int a1), (3, .double a2), (5, .int a3), (6, .ref ao)] := hl
  have hx := C.hx
  have hb := C.hb
  refine lv_aload hx hb dL_cut_0 (lv_at hl 5 rfl) ?_
  refine lv_iconst (v := 0) hx hb dL_cut_2 (by decide) ?_
  refine lv_aload_n hx hb dL_cut_3 rfl (lv_at hl 0 rfl) ?_
  refine lv_iload_n hx hb dL_cut_4 rfl (lv_at hl 1 rfl) ?_
  refine lv_iload_n hx hb dL_cut_5 rfl (lv_at hl 2 rfl) ?_
  refine lv_dload_n hx hb dL_cut_6 rfl (lv_at hl 3 rfl) ?_
  refine lv_iload hx hb dL_cut_7 (lv_at hl 4 rfl) ?_
  have hp : Hp G _ s s.heap [] ([(ao, .inl (G.2 4, 1, .inr (.inl fo)))] ++ wH G E0 ad S) := hp
  refine r_callVXF (q0 := 0) (ci := 2) (rest := [.int 0, .ref ao]) (c_X2_cut (E0 := E0) (ad := ad) C.hZ h9 h) C hp mf_X2_cut km_L_7 hl.1 dL_cut_9 rfl rfl ⟨lb rfl, lb rfl, lb rfl, lb rfl⟩ rfl rfl (lb rfl) (fun E ce q H1 locs1 hE hp1 h1 h2 h3 => ?_) (fun v w1 H locs hv hp => ?_)
  · rcases hE with ⟨rfl, hE⟩ | ⟨rfl, hE⟩
    · refine vx_catch (own := RL) (name := xIAE) C.hown [] ⟨0, 14, 17, 13⟩ [⟨0, 14, 21, 15⟩] (htab.trans rfl) (fun z hz => nomatch hz) rfl (by decide) (C.hts _ kl_L_13) (va_Nw.use rfl (va_Nw.warmC C.hW h9.2.1.1)) h1 h2 h3 ?_
      refine lv_astore (x := q) (lv' := [(7, .ref q), (0, .ref (ad 0)), (1, .int a0), (2, .int a1), (3, .double a2), (5, .int a3), (6, .ref ao)]) hx hb dL_cut_17 hl (by decide) rfl (fun ls hl => ?_)
      refine lv_iconst (v := 1) hx hb dL_cut_19 (by decide) ?_
      refine W.widen (k := 4) (n := 120) (lb rfl) (lb rfl) ?_
      exact r_iret C hp1 dL_cut_20 ⟨1, S, fo, rfl, rfl, hE⟩
    · refine vx_catch (own := RL) (name := xUOE) C.hown [⟨0, 14, 17, 13⟩] ⟨0, 14, 21, 15⟩ [] (htab.trans rfl) (fun z hz => by rw [List.mem_singleton.mp hz]; exact Or.inr ⟨by decide, xIAE, C.hts _ kl_L_13, va_Nc.moved C.hW.alike h9.2.2.2.2.2.2.2.2.2.2.1.1⟩) rfl (by decide) (C.hts _ kl_L_15) (va_Nw.use rfl (va_Nw.warmC C.hW h9.2.1.2.1)) h1 h2 h3 ?_
      refine lv_astore (x := q) (lv' := [(7, .ref q), (0, .ref (ad 0)), (1, .int a0), (2, .int a1), (3, .double a2), (5, .int a3), (6, .ref ao)]) hx hb dL_cut_21 hl (by decide) rfl (fun ls hl => ?_)
      refine lv_iconst (v := 2) hx hb dL_cut_23 (by decide) ?_
      refine W.widen (k := 4) (n := 120) (lb rfl) (lb rfl) ?_
      exact r_iret C hp1 dL_cut_24 ⟨2, S, fo, rfl, rfl, hE⟩
  · obtain ⟨r, S1, rfl, rfl, h⟩ := hv
    refine W.eq (g2 := F0 m 12 ls [.int r, .int 0, .ref ao]) rfl ?_
    refine lv_i2l hx hb dL_cut_12 rfl ?_
    refine r_last (q0 := 0) C hp rfl dL_cut_13 vin01 (fun H locs hp => ?_)
    refine lv_goto (tgt := 25) hx hb dL_cut_14 (by decide) ?_
    refine lv_iconst (v := 0) hx hb dL_cut_25 (by decide) ?_
    refine W.widen (k := 4) (n := 120) (lb rfl) (lb rfl) ?_
    exact r_iret C hp dL_cut_26 ⟨0, S1, vp_updL fo (0 : Int32).toNatClampNeg r.toInt64, rfl, rfl, h⟩
theorem mfw_L_cut : MFw yL_cut cL_cut 8 (some .int) [(0, 14, 17, 13), (0, 14, 21, 15)] 6 := ⟨kc_L_cut, ks_L_cut, ki_L, by decide +kernel⟩
set_option maxHeartbeats 4000000 in
theorem c_L_push {ao : Nat} {fo : Nat → UInt64} {S : HS} {a0 : UInt64} {post : Int32 → HS → UInt64 → Prop} (hZ : ZOK G Z) (h9 : ZO2 l E0 Z) (h : wp_X2_push a0 S (fun r S1 => post 0 S1 r) (fun E => (E = xIAE ∧ post 1 S (fo 0)))) : CMW l G Z yL_push cL_push 5 (some .int) [(0, 8, 11, 13)] (rmB 7 114 1 6) [.ref (ad 0), .double a0, .ref ao] ((ao, .inl (G.2 1, 1, .inr (.inr (.inr (.inl fo))))) :: wH G E0 ad S) (fun v w1 => ∃ (k : Int32) (S1 : HS) (f1 : Nat → UInt64), v = some (.int k) ∧ w1 = (ao, .inl (G.2 1, 1, .inr (.inr (.inr (.inl f1))))) :: wH G E0 ad S1 ∧ post k S1 (f1 0)) := by
  refine CMW_ofW hZ (by decide) (lb rfl) (fun p e s m below meth c ls C hp hl htab => ?_)
  have C : Cx G Z _ p s m _ meth c RL cL_push 5 (some .int) := C
  have hl : lv_has ls 5 [(0, .ref (ad 0)), (1, .double a0), (3, .ref ao)] := hl
  have hx := C.hx
  have hb := C.hb
  refine lv_aload_n hx hb dL_push_0 rfl (lv_at hl 2 rfl) ?_
  refine lv_iconst (v := 0) hx hb dL_push_1 (by decide) ?_
  refine lv_aload_n hx hb dL_push_2 rfl (lv_at hl 0 rfl) ?_
  refine lv_dload_n hx hb dL_push_3 rfl (lv_at hl 1 rfl) ?_
  have hp : Hp G _ s s.heap [] ([(ao, .inl (G.2 1, 1, .inr (.inr (.inr (.inl fo)))))] ++ wH G E0 ad S) := hp
  refine r_callVXF (q0 := 0) (ci := 2) (rest := [.int 0, .ref ao]) (c_X2_push (E0 := E0) (ad := ad) C.hZ h9 h) C hp mf_X2_push km_L_17 hl.1 dL_push_4 rfl rfl ⟨lb rfl, lb rfl, lb rfl, lb rfl⟩ rfl rfl (lb rfl) (fun E ce q H1 locs1 hE hp1 h1 h2 h3 => ?_) (fun v w1 H locs hv hp => ?_)
  · obtain ⟨rfl, hE⟩ := hE
    refine vx_catch (own := RL) (name := xIAE) C.hown [] ⟨0, 8, 11, 13⟩ [] (htab.trans rfl) (fun z hz => nomatch hz) rfl (by decide) (C.hts _ kl_L_13) (va_Nw.use rfl (va_Nw.warmC C.hW h9.2.1.1)) h1 h2 h3 ?_
    refine lv_astore (x := q) (lv' := [(4, .ref q), (0, .ref (ad 0)), (1, .double a0), (3, .ref ao)]) hx hb dL_push_11 hl (by decide) rfl (fun ls hl => ?_)
    refine lv_iconst (v := 1) hx hb dL_push_13 (by decide) ?_
    refine W.widen (k := 1) (n := 6) (lb rfl) (lb rfl) ?_
    exact r_iret C hp1 dL_push_14 ⟨1, S, fo, rfl, rfl, hE⟩
  · obtain ⟨r, S1, rfl, rfl, h⟩ := hv
    refine W.eq (g2 := F0 m 7 ls [.double r, .int 0, .ref ao]) rfl ?_
    refine r_dast (q0 := 0) C hp rfl dL_push_7 vin01 (fun H locs hp => ?_)
    refine lv_goto (tgt := 15) hx hb dL_push_8 (by decide) ?_
    refine lv_iconst (v := 0) hx hb dL_push_15 (by decide) ?_
    refine W.widen (k := 1) (n := 6) (lb rfl) (lb rfl) ?_
    exact r_iret C hp dL_push_16 ⟨0, S1, vf_upd fo (0 : Int32).toNatClampNeg r, rfl, rfl, h⟩
theorem mfw_L_push : MFw yL_push cL_push 5 (some .int) [(0, 8, 11, 13)] 3 := ⟨kc_L_push, ks_L_push, ki_L, by decide +kernel⟩
set_option maxHeartbeats 4000000 in
theorem c_L_wish {ao : Nat} {fo : Nat → UInt64} {S : HS} {a0 : Int32} {a1 : UInt64} {post : Int32 → HS → UInt64 → Prop} (hZ : ZOK G Z) (h9 : ZO2 l E0 Z) (h : wp_X2_wish a0 a1 S (fun r S1 => post 0 S1 r) (fun E => (E = xIOB ∧ post 1 S (fo 0)) ∨ (E = xIAE ∧ post 2 S (fo 0)))) : CMW l G Z yL_wish cL_wish 6 (some .int) [(0, 10, 13, 25), (0, 10, 17, 13)] (rmB 7 115 1 6) [.ref (ad 0), .int a0, .double a1, .ref ao] ((ao, .inl (G.2 1, 1, .inr (.inr (.inr (.inl fo))))) :: wH G E0 ad S) (fun v w1 => ∃ (k : Int32) (S1 : HS) (f1 : Nat → UInt64), v = some (.int k) ∧ w1 = (ao, .inl (G.2 1, 1, .inr (.inr (.inr (.inl f1))))) :: wH G E0 ad S1 ∧ post k S1 (f1 0)) := by
  refine CMW_ofW hZ (by decide) (lb rfl) (fun p e s m below meth c ls C hp hl htab => ?_)
  have C : Cx G Z _ p s m _ meth c RL cL_wish 6 (some .int) := C
  have hl : lv_has ls 6 [(0, .ref (ad 0)), (1, .int a0), (2, .double a1), (4, .ref ao)] := hl
  have hx := C.hx
  have hb := C.hb
  refine lv_aload hx hb dL_wish_0 (lv_at hl 3 rfl) ?_
  refine lv_iconst (v := 0) hx hb dL_wish_2 (by decide) ?_
  refine lv_aload_n hx hb dL_wish_3 rfl (lv_at hl 0 rfl) ?_
  refine lv_iload_n hx hb dL_wish_4 rfl (lv_at hl 1 rfl) ?_
  refine lv_dload_n hx hb dL_wish_5 rfl (lv_at hl 2 rfl) ?_
  have hp : Hp G _ s s.heap [] ([(ao, .inl (G.2 1, 1, .inr (.inr (.inr (.inl fo)))))] ++ wH G E0 ad S) := hp
  refine r_callVXF (q0 := 0) (ci := 2) (rest := [.int 0, .ref ao]) (c_X2_wish (E0 := E0) (ad := ad) C.hZ h9 h) C hp mf_X2_wish km_L_21 hl.1 dL_wish_6 rfl rfl ⟨lb rfl, lb rfl, lb rfl, lb rfl⟩ rfl rfl (lb rfl) (fun E ce q H1 locs1 hE hp1 h1 h2 h3 => ?_) (fun v w1 H locs hv hp => ?_)
  · rcases hE with ⟨rfl, hE⟩ | ⟨rfl, hE⟩
    · refine vx_catch (own := RL) (name := xIOB) C.hown [] ⟨0, 10, 13, 25⟩ [⟨0, 10, 17, 13⟩] (htab.trans rfl) (fun z hz => nomatch hz) rfl (by decide) (C.hts _ kl_L_25) (va_Nw.use rfl (va_Nw.warmC C.hW h9.2.1.2.2.1)) h1 h2 h3 ?_
      refine lv_astore (x := q) (lv' := [(5, .ref q), (0, .ref (ad 0)), (1, .int a0), (2, .double a1), (4, .ref ao)]) hx hb dL_wish_13 hl (by decide) rfl (fun ls hl => ?_)
      refine lv_iconst (v := 1) hx hb dL_wish_15 (by decide) ?_
      refine W.widen (k := 1) (n := 6) (lb rfl) (lb rfl) ?_
      exact r_iret C hp1 dL_wish_16 ⟨1, S, fo, rfl, rfl, hE⟩
    · refine vx_catch (own := RL) (name := xIAE) C.hown [⟨0, 10, 13, 25⟩] ⟨0, 10, 17, 13⟩ [] (htab.trans rfl) (fun z hz => by rw [List.mem_singleton.mp hz]; exact Or.inr ⟨by decide, xIOB, C.hts _ kl_L_25, va_Nc.moved C.hW.alike h9.2.2.2.2.2.2.2.2.2.2.1.2⟩) rfl (by decide) (C.hts _ kl_L_13) (va_Nw.use rfl (va_Nw.warmC C.hW h9.2.1.1)) h1 h2 h3 ?_
      refine lv_astore (x := q) (lv' := [(5, .ref q), (0, .ref (ad 0)), (1, .int a0), (2, .double a1), (4, .ref ao)]) hx hb dL_wish_17 hl (by decide) rfl (fun ls hl => ?_)
      refine lv_iconst (v := 2) hx hb dL_wish_19 (by decide) ?_
      refine W.widen (k := 1) (n := 6) (lb rfl) (lb rfl) ?_
      exact r_iret C hp1 dL_wish_20 ⟨2, S, fo, rfl, rfl, hE⟩
  · obtain ⟨r, S1, rfl, rfl, h⟩ := hv
    refine W.eq (g2 := F0 m 9 ls [.double r, .int 0, .ref ao]) rfl ?_
    refine r_dast (q0 := 0) C hp rfl dL_wish_9 vin01 (fun H locs hp => ?_)
    refine lv_goto (tgt := 21) hx hb dL_wish_10 (by decide) ?_
    refine lv_iconst (v := 0) hx hb dL_wish_21 (by decide) ?_
    refine W.widen (k := 1) (n := 6) (lb rfl) (lb rfl) ?_
    exact r_iret C hp dL_wish_22 ⟨0, S1, vf_upd fo (0 : Int32).toNatClampNeg r, rfl, rfl, h⟩
theorem mfw_L_wish : MFw yL_wish cL_wish 6 (some .int) [(0, 10, 13, 25), (0, 10, 17, 13)] 4 := ⟨kc_L_wish, ks_L_wish, ki_L, by decide +kernel⟩
set_option maxHeartbeats 4000000 in
theorem c_L_stick {ao : Nat} {fo : Nat → Int64} {S : HS} {a0 : Int32} {a1 : Int32} {post : Int32 → HS → Int64 → Prop} (hZ : ZOK G Z) (h9 : ZO2 l E0 Z) (h : wp_X2_stick a0 a1 S (fun r S1 => post 0 S1 (if r = 0 then 0 else 1)) (fun E => (E = xIOB ∧ post 1 S (fo 0)))) : CMW l G Z yL_stick cL_stick 5 (some .int) [(0, 17, 20, 25)] (rmB 7 113 1 6) [.ref (ad 0), .int a0, .int a1, .ref ao] ((ao, .inl (G.2 4, 1, .inr (.inl fo))) :: wH G E0 ad S) (fun v w1 => ∃ (k : Int32) (S1 : HS) (f1 : Nat → Int64), v = some (.int k) ∧ w1 = (ao, .inl (G.2 4, 1, .inr (.inl f1))) :: wH G E0 ad S1 ∧ post k S1 (f1 0)) := by
  refine CMW_ofW hZ (by decide) (lb rfl) (fun p e s m below meth c ls C hp hl htab => ?_)
  have C : Cx G Z _ p s m _ meth c RL cL_stick 5 (some .int) := C
  have hl : lv_has ls 5 [(0, .ref (ad 0)), (1, .int a0), (2, .int a1), (3, .ref ao)] := hl
  have hx := C.hx
  have hb := C.hb
  refine lv_aload_n hx hb dL_stick_0 rfl (lv_at hl 3 rfl) ?_
  refine lv_iconst (v := 0) hx hb dL_stick_1 (by decide) ?_
  refine lv_aload_n hx hb dL_stick_2 rfl (lv_at hl 0 rfl) ?_
  refine lv_iload_n hx hb dL_stick_3 rfl (lv_at hl 1 rfl) ?_
  refine lv_iload_n hx hb dL_stick_4 rfl (lv_at hl 2 rfl) ?_
  have hp : Hp G _ s s.heap [] ([(ao, .inl (G.2 4, 1, .inr (.inl fo)))] ++ wH G E0 ad S) := hp
  refine r_callVXF (q0 := 0) (ci := 2) (rest := [.int 0, .ref ao]) (c_X2_stick (E0 := E0) (ad := ad) C.hZ h9 h) C hp mf_X2_stick km_L_27 hl.1 dL_stick_5 rfl rfl ⟨lb rfl, lb rfl, lb rfl, lb rfl⟩ rfl rfl (lb rfl) (fun E ce q H1 locs1 hE hp1 h1 h2 h3 => ?_) (fun v w1 H locs hv hp => ?_)
  · obtain ⟨rfl, hE⟩ := hE
    refine vx_catch (own := RL) (name := xIOB) C.hown [] ⟨0, 17, 20, 25⟩ [] (htab.trans rfl) (fun z hz => nomatch hz) rfl (by decide) (C.hts _ kl_L_25) (va_Nw.use rfl (va_Nw.warmC C.hW h9.2.1.2.2.1)) h1 h2 h3 ?_
    refine lv_astore (x := q) (lv' := [(4, .ref q), (0, .ref (ad 0)), (1, .int a0), (2, .int a1), (3, .ref ao)]) hx hb dL_stick_20 hl (by decide) rfl (fun ls hl => ?_)
    refine lv_iconst (v := 1) hx hb dL_stick_22 (by decide) ?_
    refine W.widen (k := 1) (n := 6) (lb rfl) (lb rfl) ?_
    exact r_iret C hp1 dL_stick_23 ⟨1, S, fo, rfl, rfl, hE⟩
  · obtain ⟨r, S1, rfl, rfl, h⟩ := hv
    refine W.eq (g2 := F0 m 8 ls [.int r, .int 0, .ref ao]) rfl ?_
    refine lv_if_eq (tgt := 15) hx hb dL_stick_8 (by decide) (fun q => ?_) (fun q => ?_)
    · rw [if_pos q] at h
      refine lv_lconst (v := 0) hx hb dL_stick_15 (by decide) ?_
      refine r_last (q0 := 0) C hp rfl dL_stick_16 vin01 (fun H locs hp => ?_)
      refine lv_goto (tgt := 24) hx hb dL_stick_17 (by decide) ?_
      refine lv_iconst (v := 0) hx hb dL_stick_24 (by decide) ?_
      refine W.widen (k := 1) (n := 6) (lb rfl) (lb rfl) ?_
      exact r_iret C hp dL_stick_25 ⟨0, S1, vp_updL fo (0 : Int32).toNatClampNeg 0, rfl, rfl, h⟩
    · rw [if_neg q] at h
      refine lv_lconst (v := 1) hx hb dL_stick_11 (by decide) ?_
      refine lv_goto (tgt := 16) hx hb dL_stick_12 (by decide) ?_
      refine r_last (q0 := 0) C hp rfl dL_stick_16 vin01 (fun H locs hp => ?_)
      refine lv_goto (tgt := 24) hx hb dL_stick_17 (by decide) ?_
      refine lv_iconst (v := 0) hx hb dL_stick_24 (by decide) ?_
      refine W.widen (k := 1) (n := 6) (lb rfl) (lb rfl) ?_
      exact r_iret C hp dL_stick_25 ⟨0, S1, vp_updL fo (0 : Int32).toNatClampNeg 1, rfl, rfl, h⟩
theorem mfw_L_stick : MFw yL_stick cL_stick 5 (some .int) [(0, 17, 20, 25)] 4 := ⟨kc_L_stick, ks_L_stick, ki_L, by decide +kernel⟩
set_option maxHeartbeats 4000000 in
theorem c_L_fill {ao : Nat} {fo : Nat → UInt64} {S : HS} {a0 : Int32} {a1 : UInt64} {post : Int32 → HS → UInt64 → Prop} (hZ : ZOK G Z) (h9 : ZO2 l E0 Z) (h : wp_X2_fill a0 a1 S (fun r S1 => post 0 S1 r) (fun E => (E = xIOB ∧ post 1 S (fo 0)) ∨ (E = xIAE ∧ post 2 S (fo 0)))) : CMW l G Z yL_fill cL_fill 6 (some .int) [(0, 10, 13, 25), (0, 10, 17, 13)] (rmB 7 115 1 6) [.ref (ad 0), .int a0, .double a1, .ref ao] ((ao, .inl (G.2 1, 1, .inr (.inr (.inr (.inl fo))))) :: wH G E0 ad S) (fun v w1 => ∃ (k : Int32) (S1 : HS) (f1 : Nat → UInt64), v = some (.int k) ∧ w1 = (ao, .inl (G.2 1, 1, .inr (.inr (.inr (.inl f1))))) :: wH G E0 ad S1 ∧ post k S1 (f1 0)) := by
  refine CMW_ofW hZ (by decide) (lb rfl) (fun p e s m below meth c ls C hp hl htab => ?_)
  have C : Cx G Z _ p s m _ meth c RL cL_fill 6 (some .int) := C
  have hl : lv_has ls 6 [(0, .ref (ad 0)), (1, .int a0), (2, .double a1), (4, .ref ao)] := hl
  have hx := C.hx
  have hb := C.hb
  refine lv_aload hx hb dL_fill_0 (lv_at hl 3 rfl) ?_
  refine lv_iconst (v := 0) hx hb dL_fill_2 (by decide) ?_
  refine lv_aload_n hx hb dL_fill_3 rfl (lv_at hl 0 rfl) ?_
  refine lv_iload_n hx hb dL_fill_4 rfl (lv_at hl 1 rfl) ?_
  refine lv_dload_n hx hb dL_fill_5 rfl (lv_at hl 2 rfl) ?_
  have hp : Hp G _ s s.heap [] ([(ao, .inl (G.2 1, 1, .inr (.inr (.inr (.inl fo)))))] ++ wH G E0 ad S) := hp
  refine r_callVXF (q0 := 0) (ci := 2) (rest := [.int 0, .ref ao]) (c_X2_fill (E0 := E0) (ad := ad) C.hZ h9 h) C hp mf_X2_fill km_L_31 hl.1 dL_fill_6 rfl rfl ⟨lb rfl, lb rfl, lb rfl, lb rfl⟩ rfl rfl (lb rfl) (fun E ce q H1 locs1 hE hp1 h1 h2 h3 => ?_) (fun v w1 H locs hv hp => ?_)
  · rcases hE with ⟨rfl, hE⟩ | ⟨rfl, hE⟩
    · refine vx_catch (own := RL) (name := xIOB) C.hown [] ⟨0, 10, 13, 25⟩ [⟨0, 10, 17, 13⟩] (htab.trans rfl) (fun z hz => nomatch hz) rfl (by decide) (C.hts _ kl_L_25) (va_Nw.use rfl (va_Nw.warmC C.hW h9.2.1.2.2.1)) h1 h2 h3 ?_
      refine lv_astore (x := q) (lv' := [(5, .ref q), (0, .ref (ad 0)), (1, .int a0), (2, .double a1), (4, .ref ao)]) hx hb dL_fill_13 hl (by decide) rfl (fun ls hl => ?_)
      refine lv_iconst (v := 1) hx hb dL_fill_15 (by decide) ?_
      refine W.widen (k := 1) (n := 6) (lb rfl) (lb rfl) ?_
      exact r_iret C hp1 dL_fill_16 ⟨1, S, fo, rfl, rfl, hE⟩
    · refine vx_catch (own := RL) (name := xIAE) C.hown [⟨0, 10, 13, 25⟩] ⟨0, 10, 17, 13⟩ [] (htab.trans rfl) (fun z hz => by rw [List.mem_singleton.mp hz]; exact Or.inr ⟨by decide, xIOB, C.hts _ kl_L_25, va_Nc.moved C.hW.alike h9.2.2.2.2.2.2.2.2.2.2.1.2⟩) rfl (by decide) (C.hts _ kl_L_13) (va_Nw.use rfl (va_Nw.warmC C.hW h9.2.1.1)) h1 h2 h3 ?_
      refine lv_astore (x := q) (lv' := [(5, .ref q), (0, .ref (ad 0)), (1, .int a0), (2, .double a1), (4, .ref ao)]) hx hb dL_fill_17 hl (by decide) rfl (fun ls hl => ?_)
      refine lv_iconst (v := 2) hx hb dL_fill_19 (by decide) ?_
      refine W.widen (k := 1) (n := 6) (lb rfl) (lb rfl) ?_
      exact r_iret C hp1 dL_fill_20 ⟨2, S, fo, rfl, rfl, hE⟩
  · obtain ⟨r, S1, rfl, rfl, h⟩ := hv
    refine W.eq (g2 := F0 m 9 ls [.double r, .int 0, .ref ao]) rfl ?_
    refine r_dast (q0 := 0) C hp rfl dL_fill_9 vin01 (fun H locs hp => ?_)
    refine lv_goto (tgt := 21) hx hb dL_fill_10 (by decide) ?_
    refine lv_iconst (v := 0) hx hb dL_fill_21 (by decide) ?_
    refine W.widen (k := 1) (n := 6) (lb rfl) (lb rfl) ?_
    exact r_iret C hp dL_fill_22 ⟨0, S1, vf_upd fo (0 : Int32).toNatClampNeg r, rfl, rfl, h⟩
theorem mfw_L_fill : MFw yL_fill cL_fill 6 (some .int) [(0, 10, 13, 25), (0, 10, 17, 13)] 4 := ⟨kc_L_fill, ks_L_fill, ki_L, by decide +kernel⟩
set_option maxHeartbeats 4000000 in
theorem c_L_tick {ao : Nat} {fo : Nat → Int64} {S : HS} {a0 : Int32} {post : Int32 → HS → Int64 → Prop} (hZ : ZOK G Z) (h9 : ZO2 l E0 Z) (h : wp_X2_tick a0 S (fun r S1 => post 0 S1 r.toInt64) (fun E => (E = xIAE ∧ post 1 S (fo 0)))) : CMW l G Z yL_tick cL_tick 4 (some .int) [(0, 9, 12, 13)] (rmB 9 265 8 250) [.ref (ad 0), .int a0, .ref ao] ((ao, .inl (G.2 4, 1, .inr (.inl fo))) :: wH G E0 ad S) (fun v w1 => ∃ (k : Int32) (S1 : HS) (f1 : Nat → Int64), v = some (.int k) ∧ w1 = (ao, .inl (G.2 4, 1, .inr (.inl f1))) :: wH G E0 ad S1 ∧ post k S1 (f1 0)) := by
  refine CMW_ofW hZ (by decide) (lb rfl) (fun p e s m below meth c ls C hp hl htab => ?_)
  have C : Cx G Z _ p s m _ meth c RL cL_tick 4 (some .int) := C
  have hl : lv_has ls 4 [(0, .ref (ad 0)), (1, .int a0), (2, .ref ao)] := hl
  have hx := C.hx
  have hb := C.hb
  refine lv_aload_n hx hb dL_tick_0 rfl (lv_at hl 2 rfl) ?_
  refine lv_iconst (v := 0) hx hb dL_tick_1 (by decide) ?_
  refine lv_aload_n hx hb dL_tick_2 rfl (lv_at hl 0 rfl) ?_
  refine lv_iload_n hx hb dL_tick_3 rfl (lv_at hl 1 rfl) ?_
  have hp : Hp G _ s s.heap [] ([(ao, .inl (G.2 4, 1, .inr (.inl fo)))] ++ wH G E0 ad S) := hp
  refine r_callVXF (q0 := 0) (ci := 2) (rest := [.int 0, .ref ao]) (c_X2_tick (E0 := E0) (ad := ad) C.hZ h9 h) C hp mf_X2_tick km_L_34 hl.1 dL_tick_4 rfl rfl ⟨lb rfl, lb rfl, lb rfl, lb rfl⟩ rfl rfl (lb rfl) (fun E ce q H1 locs1 hE hp1 h1 h2 h3 => ?_) (fun v w1 H locs hv hp => ?_)
  · obtain ⟨rfl, hE⟩ := hE
    refine vx_catch (own := RL) (name := xIAE) C.hown [] ⟨0, 9, 12, 13⟩ [] (htab.trans rfl) (fun z hz => nomatch hz) rfl (by decide) (C.hts _ kl_L_13) (va_Nw.use rfl (va_Nw.warmC C.hW h9.2.1.1)) h1 h2 h3 ?_
    refine lv_astore_n (x := q) (lv' := [(3, .ref q), (0, .ref (ad 0)), (1, .int a0), (2, .ref ao)]) hx hb dL_tick_12 rfl hl (by decide) rfl (fun ls hl => ?_)
    refine lv_iconst (v := 1) hx hb dL_tick_13 (by decide) ?_
    refine W.widen (k := 8) (n := 250) (lb rfl) (lb rfl) ?_
    exact r_iret C hp1 dL_tick_14 ⟨1, S, fo, rfl, rfl, hE⟩
  · obtain ⟨r, S1, rfl, rfl, h⟩ := hv
    refine W.eq (g2 := F0 m 7 ls [.int r, .int 0, .ref ao]) rfl ?_
    refine lv_i2l hx hb dL_tick_7 rfl ?_
    refine r_last (q0 := 0) C hp rfl dL_tick_8 vin01 (fun H locs hp => ?_)
    refine lv_goto (tgt := 15) hx hb dL_tick_9 (by decide) ?_
    refine lv_iconst (v := 0) hx hb dL_tick_15 (by decide) ?_
    refine W.widen (k := 8) (n := 250) (lb rfl) (lb rfl) ?_
    exact r_iret C hp dL_tick_16 ⟨0, S1, vp_updL fo (0 : Int32).toNatClampNeg r.toInt64, rfl, rfl, h⟩
theorem mfw_L_tick : MFw yL_tick cL_tick 4 (some .int) [(0, 9, 12, 13)] 3 := ⟨kc_L_tick, ks_L_tick, ki_L, by decide +kernel⟩
set_option maxHeartbeats 4000000 in
theorem c_L_place {ao : Nat} {fo : Nat → UInt64} {S : HS} {a0 : Int32} {post : Int32 → HS → UInt64 → Prop} (hZ : ZOK G Z) (h9 : ZO2 l E0 Z) (h : wp_X2_place S a0 (fun r => post 0 S r) (fun E => (E = xIOB ∧ post 1 S (fo 0)))) : CMW l G Z yL_place cL_place 4 (some .int) [(0, 8, 11, 25)] (rmB 8 132 1 6) [.ref (ad 0), .int a0, .ref ao] ((ao, .inl (G.2 1, 1, .inr (.inr (.inr (.inl fo))))) :: wH G E0 ad S) (fun v w1 => ∃ (k : Int32) (S1 : HS) (f1 : Nat → UInt64), v = some (.int k) ∧ w1 = (ao, .inl (G.2 1, 1, .inr (.inr (.inr (.inl f1))))) :: wH G E0 ad S1 ∧ post k S1 (f1 0)) := by
  refine CMW_ofW hZ (by decide) (lb rfl) (fun p e s m below meth c ls C hp hl htab => ?_)
  have C : Cx G Z _ p s m _ meth c RL cL_place 4 (some .int) := C
  have hl : lv_has ls 4 [(0, .ref (ad 0)), (1, .int a0), (2, .ref ao)] := hl
  have hx := C.hx
  have hb := C.hb
  refine lv_aload_n hx hb dL_place_0 rfl (lv_at hl 2 rfl) ?_
  refine lv_iconst (v := 0) hx hb dL_place_1 (by decide) ?_
  refine lv_aload_n hx hb dL_place_2 rfl (lv_at hl 0 rfl) ?_
  refine lv_iload_n hx hb dL_place_3 rfl (lv_at hl 1 rfl) ?_
  have hp : Hp G _ s s.heap [] ([(ao, .inl (G.2 1, 1, .inr (.inr (.inr (.inl fo)))))] ++ wH G E0 ad S) := hp
  refine r_callVXF (q0 := 0) (ci := 2) (rest := [.int 0, .ref ao]) (c_X2_place (E0 := E0) (ad := ad) C.hZ h9 h) C hp mf_X2_place km_L_38 hl.1 dL_place_4 rfl rfl ⟨lb rfl, lb rfl, lb rfl, lb rfl⟩ rfl rfl (lb rfl) (fun E ce q H1 locs1 hE hp1 h1 h2 h3 => ?_) (fun v w1 H locs hv hp => ?_)
  · obtain ⟨rfl, hE⟩ := hE
    refine vx_catch (own := RL) (name := xIOB) C.hown [] ⟨0, 8, 11, 25⟩ [] (htab.trans rfl) (fun z hz => nomatch hz) rfl (by decide) (C.hts _ kl_L_25) (va_Nw.use rfl (va_Nw.warmC C.hW h9.2.1.2.2.1)) h1 h2 h3 ?_
    refine lv_astore_n (x := q) (lv' := [(3, .ref q), (0, .ref (ad 0)), (1, .int a0), (2, .ref ao)]) hx hb dL_place_11 rfl hl (by decide) rfl (fun ls hl => ?_)
    refine lv_iconst (v := 1) hx hb dL_place_12 (by decide) ?_
    refine W.widen (k := 1) (n := 6) (lb rfl) (lb rfl) ?_
    exact r_iret C hp1 dL_place_13 ⟨1, S, fo, rfl, rfl, hE⟩
  · obtain ⟨r, rfl, rfl, h⟩ := hv
    refine W.eq (g2 := F0 m 7 ls [.double r, .int 0, .ref ao]) rfl ?_
    refine r_dast (q0 := 0) C hp rfl dL_place_7 vin01 (fun H locs hp => ?_)
    refine lv_goto (tgt := 14) hx hb dL_place_8 (by decide) ?_
    refine lv_iconst (v := 0) hx hb dL_place_14 (by decide) ?_
    refine W.widen (k := 1) (n := 6) (lb rfl) (lb rfl) ?_
    exact r_iret C hp dL_place_15 ⟨0, S, vf_upd fo (0 : Int32).toNatClampNeg r, rfl, rfl, h⟩
theorem mfw_L_place : MFw yL_place cL_place 4 (some .int) [(0, 8, 11, 25)] 3 := ⟨kc_L_place, ks_L_place, ki_L, by decide +kernel⟩
set_option maxHeartbeats 4000000 in
theorem c_L_speed {ao : Nat} {fo : Nat → UInt64} {S : HS} {a0 : Int32} {post : Int32 → HS → UInt64 → Prop} (hZ : ZOK G Z) (h9 : ZO2 l E0 Z) (h : wp_X2_speed S a0 (fun r => post 0 S r) (fun E => (E = xIOB ∧ post 1 S (fo 0)))) : CMW l G Z yL_speed cL_speed 4 (some .int) [(0, 8, 11, 25)] (rmB 8 132 1 6) [.ref (ad 0), .int a0, .ref ao] ((ao, .inl (G.2 1, 1, .inr (.inr (.inr (.inl fo))))) :: wH G E0 ad S) (fun v w1 => ∃ (k : Int32) (S1 : HS) (f1 : Nat → UInt64), v = some (.int k) ∧ w1 = (ao, .inl (G.2 1, 1, .inr (.inr (.inr (.inl f1))))) :: wH G E0 ad S1 ∧ post k S1 (f1 0)) := by
  refine CMW_ofW hZ (by decide) (lb rfl) (fun p e s m below meth c ls C hp hl htab => ?_)
  have C : Cx G Z _ p s m _ meth c RL cL_speed 4 (some .int) := C
  have hl : lv_has ls 4 [(0, .ref (ad 0)), (1, .int a0), (2, .ref ao)] := hl
  have hx := C.hx
  have hb := C.hb
  refine lv_aload_n hx hb dL_speed_0 rfl (lv_at hl 2 rfl) ?_
  refine lv_iconst (v := 0) hx hb dL_speed_1 (by decide) ?_
  refine lv_aload_n hx hb dL_speed_2 rfl (lv_at hl 0 rfl) ?_
  refine lv_iload_n hx hb dL_speed_3 rfl (lv_at hl 1 rfl) ?_
  have hp : Hp G _ s s.heap [] ([(ao, .inl (G.2 1, 1, .inr (.inr (.inr (.inl fo)))))] ++ wH G E0 ad S) := hp
  refine r_callVXF (q0 := 0) (ci := 2) (rest := [.int 0, .ref ao]) (c_X2_speed (E0 := E0) (ad := ad) C.hZ h9 h) C hp mf_X2_speed km_L_42 hl.1 dL_speed_4 rfl rfl ⟨lb rfl, lb rfl, lb rfl, lb rfl⟩ rfl rfl (lb rfl) (fun E ce q H1 locs1 hE hp1 h1 h2 h3 => ?_) (fun v w1 H locs hv hp => ?_)
  · obtain ⟨rfl, hE⟩ := hE
    refine vx_catch (own := RL) (name := xIOB) C.hown [] ⟨0, 8, 11, 25⟩ [] (htab.trans rfl) (fun z hz => nomatch hz) rfl (by decide) (C.hts _ kl_L_25) (va_Nw.use rfl (va_Nw.warmC C.hW h9.2.1.2.2.1)) h1 h2 h3 ?_
    refine lv_astore_n (x := q) (lv' := [(3, .ref q), (0, .ref (ad 0)), (1, .int a0), (2, .ref ao)]) hx hb dL_speed_11 rfl hl (by decide) rfl (fun ls hl => ?_)
    refine lv_iconst (v := 1) hx hb dL_speed_12 (by decide) ?_
    refine W.widen (k := 1) (n := 6) (lb rfl) (lb rfl) ?_
    exact r_iret C hp1 dL_speed_13 ⟨1, S, fo, rfl, rfl, hE⟩
  · obtain ⟨r, rfl, rfl, h⟩ := hv
    refine W.eq (g2 := F0 m 7 ls [.double r, .int 0, .ref ao]) rfl ?_
    refine r_dast (q0 := 0) C hp rfl dL_speed_7 vin01 (fun H locs hp => ?_)
    refine lv_goto (tgt := 14) hx hb dL_speed_8 (by decide) ?_
    refine lv_iconst (v := 0) hx hb dL_speed_14 (by decide) ?_
    refine W.widen (k := 1) (n := 6) (lb rfl) (lb rfl) ?_
    exact r_iret C hp dL_speed_15 ⟨0, S, vf_upd fo (0 : Int32).toNatClampNeg r, rfl, rfl, h⟩
theorem mfw_L_speed : MFw yL_speed cL_speed 4 (some .int) [(0, 8, 11, 25)] 3 := ⟨kc_L_speed, ks_L_speed, ki_L, by decide +kernel⟩
set_option maxHeartbeats 4000000 in
theorem c_L_told {ao : Nat} {fo : Nat → Int64} {S : HS} {a0 : Int32} {a1 : Int32} {post : Int32 → HS → Int64 → Prop} (hZ : ZOK G Z) (h9 : ZO2 l E0 Z) (h : wp_X2_told S a0 a1 (fun r => post 0 S r.toInt64) (fun E => (E = xIOB ∧ post 1 S (fo 0)) ∨ (E = xIAE ∧ post 2 S (fo 0)))) : CMW l G Z yL_told cL_told 5 (some .int) [(0, 10, 13, 25), (0, 10, 17, 13)] (rmB 8 134 2 12) [.ref (ad 0), .int a0, .int a1, .ref ao] ((ao, .inl (G.2 4, 1, .inr (.inl fo))) :: wH G E0 ad S) (fun v w1 => ∃ (k : Int32) (S1 : HS) (f1 : Nat → Int64), v = some (.int k) ∧ w1 = (ao, .inl (G.2 4, 1, .inr (.inl f1))) :: wH G E0 ad S1 ∧ post k S1 (f1 0)) := by
  refine CMW_ofW hZ (by decide) (lb rfl) (fun p e s m below meth c ls C hp hl htab => ?_)
  have C : Cx G Z _ p s m _ meth c RL cL_told 5 (some .int) := C
  have hl : lv_has ls 5 [(0, .ref (ad 0)), (1, .int a0), (2, .int a1), (3, .ref ao)] := hl
  have hx := C.hx
  have hb := C.hb
  refine lv_aload_n hx hb dL_told_0 rfl (lv_at hl 3 rfl) ?_
  refine lv_iconst (v := 0) hx hb dL_told_1 (by decide) ?_
  refine lv_aload_n hx hb dL_told_2 rfl (lv_at hl 0 rfl) ?_
  refine lv_iload_n hx hb dL_told_3 rfl (lv_at hl 1 rfl) ?_
  refine lv_iload_n hx hb dL_told_4 rfl (lv_at hl 2 rfl) ?_
  have hp : Hp G _ s s.heap [] ([(ao, .inl (G.2 4, 1, .inr (.inl fo)))] ++ wH G E0 ad S) := hp
  refine r_callVXF (q0 := 0) (ci := 2) (rest := [.int 0, .ref ao]) (c_X2_told (E0 := E0) (ad := ad) C.hZ h9 h) C hp mf_X2_told km_L_45 hl.1 dL_told_5 rfl rfl ⟨lb rfl, lb rfl, lb rfl, lb rfl⟩ rfl rfl (lb rfl) (fun E ce q H1 locs1 hE hp1 h1 h2 h3 => ?_) (fun v w1 H locs hv hp => ?_)
  · rcases hE with ⟨rfl, hE⟩ | ⟨rfl, hE⟩
    · refine vx_catch (own := RL) (name := xIOB) C.hown [] ⟨0, 10, 13, 25⟩ [⟨0, 10, 17, 13⟩] (htab.trans rfl) (fun z hz => nomatch hz) rfl (by decide) (C.hts _ kl_L_25) (va_Nw.use rfl (va_Nw.warmC C.hW h9.2.1.2.2.1)) h1 h2 h3 ?_
      refine lv_astore (x := q) (lv' := [(4, .ref q), (0, .ref (ad 0)), (1, .int a0), (2, .int a1), (3, .ref ao)]) hx hb dL_told_13 hl (by decide) rfl (fun ls hl => ?_)
      refine lv_iconst (v := 1) hx hb dL_told_15 (by decide) ?_
      refine W.widen (k := 2) (n := 12) (lb rfl) (lb rfl) ?_
      exact r_iret C hp1 dL_told_16 ⟨1, S, fo, rfl, rfl, hE⟩
    · refine vx_catch (own := RL) (name := xIAE) C.hown [⟨0, 10, 13, 25⟩] ⟨0, 10, 17, 13⟩ [] (htab.trans rfl) (fun z hz => by rw [List.mem_singleton.mp hz]; exact Or.inr ⟨by decide, xIOB, C.hts _ kl_L_25, va_Nc.moved C.hW.alike h9.2.2.2.2.2.2.2.2.2.2.1.2⟩) rfl (by decide) (C.hts _ kl_L_13) (va_Nw.use rfl (va_Nw.warmC C.hW h9.2.1.1)) h1 h2 h3 ?_
      refine lv_astore (x := q) (lv' := [(4, .ref q), (0, .ref (ad 0)), (1, .int a0), (2, .int a1), (3, .ref ao)]) hx hb dL_told_17 hl (by decide) rfl (fun ls hl => ?_)
      refine lv_iconst (v := 2) hx hb dL_told_19 (by decide) ?_
      refine W.widen (k := 2) (n := 12) (lb rfl) (lb rfl) ?_
      exact r_iret C hp1 dL_told_20 ⟨2, S, fo, rfl, rfl, hE⟩
  · obtain ⟨r, rfl, rfl, h⟩ := hv
    refine W.eq (g2 := F0 m 8 ls [.int r, .int 0, .ref ao]) rfl ?_
    refine lv_i2l hx hb dL_told_8 rfl ?_
    refine r_last (q0 := 0) C hp rfl dL_told_9 vin01 (fun H locs hp => ?_)
    refine lv_goto (tgt := 21) hx hb dL_told_10 (by decide) ?_
    refine lv_iconst (v := 0) hx hb dL_told_21 (by decide) ?_
    refine W.widen (k := 2) (n := 12) (lb rfl) (lb rfl) ?_
    exact r_iret C hp dL_told_22 ⟨0, S, vp_updL fo (0 : Int32).toNatClampNeg r.toInt64, rfl, rfl, h⟩
theorem mfw_L_told : MFw yL_told cL_told 5 (some .int) [(0, 10, 13, 25), (0, 10, 17, 13)] 4 := ⟨kc_L_told, ks_L_told, ki_L, by decide +kernel⟩
set_option maxHeartbeats 4000000 in
theorem c_L_point {ao : Nat} {fo : Nat → Int64} {S : HS} {a0 : Int32} {a1 : Int32} {post : Int32 → HS → Int64 → Prop} (hZ : ZOK G Z) (h9 : ZO2 l E0 Z) (h : wp_X2_point S a0 a1 (fun r => post 0 S r.toInt64) (fun E => (E = xIOB ∧ post 1 S (fo 0)) ∨ (E = xIAE ∧ post 2 S (fo 0)))) : CMW l G Z yL_point cL_point 5 (some .int) [(0, 10, 13, 25), (0, 10, 17, 13)] (rmB 7 112 1 6) [.ref (ad 0), .int a0, .int a1, .ref ao] ((ao, .inl (G.2 4, 1, .inr (.inl fo))) :: wH G E0 ad S) (fun v w1 => ∃ (k : Int32) (S1 : HS) (f1 : Nat → Int64), v = some (.int k) ∧ w1 = (ao, .inl (G.2 4, 1, .inr (.inl f1))) :: wH G E0 ad S1 ∧ post k S1 (f1 0)) := by
  refine CMW_ofW hZ (by decide) (lb rfl) (fun p e s m below meth c ls C hp hl htab => ?_)
  have C : Cx G Z _ p s m _ meth c RL cL_point 5 (some .int) := C
  have hl : lv_has ls 5 [(0, .ref (ad 0)), (1, .int a0), (2, .int a1), (3, .ref ao)] := hl
  have hx := C.hx
  have hb := C.hb
  refine lv_aload_n hx hb dL_point_0 rfl (lv_at hl 3 rfl) ?_
  refine lv_iconst (v := 0) hx hb dL_point_1 (by decide) ?_
  refine lv_aload_n hx hb dL_point_2 rfl (lv_at hl 0 rfl) ?_
  refine lv_iload_n hx hb dL_point_3 rfl (lv_at hl 1 rfl) ?_
  refine lv_iload_n hx hb dL_point_4 rfl (lv_at hl 2 rfl) ?_
  have hp : Hp G _ s s.heap [] ([(ao, .inl (G.2 4, 1, .inr (.inl fo)))] ++ wH G E0 ad S) := hp
  refine r_callVXF (q0 := 0) (ci := 2) (rest := [.int 0, .ref ao]) (c_X2_point (E0 := E0) (ad := ad) C.hZ h9 h) C hp mf_X2_point km_L_49 hl.1 dL_point_5 rfl rfl ⟨lb rfl, lb rfl, lb rfl, lb rfl⟩ rfl rfl (lb rfl) (fun E ce q H1 locs1 hE hp1 h1 h2 h3 => ?_) (fun v w1 H locs hv hp => ?_)
  · rcases hE with ⟨rfl, hE⟩ | ⟨rfl, hE⟩
    · refine vx_catch (own := RL) (name := xIOB) C.hown [] ⟨0, 10, 13, 25⟩ [⟨0, 10, 17, 13⟩] (htab.trans rfl) (fun z hz => nomatch hz) rfl (by decide) (C.hts _ kl_L_25) (va_Nw.use rfl (va_Nw.warmC C.hW h9.2.1.2.2.1)) h1 h2 h3 ?_
      refine lv_astore (x := q) (lv' := [(4, .ref q), (0, .ref (ad 0)), (1, .int a0), (2, .int a1), (3, .ref ao)]) hx hb dL_point_13 hl (by decide) rfl (fun ls hl => ?_)
      refine lv_iconst (v := 1) hx hb dL_point_15 (by decide) ?_
      refine W.widen (k := 1) (n := 6) (lb rfl) (lb rfl) ?_
      exact r_iret C hp1 dL_point_16 ⟨1, S, fo, rfl, rfl, hE⟩
    · refine vx_catch (own := RL) (name := xIAE) C.hown [⟨0, 10, 13, 25⟩] ⟨0, 10, 17, 13⟩ [] (htab.trans rfl) (fun z hz => by rw [List.mem_singleton.mp hz]; exact Or.inr ⟨by decide, xIOB, C.hts _ kl_L_25, va_Nc.moved C.hW.alike h9.2.2.2.2.2.2.2.2.2.2.1.2⟩) rfl (by decide) (C.hts _ kl_L_13) (va_Nw.use rfl (va_Nw.warmC C.hW h9.2.1.1)) h1 h2 h3 ?_
      refine lv_astore (x := q) (lv' := [(4, .ref q), (0, .ref (ad 0)), (1, .int a0), (2, .int a1), (3, .ref ao)]) hx hb dL_point_17 hl (by decide) rfl (fun ls hl => ?_)
      refine lv_iconst (v := 2) hx hb dL_point_19 (by decide) ?_
      refine W.widen (k := 1) (n := 6) (lb rfl) (lb rfl) ?_
      exact r_iret C hp1 dL_point_20 ⟨2, S, fo, rfl, rfl, hE⟩
  · obtain ⟨r, rfl, rfl, h⟩ := hv
    refine W.eq (g2 := F0 m 8 ls [.int r, .int 0, .ref ao]) rfl ?_
    refine lv_i2l hx hb dL_point_8 rfl ?_
    refine r_last (q0 := 0) C hp rfl dL_point_9 vin01 (fun H locs hp => ?_)
    refine lv_goto (tgt := 21) hx hb dL_point_10 (by decide) ?_
    refine lv_iconst (v := 0) hx hb dL_point_21 (by decide) ?_
    refine W.widen (k := 1) (n := 6) (lb rfl) (lb rfl) ?_
    exact r_iret C hp dL_point_22 ⟨0, S, vp_updL fo (0 : Int32).toNatClampNeg r.toInt64, rfl, rfl, h⟩
theorem mfw_L_point : MFw yL_point cL_point 5 (some .int) [(0, 10, 13, 25), (0, 10, 17, 13)] 4 := ⟨kc_L_point, ks_L_point, ki_L, by decide +kernel⟩
set_option maxHeartbeats 4000000 in
theorem c_L_siding {ao : Nat} {fo : Nat → Int64} {S : HS} {a0 : Int32} {a1 : Int32} {post : Int32 → HS → Int64 → Prop} (hZ : ZOK G Z) (h9 : ZO2 l E0 Z) (h : wp_X2_siding S a0 a1 (fun r => post 0 S r.toInt64) (fun E => (E = xIOB ∧ post 1 S (fo 0)))) : CMW l G Z yL_siding cL_siding 5 (some .int) [(0, 10, 13, 25)] (rmB 7 113 1 6) [.ref (ad 0), .int a0, .int a1, .ref ao] ((ao, .inl (G.2 4, 1, .inr (.inl fo))) :: wH G E0 ad S) (fun v w1 => ∃ (k : Int32) (S1 : HS) (f1 : Nat → Int64), v = some (.int k) ∧ w1 = (ao, .inl (G.2 4, 1, .inr (.inl f1))) :: wH G E0 ad S1 ∧ post k S1 (f1 0)) := by
  refine CMW_ofW hZ (by decide) (lb rfl) (fun p e s m below meth c ls C hp hl htab => ?_)
  have C : Cx G Z _ p s m _ meth c RL cL_siding 5 (some .int) := C
  have hl : lv_has ls 5 [(0, .ref (ad 0)), (1, .int a0), (2, .int a1), (3, .ref ao)] := hl
  have hx := C.hx
  have hb := C.hb
  refine lv_aload_n hx hb dL_siding_0 rfl (lv_at hl 3 rfl) ?_
  refine lv_iconst (v := 0) hx hb dL_siding_1 (by decide) ?_
  refine lv_aload_n hx hb dL_siding_2 rfl (lv_at hl 0 rfl) ?_
  refine lv_iload_n hx hb dL_siding_3 rfl (lv_at hl 1 rfl) ?_
  refine lv_iload_n hx hb dL_siding_4 rfl (lv_at hl 2 rfl) ?_
  have hp : Hp G _ s s.heap [] ([(ao, .inl (G.2 4, 1, .inr (.inl fo)))] ++ wH G E0 ad S) := hp
  refine r_callVXF (q0 := 0) (ci := 2) (rest := [.int 0, .ref ao]) (c_X2_siding (E0 := E0) (ad := ad) C.hZ h9 h) C hp mf_X2_siding km_L_52 hl.1 dL_siding_5 rfl rfl ⟨lb rfl, lb rfl, lb rfl, lb rfl⟩ rfl rfl (lb rfl) (fun E ce q H1 locs1 hE hp1 h1 h2 h3 => ?_) (fun v w1 H locs hv hp => ?_)
  · obtain ⟨rfl, hE⟩ := hE
    refine vx_catch (own := RL) (name := xIOB) C.hown [] ⟨0, 10, 13, 25⟩ [] (htab.trans rfl) (fun z hz => nomatch hz) rfl (by decide) (C.hts _ kl_L_25) (va_Nw.use rfl (va_Nw.warmC C.hW h9.2.1.2.2.1)) h1 h2 h3 ?_
    refine lv_astore (x := q) (lv' := [(4, .ref q), (0, .ref (ad 0)), (1, .int a0), (2, .int a1), (3, .ref ao)]) hx hb dL_siding_13 hl (by decide) rfl (fun ls hl => ?_)
    refine lv_iconst (v := 1) hx hb dL_siding_15 (by decide) ?_
    refine W.widen (k := 1) (n := 6) (lb rfl) (lb rfl) ?_
    exact r_iret C hp1 dL_siding_16 ⟨1, S, fo, rfl, rfl, hE⟩
  · obtain ⟨r, rfl, rfl, h⟩ := hv
    refine W.eq (g2 := F0 m 8 ls [.int r, .int 0, .ref ao]) rfl ?_
    refine lv_i2l hx hb dL_siding_8 rfl ?_
    refine r_last (q0 := 0) C hp rfl dL_siding_9 vin01 (fun H locs hp => ?_)
    refine lv_goto (tgt := 17) hx hb dL_siding_10 (by decide) ?_
    refine lv_iconst (v := 0) hx hb dL_siding_17 (by decide) ?_
    refine W.widen (k := 1) (n := 6) (lb rfl) (lb rfl) ?_
    exact r_iret C hp dL_siding_18 ⟨0, S, vp_updL fo (0 : Int32).toNatClampNeg r.toInt64, rfl, rfl, h⟩
theorem mfw_L_siding : MFw yL_siding cL_siding 5 (some .int) [(0, 10, 13, 25)] 4 := ⟨kc_L_siding, ks_L_siding, ki_L, by decide +kernel⟩
set_option maxHeartbeats 4000000 in
theorem c_L_event {ao : Nat} {fo : Nat → Int64} {S : HS} {a0 : Int32} {a1 : Int32} {post : Int32 → HS → Int64 → Prop} (hZ : ZOK G Z) (h9 : ZO2 l E0 Z) (h : wp_X2_event S a0 a1 (fun r => post 0 S r.toInt64) (fun E => (E = xIOB ∧ post 1 S (fo 0)) ∨ (E = xIAE ∧ post 2 S (fo 0)))) : CMW l G Z yL_event cL_event 5 (some .int) [(0, 10, 13, 25), (0, 10, 17, 13)] (rmB 7 112 1 6) [.ref (ad 0), .int a0, .int a1, .ref ao] ((ao, .inl (G.2 4, 1, .inr (.inl fo))) :: wH G E0 ad S) (fun v w1 => ∃ (k : Int32) (S1 : HS) (f1 : Nat → Int64), v = some (.int k) ∧ w1 = (ao, .inl (G.2 4, 1, .inr (.inl f1))) :: wH G E0 ad S1 ∧ post k S1 (f1 0)) := by
  refine CMW_ofW hZ (by decide) (lb rfl) (fun p e s m below meth c ls C hp hl htab => ?_)
  have C : Cx G Z _ p s m _ meth c RL cL_event 5 (some .int) := C
  have hl : lv_has ls 5 [(0, .ref (ad 0)), (1, .int a0), (2, .int a1), (3, .ref ao)] := hl
  have hx := C.hx
  have hb := C.hb
  refine lv_aload_n hx hb dL_event_0 rfl (lv_at hl 3 rfl) ?_
  refine lv_iconst (v := 0) hx hb dL_event_1 (by decide) ?_
  refine lv_aload_n hx hb dL_event_2 rfl (lv_at hl 0 rfl) ?_
  refine lv_iload_n hx hb dL_event_3 rfl (lv_at hl 1 rfl) ?_
  refine lv_iload_n hx hb dL_event_4 rfl (lv_at hl 2 rfl) ?_
  have hp : Hp G _ s s.heap [] ([(ao, .inl (G.2 4, 1, .inr (.inl fo)))] ++ wH G E0 ad S) := hp
  refine r_callVXF (q0 := 0) (ci := 2) (rest := [.int 0, .ref ao]) (c_X2_event (E0 := E0) (ad := ad) C.hZ h9 h) C hp mf_X2_event km_L_55 hl.1 dL_event_5 rfl rfl ⟨lb rfl, lb rfl, lb rfl, lb rfl⟩ rfl rfl (lb rfl) (fun E ce q H1 locs1 hE hp1 h1 h2 h3 => ?_) (fun v w1 H locs hv hp => ?_)
  · rcases hE with ⟨rfl, hE⟩ | ⟨rfl, hE⟩
    · refine vx_catch (own := RL) (name := xIOB) C.hown [] ⟨0, 10, 13, 25⟩ [⟨0, 10, 17, 13⟩] (htab.trans rfl) (fun z hz => nomatch hz) rfl (by decide) (C.hts _ kl_L_25) (va_Nw.use rfl (va_Nw.warmC C.hW h9.2.1.2.2.1)) h1 h2 h3 ?_
      refine lv_astore (x := q) (lv' := [(4, .ref q), (0, .ref (ad 0)), (1, .int a0), (2, .int a1), (3, .ref ao)]) hx hb dL_event_13 hl (by decide) rfl (fun ls hl => ?_)
      refine lv_iconst (v := 1) hx hb dL_event_15 (by decide) ?_
      refine W.widen (k := 1) (n := 6) (lb rfl) (lb rfl) ?_
      exact r_iret C hp1 dL_event_16 ⟨1, S, fo, rfl, rfl, hE⟩
    · refine vx_catch (own := RL) (name := xIAE) C.hown [⟨0, 10, 13, 25⟩] ⟨0, 10, 17, 13⟩ [] (htab.trans rfl) (fun z hz => by rw [List.mem_singleton.mp hz]; exact Or.inr ⟨by decide, xIOB, C.hts _ kl_L_25, va_Nc.moved C.hW.alike h9.2.2.2.2.2.2.2.2.2.2.1.2⟩) rfl (by decide) (C.hts _ kl_L_13) (va_Nw.use rfl (va_Nw.warmC C.hW h9.2.1.1)) h1 h2 h3 ?_
      refine lv_astore (x := q) (lv' := [(4, .ref q), (0, .ref (ad 0)), (1, .int a0), (2, .int a1), (3, .ref ao)]) hx hb dL_event_17 hl (by decide) rfl (fun ls hl => ?_)
      refine lv_iconst (v := 2) hx hb dL_event_19 (by decide) ?_
      refine W.widen (k := 1) (n := 6) (lb rfl) (lb rfl) ?_
      exact r_iret C hp1 dL_event_20 ⟨2, S, fo, rfl, rfl, hE⟩
  · obtain ⟨r, rfl, rfl, h⟩ := hv
    refine W.eq (g2 := F0 m 8 ls [.int r, .int 0, .ref ao]) rfl ?_
    refine lv_i2l hx hb dL_event_8 rfl ?_
    refine r_last (q0 := 0) C hp rfl dL_event_9 vin01 (fun H locs hp => ?_)
    refine lv_goto (tgt := 21) hx hb dL_event_10 (by decide) ?_
    refine lv_iconst (v := 0) hx hb dL_event_21 (by decide) ?_
    refine W.widen (k := 1) (n := 6) (lb rfl) (lb rfl) ?_
    exact r_iret C hp dL_event_22 ⟨0, S, vp_updL fo (0 : Int32).toNatClampNeg r.toInt64, rfl, rfl, h⟩
theorem mfw_L_event : MFw yL_event cL_event 5 (some .int) [(0, 10, 13, 25), (0, 10, 17, 13)] 4 := ⟨kc_L_event, ks_L_event, ki_L, by decide +kernel⟩
set_option maxHeartbeats 4000000 in
theorem c_L_about {ao : Nat} {fo : Nat → Int64} {S : HS} {a0 : Int32} {post : Int32 → HS → Int64 → Prop} (hZ : ZOK G Z) (h9 : ZO2 l E0 Z) (h : wp_X2_about S a0 (fun r => post 0 S r.toInt64) (fun E => (E = xIAE ∧ post 1 S (fo 0)))) : CMW l G Z yL_about cL_about 4 (some .int) [(0, 9, 12, 13)] (rmB 7 111 1 6) [.ref (ad 0), .int a0, .ref ao] ((ao, .inl (G.2 4, 1, .inr (.inl fo))) :: wH G E0 ad S) (fun v w1 => ∃ (k : Int32) (S1 : HS) (f1 : Nat → Int64), v = some (.int k) ∧ w1 = (ao, .inl (G.2 4, 1, .inr (.inl f1))) :: wH G E0 ad S1 ∧ post k S1 (f1 0)) := by
  refine CMW_ofW hZ (by decide) (lb rfl) (fun p e s m below meth c ls C hp hl htab => ?_)
  have C : Cx G Z _ p s m _ meth c RL cL_about 4 (some .int) := C
  have hl : lv_has ls 4 [(0, .ref (ad 0)), (1, .int a0), (2, .ref ao)] := hl
  have hx := C.hx
  have hb := C.hb
  refine lv_aload_n hx hb dL_about_0 rfl (lv_at hl 2 rfl) ?_
  refine lv_iconst (v := 0) hx hb dL_about_1 (by decide) ?_
  refine lv_aload_n hx hb dL_about_2 rfl (lv_at hl 0 rfl) ?_
  refine lv_iload_n hx hb dL_about_3 rfl (lv_at hl 1 rfl) ?_
  have hp : Hp G _ s s.heap [] ([(ao, .inl (G.2 4, 1, .inr (.inl fo)))] ++ wH G E0 ad S) := hp
  refine r_callVXF (q0 := 0) (ci := 2) (rest := [.int 0, .ref ao]) (c_X2_about (E0 := E0) (ad := ad) C.hZ h9 h) C hp mf_X2_about km_L_58 hl.1 dL_about_4 rfl rfl ⟨lb rfl, lb rfl, lb rfl, lb rfl⟩ rfl rfl (lb rfl) (fun E ce q H1 locs1 hE hp1 h1 h2 h3 => ?_) (fun v w1 H locs hv hp => ?_)
  · obtain ⟨rfl, hE⟩ := hE
    refine vx_catch (own := RL) (name := xIAE) C.hown [] ⟨0, 9, 12, 13⟩ [] (htab.trans rfl) (fun z hz => nomatch hz) rfl (by decide) (C.hts _ kl_L_13) (va_Nw.use rfl (va_Nw.warmC C.hW h9.2.1.1)) h1 h2 h3 ?_
    refine lv_astore_n (x := q) (lv' := [(3, .ref q), (0, .ref (ad 0)), (1, .int a0), (2, .ref ao)]) hx hb dL_about_12 rfl hl (by decide) rfl (fun ls hl => ?_)
    refine lv_iconst (v := 1) hx hb dL_about_13 (by decide) ?_
    refine W.widen (k := 1) (n := 6) (lb rfl) (lb rfl) ?_
    exact r_iret C hp1 dL_about_14 ⟨1, S, fo, rfl, rfl, hE⟩
  · obtain ⟨r, rfl, rfl, h⟩ := hv
    refine W.eq (g2 := F0 m 7 ls [.int r, .int 0, .ref ao]) rfl ?_
    refine lv_i2l hx hb dL_about_7 rfl ?_
    refine r_last (q0 := 0) C hp rfl dL_about_8 vin01 (fun H locs hp => ?_)
    refine lv_goto (tgt := 15) hx hb dL_about_9 (by decide) ?_
    refine lv_iconst (v := 0) hx hb dL_about_15 (by decide) ?_
    refine W.widen (k := 1) (n := 6) (lb rfl) (lb rfl) ?_
    exact r_iret C hp dL_about_16 ⟨0, S, vp_updL fo (0 : Int32).toNatClampNeg r.toInt64, rfl, rfl, h⟩
theorem mfw_L_about : MFw yL_about cL_about 4 (some .int) [(0, 9, 12, 13)] 3 := ⟨kc_L_about, ks_L_about, ki_L, by decide +kernel⟩
end WRAP
