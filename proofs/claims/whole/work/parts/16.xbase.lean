section XBASE
def QX (G : GT) (Z : State) (ws : va_W) (sz : Nat) (px : String → Prop) : String → State → State → Prop := fun E st t => px E ∧ va_P G.1 classes ws t.heap ∧ va_D (va_A ws sz) ws ∧ va_F (va_A ws sz) st t
/-- the contract of a method that returns or throws; where it throws its world is as it was -/
def CMX (l : Launch) (G : GT) (Z : State) (y : MethodName) (cc : ByteArray) (n : Nat) (ret : Option FieldType) (rm : Room) (av : List Value) (ws : va_W) (post : Option Value → va_W → Prop) (px : String → Prop) : Prop :=
  ∀ sz : Nat, vx_Met l y [.code y cc n ret] rm (va_Pc av (fun U => U.heap.size = sz ∧ IN G Z ws U)) (QM G Z ws sz post) (QX G Z ws sz px) rm.cells rm.slots (va_A ws sz)
abbrev XQ (G : GT) (Z : State) (ws0 : va_W) (below : List Frame) (s : State) (args : Array Value) (post : Option Value → va_W → Prop) (px : String → Prop) (rm : Room) : State → Prop := vx_MQ below (QM G Z ws0 s.heap.size post) (QX G Z ws0 s.heap.size px) args s rm.cells rm.slots (va_A ws0 s.heap.size)
variable {l : Launch} {G : GT} {Z : State} {ws0 w : va_W} {p : Program} {e : Env} {R : Room} {s : State} {m : MethodId} {args : Array Value} {below : List Frame} {meth : Method} {c : Code} {H : Heap} {locs : List Loc} {cells slots : Nat} {Q : State → Prop} {own : String} {cc : ByteArray} {nL : Nat} {ret : Option FieldType} {pc : Nat} {ls : Array Slot} {rest : List Value} {post : Option Value → va_W → Prop} {px : String → Prop}
theorem CMX_ofW {y : MethodName} {n : Nat} {rm : Room} {av : List Value} {ws : va_W} (hZ : ZOK G Z) (hy : plainName y.cls = true) (hlen : (lg_sl av).length ≤ n)
    (body : ∀ (p : Program) (e : Env) (s : State) (m : MethodId) (below : List Frame) (meth : Method) (c : Code) (ls : Array Slot), Cx G Z ws p s m av.toArray meth c y.cls cc n ret → Hp G ws s s.heap [] ws → lv_has ls n (lv_args 0 av) → (∀ x ∈ c.exceptionTable.toList, False) →
      W p l e rm s m av.toArray below meth c s.heap [] 0 0 (XQ G Z ws below s av.toArray post px rm) (F0 m 0 ls [])) : CMX l G Z y cc n ret rm av ws post px := by
  intro sz
  refine vx_ofW (cc := cc) (maxL := n) (ret := ret) hy rfl ?_
  intro p e s m args below meth c s₁ B hml ht hv
  obtain ⟨rfl, rfl, hP, hD, hW, hz, ho⟩ := hv
  have hts : ∀ w ∈ WS, w.before av.toArray s = true := fun w hw => word_at hW (good_of_word (WS_good hw)) (hZ.1 w hw)
  have hl := lv_entry av (n := n) hlen
  rw [lg_entry_eq]
  exact body p e s m below meth c _ ⟨⟨B.exec, B.bytes, hml, findClass_of_methodNamed B.named, hts⟩, B.returns, va_K.moved hW.alike hZ.2.1, B.notSynchronized, hW, hD, hz, ho, hZ⟩ ⟨hP, hD.self, va_S.rf⟩ hl ht
theorem r_runX {mc ms : Nat} {st0 : List Value} {a : Array Value} (h : Hp G ws0 s H locs w) (hr : vx_Run p l e R s m args below meth c H locs cells slots mc ms (F0 m pc ls st0) rest (QM G Z w H.size post a) (QX G Z w H.size px) (va_A w H.size))
    (kx : ∀ (E : String) (ce : Cell) (q : Addr) (H1 : Heap) (locs1 : List Loc), px E → Hp G ws0 s H1 locs1 w → H1[q]? = some ce → ce.vm = .none → s.vm.findClass E = some ce.cls → vx_W p l e R s m args below meth c H1 locs1 (cells + mc) (slots + ms) Q (F0 m pc ls rest) q)
    (kk : ∀ (v : Option Value) (w' : va_W) (H1 : Heap) (locs1 : List Loc), post v w' → Hp G ws0 s H1 locs1 w' → W p l e R s m args below meth c H1 locs1 (cells + mc) (slots + ms) Q (F0 m (pc + 3) ls (v.toList ++ rest))) : W p l e R s m args below meth c H locs cells slots Q (F0 m pc ls st0) := by
  have hsub : ∀ q, va_A w H.size q → va_A ws0 s.heap.size q := by
    intro q hq
    rcases hq with ⟨k, e, hq⟩ | hq
    · exact h.2.1.2 k (q, e) hq
    · exact Or.inr (Nat.le_trans h.2.2.1 hq)
  have keep : ∀ (st₀ t T' : State) (L : List Loc), st₀.heap = H → T'.heap = t.heap → va_F (va_A w H.size) st₀ t → (∀ q ∈ L, va_A w H.size q.base) → va_S (va_A ws0 s.heap.size) s.heap T'.heap (locs ++ L) := by
    intro st₀ t T' L h0 e1 hF hL
    obtain ⟨hz, hk⟩ := hF
    rw [h0] at hz hk
    refine ⟨Nat.le_trans h.2.2.1 (by rw [e1]; exact hz), fun q h1 h2 => ?_, fun q hq => ?_⟩
    · rw [e1, hk q (Nat.lt_of_lt_of_le h1 h.2.2.1) (fun z => h2 (hsub q z))]
      exact h.2.2.2.1 q h1 h2
    · rcases List.mem_append.mp hq with h9 | h9
      · exact h.2.2.2.2 q h9
      · exact hsub _ (hL q h9)
  intro T hT X
  rcases hr T hT X with ⟨v, st₀, t, T', L, h0, X', hL, e1, e2, ⟨⟨v', w', hv, hp, hI, hDw⟩, hF⟩, st⟩ | ⟨q, st₀, t, T', L, E, ce, h0, X', hL, e1, e2, ⟨hp, hI, hDw, hF⟩, hce, hcv, hcl, st⟩
  · cases hv
    obtain ⟨t2, a1, b1⟩ := kk v w' T'.heap (locs ++ L) hp ⟨by rw [e1]; exact hI.1, hDw.weaken (fun k q _ hq => hsub _ hq), keep st₀ t T' L h0 e1 hF hL⟩ T' rfl X'
    exact ⟨t2, st t2 a1, b1⟩
  · obtain ⟨t2, a1, b1⟩ := kx E ce q T'.heap (locs ++ L) hp ⟨by rw [e1]; exact hI, hDw.weaken (fun k q _ hq => hsub _ hq), keep st₀ t T' L h0 e1 hF hL⟩ (by rw [e1]; exact hce) hcv hcl T' rfl X'
    exact ⟨t2, st.trans a1, b1⟩
theorem r_callVX {y : MethodName} {bytes : ByteArray} {maxL n index q0 ci N b : Nat} {T : u_T} {fs : List Value} {ret' : Option FieldType} {rm : Room} {As st0 : List Value} (hM : CMX l G Z y bytes maxL ret' rm (.ref b :: As) w post px) (C : Cx G Z ws0 p s m args meth c own cc nL ret) (h : Hp G ws0 s H locs w) (F : MFv y bytes maxL ret' n) (km : Cond.methodLink own index y ∈ WS) (hls : ls.size = nL) (hd : decode cc pc = .ok (.invokevirtual index, 3)) (hb : w[q0]? = some (b, .inr (ci, fs))) (hc : classes[ci]? = some (y.cls, T, N)) (hR : rm.frames + 1 ≤ R.frames ∧ 8 + (maxL + 11) + rm.locals ≤ R.locals ∧ cells + rm.cells ≤ R.cells ∧ slots + rm.slots ≤ R.slots) (hn : As.length = n) (hst : st0 = As.reverse ++ .ref b :: rest) (hW : (rest.map fun v => v.category).sum ≤ 8)
    (kx : ∀ (E : String) (ce : Cell) (q : Addr) (H1 : Heap) (locs1 : List Loc), px E → Hp G ws0 s H1 locs1 w → H1[q]? = some ce → ce.vm = .none → s.vm.findClass E = some ce.cls → vx_W p l e R s m args below meth c H1 locs1 (cells + rm.cells) (slots + rm.slots) Q (F0 m pc ls rest) q)
    (kk : ∀ (v : Option Value) (w' : va_W) (H1 : Heap) (locs1 : List Loc), post v w' → Hp G ws0 s H1 locs1 w' → W p l e R s m args below meth c H1 locs1 (cells + rm.cells) (slots + rm.slots) Q (F0 m (pc + 3) ls (v.toList ++ rest))) : W p l e R s m args below meth c H locs cells slots Q (F0 m pc ls st0) :=
  r_runX h (vx_runV (As := As) (rest := rest) (b := b) (C := y.cls) C.1 (hM H.size) ⟨callB_of n C.hts (gi1 F.1) rfl rfl rfl (C.hts _ F.2.2.2.1) (C.hts _ km) F.2.2.2.2 ⟨hR.1, hR.2.1⟩, C.hts _ F.2.1, C.hts _ F.2.2.1⟩ ⟨(pre_in C h).1, va_recv C.hK h.1 hc hb, (pre_in C h).2⟩ rfl hn hls hst (lv_room hW) hd hR.2.2) kx kk
/-- not caught here: the world is as it was -/
theorem r_outX {E : String} {ce : Cell} {q : Addr} {rm : Room} (C : Cx G Z ws0 p s m args meth c own cc nL ret) (h : Hp G ws0 s H locs ws0) (ht : ∀ x ∈ c.exceptionTable.toList, False) (hp : px E) (h1 : H[q]? = some ce) (h2 : ce.vm = .none) (h3 : s.vm.findClass E = some ce.cls) (hc : cells ≤ rm.cells) (hs : slots ≤ rm.slots) : vx_W p l e R s m args below meth c H locs cells slots (XQ G Z ws0 below s args post px rm) (F0 m pc ls rest) q :=
  vx_out (fun x hx => (ht x hx).elim) C.hlk h1 h2 h3 (fun t ht' _ => ⟨hp, by rw [ht']; exact h.1, h.2.1, h.2.2.F ht'⟩) h.2.2.2.2 hc hs
theorem decl_at {E0 : Nat} {Z s : State} (h9 : ZO2 l E0 Z) (hW : Z.WarmedH s.vm) {w : Cond} (hw : w ∈ declW) : w.before args s = true := by
  have h := h9.2.2.2.2.2.2.2.2.2.2.2 w hw
  simp only [declW, List.mem_cons, List.not_mem_nil, or_false] at hw
  rcases hw with rfl | rfl | rfl
  · exact va_Nw.use rfl (va_Nw.warmD hW h)
  · exact va_Nw.use rfl (va_Nw.warmD hW h)
  · exact va_Nw.use rfl (va_Nw.warmD hW h)
def xnames : List String := ["java/lang/RuntimeException", "java/lang/Exception"]
/-- what is asked of an exception's class -/
def XOK (X : String) (ik ic : Nat) : Prop := Bundle.fit X = true ∧ Cond.classLink RX2 ik X ∈ WS ∧ Cond.initialized X ∈ WS ∧ (∀ w ∈ (vx_atS RX2 ic X xnames).filter goodWord, w ∈ WS) ∧ (∀ w ∈ (vx_atS RX2 ic X xnames).filter (fun w => !goodWord w), w ∈ Cond.castable X X :: declW) ∧ (∀ w ∈ Cond.classLink RX2 ik X :: Cond.initialized X :: vx_atS RX2 ic X xnames, vx_ot w = true)
theorem xn_fit : ∀ n ∈ xnames, Bundle.fit n = true := by decide +kernel
theorem inWS {L : List Cond} (h1 : ∀ w ∈ L.filter goodWord, w ∈ lw_tbl) : ∀ w ∈ L.filter goodWord, w ∈ WS := fun w hw => List.mem_filter.mpr ⟨h1 w hw, (List.mem_filter.mp hw).2⟩
theorem xk_IAE : XOK xIAE 80 84 := ⟨by decide +kernel, kl_X2_80, WS_m1 (i := 11) rfl rfl, inWS (by decide +kernel), by decide +kernel, by decide +kernel⟩
theorem xk_IOB : XOK xIOB 124 128 := ⟨by decide +kernel, kl_X2_124, WS_m1 (i := 17) rfl rfl, inWS (by decide +kernel), by decide +kernel, by decide +kernel⟩
theorem xk_UOE : XOK xUOE 105 109 := ⟨by decide +kernel, kl_X2_105, WS_m1 (i := 12) rfl rfl, inWS (by decide +kernel), by decide +kernel, by decide +kernel⟩
theorem x_throw {X text : String} {ik ic is E0 : Nat} {rm : Room} (C : Cx G Z ws0 p s m args meth c RX2 cc nL ret) (h : Hp G ws0 s H locs ws0) (h9 : ZO2 l E0 Z) (k : XOK X ik ic) (kc : va_Nw (.castable X X) Z) (hs : (is, text) ∈ strW) (ht : ∀ x ∈ c.exceptionTable.toList, False) (hls : ls.size = nL)
    (d0 : decode cc pc = .ok (.new ik, 3)) (d3 : decode cc (pc + 3) = .ok (.dup, 1)) (d4 : decode cc (pc + 4) = .ok (.ldc is, 2)) (d6 : decode cc (pc + 6) = .ok (.invokespecial ic, 3)) (d9 : decode cc (pc + 9) = .ok (.athrow, 1))
    (hR : 5 < R.frames ∧ (rest.map fun v => v.category).sum + 82 ≤ R.locals ∧ cells + 1 ≤ R.cells ∧ slots + 6 ≤ R.slots ∧ cells + 1 ≤ rm.cells ∧ slots + 6 ≤ rm.slots) (hp : px X) : W p l e R s m args below meth c H locs cells slots (XQ G Z ws0 below s args post px rm) (F0 m pc ls rest) := by
  obtain ⟨sa, hsa⟩ := h9.2.2.1 (is, text) hs
  have hat : ∀ w ∈ vx_atS RX2 ic X xnames, w.before args s = true := vx_hat (fun w hw => C.hts w (k.2.2.2.1 w hw)) k.2.2.2.2.1 (vx_c (va_Nw.use rfl (va_Nw.warmC C.hW kc)) (fun w hw => decl_at h9 C.hW hw))
  have hU := vx_Zq.narrow (vx_Zq.kept (vx_Zq.moved C.hW.alike h9.2.2.2.1) (fun a h1 _ => C.ho a h1)) (fun q hq => A_ge C.hD C.hz hq)
  have hN := vx_Zq.narrow (vx_Zq.kept (vx_Zq.moved C.hW.alike h9.2.2.2.2.1) (fun a h1 _ => C.ho a h1)) (fun q hq => A_ge C.hD C.hz hq)
  refine vx_throwS (names := xnames) (text := text) C.hx C.hb h9.1 C.hown k.1 xn_fit (C.hts _ k.2.1) (C.hts _ k.2.2.1) (vk_R.warm C.hW hsa) hat k.2.2.2.2.2 hU hN h.2.2 (hls.trans C.hml.symm) d0 d3 d4 d6 d9 (fun x hx => (ht x hx).elim) hR.1 hR.2.1 hR.2.2.1 hR.2.2.2.1 C.hlk (fun t hal hz hk => ?_) h.2.2.2.2 hR.2.2.2.2.1 hR.2.2.2.2.2
  refine ⟨hp, va_P.kept h.1 (fun k q hq => hk q.1 (h.1 k q hq).lt), h.2.1, Nat.le_trans h.2.2.1 hz, fun q h1 h2 => ?_⟩
  rw [hk q (Nat.lt_of_lt_of_le h1 h.2.2.1)]
  exact h.2.2.2.1 q h1 h2
end XBASE

