section JADD
variable {l : Launch} {G : GT} {Z : State}
theorem knat_getClass : (Cond.native ({ cls := "java/lang/Object", name := "getClass", desc := "()Ljava/lang/Class;" } : MethodName)) ∈ WS := WS_m2 (i := 83) rfl rfl
abbrev rmA (f n N : Nat) : Room := { frames := f, cells := 1, slots := N, locals := n }
theorem cA_eqO {cA : ClassId} {s : State} {D : va_G} {cl : List vw_C} (h : va_K D cl (tys G ++ [(cA, .object "java/lang/Object")]) s) : cA = G.2 3 := by
  obtain ⟨_, _, -, -, -, e1⟩ := (h.2 5 (cA, .object "java/lang/Object") rfl).2
  obtain ⟨_, _, -, -, -, e2⟩ := (h.2 3 (G.2 3, .object "java/lang/Object") rfl).2
  exact Option.some.inj (e1.symm.trans e2)
theorem arr_recv {s : State} {H : Heap} {w : va_W} {j ea n : Nat} {f : Nat → Option Nat} (hK : va_K G.1 classes (tys G) s) (hP : va_P G.1 classes w H) (hj : w[j]? = some (ea, .inl (G.2 3, n, .inr (.inr (.inr (.inr f)))))) : ∃ cell : Cell, H[ea]? = some cell ∧ cell.vm.isStatics = false ∧ s.vm.findClass "[Ljava/lang/Object;" = some cell.cls := by
  obtain ⟨_, _, -, -, -, e2⟩ := (hK.2 3 (G.2 3, .object "java/lang/Object") rfl).2
  exact ⟨_, hP j _ hj, rfl, e2⟩
theorem app_l {α : Type} {w : List α} {x y : α} {j : Nat} (h : w[j]? = some y) : (w ++ [x])[j]? = some y := by
  rw [List.getElem?_append_left (List.getElem?_eq_some_iff.mp h).1]; exact h
theorem app_r {α : Type} {w : List α} {x : α} : (w ++ [x])[w.length]? = some x := by simp
theorem app_set {α : Type} {w : List α} {x y : α} : (w ++ [x]).set w.length y = w ++ [y] := by simp
theorem wp_minL {a b : Int32} {post : Int32 → Prop} (h : ¬ b < a) (hp : post a) : wp_J9_min_7cf53 a b post := by
  unfold wp_J9_min_7cf53
  exact ⟨fun q => absurd q h, fun _ => hp⟩
theorem wp_maxL {a b : Int32} {post : Int32 → Prop} (h : ¬ a < b) (hp : post a) : wp_J9_max_7cf53 a b post := by
  unfold wp_J9_max_7cf53
  exact ⟨fun q => absurd q h, fun _ => hp⟩
theorem wp_maxR {a b : Int32} {post : Int32 → Prop} (h : ¬ b < a) (hp : post b) : wp_J9_max_7cf53 a b post := by
  unfold wp_J9_max_7cf53
  refine ⟨fun _ => hp, fun q => ?_⟩
  have e : a = b := by
    have h1 := Int32.not_lt.mp h
    have h2 := Int32.not_lt.mp q
    exact Int32.le_antisymm h1 h2
  rw [e]; exact hp
set_option maxHeartbeats 4000000 in
theorem c_copyOf3 {w : va_W} {j ea n N mi : Nat} {f : Nat → Option Nat} {E0 : Nat} (hZ : ZOK G Z) (h9 : ZO2 l E0 Z) (hj : w[j]? = some (ea, .inl (G.2 3, n, .inr (.inr (.inr (.inr f)))))) (hmi : va_Mi "[Ljava/lang/Object;" mi Z) (hnN : n ≤ N) (hN : N < 2 ^ 20) (hel : ∀ q y : Nat, f q = some y → ∃ (k' : Nat) (fs : List Value), w[k']? = some (y, .inr (0, fs))) :
    CM l G Z yJ7_copyOf_6403c cJ7_copyOf_6403c 4 (some (.array (.object "java/lang/Object"))) (rmA 1 60 N) [.ref ea, .int (nI N), .ref mi] w (fun v w' => ∃ q : Nat, v = some (.ref q) ∧ w' = w ++ [(q, .inl (G.2 3, N, .inr (.inr (.inr (.inr (va_cpy f (fun _ => none) 0 0 n))))))]) := by
  refine CM_ofW hZ (by decide) (lb rfl) (fun p e s m below meth c ls C hp hl hnm => ?_)
  have C : Cx G Z _ p s m _ meth c RJ7 cJ7_copyOf_6403c 4 (some (.array (.object "java/lang/Object"))) := C
  have hl : lv_has ls 4 [(0, .ref ea), (1, .int (nI N)), (2, .ref mi)] := hl
  have hx := C.hx
  have hb := C.hb
  refine lv_aload_n hx hb dJ7_copyOf_6403c_0 rfl (lv_at hl 2 rfl) ?_
  refine va_ldcM hx hb C.hown (C.hts _ kl_J7_110) (va_Mi.moved C.hW.alike hmi) dJ7_copyOf_6403c_1 ?_
  refine lv_acmp_ne (rx := some mi) (ry := some mi) (tgt := 13) hx hb dJ7_copyOf_6403c_3 (by decide) (fun q => absurd rfl q) (fun _ => ?_)
  refine lv_iload_n hx hb dJ7_copyOf_6403c_6 rfl (lv_at hl 1 rfl) ?_
  refine va_newq (N' := N) hx hb C.hown (C.hts _ kl_J7_2) (va_AO.moved C.hW.alike h9.2.2.2.2.2.2.2.1) C.hK hp.1 hp.2.1 hp.2.2 (fun q h => Or.inr h) (nI_pos (by omega)) (nI_clamp (by omega)) (by omega) (lb rfl) (by show 0 + N ≤ N; omega) dJ7_copyOf_6403c_7 (fun q cA H hK' a1 a2 a3 => ?_)
  obtain rfl := cA_eqO hK'
  refine W.widen (k := 1) (n := N) (by omega) (by omega) ?_
  refine lv_goto (tgt := 24) hx hb dJ7_copyOf_6403c_10 (by decide) ?_
  refine lv_astore_n (lv' := [(3, .ref q), (0, .ref ea), (1, .int (nI N)), (2, .ref mi)]) hx hb dJ7_copyOf_6403c_24 rfl hl (by decide) rfl (fun ls hl => ?_)
  refine lv_aload_n hx hb dJ7_copyOf_6403c_25 rfl (lv_at hl 1 rfl) ?_
  refine lv_iconst (v := 0) hx hb dJ7_copyOf_6403c_26 (by decide) ?_
  refine lv_aload_n hx hb dJ7_copyOf_6403c_27 rfl (lv_at hl 0 rfl) ?_
  refine lv_iconst (v := 0) hx hb dJ7_copyOf_6403c_28 (by decide) ?_
  refine lv_aload_n hx hb dJ7_copyOf_6403c_29 rfl (lv_at hl 1 rfl) ?_
  refine va_alen (v := nI n) hx hb C.hK a1 j 3 (app_l hj) rfl rfl dJ7_copyOf_6403c_30 ?_
  refine lv_iload_n hx hb dJ7_copyOf_6403c_31 rfl (lv_at hl 2 rfl) ?_
  have hp : Hp G w s H [] (w ++ [(q, .inl (G.2 3, N, .inr (.inr (.inr (.inr (fun _ => none))))))]) := ⟨a1, a2, a3⟩
  refine r_callS (rest := [.int 0, .ref q, .int 0, .ref ea]) (c_J9_min_7cf53 C.hZ (wp_minL (post := fun r => r = nI n) (nI_nlt hnN (by omega)) rfl)) C hp mf_J9_min_7cf53 km_J7_304 hl.1 dJ7_copyOf_6403c_32 ⟨lb rfl, lb rfl, lb rfl, by show N + 0 ≤ N; omega⟩ rfl rfl (lb rfl) (fun v w1 H locs hv hp => ?_)
  obtain ⟨r, rfl, rfl, rfl⟩ := hv
  refine W.eq (g2 := F0 m 35 ls [.int (nI n), .int 0, .ref q, .int 0, .ref ea]) rfl ?_
  refine va_copyq (rest := []) hx hb (C.hml.trans hl.1.symm) C.hown (C.hts _ km_J7_150) (C.hts _ knat_arraycopy) (C.hts _ kstat_arraycopy) (C.hts _ ki_J10) C.hK hp.1 hp.2.1 hp.2.2 j w.length 3 3 (C := RX0) (app_l hj) app_r rfl rfl (by decide) (by decide) (nI_pos (by omega)) (by rw [sb_cl0, nI_clamp (by omega)]; omega) (by rw [sb_cl0, nI_clamp (by omega)]; omega) ?_ (cut_obj h9 C.hW) (lb rfl) (lb rfl) dJ7_copyOf_6403c_35 (fun H locs b1 b2 b3 => ?_)
  · intro i9 _ y hy
    obtain ⟨k', fs, hk'⟩ := hel _ y hy
    exact va_recv C.hK hp.1 (q := (RX0, TX0, 10)) rfl (app_l hk')
  · rw [app_set, sb_cl0, nI_clamp (by omega)] at b1 b2
    refine lv_aload_n hx hb dJ7_copyOf_6403c_38 rfl (lv_at hl 0 rfl) ?_
    refine W.widen (k := 1) (n := N) (by show 1 + 0 ≤ 1; omega) (by show N + 0 ≤ N; omega) ?_
    exact r_aret C ⟨b1, b2, b3⟩ (Or.inr ⟨_, rfl⟩) (Or.inr ⟨_, rfl⟩) dJ7_copyOf_6403c_39 ⟨q, rfl, rfl⟩
theorem mf_J7_copyOf_6403c : MFs yJ7_copyOf_6403c cJ7_copyOf_6403c 4 (some (.array (.object "java/lang/Object"))) 3 := ⟨kc_J7_copyOf_6403c, ks_J7_copyOf_6403c, ki_J7, by decide +kernel⟩
set_option maxHeartbeats 4000000 in
theorem c_copyOf2 {w : va_W} {j ea n N : Nat} {f : Nat → Option Nat} {E0 : Nat} (hZ : ZOK G Z) (h9 : ZO2 l E0 Z) (hj : w[j]? = some (ea, .inl (G.2 3, n, .inr (.inr (.inr (.inr f)))))) (hnN : n ≤ N) (hN : N < 2 ^ 20) (hel : ∀ q y : Nat, f q = some y → ∃ (k' : Nat) (fs : List Value), w[k']? = some (y, .inr (0, fs))) :
    CM l G Z yJ7_copyOf_1904c cJ7_copyOf_1904c 2 (some (.array (.object "java/lang/Object"))) (rmA 2 90 N) [.ref ea, .int (nI N)] w (fun v w' => ∃ q : Nat, v = some (.ref q) ∧ w' = w ++ [(q, .inl (G.2 3, N, .inr (.inr (.inr (.inr (va_cpy f (fun _ => none) 0 0 n))))))]) := by
  obtain ⟨mi, hmi⟩ := h9.2.2.2.2.2.2.2.2.1
  refine CM_ofW hZ (by decide) (lb rfl) (fun p e s m below meth c ls C hp hl hnm => ?_)
  have C : Cx G Z _ p s m _ meth c RJ7 cJ7_copyOf_1904c 2 (some (.array (.object "java/lang/Object"))) := C
  have hl : lv_has ls 2 [(0, .ref ea), (1, .int (nI N))] := hl
  have hx := C.hx
  have hb := C.hb
  refine lv_aload_n hx hb dJ7_copyOf_1904c_0 rfl (lv_at hl 0 rfl) ?_
  refine lv_iload_n hx hb dJ7_copyOf_1904c_1 rfl (lv_at hl 1 rfl) ?_
  refine lv_aload_n hx hb dJ7_copyOf_1904c_2 rfl (lv_at hl 0 rfl) ?_
  refine va_getC (C := "[Ljava/lang/Object;") (rest := [.int (nI N), .ref ea]) hx hb (C.hml.trans hl.1.symm) C.hown (C.hts _ km_J7_86) (va_Dc.use (va_Dc.moved C.hW.alike h9.2.2.2.2.2.2.2.2.2.1)) (C.hts _ kv_Object_getClass_42d1_9) (C.hts _ kn_Object_getClass_42d1) (C.hts _ knat_getClass) (va_Mi.moved C.hW.alike hmi) (arr_recv C.hK hp.1 hj) (lb rfl) (lb rfl) dJ7_copyOf_1904c_3 ?_
  refine r_callS (rest := []) (c_copyOf3 C.hZ h9 hj hmi hnN hN hel) C hp mf_J7_copyOf_6403c km_J7_300 hl.1 dJ7_copyOf_1904c_6 ⟨lb rfl, lb rfl, lb rfl, by show 0 + N ≤ N; omega⟩ rfl rfl (lb rfl) (fun v w1 H locs hv hp => ?_)
  obtain ⟨q, rfl, rfl⟩ := hv
  refine W.eq (g2 := F0 m 9 ls [.ref q]) rfl ?_
  refine W.widen (k := 1) (n := N) (by show 0 + 1 ≤ 1; omega) (by show 0 + N ≤ N; omega) ?_
  exact r_aret C hp (Or.inr ⟨_, rfl⟩) (Or.inr ⟨_, rfl⟩) dJ7_copyOf_1904c_9 ⟨q, rfl, rfl⟩
theorem mf_J7_copyOf_1904c : MFs yJ7_copyOf_1904c cJ7_copyOf_1904c 2 (some (.array (.object "java/lang/Object"))) 2 := ⟨kc_J7_copyOf_1904c, ks_J7_copyOf_1904c, ki_J7, by decide +kernel⟩
theorem mf_Jx4a65c_grow_92f84 : MFv yJx4a65c_grow_92f84 cJx4a65c_grow_92f84 4 (some (.array (.object "java/lang/Object"))) 1 := ⟨kc_Jx4a65c_grow_92f84, kn_Jx4a65c_grow_92f84, kv_Jx4a65c_grow_92f84, ki_Jx4a65c, by decide +kernel⟩
theorem mf_Jx4a65c_grow_d5877 : MFv yJx4a65c_grow_d5877 cJx4a65c_grow_d5877 1 (some (.array (.object "java/lang/Object"))) 0 := ⟨kc_Jx4a65c_grow_d5877, kn_Jx4a65c_grow_d5877, kv_Jx4a65c_grow_d5877, ki_Jx4a65c, by decide +kernel⟩
theorem nI_shr1 {n : Nat} (h : n < 2 ^ 31) : nI n >>> ((1 : Int32) &&& 31) = nI (n / 2) := by
  have := pk_shrN h ((1 : Int32) &&& 31) 1 (by decide)
  simpa using this
theorem wp_newLen {n : Nat} {post : Int32 → Prop} (h2 : 2 ≤ n) (hn : n ≤ 40000) (hp : post (nI (n + n / 2))) : wp_J8_newLength_cabcc (nI n) 1 (nI (n / 2)) post := by
  unfold wp_J8_newLength_cabcc
  refine wp_maxR (nI_nlt (a := n / 2) (b := 1) (by omega) (by omega)) ?_
  intro x ex
  rw [nI_add] at ex
  subst ex
  refine ⟨fun q => absurd q ?_, fun _ => ⟨fun q => absurd q ?_, fun _ => hp⟩⟩
  · exact nI_nle (by omega) (by omega)
  · rw [show (2147483639 : Int32) = nI 2147483639 by decide]
    exact nI_nlt (by omega) (by decide)
set_option maxHeartbeats 4000000 in
/-- grow(int) of a full array of n places -/
theorem c_growC {w : va_W} {k j a ea n : Nat} {md sz : Int32} {f : Nat → Option Nat} {E0 : Nat} (hZ : ZOK G Z) (h9 : ZO2 l E0 Z) (hkj : k ≠ j) (hk : w[k]? = some (a, .inr (4, [.int md, .ref ea, .int sz]))) (hj : w[j]? = some (ea, .inl (G.2 3, n, .inr (.inr (.inr (.inr f)))))) (h2 : 2 ≤ n) (hn : n ≤ 40000) (hel : ∀ q y : Nat, f q = some y → ∃ (k' : Nat) (fs : List Value), w[k']? = some (y, .inr (0, fs))) :
    CM l G Z yJx4a65c_grow_92f84 cJx4a65c_grow_92f84 4 (some (.array (.object "java/lang/Object"))) (rmA 3 120 (n + n / 2)) [.ref a, .int (nI (n + 1))] w (fun v w' => ∃ q : Nat, v = some (.ref q) ∧ w' = (w ++ [((q, .inl (G.2 3, n + n / 2, .inr (.inr (.inr (.inr (va_cpy f (fun _ => none) 0 0 n)))))) : Nat × va_E)]).set k (a, .inr (4, [.int md, .ref q, .int sz]))) := by
  refine CM_ofW hZ (by decide) (lb rfl) (fun p e s m below meth c ls C hp hl hnm => ?_)
  have C : Cx G Z _ p s m _ meth c RJx4a65c cJx4a65c_grow_92f84 4 (some (.array (.object "java/lang/Object"))) := C
  have hl : lv_has ls 4 [(0, .ref a), (1, .int (nI (n + 1)))] := hl
  have hx := C.hx
  have hb := C.hb
  refine lv_aload_n hx hb dJx4a65c_grow_92f84_0 rfl (lv_at hl 0 rfl) ?_
  refine r_get (q0 := k) (ci := 4) 1 C hp hk rfl inW_Jx4a65c (by decide) kf_Jx4a65c_9 rfl dJx4a65c_grow_92f84_1 ?_
  refine va_alen (v := nI n) hx hb C.hK hp.1 j 3 hj rfl rfl dJx4a65c_grow_92f84_4 ?_
  refine lv_istore_n (lv' := [(2, .int (nI n)), (0, .ref a), (1, .int (nI (n + 1)))]) hx hb dJx4a65c_grow_92f84_5 rfl hl (by decide) rfl (fun ls hl => ?_)
  refine lv_iload_n hx hb dJx4a65c_grow_92f84_6 rfl (lv_at hl 0 rfl) ?_
  refine lv_if_gt (tgt := 20) hx hb dJx4a65c_grow_92f84_7 (by decide) (fun _ => ?_) (fun q => absurd (nI_lt (a := 0) (b := n) (by omega) (by omega)) q)
  refine lv_iload_n hx hb dJx4a65c_grow_92f84_20 rfl (lv_at hl 0 rfl) ?_
  refine lv_iload_n hx hb dJx4a65c_grow_92f84_21 rfl (lv_at hl 2 rfl) ?_
  refine lv_iload_n hx hb dJx4a65c_grow_92f84_22 rfl (lv_at hl 0 rfl) ?_
  refine lv_isub hx hb dJx4a65c_grow_92f84_23 ?_
  refine lv_iload_n hx hb dJx4a65c_grow_92f84_24 rfl (lv_at hl 0 rfl) ?_
  refine lv_iconst (v := 1) hx hb dJx4a65c_grow_92f84_25 (by decide) ?_
  refine lv_ishr hx hb dJx4a65c_grow_92f84_26 ?_
  rw [nI_shr1 (by omega), pk_sub (by omega : n ≤ n + 1), show n + 1 - n = 1 by omega, show nI 1 = 1 by decide]
  refine r_callS (rest := []) (c_J8_newLength_cabcc C.hZ (wp_newLen (post := fun r => r = nI (n + n / 2)) h2 hn rfl)) C hp mf_J8_newLength_cabcc km_Jx4a65c_73 hl.1 dJx4a65c_grow_92f84_27 ⟨lb rfl, lb rfl, lb rfl, by show 0 + 0 ≤ n + n / 2; omega⟩ rfl rfl (lb rfl) (fun v w1 H locs hv hp => ?_)
  obtain ⟨r, rfl, rfl, rfl⟩ := hv
  refine W.eq (g2 := F0 m 30 ls [.int (nI (n + n / 2))]) rfl ?_
  refine lv_istore_n (lv' := [(3, .int (nI (n + n / 2))), (2, .int (nI n)), (0, .ref a), (1, .int (nI (n + 1)))]) hx hb dJx4a65c_grow_92f84_30 rfl hl (by decide) rfl (fun ls hl => ?_)
  refine lv_aload_n hx hb dJx4a65c_grow_92f84_31 rfl (lv_at hl 2 rfl) ?_
  refine lv_aload_n hx hb dJx4a65c_grow_92f84_32 rfl (lv_at hl 2 rfl) ?_
  refine r_get (q0 := k) (ci := 4) 1 C hp hk rfl inW_Jx4a65c (by decide) kf_Jx4a65c_9 rfl dJx4a65c_grow_92f84_33 ?_
  refine lv_iload_n hx hb dJx4a65c_grow_92f84_36 rfl (lv_at hl 0 rfl) ?_
  refine r_callS (rest := [.ref a]) (c_copyOf2 C.hZ h9 hj (by omega : n ≤ n + n / 2) (by omega) hel) C hp mf_J7_copyOf_1904c km_Jx4a65c_66 hl.1 dJx4a65c_grow_92f84_37 ⟨lb rfl, lb rfl, lb rfl, by show 0 + 0 + (n + n / 2) ≤ n + n / 2; omega⟩ rfl rfl (lb rfl) (fun v w1 H locs hv hp => ?_)
  obtain ⟨q, rfl, rfl⟩ := hv
  refine W.eq (g2 := F0 m 40 ls [.ref q, .ref a]) rfl ?_
  refine lv_dup_x1 hx hb dJx4a65c_grow_92f84_40 rfl rfl ?_
  refine r_put (q0 := k) (ci := 4) (v := .ref q) (ty := .array (.object "java/lang/Object")) 1 C hp (app_l hk) rfl inW_Jx4a65c tyJx4a65c_ok nmJx4a65c (by decide) kf_Jx4a65c_9 rfl (by decide +kernel) rfl rfl (lb rfl) dJx4a65c_grow_92f84_41 (fun H locs hp => ?_)
  refine W.widen (k := 1) (n := n + n / 2) (by show 0 + 0 + 1 ≤ 1; omega) (by show 0 + 0 + (n + n / 2) ≤ n + n / 2; omega) ?_
  exact r_aret C hp (Or.inr ⟨_, rfl⟩) (Or.inr ⟨_, rfl⟩) dJx4a65c_grow_92f84_44 ⟨q, rfl, rfl⟩
theorem T_at {E0 : Nat} {ws0 : va_W} {p : Program} {s : State} {m : MethodId} {args : Array Value} {meth : Method} {c : Code} {own : String} {cc : ByteArray} {nL : Nat} {ret : Option FieldType} (h9 : ZO2 l E0 Z) (C : Cx G Z ws0 p s m args meth c own cc nL ret) : va_T (.object "java/lang/Object") E0 0 (fun _ => .null) (va_A ws0 s.heap.size) s s.heap := by
  have h := h9.2.2.2.2.2.2.1
  have hlt : E0 < Z.heap.size := by
    obtain ⟨cell, h1, -⟩ := h
    exact (Array.getElem?_eq_some_iff.mp h1).1
  exact va_T.narrow (va_T.kept (va_T.moved C.hW.alike h) (fun a h1 _ => C.ho a h1)) (fun q hq => A_ge C.hD C.hz hq)
theorem Z_at {E0 : Nat} {ws0 : va_W} {p : Program} {s : State} {m : MethodId} {args : Array Value} {meth : Method} {c : Code} {own : String} {cc : ByteArray} {nL : Nat} {ret : Option FieldType} (h9 : ZO2 l E0 Z) (C : Cx G Z ws0 p s m args meth c own cc nL ret) : va_Z "java/util/ArrayList" "DEFAULTCAPACITY_EMPTY_ELEMENTDATA" "[Ljava/lang/Object;" (.ref E0) (va_A ws0 s.heap.size) s s.heap :=
  va_Z.narrow (va_Z.kept (va_Z.moved C.hW.alike h9.2.2.2.2.2.1) (fun a h1 _ => C.ho a h1)) (fun q hq => A_ge C.hD C.hz hq)
set_option maxHeartbeats 4000000 in
/-- grow(1) of the first, shared, empty array -/
theorem c_growB {w : va_W} {k a : Nat} {md sz : Int32} {E0 : Nat} (hZ : ZOK G Z) (h9 : ZO2 l E0 Z) (hk : w[k]? = some (a, .inr (4, [.int md, .ref E0, .int sz]))) :
    CM l G Z yJx4a65c_grow_92f84 cJx4a65c_grow_92f84 4 (some (.array (.object "java/lang/Object"))) (rmA 3 120 10) [.ref a, .int 1] w (fun v w' => ∃ q : Nat, v = some (.ref q) ∧ w' = (w ++ [((q, .inl (G.2 3, 10, .inr (.inr (.inr (.inr (fun _ => none)))))) : Nat × va_E)]).set k (a, .inr (4, [.int md, .ref q, .int sz]))) := by
  refine CM_ofW hZ (by decide) (lb rfl) (fun p e s m below meth c ls C hp hl hnm => ?_)
  have C : Cx G Z _ p s m _ meth c RJx4a65c cJx4a65c_grow_92f84 4 (some (.array (.object "java/lang/Object"))) := C
  have hl : lv_has ls 4 [(0, .ref a), (1, .int 1)] := hl
  have hx := C.hx
  have hb := C.hb
  refine lv_aload_n hx hb dJx4a65c_grow_92f84_0 rfl (lv_at hl 0 rfl) ?_
  refine r_get (q0 := k) (ci := 4) 1 C hp hk rfl inW_Jx4a65c (by decide) kf_Jx4a65c_9 rfl dJx4a65c_grow_92f84_1 ?_
  refine va_tlen (v := 0) hx hb (T_at h9 C) hp.2.2 rfl dJx4a65c_grow_92f84_4 ?_
  refine lv_istore_n (lv' := [(2, .int 0), (0, .ref a), (1, .int 1)]) hx hb dJx4a65c_grow_92f84_5 rfl hl (by decide) rfl (fun ls hl => ?_)
  refine lv_iload_n hx hb dJx4a65c_grow_92f84_6 rfl (lv_at hl 0 rfl) ?_
  refine lv_if_gt (tgt := 20) hx hb dJx4a65c_grow_92f84_7 (by decide) (fun q => absurd q (by decide)) (fun _ => ?_)
  refine lv_aload_n hx hb dJx4a65c_grow_92f84_10 rfl (lv_at hl 1 rfl) ?_
  refine r_get (q0 := k) (ci := 4) 1 C hp hk rfl inW_Jx4a65c (by decide) kf_Jx4a65c_9 rfl dJx4a65c_grow_92f84_11 ?_
  refine va_gets hx hb (Z_at h9 C) hp.2.2 C.hown (C.hts _ kf_Jx4a65c_39) (fun _ h => h) dJx4a65c_grow_92f84_14 ?_
  refine lv_acmp_eq (rx := some E0) (ry := some E0) (tgt := 45) hx hb dJx4a65c_grow_92f84_17 (by decide) (fun _ => ?_) (fun q => absurd rfl q)
  refine lv_aload_n hx hb dJx4a65c_grow_92f84_45 rfl (lv_at hl 1 rfl) ?_
  refine lv_bipush (v := 10) hx hb dJx4a65c_grow_92f84_46 (by decide) ?_
  refine lv_iload_n hx hb dJx4a65c_grow_92f84_48 rfl (lv_at hl 2 rfl) ?_
  refine r_callS (rest := [.ref a]) (c_J9_max_7cf53 C.hZ (wp_maxL (post := fun r => r = 10) (by decide) rfl)) C hp mf_J9_max_7cf53 km_Jx4a65c_79 hl.1 dJx4a65c_grow_92f84_49 ⟨lb rfl, lb rfl, lb rfl, lb rfl⟩ rfl rfl (lb rfl) (fun v w1 H locs hv hp => ?_)
  obtain ⟨r, rfl, hw, rfl⟩ := hv
  rw [hw] at hp
  refine W.eq (g2 := F0 m 52 ls [.int 10, .ref a]) rfl ?_
  refine va_newq (N' := 10) hx hb C.hown (C.hts _ kl_Jx4a65c_7) (va_AO.moved C.hW.alike h9.2.2.2.2.2.2.2.1) C.hK hp.1 hp.2.1 hp.2.2 (fun q h => Or.inr h) (by decide) (by decide) (by omega) (lb rfl) (lb rfl) dJx4a65c_grow_92f84_52 (fun q cA H hK' a1 a2 a3 => ?_)
  obtain rfl := cA_eqO hK'
  have hp : Hp G w s H locs (w ++ [(q, .inl (G.2 3, 10, .inr (.inr (.inr (.inr (fun _ => none))))))]) := ⟨a1, a2, a3⟩
  refine lv_dup_x1 hx hb dJx4a65c_grow_92f84_55 rfl rfl ?_
  refine r_put (q0 := k) (ci := 4) (v := .ref q) (ty := .array (.object "java/lang/Object")) 1 C hp (app_l hk) rfl inW_Jx4a65c tyJx4a65c_ok nmJx4a65c (by decide) kf_Jx4a65c_9 rfl (by decide +kernel) rfl rfl (lb rfl) dJx4a65c_grow_92f84_56 (fun H locs hp => ?_)
  refine W.widen (k := 1) (n := 10) (lb rfl) (lb rfl) ?_
  exact r_aret C hp (Or.inr ⟨_, rfl⟩) (Or.inr ⟨_, rfl⟩) dJx4a65c_grow_92f84_59 ⟨q, rfl, rfl⟩
set_option maxHeartbeats 4000000 in
theorem c_grow0 {w : va_W} {k a ea N : Nat} {md sz : Int32} {post : Option Value → va_W → Prop} (hZ : ZOK G Z) (hk : w[k]? = some (a, .inr (4, [.int md, .ref ea, .int sz]))) (hM : CM l G Z yJx4a65c_grow_92f84 cJx4a65c_grow_92f84 4 (some (.array (.object "java/lang/Object"))) (rmA 3 120 N) [.ref a, .int (sz + 1)] w (fun v w' => ∃ q : Nat, v = some (.ref q) ∧ post v w')) :
    CM l G Z yJx4a65c_grow_d5877 cJx4a65c_grow_d5877 1 (some (.array (.object "java/lang/Object"))) (rmA 4 150 N) [.ref a] w (fun v w' => ∃ q : Nat, v = some (.ref q) ∧ post v w') := by
  refine CM_ofW hZ (by decide) (lb rfl) (fun p e s m below meth c ls C hp hl hnm => ?_)
  have C : Cx G Z _ p s m _ meth c RJx4a65c cJx4a65c_grow_d5877 1 (some (.array (.object "java/lang/Object"))) := C
  have hl : lv_has ls 1 [(0, .ref a)] := hl
  have hx := C.hx
  have hb := C.hb
  refine lv_aload_n hx hb dJx4a65c_grow_d5877_0 rfl (lv_at hl 0 rfl) ?_
  refine lv_aload_n hx hb dJx4a65c_grow_d5877_1 rfl (lv_at hl 0 rfl) ?_
  refine r_get (q0 := k) (ci := 4) 2 C hp hk rfl inW_Jx4a65c (by decide) kf_Jx4a65c_48 rfl dJx4a65c_grow_d5877_2 ?_
  refine lv_iconst (v := 1) hx hb dJx4a65c_grow_d5877_5 (by decide) ?_
  refine lv_iadd hx hb dJx4a65c_grow_d5877_6 ?_
  refine r_callV (q0 := k) (ci := 4) (rest := []) hM C hp mf_Jx4a65c_grow_92f84 km_Jx4a65c_69 hl.1 dJx4a65c_grow_d5877_7 hk rfl ⟨lb rfl, lb rfl, lb rfl, by show 0 + N ≤ N; omega⟩ rfl rfl (lb rfl) (fun v w1 H locs hv hp => ?_)
  obtain ⟨q, rfl, hv⟩ := hv
  refine W.eq (g2 := F0 m 10 ls [.ref q]) rfl ?_
  refine W.widen (k := 1) (n := N) (by show 0 + 1 ≤ 1; omega) (by show 0 + N ≤ N; omega) ?_
  exact r_aret C hp (Or.inr ⟨_, rfl⟩) (Or.inr ⟨_, rfl⟩) dJx4a65c_grow_d5877_10 ⟨q, rfl, hv⟩
abbrev rmB (f n M N : Nat) : Room := { frames := f, cells := M, slots := N, locals := n }
/-- behind the growth: the element is stored, the size is one more -/
theorem add_tail {E0 : Nat} {ws0 w : va_W} {p : Program} {e : Env} {s : State} {m : MethodId} {args : Array Value} {below : List Frame} {meth : Method} {c : Code} {H : Heap} {locs : List Loc} {k j kx a ea n x M N : Nat} {md sz : Int32} {f : Nat → Option Nat} {fx : List Value} {ls : Array Slot} {post : Option Value → va_W → Prop} (h9 : ZO2 l E0 Z) (C : Cx G Z ws0 p s m args meth c RJx4a65c cJx4a65c_add_72be8 4 none) (hp : Hp G ws0 s H locs w) (hkj : k ≠ j) (hk : w[k]? = some (a, .inr (4, [.int md, .ref ea, .int sz]))) (hj : w[j]? = some (ea, .inl (G.2 3, n, .inr (.inr (.inr (.inr f)))))) (hxk : w[kx]? = some (x, .inr (0, fx))) (hin : vp_in sz n) (hl : lv_has ls 4 [(2, .ref ea), (0, .ref a), (1, .ref x), (3, .int sz)])
    (hq : post none ((w.set j (ea, .inl (G.2 3, n, .inr (.inr (.inr (.inr (va_up f sz.toNatClampNeg (some x)))))))).set k (a, .inr (4, [.int md, .ref ea, .int (sz + 1)])))) : W p l e (rmB 5 170 M N) s m args below meth c H locs M N (MQ below (QM G Z ws0 s.heap.size post) args s (rmB 5 170 M N).cells (rmB 5 170 M N).slots (va_A ws0 s.heap.size)) (F0 m 11 ls []) := by
  have hx := C.hx
  have hb := C.hb
  refine lv_aload_n hx hb dJx4a65c_add_72be8_11 rfl (lv_at hl 0 rfl) ?_
  refine lv_iload_n hx hb dJx4a65c_add_72be8_12 rfl (lv_at hl 3 rfl) ?_
  refine lv_aload_n hx hb dJx4a65c_add_72be8_13 rfl (lv_at hl 2 rfl) ?_
  refine va_astqM hx hb C.hK hp.1 hp.2.1 hp.2.2 j 3 hj rfl (va_rAny C.hK hp.1 hxk (r := (RX0, TX0, 10)) rfl (cut_obj h9 C.hW)) hin dJx4a65c_add_72be8_14 (fun H locs a1 a2 a3 => ?_)
  have hp : Hp G ws0 s H locs (w.set j (ea, .inl (G.2 3, n, .inr (.inr (.inr (.inr (va_up f sz.toNatClampNeg (some x)))))))) := ⟨a1, a2, a3⟩
  refine lv_aload_n hx hb dJx4a65c_add_72be8_15 rfl (lv_at hl 1 rfl) ?_
  refine lv_iload_n hx hb dJx4a65c_add_72be8_16 rfl (lv_at hl 3 rfl) ?_
  refine lv_iconst (v := 1) hx hb dJx4a65c_add_72be8_17 (by decide) ?_
  refine lv_iadd hx hb dJx4a65c_add_72be8_18 ?_
  refine r_put (q0 := k) (ci := 4) (ty := .int) 2 C hp (gset_ne (Ne.symm hkj) hk) rfl inW_Jx4a65c tyJx4a65c_ok nmJx4a65c (by decide) kf_Jx4a65c_48 rfl (by decide +kernel) rfl rfl (lb rfl) dJx4a65c_add_72be8_19 (fun H locs hp => ?_)
  exact r_vret C hp dJx4a65c_add_72be8_22 hq
theorem mf_Jx4a65c_add_72be8 : MFv yJx4a65c_add_72be8 cJx4a65c_add_72be8 4 none 3 := ⟨kc_Jx4a65c_add_72be8, kn_Jx4a65c_add_72be8, kv_Jx4a65c_add_72be8, ki_Jx4a65c, by decide +kernel⟩
theorem mf_Jx4a65c_add_9ea2d : MFv yJx4a65c_add_9ea2d cJx4a65c_add_9ea2d 2 (some .boolean) 1 := ⟨kc_Jx4a65c_add_9ea2d, kn_Jx4a65c_add_9ea2d, kv_Jx4a65c_add_9ea2d, ki_Jx4a65c, by decide +kernel⟩
set_option maxHeartbeats 4000000 in
/-- add(E, Object[], int), room is there -/
theorem c_add2A {w : va_W} {k j kx a ea n x : Nat} {md sz : Int32} {f : Nat → Option Nat} {fx : List Value} {E0 : Nat} (hZ : ZOK G Z) (h9 : ZO2 l E0 Z) (hkj : k ≠ j) (hk : w[k]? = some (a, .inr (4, [.int md, .ref ea, .int sz]))) (hj : w[j]? = some (ea, .inl (G.2 3, n, .inr (.inr (.inr (.inr f)))))) (hxk : w[kx]? = some (x, .inr (0, fx))) (hin : vp_in sz n) (hne : ¬ sz = nI n) :
    CM l G Z yJx4a65c_add_72be8 cJx4a65c_add_72be8 4 none (rmB 5 170 0 0) [.ref a, .ref x, .ref ea, .int sz] w (fun v w' => v = none ∧ w' = (w.set j (ea, .inl (G.2 3, n, .inr (.inr (.inr (.inr (va_up f sz.toNatClampNeg (some x)))))))).set k (a, .inr (4, [.int md, .ref ea, .int (sz + 1)]))) := by
  refine CM_ofW hZ (by decide) (lb rfl) (fun p e s m below meth c ls C hp hl hnm => ?_)
  have C : Cx G Z _ p s m _ meth c RJx4a65c cJx4a65c_add_72be8 4 none := C
  have hl : lv_has ls 4 [(0, .ref a), (1, .ref x), (2, .ref ea), (3, .int sz)] := hl
  have hx := C.hx
  have hb := C.hb
  refine lv_iload_n hx hb dJx4a65c_add_72be8_0 rfl (lv_at hl 3 rfl) ?_
  refine lv_aload_n hx hb dJx4a65c_add_72be8_1 rfl (lv_at hl 2 rfl) ?_
  refine va_alen (v := nI n) hx hb C.hK hp.1 j 3 hj rfl rfl dJx4a65c_add_72be8_2 ?_
  refine lv_icmp_ne (tgt := 11) hx hb dJx4a65c_add_72be8_3 (by decide) (fun _ => ?_) (fun q => absurd q hne)
  exact add_tail h9 C hp hkj hk hj hxk hin (lv_sub hl [2, 0, 1, 3] rfl) ⟨rfl, rfl⟩
set_option maxHeartbeats 4000000 in
/-- add(E, Object[], int), with growth: ea is full (its length is sz) -/
theorem c_add2G {w : va_W} {k kx a ea n1 x N : Nat} {md sz : Int32} {f1 : Nat → Option Nat} {fx : List Value} {E0 : Nat} {W1 : Nat → va_W} {j1 : Nat} (hZ : ZOK G Z) (h9 : ZO2 l E0 Z) (hkj : k ≠ j1) (hk0 : w[k]? = some (a, .inr (4, [.int md, .ref ea, .int sz])))
    (hlen : (ea = E0 ∧ sz = 0) ∨ ∃ (j n : Nat) (f : Nat → Option Nat), w[j]? = some (ea, .inl (G.2 3, n, .inr (.inr (.inr (.inr f))))) ∧ sz = nI n)
    (hM : CM l G Z yJx4a65c_grow_d5877 cJx4a65c_grow_d5877 1 (some (.array (.object "java/lang/Object"))) (rmA 4 150 N) [.ref a] w (fun v w' => ∃ q : Nat, v = some (.ref q) ∧ w' = W1 q))
    (hk : ∀ q, (W1 q)[k]? = some (a, .inr (4, [.int md, .ref q, .int sz]))) (hj : ∀ q, (W1 q)[j1]? = some (q, .inl (G.2 3, n1, .inr (.inr (.inr (.inr f1)))))) (hxk : ∀ q, (W1 q)[kx]? = some (x, .inr (0, fx))) (hin : vp_in sz n1) :
    CM l G Z yJx4a65c_add_72be8 cJx4a65c_add_72be8 4 none (rmB 5 170 1 N) [.ref a, .ref x, .ref ea, .int sz] w (fun v w' => v = none ∧ ∃ q : Nat, w' = ((W1 q).set j1 (q, .inl (G.2 3, n1, .inr (.inr (.inr (.inr (va_up f1 sz.toNatClampNeg (some x)))))))).set k (a, .inr (4, [.int md, .ref q, .int (sz + 1)]))) := by
  refine CM_ofW hZ (by decide) (lb rfl) (fun p e s m below meth c ls C hp hl hnm => ?_)
  have C : Cx G Z _ p s m _ meth c RJx4a65c cJx4a65c_add_72be8 4 none := C
  have hl : lv_has ls 4 [(0, .ref a), (1, .ref x), (2, .ref ea), (3, .int sz)] := hl
  have hx := C.hx
  have hb := C.hb
  have rest1 : ∀ q9 : ¬ ¬ sz = sz, W p l e (rmB 5 170 1 N) s m #[Value.ref a, Value.ref x, Value.ref ea, Value.int sz] below meth c s.heap [] 0 0 (MQ below (QM G Z w s.heap.size (fun v w' => v = none ∧ ∃ q : Nat, w' = ((W1 q).set j1 (q, .inl (G.2 3, n1, .inr (.inr (.inr (.inr (va_up f1 sz.toNatClampNeg (some x)))))))).set k (a, .inr (4, [.int md, .ref q, .int (sz + 1)])))) #[Value.ref a, Value.ref x, Value.ref ea, Value.int sz] s (rmB 5 170 1 N).cells (rmB 5 170 1 N).slots (va_A w s.heap.size)) (F0 m 6 ls []) := by
    intro _
    refine lv_aload_n hx hb dJx4a65c_add_72be8_6 rfl (lv_at hl 0 rfl) ?_
    refine r_callV (q0 := k) (ci := 4) (rest := []) hM C hp mf_Jx4a65c_grow_d5877 km_Jx4a65c_129 hl.1 dJx4a65c_add_72be8_7 hk0 rfl ⟨lb rfl, lb rfl, lb rfl, by show 0 + N ≤ N; omega⟩ rfl rfl (lb rfl) (fun v w1 H locs hv hp => ?_)
    obtain ⟨q, rfl, rfl⟩ := hv
    refine W.eq (g2 := F0 m 10 ls [.ref q]) rfl ?_
    refine lv_astore_n (lv' := [(2, .ref q), (0, .ref a), (1, .ref x), (3, .int sz)]) hx hb dJx4a65c_add_72be8_10 rfl hl (by decide) rfl (fun ls hl => ?_)
    refine W.widen (k := 1) (n := N) (by show 0 + 1 ≤ 1; omega) (by show 0 + N ≤ N; omega) ?_
    exact add_tail h9 C hp hkj (hk q) (hj q) (hxk q) hin hl ⟨rfl, q, rfl⟩
  refine lv_iload_n hx hb dJx4a65c_add_72be8_0 rfl (lv_at hl 3 rfl) ?_
  refine lv_aload_n hx hb dJx4a65c_add_72be8_1 rfl (lv_at hl 2 rfl) ?_
  rcases hlen with ⟨rfl, rfl⟩ | ⟨j, n, f, hj0, rfl⟩
  · refine va_tlen (v := 0) hx hb (T_at h9 C) hp.2.2 rfl dJx4a65c_add_72be8_2 ?_
    refine lv_icmp_ne (tgt := 11) hx hb dJx4a65c_add_72be8_3 (by decide) (fun q => absurd rfl q) (fun _ => rest1 (fun q => q rfl))
  · refine va_alen (v := nI n) hx hb C.hK hp.1 j 3 hj0 rfl rfl dJx4a65c_add_72be8_2 ?_
    refine lv_icmp_ne (tgt := 11) hx hb dJx4a65c_add_72be8_3 (by decide) (fun q => absurd rfl q) (fun _ => rest1 (fun q => q rfl))
set_option maxHeartbeats 4000000 in
/-- add(E): modCount, then the other add -/
theorem c_add1 {w : va_W} {k a ea x M N : Nat} {md sz : Int32} {post : va_W → Prop} (hZ : ZOK G Z) (hk : w[k]? = some (a, .inr (4, [.int md, .ref ea, .int sz])))
    (hM : CM l G Z yJx4a65c_add_72be8 cJx4a65c_add_72be8 4 none (rmB 5 170 M N) [.ref a, .ref x, .ref ea, .int sz] (w.set k (a, .inr (4, [.int (md + 1), .ref ea, .int sz]))) (fun v w' => v = none ∧ post w')) :
    CM l G Z yJx4a65c_add_9ea2d cJx4a65c_add_9ea2d 2 (some .boolean) (rmB 6 200 M N) [.ref a, .ref x] w (fun v w' => v = some (.int 1) ∧ post w') := by
  refine CM_ofW hZ (by decide) (lb rfl) (fun p e s m below meth c ls C hp hl hnm => ?_)
  have C : Cx G Z _ p s m _ meth c RJx4a65c cJx4a65c_add_9ea2d 2 (some .boolean) := C
  have hl : lv_has ls 2 [(0, .ref a), (1, .ref x)] := hl
  have hx := C.hx
  have hb := C.hb
  refine lv_aload_n hx hb dJx4a65c_add_9ea2d_0 rfl (lv_at hl 0 rfl) ?_
  refine lv_dup hx hb dJx4a65c_add_9ea2d_1 rfl ?_
  refine va_get (D := G.1) (ci := 4) (v := .int md) (C := RJx4a65c) (T := TJx4a65c) (N := 3) hx hb C.hts inW_Jx4a65c C.hown C.hK hp.1 k hk rfl 0 (by decide) (C.hts _ kf_Jx4a65c_63) (fun x9 h9 => u_same (C.hts _ ksf_mod) x9 h9) rfl dJx4a65c_add_9ea2d_2 ?_
  refine lv_iconst (v := 1) hx hb dJx4a65c_add_9ea2d_5 (by decide) ?_
  refine lv_iadd hx hb dJx4a65c_add_9ea2d_6 ?_
  refine va_put (D := G.1) (ci := 4) (v := .int (md + 1)) (ty := .int) (C := RJx4a65c) (T := TJx4a65c) (N := 3) hx hb C.hts inW_Jx4a65c tyJx4a65c tyJx4a65c_ok nmJx4a65c C.hown C.hK hp.1 hp.2.1 hp.2.2 k hk rfl 0 (by decide) (C.hts _ kf_Jx4a65c_63) (fun x9 h9 => u_same (C.hts _ ksf_mod) x9 h9) rfl (by decide +kernel) rfl rfl (lb rfl) dJx4a65c_add_9ea2d_7 (fun H locs a1 a2 a3 => ?_)
  have hp : Hp G w s H locs (w.set k (a, .inr (4, [.int (md + 1), .ref ea, .int sz]))) := ⟨a1, a2, a3⟩
  have hk1 := gset_self (A := ((a, .inr (4, [.int (md + 1), .ref ea, .int sz])) : Nat × va_E)) hk
  refine lv_aload_n hx hb dJx4a65c_add_9ea2d_10 rfl (lv_at hl 0 rfl) ?_
  refine lv_aload_n hx hb dJx4a65c_add_9ea2d_11 rfl (lv_at hl 1 rfl) ?_
  refine lv_aload_n hx hb dJx4a65c_add_9ea2d_12 rfl (lv_at hl 0 rfl) ?_
  refine r_get (q0 := k) (ci := 4) 1 C hp hk1 rfl inW_Jx4a65c (by decide) kf_Jx4a65c_9 rfl dJx4a65c_add_9ea2d_13 ?_
  refine lv_aload_n hx hb dJx4a65c_add_9ea2d_16 rfl (lv_at hl 0 rfl) ?_
  refine r_get (q0 := k) (ci := 4) 2 C hp hk1 rfl inW_Jx4a65c (by decide) kf_Jx4a65c_48 rfl dJx4a65c_add_9ea2d_17 ?_
  refine r_callV (q0 := k) (ci := 4) (rest := []) hM C hp mf_Jx4a65c_add_72be8 km_Jx4a65c_131 hl.1 dJx4a65c_add_9ea2d_20 hk1 rfl ⟨lb rfl, lb rfl, by show 0 + M ≤ M; omega, by show 0 + N ≤ N; omega⟩ rfl rfl (lb rfl) (fun v w1 H locs hv hp => ?_)
  obtain ⟨rfl, hv⟩ := hv
  refine W.eq (g2 := F0 m 23 ls []) rfl ?_
  refine lv_iconst (v := 1) hx hb dJx4a65c_add_9ea2d_23 (by decide) ?_
  refine W.widen (k := M) (n := N) (by show 0 + M ≤ M; omega) (by show 0 + N ≤ N; omega) ?_
  exact r_zret C hp dJx4a65c_add_9ea2d_24 rfl ⟨rfl, hv⟩
end JADD
