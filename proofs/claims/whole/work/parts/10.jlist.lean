section CMF
variable {l : Launch} {G : GT} {Z : State} {cc : ByteArray} {ret : Option FieldType} {post : Option Value → va_W → Prop}
theorem CM_ofWF {y : MethodName} {n : Nat} {rm : Room} {av : List Value} {ws : va_W} (hZ : ZOK G Z) (hy : plainFor y = true) (hlen : (lg_sl av).length ≤ n)
    (body : ∀ (p : Program) (e : Env) (s : State) (m : MethodId) (below : List Frame) (meth : Method) (c : Code) (ls : Array Slot), Cx G Z ws p s m av.toArray meth c y.cls cc n ret → Hp G ws s s.heap [] ws → lv_has ls n (lv_args 0 av) → meth.name = y.name →
      W p l e rm s m av.toArray below meth c s.heap [] 0 0 (MQ below (QM G Z ws s.heap.size post) av.toArray s rm.cells rm.slots (va_A ws s.heap.size)) (F0 m 0 ls [])) : CM l G Z y cc n ret rm av ws post := by
  intro sz
  refine va_MetF (cc := cc) (maxL := n) (ret := ret) hy rfl ?_
  intro p e s m args below meth c s₁ B hml hv
  obtain ⟨rfl, rfl, hP, hD, hW, hz, ho⟩ := hv
  have hts : ∀ w ∈ WS, w.before av.toArray s = true := fun w hw => word_at hW (good_of_word (WS_good hw)) (hZ.1 w hw)
  have hl := lv_entry av (n := n) hlen
  rw [lg_entry_eq]
  exact body p e s m below meth c _ ⟨⟨B.exec, B.bytes, hml, findClass_of_methodNamed B.named, hts⟩, B.returns, va_K.moved hW.alike hZ.2.1, B.notSynchronized, hW, hD, hz, ho, hZ⟩ ⟨hP, hD.self, va_S.rf⟩ hl (name_of_methodNamed B.named B.method).1
end CMF
/-! J9_floorMod_7cf53 -/
def wp_J9_floorMod_7cf53 (a0 : Int32) (a1 : Int32) (post : Int32 → Prop) : Prop :=
  (¬ a1 = 0) ∧ (
    ∀ x2 : Int32, x2 = a0 - a0 / a1 * a1 →
      ((0 ≤ (a0 ^^^ a1) →
        post x2
      ) ∧
      (¬ 0 ≤ (a0 ^^^ a1) →
        ((x2 = 0 →
          post x2
        ) ∧
        (¬ x2 = 0 →
          post (x2 + a1)
        ))
      ))
  )
set_option maxHeartbeats 4000000 in
set_option maxRecDepth 100000 in
theorem c_J9_floorMod_7cf53 {l : Launch} {G : GT} {Z : State} {w : va_W} (hZ : ZOK G Z) {a0 : Int32} {a1 : Int32} {post : Int32 → Prop} (h : wp_J9_floorMod_7cf53 a0 a1 post) : CM l G Z yJ9_floorMod_7cf53 cJ9_floorMod_7cf53 3 (some .int) (rmz 0 0) [.int a0, .int a1] (w) (SI w post) := by
  refine CM_ofWF hZ (by decide +kernel) (lb rfl) (fun p e s m below meth c ls C hp hl hnm => ?_)
  have C : Cx G Z _ p s m _ meth c RJ9 cJ9_floorMod_7cf53 3 (some .int) := C
  have hl : lv_has ls 3 [(0, .int a0), (1, .int a1)] := hl
  have hx := C.hx
  have hb := C.hb
  unfold wp_J9_floorMod_7cf53 at h
  refine lv_iload_n hx hb dJ9_floorMod_7cf53_0 rfl (lv_at hl 0 rfl) ?_
  refine lv_iload_n hx hb dJ9_floorMod_7cf53_1 rfl (lv_at hl 1 rfl) ?_
  obtain ⟨g1, h⟩ := h
  refine lv_irem hx hb dJ9_floorMod_7cf53_2 g1 ?_
  refine lv_topi (fun x2 ex2 => ?_)
  have h := h x2 ex2
  refine lv_istore_n (lv' := [(2, .int x2), (0, .int a0), (1, .int a1)]) hx hb dJ9_floorMod_7cf53_3 rfl hl (by decide) rfl (fun ls hl => ?_)
  refine lv_iload_n hx hb dJ9_floorMod_7cf53_4 rfl (lv_at hl 1 rfl) ?_
  refine lv_iload_n hx hb dJ9_floorMod_7cf53_5 rfl (lv_at hl 2 rfl) ?_
  refine lv_ixor hx hb dJ9_floorMod_7cf53_6 ?_
  refine lv_if_ge (tgt := 18) hx hb dJ9_floorMod_7cf53_7 (by decide) (fun q3 => ?_) (fun q3 => ?_)
  · have h := h.1 q3
    refine lv_iload_n hx hb dJ9_floorMod_7cf53_18 rfl (lv_at hl 0 rfl) ?_
    exact r_iret C hp dJ9_floorMod_7cf53_19 ⟨_, rfl, rfl, h⟩
  · have h := h.2 q3
    refine lv_iload_n hx hb dJ9_floorMod_7cf53_10 rfl (lv_at hl 0 rfl) ?_
    refine lv_if_eq (tgt := 18) hx hb dJ9_floorMod_7cf53_11 (by decide) (fun q4 => ?_) (fun q4 => ?_)
    · have h := h.1 q4
      refine lv_iload_n hx hb dJ9_floorMod_7cf53_18 rfl (lv_at hl 0 rfl) ?_
      exact r_iret C hp dJ9_floorMod_7cf53_19 ⟨_, rfl, rfl, h⟩
    · have h := h.2 q4
      refine lv_iload_n hx hb dJ9_floorMod_7cf53_14 rfl (lv_at hl 0 rfl) ?_
      refine lv_iload_n hx hb dJ9_floorMod_7cf53_15 rfl (lv_at hl 2 rfl) ?_
      refine lv_iadd hx hb dJ9_floorMod_7cf53_16 ?_
      exact r_iret C hp dJ9_floorMod_7cf53_17 ⟨_, rfl, rfl, h⟩
theorem mf_J9_floorMod_7cf53 : MFs yJ9_floorMod_7cf53 cJ9_floorMod_7cf53 3 (some .int) 2 := ⟨kc_J9_floorMod_7cf53, ks_J9_floorMod_7cf53, ki_J9, by decide +kernel⟩

/-! J9_min_7cf53 -/
def wp_J9_min_7cf53 (a0 : Int32) (a1 : Int32) (post : Int32 → Prop) : Prop :=
  ((a1 < a0 →
    post a1
  ) ∧
  (¬ a1 < a0 →
    post a0
  ))
set_option maxHeartbeats 4000000 in
set_option maxRecDepth 100000 in
theorem c_J9_min_7cf53 {l : Launch} {G : GT} {Z : State} {w : va_W} (hZ : ZOK G Z) {a0 : Int32} {a1 : Int32} {post : Int32 → Prop} (h : wp_J9_min_7cf53 a0 a1 post) : CM l G Z yJ9_min_7cf53 cJ9_min_7cf53 2 (some .int) (rmz 0 0) [.int a0, .int a1] (w) (SI w post) := by
  refine CM_ofWF hZ (by decide +kernel) (lb rfl) (fun p e s m below meth c ls C hp hl hnm => ?_)
  have C : Cx G Z _ p s m _ meth c RJ9 cJ9_min_7cf53 2 (some .int) := C
  have hl : lv_has ls 2 [(0, .int a0), (1, .int a1)] := hl
  have hx := C.hx
  have hb := C.hb
  unfold wp_J9_min_7cf53 at h
  refine lv_iload_n hx hb dJ9_min_7cf53_0 rfl (lv_at hl 0 rfl) ?_
  refine lv_iload_n hx hb dJ9_min_7cf53_1 rfl (lv_at hl 1 rfl) ?_
  refine lv_icmp_gt (tgt := 9) hx hb dJ9_min_7cf53_2 (by decide) (fun q1 => ?_) (fun q1 => ?_)
  · have h := h.1 q1
    refine lv_iload_n hx hb dJ9_min_7cf53_9 rfl (lv_at hl 1 rfl) ?_
    exact r_iret C hp dJ9_min_7cf53_10 ⟨_, rfl, rfl, h⟩
  · have h := h.2 q1
    refine lv_iload_n hx hb dJ9_min_7cf53_5 rfl (lv_at hl 0 rfl) ?_
    refine lv_goto (tgt := 10) hx hb dJ9_min_7cf53_6 (by decide) ?_
    exact r_iret C hp dJ9_min_7cf53_10 ⟨_, rfl, rfl, h⟩
theorem mf_J9_min_7cf53 : MFs yJ9_min_7cf53 cJ9_min_7cf53 2 (some .int) 2 := ⟨kc_J9_min_7cf53, ks_J9_min_7cf53, ki_J9, by decide +kernel⟩

/-! J9_max_7cf53 -/
def wp_J9_max_7cf53 (a0 : Int32) (a1 : Int32) (post : Int32 → Prop) : Prop :=
  ((a0 < a1 →
    post a1
  ) ∧
  (¬ a0 < a1 →
    post a0
  ))
set_option maxHeartbeats 4000000 in
set_option maxRecDepth 100000 in
theorem c_J9_max_7cf53 {l : Launch} {G : GT} {Z : State} {w : va_W} (hZ : ZOK G Z) {a0 : Int32} {a1 : Int32} {post : Int32 → Prop} (h : wp_J9_max_7cf53 a0 a1 post) : CM l G Z yJ9_max_7cf53 cJ9_max_7cf53 2 (some .int) (rmz 0 0) [.int a0, .int a1] (w) (SI w post) := by
  refine CM_ofWF hZ (by decide +kernel) (lb rfl) (fun p e s m below meth c ls C hp hl hnm => ?_)
  have C : Cx G Z _ p s m _ meth c RJ9 cJ9_max_7cf53 2 (some .int) := C
  have hl : lv_has ls 2 [(0, .int a0), (1, .int a1)] := hl
  have hx := C.hx
  have hb := C.hb
  unfold wp_J9_max_7cf53 at h
  refine lv_iload_n hx hb dJ9_max_7cf53_0 rfl (lv_at hl 0 rfl) ?_
  refine lv_iload_n hx hb dJ9_max_7cf53_1 rfl (lv_at hl 1 rfl) ?_
  refine lv_icmp_lt (tgt := 9) hx hb dJ9_max_7cf53_2 (by decide) (fun q1 => ?_) (fun q1 => ?_)
  · have h := h.1 q1
    refine lv_iload_n hx hb dJ9_max_7cf53_9 rfl (lv_at hl 1 rfl) ?_
    exact r_iret C hp dJ9_max_7cf53_10 ⟨_, rfl, rfl, h⟩
  · have h := h.2 q1
    refine lv_iload_n hx hb dJ9_max_7cf53_5 rfl (lv_at hl 0 rfl) ?_
    refine lv_goto (tgt := 10) hx hb dJ9_max_7cf53_6 (by decide) ?_
    exact r_iret C hp dJ9_max_7cf53_10 ⟨_, rfl, rfl, h⟩
theorem mf_J9_max_7cf53 : MFs yJ9_max_7cf53 cJ9_max_7cf53 2 (some .int) 2 := ⟨kc_J9_max_7cf53, ks_J9_max_7cf53, ki_J9, by decide +kernel⟩

/-! J3_checkIndex_8e157 -/
def wp_J3_checkIndex_8e157 (a0 : Int32) (a1 : Int32) (post : Int32 → Prop) : Prop :=
  ((a0 < 0 →
    False
  ) ∧
  (¬ a0 < 0 →
    ((a0 < a1 →
      post a0
    ) ∧
    (¬ a0 < a1 →
      False
    ))
  ))
set_option maxHeartbeats 4000000 in
set_option maxRecDepth 100000 in
theorem c_J3_checkIndex_8e157 {l : Launch} {G : GT} {Z : State} {w : va_W} (hZ : ZOK G Z) {a0 : Int32} {a1 : Int32} {post : Int32 → Prop} (h : wp_J3_checkIndex_8e157 a0 a1 post) : CM l G Z yJ3_checkIndex_8e157 cJ3_checkIndex_8e157 3 (some .int) (rmz 0 0) [.int a0, .int a1, .null] (w) (SI w post) := by
  refine CM_ofW hZ (by decide +kernel) (lb rfl) (fun p e s m below meth c ls C hp hl hnm => ?_)
  have C : Cx G Z _ p s m _ meth c RJ3 cJ3_checkIndex_8e157 3 (some .int) := C
  have hl : lv_has ls 3 [(0, .int a0), (1, .int a1), (2, .null)] := hl
  have hx := C.hx
  have hb := C.hb
  unfold wp_J3_checkIndex_8e157 at h
  refine lv_iload_n hx hb dJ3_checkIndex_8e157_0 rfl (lv_at hl 0 rfl) ?_
  refine lv_if_lt (tgt := 9) hx hb dJ3_checkIndex_8e157_1 (by decide) (fun q1 => ?_) (fun q1 => ?_)
  · have h := h.1 q1
    exact False.elim h
  · have h := h.2 q1
    refine lv_iload_n hx hb dJ3_checkIndex_8e157_4 rfl (lv_at hl 0 rfl) ?_
    refine lv_iload_n hx hb dJ3_checkIndex_8e157_5 rfl (lv_at hl 1 rfl) ?_
    refine lv_icmp_lt (tgt := 16) hx hb dJ3_checkIndex_8e157_6 (by decide) (fun q2 => ?_) (fun q2 => ?_)
    · have h := h.1 q2
      refine lv_iload_n hx hb dJ3_checkIndex_8e157_16 rfl (lv_at hl 0 rfl) ?_
      exact r_iret C hp dJ3_checkIndex_8e157_17 ⟨_, rfl, rfl, h⟩
    · have h := h.2 q2
      exact False.elim h
theorem mf_J3_checkIndex_8e157 : MFs yJ3_checkIndex_8e157 cJ3_checkIndex_8e157 3 (some .int) 3 := ⟨kc_J3_checkIndex_8e157, ks_J3_checkIndex_8e157, ki_J3, by decide +kernel⟩

/-! J15_checkIndex_7cf53 -/
def wp_J15_checkIndex_7cf53 (a0 : Int32) (a1 : Int32) (post : Int32 → Prop) : Prop :=
  wp_J3_checkIndex_8e157 a0 a1 (fun r1 =>
    post r1
  )
set_option maxHeartbeats 4000000 in
set_option maxRecDepth 100000 in
theorem c_J15_checkIndex_7cf53 {l : Launch} {G : GT} {Z : State} {w : va_W} (hZ : ZOK G Z) {a0 : Int32} {a1 : Int32} {post : Int32 → Prop} (h : wp_J15_checkIndex_7cf53 a0 a1 post) : CM l G Z yJ15_checkIndex_7cf53 cJ15_checkIndex_7cf53 2 (some .int) (rmz 1 22) [.int a0, .int a1] (w) (SI w post) := by
  refine CM_ofW hZ (by decide +kernel) (lb rfl) (fun p e s m below meth c ls C hp hl hnm => ?_)
  have C : Cx G Z _ p s m _ meth c RJ15 cJ15_checkIndex_7cf53 2 (some .int) := C
  have hl : lv_has ls 2 [(0, .int a0), (1, .int a1)] := hl
  have hx := C.hx
  have hb := C.hb
  unfold wp_J15_checkIndex_7cf53 at h
  refine lv_iload_n hx hb dJ15_checkIndex_7cf53_0 rfl (lv_at hl 0 rfl) ?_
  refine lv_iload_n hx hb dJ15_checkIndex_7cf53_1 rfl (lv_at hl 1 rfl) ?_
  refine lv_null hx hb dJ15_checkIndex_7cf53_2 ?_
  refine r_callS (rest := []) (c_J3_checkIndex_8e157 C.hZ h) C hp mf_J3_checkIndex_8e157 km_J15_105 hl.1 dJ15_checkIndex_7cf53_3 ⟨lb rfl, lb rfl, lb rfl, lb rfl⟩ rfl rfl (lb rfl) (fun v w1 H locs hv hp => ?_)
  obtain ⟨r1, rfl, rfl, h⟩ := hv
  refine W.eq (g2 := F0 m 6 ls [.int r1]) rfl ?_
  exact r_iret C hp dJ15_checkIndex_7cf53_6 ⟨_, rfl, rfl, h⟩
theorem mf_J15_checkIndex_7cf53 : MFs yJ15_checkIndex_7cf53 cJ15_checkIndex_7cf53 2 (some .int) 2 := ⟨kc_J15_checkIndex_7cf53, ks_J15_checkIndex_7cf53, ki_J15, by decide +kernel⟩

/-! J8_newLength_cabcc -/
def wp_J8_newLength_cabcc (a0 : Int32) (a1 : Int32) (a2 : Int32) (post : Int32 → Prop) : Prop :=
  wp_J9_max_7cf53 a1 a2 (fun r1 =>
    ∀ x2 : Int32, x2 = a0 + r1 →
      ((x2 ≤ (0 : Int32) →
        False
      ) ∧
      (¬ x2 ≤ (0 : Int32) →
        (((2147483639 : Int32) < x2 →
          False
        ) ∧
        (¬ (2147483639 : Int32) < x2 →
          post x2
        ))
      ))
  )
set_option maxHeartbeats 4000000 in
set_option maxRecDepth 100000 in
theorem c_J8_newLength_cabcc {l : Launch} {G : GT} {Z : State} {w : va_W} (hZ : ZOK G Z) {a0 : Int32} {a1 : Int32} {a2 : Int32} {post : Int32 → Prop} (h : wp_J8_newLength_cabcc a0 a1 a2 post) : CM l G Z yJ8_newLength_cabcc cJ8_newLength_cabcc 4 (some .int) (rmz 1 21) [.int a0, .int a1, .int a2] (w) (SI w post) := by
  refine CM_ofW hZ (by decide +kernel) (lb rfl) (fun p e s m below meth c ls C hp hl hnm => ?_)
  have C : Cx G Z _ p s m _ meth c RJ8 cJ8_newLength_cabcc 4 (some .int) := C
  have hl : lv_has ls 4 [(0, .int a0), (1, .int a1), (2, .int a2)] := hl
  have hx := C.hx
  have hb := C.hb
  unfold wp_J8_newLength_cabcc at h
  refine lv_iload_n hx hb dJ8_newLength_cabcc_0 rfl (lv_at hl 0 rfl) ?_
  refine lv_iload_n hx hb dJ8_newLength_cabcc_1 rfl (lv_at hl 1 rfl) ?_
  refine lv_iload_n hx hb dJ8_newLength_cabcc_2 rfl (lv_at hl 2 rfl) ?_
  refine r_callS (rest := [.int a0]) (c_J9_max_7cf53 C.hZ h) C hp mf_J9_max_7cf53 km_J8_194 hl.1 dJ8_newLength_cabcc_3 ⟨lb rfl, lb rfl, lb rfl, lb rfl⟩ rfl rfl (lb rfl) (fun v w1 H locs hv hp => ?_)
  obtain ⟨r1, rfl, rfl, h⟩ := hv
  refine W.eq (g2 := F0 m 6 ls [.int r1, .int a0]) rfl ?_
  refine lv_iadd hx hb dJ8_newLength_cabcc_6 ?_
  refine lv_topi (fun x2 ex2 => ?_)
  have h := h x2 ex2
  refine lv_istore_n (lv' := [(3, .int x2), (0, .int a0), (1, .int a1), (2, .int a2)]) hx hb dJ8_newLength_cabcc_7 rfl hl (by decide) rfl (fun ls hl => ?_)
  refine lv_iconst (v := 0) hx hb dJ8_newLength_cabcc_8 (by decide) ?_
  refine lv_iload_n hx hb dJ8_newLength_cabcc_9 rfl (lv_at hl 0 rfl) ?_
  refine lv_icmp_ge (tgt := 21) hx hb dJ8_newLength_cabcc_10 (by decide) (fun q3 => ?_) (fun q3 => ?_)
  · have h := h.1 q3
    exact False.elim h
  · have h := h.2 q3
    refine lv_iload_n hx hb dJ8_newLength_cabcc_13 rfl (lv_at hl 0 rfl) ?_
    refine lv_ldc hx hb C.hown (C.hts _ kd_J8_200) dJ8_newLength_cabcc_14 ?_
    refine lv_icmp_gt (tgt := 21) hx hb dJ8_newLength_cabcc_16 (by decide) (fun q4 => ?_) (fun q4 => ?_)
    · have h := h.1 q4
      exact False.elim h
    · have h := h.2 q4
      refine lv_iload_n hx hb dJ8_newLength_cabcc_19 rfl (lv_at hl 0 rfl) ?_
      exact r_iret C hp dJ8_newLength_cabcc_20 ⟨_, rfl, rfl, h⟩
theorem mf_J8_newLength_cabcc : MFs yJ8_newLength_cabcc cJ8_newLength_cabcc 4 (some .int) 3 := ⟨kc_J8_newLength_cabcc, ks_J8_newLength_cabcc, ki_J8, by decide +kernel⟩

section JLIST
variable {l : Launch} {G : GT} {Z : State}
theorem c_al_size {w : va_W} {k a ea : Nat} {md sz : Int32} (hZ : ZOK G Z) (hk : w[k]? = some (a, .inr (4, [.int md, .ref ea, .int sz]))) : CM l G Z yJx4a65c_size_8abf5 cJx4a65c_size_8abf5 1 (some .int) (rmz 0 0) [.ref a] w (fun v w' => v = some (.int sz) ∧ w' = w) := by
  refine CM_ofW hZ (by decide) (lb rfl) (fun p e s m below meth c ls C hp hl hnm => ?_)
  have C : Cx G Z _ p s m _ meth c RJx4a65c cJx4a65c_size_8abf5 1 (some .int) := C
  have hl : lv_has ls 1 [(0, .ref a)] := hl
  refine lv_aload_n C.hx C.hb dJx4a65c_size_8abf5_0 rfl (lv_at hl 0 rfl) ?_
  refine r_get (q0 := k) (ci := 4) 2 C hp hk rfl inW_Jx4a65c (by decide) kf_Jx4a65c_48 rfl dJx4a65c_size_8abf5_1 ?_
  exact r_iret C hp dJx4a65c_size_8abf5_4 ⟨rfl, rfl⟩
theorem mf_Jx4a65c_size_8abf5 : MFv yJx4a65c_size_8abf5 cJx4a65c_size_8abf5 1 (some .int) 0 := ⟨kc_Jx4a65c_size_8abf5, kn_Jx4a65c_size_8abf5, kv_Jx4a65c_size_8abf5, ki_Jx4a65c, by decide +kernel⟩
theorem c_al_elementData {w : va_W} {k j a ea n y : Nat} {md sz i : Int32} {f : Nat → Option Nat} (hZ : ZOK G Z) (hk : w[k]? = some (a, .inr (4, [.int md, .ref ea, .int sz]))) (hj : w[j]? = some (ea, .inl (G.2 3, n, .inr (.inr (.inr (.inr f)))))) (hin : vp_in i n) (hf : f i.toNatClampNeg = some y) : CM l G Z yJx4a65c_elementData_915e3 cJx4a65c_elementData_915e3 2 (some (.object "java/lang/Object")) (rmz 0 0) [.ref a, .int i] w (fun v w' => v = some (.ref y) ∧ w' = w) := by
  refine CM_ofW hZ (by decide) (lb rfl) (fun p e s m below meth c ls C hp hl hnm => ?_)
  have C : Cx G Z _ p s m _ meth c RJx4a65c cJx4a65c_elementData_915e3 2 (some (.object "java/lang/Object")) := C
  have hl : lv_has ls 2 [(0, .ref a), (1, .int i)] := hl
  refine lv_aload_n C.hx C.hb dJx4a65c_elementData_915e3_0 rfl (lv_at hl 0 rfl) ?_
  refine r_get (q0 := k) (ci := 4) 1 C hp hk rfl inW_Jx4a65c (by decide) kf_Jx4a65c_9 rfl dJx4a65c_elementData_915e3_1 ?_
  refine lv_iload_n C.hx C.hb dJx4a65c_elementData_915e3_4 rfl (lv_at hl 1 rfl) ?_
  refine va_aldq C.hx C.hb C.hK hp.1 j 3 hj rfl hin dJx4a65c_elementData_915e3_5 ?_
  rw [hf]
  exact r_aret C hp (Or.inl ⟨_, rfl⟩) (Or.inr ⟨_, rfl⟩) dJx4a65c_elementData_915e3_6 ⟨rfl, rfl⟩
theorem mf_Jx4a65c_elementData_915e3 : MFv yJx4a65c_elementData_915e3 cJx4a65c_elementData_915e3 2 (some (.object "java/lang/Object")) 1 := ⟨kc_Jx4a65c_elementData_915e3, kn_Jx4a65c_elementData_915e3, kv_Jx4a65c_elementData_915e3, ki_Jx4a65c, by decide +kernel⟩
theorem wp_ci {i sz : Int32} {post : Int32 → Prop} (h0 : ¬ i < 0) (h1 : i < sz) (h : post i) : wp_J15_checkIndex_7cf53 i sz post := by
  unfold wp_J15_checkIndex_7cf53 wp_J3_checkIndex_8e157
  exact ⟨fun q => absurd q h0, fun _ => ⟨fun _ => h, fun q => absurd h1 q⟩⟩
theorem c_al_get {w : va_W} {k j a ea n y : Nat} {md sz i : Int32} {f : Nat → Option Nat} (hZ : ZOK G Z) (hk : w[k]? = some (a, .inr (4, [.int md, .ref ea, .int sz]))) (hj : w[j]? = some (ea, .inl (G.2 3, n, .inr (.inr (.inr (.inr f)))))) (h0 : ¬ i < 0) (h1 : i < sz) (hin : vp_in i n) (hf : f i.toNatClampNeg = some y) : CM l G Z yJx4a65c_get_915e3 cJx4a65c_get_915e3 2 (some (.object "java/lang/Object")) (rmz 2 43) [.ref a, .int i] w (fun v w' => v = some (.ref y) ∧ w' = w) := by
  refine CM_ofW hZ (by decide) (lb rfl) (fun p e s m below meth c ls C hp hl hnm => ?_)
  have C : Cx G Z _ p s m _ meth c RJx4a65c cJx4a65c_get_915e3 2 (some (.object "java/lang/Object")) := C
  have hl : lv_has ls 2 [(0, .ref a), (1, .int i)] := hl
  refine lv_iload_n C.hx C.hb dJx4a65c_get_915e3_0 rfl (lv_at hl 1 rfl) ?_
  refine lv_aload_n C.hx C.hb dJx4a65c_get_915e3_1 rfl (lv_at hl 0 rfl) ?_
  refine r_get (q0 := k) (ci := 4) 2 C hp hk rfl inW_Jx4a65c (by decide) kf_Jx4a65c_48 rfl dJx4a65c_get_915e3_2 ?_
  refine r_callS (rest := []) (c_J15_checkIndex_7cf53 C.hZ (wp_ci (post := fun _ => True) h0 h1 trivial)) C hp mf_J15_checkIndex_7cf53 km_Jx4a65c_118 hl.1 dJx4a65c_get_915e3_5 ⟨lb rfl, lb rfl, lb rfl, lb rfl⟩ rfl rfl (lb rfl) (fun v w1 H locs hv hp => ?_)
  obtain ⟨r, rfl, rfl, -⟩ := hv
  refine W.eq (g2 := F0 m 8 ls [.int r]) rfl ?_
  refine lv_pop C.hx C.hb dJx4a65c_get_915e3_8 rfl ?_
  refine lv_aload_n C.hx C.hb dJx4a65c_get_915e3_9 rfl (lv_at hl 0 rfl) ?_
  refine lv_iload_n C.hx C.hb dJx4a65c_get_915e3_10 rfl (lv_at hl 1 rfl) ?_
  refine r_callV (q0 := k) (ci := 4) (rest := []) (c_al_elementData C.hZ hk hj hin hf) C hp mf_Jx4a65c_elementData_915e3 km_Jx4a65c_123 hl.1 dJx4a65c_get_915e3_11 hk rfl ⟨lb rfl, lb rfl, lb rfl, lb rfl⟩ rfl rfl (lb rfl) (fun v w1 H locs hv hp => ?_)
  obtain ⟨rfl, rfl⟩ := hv
  refine W.eq (g2 := F0 m 14 ls [.ref y]) rfl ?_
  exact r_aret C hp (Or.inl ⟨_, rfl⟩) (Or.inr ⟨_, rfl⟩) dJx4a65c_get_915e3_14 ⟨rfl, rfl⟩
theorem mf_Jx4a65c_get_915e3 : MFv yJx4a65c_get_915e3 cJx4a65c_get_915e3 2 (some (.object "java/lang/Object")) 1 := ⟨kc_Jx4a65c_get_915e3, kn_Jx4a65c_get_915e3, kv_Jx4a65c_get_915e3, ki_Jx4a65c, by decide +kernel⟩
/-- an element of a list -/
def lget (ca : Option (Nat × Nat × (Nat → Option Nat))) (sz i : Int32) (y : Nat) : Prop := ∃ (a n : Nat) (f : Nat → Option Nat), ca = some (a, n, f) ∧ ¬ i < 0 ∧ i < sz ∧ vp_in i n ∧ f i.toNatClampNeg = some y
variable {E0 : Nat} {ad : Nat → Nat} {S : HS}
theorem wH_ca {a n : Nat} {f : Nat → Option Nat} (hca : H_ca S = some (a, n, f)) : (wH G E0 ad S)[12]? = some (a, .inl (G.2 3, n, .inr (.inr (.inr (.inr f))))) := by
  unfold wH hX
  rw [hca]
  rfl
theorem wH_ra {a n : Nat} {f : Nat → Option Nat} (hra : H_ra S = some (a, n, f)) : ∃ j : Nat, (j = 12 ∨ j = 13) ∧ (wH G E0 ad S)[j]? = some (a, .inl (G.2 3, n, .inr (.inr (.inr (.inr f))))) ∧ ∀ f' : Nat → Option Nat, (wH G E0 ad S).set j (a, .inl (G.2 3, n, .inr (.inr (.inr (.inr f'))))) = wH G E0 ad (Hs_ra S (some (a, n, f'))) := by
  have e1 : ∀ f', hB G E0 ad (Hs_ra S (some (a, n, f'))) = hB G E0 ad S := by
    intro f'
    have e0 : ala E0 (H_ra S) = a := by rw [hra]; rfl
    unfold hB
    rw [e0]
    rfl
  rcases hc : H_ca S with _ | q
  · refine ⟨12, Or.inl rfl, ?_, fun f' => ?_⟩
    · unfold wH hX; rw [hc, hra]; rfl
    · have e2 : wH G E0 ad (Hs_ra S (some (a, n, f'))) = (hB G E0 ad S ++ (alc G (H_ca S) ++ [(a, .inl (G.2 3, n, .inr (.inr (.inr (.inr f')))))])) ++ va_pl (H_L S) (cutE S) := by
        rw [← e1 f']; rfl
      rw [e2]; unfold wH hX; rw [hc, hra]; rfl
  · refine ⟨13, Or.inr rfl, ?_, fun f' => ?_⟩
    · unfold wH hX; rw [hc, hra]; rfl
    · have e2 : wH G E0 ad (Hs_ra S (some (a, n, f'))) = (hB G E0 ad S ++ (alc G (H_ca S) ++ [(a, .inl (G.2 3, n, .inr (.inr (.inr (.inr f')))))])) ++ va_pl (H_L S) (cutE S) := by
        rw [← e1 f']; rfl
      rw [e2]; unfold wH hX; rw [hc, hra]; rfl
theorem c_getC {i : Int32} {y : Nat} (hZ : ZOK G Z) (hg : lget (H_ca S) (H_cs S) i y) : CM l G Z yJx4a65c_get_915e3 cJx4a65c_get_915e3 2 (some (.object "java/lang/Object")) (rmz 2 43) [.ref (ad 1), .int i] (wH G E0 ad S) (fun v w' => v = some (.ref y) ∧ w' = wH G E0 ad S) := by
  obtain ⟨a, n, f, hca, h0, h1, hin, hf⟩ := hg
  have hk : (wH G E0 ad S)[3]? = some (ad 1, .inr (4, [.int (H_cm S), .ref (ala E0 (H_ca S)), .int (H_cs S)])) := rfl
  have e0 : ala E0 (H_ca S) = a := by rw [hca]; rfl
  rw [e0] at hk
  exact c_al_get hZ hk (wH_ca hca) h0 h1 hin hf
theorem c_getR {i : Int32} {y : Nat} (hZ : ZOK G Z) (hg : lget (H_ra S) (H_rs S) i y) : CM l G Z yJx4a65c_get_915e3 cJx4a65c_get_915e3 2 (some (.object "java/lang/Object")) (rmz 2 43) [.ref (ad 2), .int i] (wH G E0 ad S) (fun v w' => v = some (.ref y) ∧ w' = wH G E0 ad S) := by
  obtain ⟨a, n, f, hra, h0, h1, hin, hf⟩ := hg
  have hk : (wH G E0 ad S)[4]? = some (ad 2, .inr (4, [.int (H_rm S), .ref (ala E0 (H_ra S)), .int (H_rs S)])) := rfl
  have e0 : ala E0 (H_ra S) = a := by rw [hra]; rfl
  rw [e0] at hk
  obtain ⟨j, -, hj, -⟩ := wH_ra (G := G) (E0 := E0) (ad := ad) hra
  exact c_al_get hZ hk hj h0 h1 hin hf
end JLIST

