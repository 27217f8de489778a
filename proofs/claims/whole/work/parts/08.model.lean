theorem lb {a b : Nat} (h : Nat.ble a b = true) : a ≤ b := Nat.le_of_ble_eq_true h
/-! X3_isIn -/
def wp_X3_isIn (a0 : UInt64) (a1 : UInt64) (a2 : UInt64) (post : Int32 → Prop) : Prop :=
  ((¬ (dG a0 a1 ∨ dE a0 a1) →
    post (0 : Int32)
  ) ∧
  ((dG a0 a1 ∨ dE a0 a1) →
    ((¬ (dL a0 a2 ∨ dE a0 a2) →
      post (0 : Int32)
    ) ∧
    ((dL a0 a2 ∨ dE a0 a2) →
      post (1 : Int32)
    ))
  ))
set_option maxHeartbeats 4000000 in
set_option maxRecDepth 100000 in
theorem c_X3_isIn {l : Launch} {G : GT} {Z : State} {w : va_W} (hZ : ZOK G Z) {a0 : UInt64} {a1 : UInt64} {a2 : UInt64} {post : Int32 → Prop} (h : wp_X3_isIn a0 a1 a2 post) : CM l G Z yX3_isIn cX3_isIn 6 (some .boolean) (rmz 0 0) [.double a0, .double a1, .double a2] (w) (SI w post) := by
  refine CM_ofW hZ (by decide) (lb rfl) (fun p e s m below meth c ls C hp hl hnm => ?_)
  have C : Cx G Z _ p s m _ meth c RX3 cX3_isIn 6 (some .boolean) := C
  have hl : lv_has ls 6 [(0, .double a0), (2, .double a1), (4, .double a2)] := hl
  have hx := C.hx
  have hb := C.hb
  unfold wp_X3_isIn at h
  refine lv_dload_n hx hb dX3_isIn_0 rfl (lv_at hl 0 rfl) ?_
  refine lv_dload_n hx hb dX3_isIn_1 rfl (lv_at hl 1 rfl) ?_
  refine dcl_lt (tgt := 17) hx hb dX3_isIn_2 dX3_isIn_3 (by decide) (fun q1 => ?_) (fun q1 => ?_)
  · have h := h.1 q1
    refine lv_iconst (v := 0) hx hb dX3_isIn_17 (by decide) ?_
    exact r_zret C hp dX3_isIn_18 rfl ⟨_, rfl, rfl, h⟩
  · have h := h.2 q1
    refine lv_dload_n hx hb dX3_isIn_6 rfl (lv_at hl 0 rfl) ?_
    refine lv_dload hx hb dX3_isIn_7 (lv_at hl 2 rfl) ?_
    refine dcg_gt (tgt := 17) hx hb dX3_isIn_9 dX3_isIn_10 (by decide) (fun q2 => ?_) (fun q2 => ?_)
    · have h := h.1 q2
      refine lv_iconst (v := 0) hx hb dX3_isIn_17 (by decide) ?_
      exact r_zret C hp dX3_isIn_18 rfl ⟨_, rfl, rfl, h⟩
    · have h := h.2 q2
      refine lv_iconst (v := 1) hx hb dX3_isIn_13 (by decide) ?_
      refine lv_goto (tgt := 18) hx hb dX3_isIn_14 (by decide) ?_
      exact r_zret C hp dX3_isIn_18 rfl ⟨_, rfl, rfl, h⟩
theorem mf_X3_isIn : MFs yX3_isIn cX3_isIn 6 (some .boolean) 3 := ⟨kc_X3_isIn, ks_X3_isIn, ki_X3, by decide +kernel⟩

/-! X3_level -/
def wp_X3_level (a0 : Int32) (post : Int32 → Prop) : Prop :=
  ((¬ a0 = 0 →
    (((3 : Int32) ≤ a0 →
      post (2 : Int32)
    ) ∧
    (¬ (3 : Int32) ≤ a0 →
      post (1 : Int32)
    ))
  ) ∧
  (a0 = 0 →
    post (0 : Int32)
  ))
set_option maxHeartbeats 4000000 in
set_option maxRecDepth 100000 in
theorem c_X3_level {l : Launch} {G : GT} {Z : State} {w : va_W} (hZ : ZOK G Z) {a0 : Int32} {post : Int32 → Prop} (h : wp_X3_level a0 post) : CM l G Z yX3_level cX3_level 1 (some .int) (rmz 0 0) [.int a0] (w) (SI w post) := by
  refine CM_ofW hZ (by decide) (lb rfl) (fun p e s m below meth c ls C hp hl hnm => ?_)
  have C : Cx G Z _ p s m _ meth c RX3 cX3_level 1 (some .int) := C
  have hl : lv_has ls 1 [(0, .int a0)] := hl
  have hx := C.hx
  have hb := C.hb
  unfold wp_X3_level at h
  refine lv_iload_n hx hb dX3_level_0 rfl (lv_at hl 0 rfl) ?_
  refine lv_if_ne (tgt := 8) hx hb dX3_level_1 (by decide) (fun q1 => ?_) (fun q1 => ?_)
  · have h := h.1 q1
    refine lv_iload_n hx hb dX3_level_8 rfl (lv_at hl 0 rfl) ?_
    refine lv_iconst (v := 3) hx hb dX3_level_9 (by decide) ?_
    refine lv_icmp_ge (tgt := 17) hx hb dX3_level_10 (by decide) (fun q2 => ?_) (fun q2 => ?_)
    · have h := h.1 q2
      refine lv_iconst (v := 2) hx hb dX3_level_17 (by decide) ?_
      exact r_iret C hp dX3_level_18 ⟨_, rfl, rfl, h⟩
    · have h := h.2 q2
      refine lv_iconst (v := 1) hx hb dX3_level_13 (by decide) ?_
      refine lv_goto (tgt := 18) hx hb dX3_level_14 (by decide) ?_
      exact r_iret C hp dX3_level_18 ⟨_, rfl, rfl, h⟩
  · have h := h.2 q1
    refine lv_iconst (v := 0) hx hb dX3_level_4 (by decide) ?_
    refine lv_goto (tgt := 18) hx hb dX3_level_5 (by decide) ?_
    exact r_iret C hp dX3_level_18 ⟨_, rfl, rfl, h⟩
theorem mf_X3_level : MFs yX3_level cX3_level 1 (some .int) 1 := ⟨kc_X3_level, ks_X3_level, ki_X3, by decide +kernel⟩

/-! X3_placeOf -/
def wp_X3_placeOf (a0 : Int32) (post : UInt64 → Prop) : Prop :=
  wp_X3_level a0 (fun r1 =>
    (vf_n64 (FP.dmul (4630826316843712512 : UInt64) (FP.i2d r1))) ∧ (
      ∀ x3 : UInt64, x3 = FP.dmul (4630826316843712512 : UInt64) (FP.i2d r1) →
        (vf_n64 (FP.dadd (4635329916471083008 : UInt64) x3)) ∧ (
          ∀ x5 : UInt64, x5 = FP.dadd (4635329916471083008 : UInt64) x3 →
            post x5
        )
    )
  )
set_option maxHeartbeats 4000000 in
set_option maxRecDepth 100000 in
theorem c_X3_placeOf {l : Launch} {G : GT} {Z : State} {w : va_W} (hZ : ZOK G Z) {a0 : Int32} {post : UInt64 → Prop} (h : wp_X3_placeOf a0 post) : CM l G Z yX3_placeOf cX3_placeOf 1 (some .double) (rmz 1 20) [.int a0] (w) (SD w post) := by
  refine CM_ofW hZ (by decide) (lb rfl) (fun p e s m below meth c ls C hp hl hnm => ?_)
  have C : Cx G Z _ p s m _ meth c RX3 cX3_placeOf 1 (some .double) := C
  have hl : lv_has ls 1 [(0, .int a0)] := hl
  have hx := C.hx
  have hb := C.hb
  unfold wp_X3_placeOf at h
  refine lv_ldc2d hx hb C.hown (C.hts _ kd_X3_97) dX3_placeOf_0 ?_
  refine lv_ldc2d hx hb C.hown (C.hts _ kd_X3_99) dX3_placeOf_3 ?_
  refine lv_iload_n hx hb dX3_placeOf_6 rfl (lv_at hl 0 rfl) ?_
  refine r_callS (rest := [.double (4630826316843712512 : UInt64), .double (4635329916471083008 : UInt64)]) (c_X3_level C.hZ h) C hp mf_X3_level km_X3_101 hl.1 dX3_placeOf_7 ⟨lb rfl, lb rfl, lb rfl, lb rfl⟩ rfl rfl (lb rfl) (fun v w1 H locs hv hp => ?_)
  obtain ⟨r1, rfl, rfl, h⟩ := hv
  refine W.eq (g2 := F0 m 10 ls [.int r1, .double (4630826316843712512 : UInt64), .double (4635329916471083008 : UInt64)]) rfl ?_
  refine lv_i2d hx hb dX3_placeOf_10 ?_
  obtain ⟨g2, h⟩ := h
  refine lv_dmul hx hb dX3_placeOf_11 g2 ?_
  refine lv_topd (fun x3 ex3 => ?_)
  have h := h x3 ex3
  obtain ⟨g4, h⟩ := h
  refine lv_dadd hx hb dX3_placeOf_12 g4 ?_
  refine lv_topd (fun x5 ex5 => ?_)
  have h := h x5 ex5
  exact r_dret C hp dX3_placeOf_13 ⟨_, rfl, rfl, h⟩
theorem mf_X3_placeOf : MFs yX3_placeOf cX3_placeOf 1 (some .double) 1 := ⟨kc_X3_placeOf, ks_X3_placeOf, ki_X3, by decide +kernel⟩

/-! X3_wayTo -/
def wp_X3_wayTo (a0 : Int32) (post : Int32 → Prop) : Prop :=
  wp_X3_level a0 (fun r1 =>
    post ((a0 + (1 : Int32)) - ((1 : Int32) <<< (r1 &&& 31)))
  )
set_option maxHeartbeats 4000000 in
set_option maxRecDepth 100000 in
theorem c_X3_wayTo {l : Launch} {G : GT} {Z : State} {w : va_W} (hZ : ZOK G Z) {a0 : Int32} {post : Int32 → Prop} (h : wp_X3_wayTo a0 post) : CM l G Z yX3_wayTo cX3_wayTo 1 (some .int) (rmz 1 20) [.int a0] (w) (SI w post) := by
  refine CM_ofW hZ (by decide) (lb rfl) (fun p e s m below meth c ls C hp hl hnm => ?_)
  have C : Cx G Z _ p s m _ meth c RX3 cX3_wayTo 1 (some .int) := C
  have hl : lv_has ls 1 [(0, .int a0)] := hl
  have hx := C.hx
  have hb := C.hb
  unfold wp_X3_wayTo at h
  refine lv_iload_n hx hb dX3_wayTo_0 rfl (lv_at hl 0 rfl) ?_
  refine lv_iconst (v := 1) hx hb dX3_wayTo_1 (by decide) ?_
  refine lv_iadd hx hb dX3_wayTo_2 ?_
  refine lv_iconst (v := 1) hx hb dX3_wayTo_3 (by decide) ?_
  refine lv_iload_n hx hb dX3_wayTo_4 rfl (lv_at hl 0 rfl) ?_
  refine r_callS (rest := [.int (1 : Int32), .int (a0 + (1 : Int32))]) (c_X3_level C.hZ h) C hp mf_X3_level km_X3_101 hl.1 dX3_wayTo_5 ⟨lb rfl, lb rfl, lb rfl, lb rfl⟩ rfl rfl (lb rfl) (fun v w1 H locs hv hp => ?_)
  obtain ⟨r1, rfl, rfl, h⟩ := hv
  refine W.eq (g2 := F0 m 8 ls [.int r1, .int (1 : Int32), .int (a0 + (1 : Int32))]) rfl ?_
  refine lv_ishl hx hb dX3_wayTo_8 ?_
  refine lv_isub hx hb dX3_wayTo_9 ?_
  exact r_iret C hp dX3_wayTo_10 ⟨_, rfl, rfl, h⟩
theorem mf_X3_wayTo : MFs yX3_wayTo cX3_wayTo 1 (some .int) 1 := ⟨kc_X3_wayTo, ks_X3_wayTo, ki_X3, by decide +kernel⟩

/-! X3_leads -/
def wp_X3_leads (a0 : Int32) (a1 : Int32) (post : Int32 → Prop) : Prop :=
  wp_X3_level a0 (fun r1 =>
    wp_X3_wayTo a0 (fun r2 =>
      ((¬ (a1 >>> (((3 : Int32) - r1) &&& 31)) = r2 →
        post (0 : Int32)
      ) ∧
      ((a1 >>> (((3 : Int32) - r1) &&& 31)) = r2 →
        post (1 : Int32)
      ))
    )
  )
set_option maxHeartbeats 4000000 in
set_option maxRecDepth 100000 in
theorem c_X3_leads {l : Launch} {G : GT} {Z : State} {w : va_W} (hZ : ZOK G Z) {a0 : Int32} {a1 : Int32} {post : Int32 → Prop} (h : wp_X3_leads a0 a1 post) : CM l G Z yX3_leads cX3_leads 2 (some .boolean) (rmz 2 40) [.int a0, .int a1] (w) (SI w post) := by
  refine CM_ofW hZ (by decide) (lb rfl) (fun p e s m below meth c ls C hp hl hnm => ?_)
  have C : Cx G Z _ p s m _ meth c RX3 cX3_leads 2 (some .boolean) := C
  have hl : lv_has ls 2 [(0, .int a0), (1, .int a1)] := hl
  have hx := C.hx
  have hb := C.hb
  unfold wp_X3_leads at h
  refine lv_iload_n hx hb dX3_leads_0 rfl (lv_at hl 1 rfl) ?_
  refine lv_iconst (v := 3) hx hb dX3_leads_1 (by decide) ?_
  refine lv_iload_n hx hb dX3_leads_2 rfl (lv_at hl 0 rfl) ?_
  refine r_callS (rest := [.int (3 : Int32), .int a1]) (c_X3_level C.hZ h) C hp mf_X3_level km_X3_101 hl.1 dX3_leads_3 ⟨lb rfl, lb rfl, lb rfl, lb rfl⟩ rfl rfl (lb rfl) (fun v w1 H locs hv hp => ?_)
  obtain ⟨r1, rfl, rfl, h⟩ := hv
  refine W.eq (g2 := F0 m 6 ls [.int r1, .int (3 : Int32), .int a1]) rfl ?_
  refine lv_isub hx hb dX3_leads_6 ?_
  refine lv_ishr hx hb dX3_leads_7 ?_
  refine lv_iload_n hx hb dX3_leads_8 rfl (lv_at hl 0 rfl) ?_
  refine r_callS (rest := [.int (a1 >>> (((3 : Int32) - r1) &&& 31))]) (c_X3_wayTo C.hZ h) C hp mf_X3_wayTo km_X3_105 hl.1 dX3_leads_9 ⟨lb rfl, lb rfl, lb rfl, lb rfl⟩ rfl rfl (lb rfl) (fun v w1 H locs hv hp => ?_)
  obtain ⟨r2, rfl, rfl, h⟩ := hv
  refine W.eq (g2 := F0 m 12 ls [.int r2, .int (a1 >>> (((3 : Int32) - r1) &&& 31))]) rfl ?_
  refine lv_icmp_ne (tgt := 19) hx hb dX3_leads_12 (by decide) (fun q3 => ?_) (fun q3 => ?_)
  · have h := h.1 q3
    refine lv_iconst (v := 0) hx hb dX3_leads_19 (by decide) ?_
    exact r_zret C hp dX3_leads_20 rfl ⟨_, rfl, rfl, h⟩
  · have h := h.2 q3
    refine lv_iconst (v := 1) hx hb dX3_leads_15 (by decide) ?_
    refine lv_goto (tgt := 20) hx hb dX3_leads_16 (by decide) ?_
    exact r_zret C hp dX3_leads_20 rfl ⟨_, rfl, rfl, h⟩
theorem mf_X3_leads : MFs yX3_leads cX3_leads 2 (some .boolean) 2 := ⟨kc_X3_leads, ks_X3_leads, ki_X3, by decide +kernel⟩

/-! X3_refuses -/
def wp_X3_refuses (a0 : Int32) (S : MS) (post : Int32 → MS → Prop) : Prop :=
  ∀ S1 : MS, S1 = Ms_code S a0 →
    ((a0 ≤ 0 →
      post (0 : Int32) S1
    ) ∧
    (¬ a0 ≤ 0 →
      post (1 : Int32) S1
    ))
set_option maxHeartbeats 4000000 in
set_option maxRecDepth 100000 in
theorem c_X3_refuses {l : Launch} {G : GT} {Z : State} {b : Nat → Nat} (hZ : ZOK G Z) {a0 : Int32} {S : MS} {post : Int32 → MS → Prop} (h : wp_X3_refuses a0 S post) : CM l G Z yX3_refuses cX3_refuses 2 (some .boolean) (rmz 0 0) [.ref (b 0), .int a0] (wM G b S) (PI (wM G b) post) := by
  refine CM_ofW hZ (by decide) (lb rfl) (fun p e s m below meth c ls C hp hl hnm => ?_)
  have C : Cx G Z _ p s m _ meth c RX3 cX3_refuses 2 (some .boolean) := C
  have hl : lv_has ls 2 [(0, .ref (b 0)), (1, .int a0)] := hl
  have hx := C.hx
  have hb := C.hb
  unfold wp_X3_refuses at h
  refine lv_aload_n hx hb dX3_refuses_0 rfl (lv_at hl 0 rfl) ?_
  refine lv_iload_n hx hb dX3_refuses_1 rfl (lv_at hl 1 rfl) ?_
  refine pM_code C hp dX3_refuses_2 (fun H locs hp => ?_)
  obtain ⟨S1, eS1⟩ : ∃ z : MS, z = Ms_code S a0 := ⟨_, rfl⟩
  rw [← eS1] at hp
  have h := h S1 eS1
  refine lv_iload_n hx hb dX3_refuses_5 rfl (lv_at hl 1 rfl) ?_
  refine lv_if_le (tgt := 13) hx hb dX3_refuses_6 (by decide) (fun q2 => ?_) (fun q2 => ?_)
  · have h := h.1 q2
    refine lv_iconst (v := 0) hx hb dX3_refuses_13 (by decide) ?_
    exact r_zret C hp dX3_refuses_14 rfl ⟨_, _, rfl, rfl, h⟩
  · have h := h.2 q2
    refine lv_iconst (v := 1) hx hb dX3_refuses_9 (by decide) ?_
    refine lv_goto (tgt := 14) hx hb dX3_refuses_10 (by decide) ?_
    exact r_zret C hp dX3_refuses_14 rfl ⟨_, _, rfl, rfl, h⟩
theorem mf_X3_refuses : MFv yX3_refuses cX3_refuses 2 (some .boolean) 1 := ⟨kc_X3_refuses, kn_X3_refuses, kv_X3_refuses, ki_X3, by decide +kernel⟩

/-! X3_thrown -/
def wp_X3_thrown (S : MS) (post : Int32 → Prop) : Prop :=
  post (M_code S)
set_option maxHeartbeats 4000000 in
set_option maxRecDepth 100000 in
theorem c_X3_thrown {l : Launch} {G : GT} {Z : State} {b : Nat → Nat} (hZ : ZOK G Z) {S : MS} {post : Int32 → Prop} (h : wp_X3_thrown S post) : CM l G Z yX3_thrown cX3_thrown 1 (some .int) (rmz 0 0) [.ref (b 0)] (wM G b S) (SI (wM G b S) post) := by
  refine CM_ofW hZ (by decide) (lb rfl) (fun p e s m below meth c ls C hp hl hnm => ?_)
  have C : Cx G Z _ p s m _ meth c RX3 cX3_thrown 1 (some .int) := C
  have hl : lv_has ls 1 [(0, .ref (b 0))] := hl
  have hx := C.hx
  have hb := C.hb
  unfold wp_X3_thrown at h
  refine lv_aload_n hx hb dX3_thrown_0 rfl (lv_at hl 0 rfl) ?_
  refine gM_code C hp dX3_thrown_1 ?_
  exact r_iret C hp dX3_thrown_4 ⟨_, rfl, rfl, h⟩
theorem mf_X3_thrown : MFv yX3_thrown cX3_thrown 1 (some .int) 0 := ⟨kc_X3_thrown, kn_X3_thrown, kv_X3_thrown, ki_X3, by decide +kernel⟩

/-! X3_isCut -/
def wp_X3_isCut (S : MS) (a0 : Int32) (post : Int32 → Prop) : Prop :=
  ((a0 < 0 →
    post (0 : Int32)
  ) ∧
  (¬ a0 < 0 →
    (((M_cuts S) ≤ a0 →
      post (0 : Int32)
    ) ∧
    (¬ (M_cuts S) ≤ a0 →
      post (1 : Int32)
    ))
  ))
set_option maxHeartbeats 4000000 in
set_option maxRecDepth 100000 in
theorem c_X3_isCut {l : Launch} {G : GT} {Z : State} {b : Nat → Nat} (hZ : ZOK G Z) {S : MS} {a0 : Int32} {post : Int32 → Prop} (h : wp_X3_isCut S a0 post) : CM l G Z yX3_isCut cX3_isCut 2 (some .boolean) (rmz 0 0) [.ref (b 0), .int a0] (wM G b S) (SI (wM G b S) post) := by
  refine CM_ofW hZ (by decide) (lb rfl) (fun p e s m below meth c ls C hp hl hnm => ?_)
  have C : Cx G Z _ p s m _ meth c RX3 cX3_isCut 2 (some .boolean) := C
  have hl : lv_has ls 2 [(0, .ref (b 0)), (1, .int a0)] := hl
  have hx := C.hx
  have hb := C.hb
  unfold wp_X3_isCut at h
  refine lv_iload_n hx hb dX3_isCut_0 rfl (lv_at hl 1 rfl) ?_
  refine lv_if_lt (tgt := 16) hx hb dX3_isCut_1 (by decide) (fun q1 => ?_) (fun q1 => ?_)
  · have h := h.1 q1
    refine lv_iconst (v := 0) hx hb dX3_isCut_16 (by decide) ?_
    exact r_zret C hp dX3_isCut_17 rfl ⟨_, rfl, rfl, h⟩
  · have h := h.2 q1
    refine lv_iload_n hx hb dX3_isCut_4 rfl (lv_at hl 1 rfl) ?_
    refine lv_aload_n hx hb dX3_isCut_5 rfl (lv_at hl 0 rfl) ?_
    refine gM_cuts C hp dX3_isCut_6 ?_
    refine lv_icmp_ge (tgt := 16) hx hb dX3_isCut_9 (by decide) (fun q2 => ?_) (fun q2 => ?_)
    · have h := h.1 q2
      refine lv_iconst (v := 0) hx hb dX3_isCut_16 (by decide) ?_
      exact r_zret C hp dX3_isCut_17 rfl ⟨_, rfl, rfl, h⟩
    · have h := h.2 q2
      refine lv_iconst (v := 1) hx hb dX3_isCut_12 (by decide) ?_
      refine lv_goto (tgt := 17) hx hb dX3_isCut_13 (by decide) ?_
      exact r_zret C hp dX3_isCut_17 rfl ⟨_, rfl, rfl, h⟩
theorem mf_X3_isCut : MFv yX3_isCut cX3_isCut 2 (some .boolean) 1 := ⟨kc_X3_isCut, kn_X3_isCut, kv_X3_isCut, ki_X3, by decide +kernel⟩

/-! X3_goesBy -/
def wp_X3_goesBy (S : MS) (a0 : Int32) (a1 : Int32) (post : Int32 → Prop) : Prop :=
  wp_X3_level a1 (fun r1 =>
    (vp_in a0 60) ∧ (
      (((M_passed S a0.toNatClampNeg) < r1 →
        wp_X3_wayTo a1 (fun r4 =>
          ((¬ (M_sides S a0.toNatClampNeg) = (r4 >>> ((r1 - (M_passed S a0.toNatClampNeg)) &&& 31)) →
            post (0 : Int32)
          ) ∧
          ((M_sides S a0.toNatClampNeg) = (r4 >>> ((r1 - (M_passed S a0.toNatClampNeg)) &&& 31)) →
            post (1 : Int32)
          ))
        )
      ) ∧
      (¬ (M_passed S a0.toNatClampNeg) < r1 →
        wp_X3_wayTo a1 (fun r6 =>
          ((¬ ((M_sides S a0.toNatClampNeg) >>> (((M_passed S a0.toNatClampNeg) - r1) &&& 31)) = r6 →
            post (0 : Int32)
          ) ∧
          (((M_sides S a0.toNatClampNeg) >>> (((M_passed S a0.toNatClampNeg) - r1) &&& 31)) = r6 →
            post (1 : Int32)
          ))
        )
      ))
    )
  )
set_option maxHeartbeats 4000000 in
set_option maxRecDepth 100000 in
theorem c_X3_goesBy {l : Launch} {G : GT} {Z : State} {b : Nat → Nat} (hZ : ZOK G Z) {S : MS} {a0 : Int32} {a1 : Int32} {post : Int32 → Prop} (h : wp_X3_goesBy S a0 a1 post) : CM l G Z yX3_goesBy cX3_goesBy 4 (some .boolean) (rmz 2 40) [.ref (b 0), .int a0, .int a1] (wM G b S) (SI (wM G b S) post) := by
  refine CM_ofW hZ (by decide) (lb rfl) (fun p e s m below meth c ls C hp hl hnm => ?_)
  have C : Cx G Z _ p s m _ meth c RX3 cX3_goesBy 4 (some .boolean) := C
  have hl : lv_has ls 4 [(0, .ref (b 0)), (1, .int a0), (2, .int a1)] := hl
  have hx := C.hx
  have hb := C.hb
  unfold wp_X3_goesBy at h
  refine lv_iload_n hx hb dX3_goesBy_0 rfl (lv_at hl 2 rfl) ?_
  refine r_callS (rest := []) (c_X3_level C.hZ h) C hp mf_X3_level km_X3_101 hl.1 dX3_goesBy_1 ⟨lb rfl, lb rfl, lb rfl, lb rfl⟩ rfl rfl (lb rfl) (fun v w1 H locs hv hp => ?_)
  obtain ⟨r1, rfl, rfl, h⟩ := hv
  refine W.eq (g2 := F0 m 4 ls [.int r1]) rfl ?_
  refine lv_istore_n (lv' := [(3, .int r1), (0, .ref (b 0)), (1, .int a0), (2, .int a1)]) hx hb dX3_goesBy_4 rfl hl (by decide) rfl (fun ls hl => ?_)
  refine lv_aload_n hx hb dX3_goesBy_5 rfl (lv_at hl 1 rfl) ?_
  refine gM_passed C hp dX3_goesBy_6 ?_
  refine lv_iload_n hx hb dX3_goesBy_9 rfl (lv_at hl 2 rfl) ?_
  obtain ⟨g2, h⟩ := h
  refine aM_passed C hp dX3_goesBy_10 g2 ?_
  refine lv_iload_n hx hb dX3_goesBy_11 rfl (lv_at hl 0 rfl) ?_
  refine lv_icmp_lt (tgt := 45) hx hb dX3_goesBy_12 (by decide) (fun q3 => ?_) (fun q3 => ?_)
  · have h := h.1 q3
    refine lv_aload_n hx hb dX3_goesBy_45 rfl (lv_at hl 1 rfl) ?_
    refine gM_sides C hp dX3_goesBy_46 ?_
    refine lv_iload_n hx hb dX3_goesBy_49 rfl (lv_at hl 2 rfl) ?_
    refine aM_sides C hp dX3_goesBy_50 g2 ?_
    refine lv_iload_n hx hb dX3_goesBy_51 rfl (lv_at hl 3 rfl) ?_
    refine r_callS (rest := [.int (M_sides S a0.toNatClampNeg)]) (c_X3_wayTo C.hZ h) C hp mf_X3_wayTo km_X3_105 hl.1 dX3_goesBy_52 ⟨lb rfl, lb rfl, lb rfl, lb rfl⟩ rfl rfl (lb rfl) (fun v w1 H locs hv hp => ?_)
    obtain ⟨r4, rfl, rfl, h⟩ := hv
    refine W.eq (g2 := F0 m 55 ls [.int r4, .int (M_sides S a0.toNatClampNeg)]) rfl ?_
    refine lv_iload_n hx hb dX3_goesBy_55 rfl (lv_at hl 0 rfl) ?_
    refine lv_aload_n hx hb dX3_goesBy_56 rfl (lv_at hl 1 rfl) ?_
    refine gM_passed C hp dX3_goesBy_57 ?_
    refine lv_iload_n hx hb dX3_goesBy_60 rfl (lv_at hl 2 rfl) ?_
    refine aM_passed C hp dX3_goesBy_61 g2 ?_
    refine lv_isub hx hb dX3_goesBy_62 ?_
    refine lv_ishr hx hb dX3_goesBy_63 ?_
    refine lv_icmp_ne (tgt := 71) hx hb dX3_goesBy_64 (by decide) (fun q5 => ?_) (fun q5 => ?_)
    · have h := h.1 q5
      refine lv_iconst (v := 0) hx hb dX3_goesBy_71 (by decide) ?_
      exact r_zret C hp dX3_goesBy_72 rfl ⟨_, rfl, rfl, h⟩
    · have h := h.2 q5
      refine lv_iconst (v := 1) hx hb dX3_goesBy_67 (by decide) ?_
      refine lv_goto (tgt := 72) hx hb dX3_goesBy_68 (by decide) ?_
      exact r_zret C hp dX3_goesBy_72 rfl ⟨_, rfl, rfl, h⟩
  · have h := h.2 q3
    refine lv_aload_n hx hb dX3_goesBy_15 rfl (lv_at hl 1 rfl) ?_
    refine gM_sides C hp dX3_goesBy_16 ?_
    refine lv_iload_n hx hb dX3_goesBy_19 rfl (lv_at hl 2 rfl) ?_
    refine aM_sides C hp dX3_goesBy_20 g2 ?_
    refine lv_aload_n hx hb dX3_goesBy_21 rfl (lv_at hl 1 rfl) ?_
    refine gM_passed C hp dX3_goesBy_22 ?_
    refine lv_iload_n hx hb dX3_goesBy_25 rfl (lv_at hl 2 rfl) ?_
    refine aM_passed C hp dX3_goesBy_26 g2 ?_
    refine lv_iload_n hx hb dX3_goesBy_27 rfl (lv_at hl 0 rfl) ?_
    refine lv_isub hx hb dX3_goesBy_28 ?_
    refine lv_ishr hx hb dX3_goesBy_29 ?_
    refine lv_iload_n hx hb dX3_goesBy_30 rfl (lv_at hl 3 rfl) ?_
    refine r_callS (rest := [.int ((M_sides S a0.toNatClampNeg) >>> (((M_passed S a0.toNatClampNeg) - r1) &&& 31))]) (c_X3_wayTo C.hZ h) C hp mf_X3_wayTo km_X3_105 hl.1 dX3_goesBy_31 ⟨lb rfl, lb rfl, lb rfl, lb rfl⟩ rfl rfl (lb rfl) (fun v w1 H locs hv hp => ?_)
    obtain ⟨r6, rfl, rfl, h⟩ := hv
    refine W.eq (g2 := F0 m 34 ls [.int r6, .int ((M_sides S a0.toNatClampNeg) >>> (((M_passed S a0.toNatClampNeg) - r1) &&& 31))]) rfl ?_
    refine lv_icmp_ne (tgt := 41) hx hb dX3_goesBy_34 (by decide) (fun q7 => ?_) (fun q7 => ?_)
    · have h := h.1 q7
      refine lv_iconst (v := 0) hx hb dX3_goesBy_41 (by decide) ?_
      refine lv_goto (tgt := 72) hx hb dX3_goesBy_42 (by decide) ?_
      exact r_zret C hp dX3_goesBy_72 rfl ⟨_, rfl, rfl, h⟩
    · have h := h.2 q7
      refine lv_iconst (v := 1) hx hb dX3_goesBy_37 (by decide) ?_
      refine lv_goto (tgt := 72) hx hb dX3_goesBy_38 (by decide) ?_
      exact r_zret C hp dX3_goesBy_72 rfl ⟨_, rfl, rfl, h⟩
theorem mf_X3_goesBy : MFv yX3_goesBy cX3_goesBy 4 (some .boolean) 2 := ⟨kc_X3_goesBy, kn_X3_goesBy, kv_X3_goesBy, ki_X3, by decide +kernel⟩

/-! X3_rear -/
def wp_X3_rear (S : MS) (a0 : Int32) (post : UInt64 → Prop) : Prop :=
  (vp_in a0 60) ∧ (
    (vf_n64 (FP.dmul (4623226492472524800 : UInt64) (FP.i2d (M_wagons S a0.toNatClampNeg)))) ∧ (
      ∀ x3 : UInt64, x3 = FP.dmul (4623226492472524800 : UInt64) (FP.i2d (M_wagons S a0.toNatClampNeg)) →
        (vf_n64 (FP.dsub (M_place S a0.toNatClampNeg) x3)) ∧ (
          ∀ x5 : UInt64, x5 = FP.dsub (M_place S a0.toNatClampNeg) x3 →
            post x5
        )
    )
  )
set_option maxHeartbeats 4000000 in
set_option maxRecDepth 100000 in
theorem c_X3_rear {l : Launch} {G : GT} {Z : State} {b : Nat → Nat} (hZ : ZOK G Z) {S : MS} {a0 : Int32} {post : UInt64 → Prop} (h : wp_X3_rear S a0 post) : CM l G Z yX3_rear cX3_rear 2 (some .double) (rmz 0 0) [.ref (b 0), .int a0] (wM G b S) (SD (wM G b S) post) := by
  refine CM_ofW hZ (by decide) (lb rfl) (fun p e s m below meth c ls C hp hl hnm => ?_)
  have C : Cx G Z _ p s m _ meth c RX3 cX3_rear 2 (some .double) := C
  have hl : lv_has ls 2 [(0, .ref (b 0)), (1, .int a0)] := hl
  have hx := C.hx
  have hb := C.hb
  unfold wp_X3_rear at h
  refine lv_aload_n hx hb dX3_rear_0 rfl (lv_at hl 0 rfl) ?_
  refine gM_place C hp dX3_rear_1 ?_
  refine lv_iload_n hx hb dX3_rear_4 rfl (lv_at hl 1 rfl) ?_
  obtain ⟨g1, h⟩ := h
  refine aM_place C hp dX3_rear_5 g1 ?_
  refine lv_ldc2d hx hb C.hown (C.hts _ kd_X3_108) dX3_rear_6 ?_
  refine lv_aload_n hx hb dX3_rear_9 rfl (lv_at hl 0 rfl) ?_
  refine gM_wagons C hp dX3_rear_10 ?_
  refine lv_iload_n hx hb dX3_rear_13 rfl (lv_at hl 1 rfl) ?_
  refine aM_wagons C hp dX3_rear_14 g1 ?_
  refine lv_i2d hx hb dX3_rear_15 ?_
  obtain ⟨g2, h⟩ := h
  refine lv_dmul hx hb dX3_rear_16 g2 ?_
  refine lv_topd (fun x3 ex3 => ?_)
  have h := h x3 ex3
  obtain ⟨g4, h⟩ := h
  refine lv_dsub hx hb dX3_rear_17 g4 ?_
  refine lv_topd (fun x5 ex5 => ?_)
  have h := h x5 ex5
  exact r_dret C hp dX3_rear_18 ⟨_, rfl, rfl, h⟩
theorem mf_X3_rear : MFv yX3_rear cX3_rear 2 (some .double) 1 := ⟨kc_X3_rear, kn_X3_rear, kv_X3_rear, ki_X3, by decide +kernel⟩

/-! X3_isBusy -/
def wb_X3_isBusy_2 (S : MS) (a0 : Int32) (post : Int32 → Prop) (rec : Int32 → Prop) (x2 : Int32) : Prop :=
  (((M_cuts S) ≤ x2 →
    post (0 : Int32)
  ) ∧
  (¬ (M_cuts S) ≤ x2 →
    (vp_in x2 60) ∧ (
      ((¬ (M_state S x2.toNatClampNeg) = (1 : Int32) →
        rec (x2 + (1))
      ) ∧
      ((M_state S x2.toNatClampNeg) = (1 : Int32) →
        wp_X3_goesBy S x2 a0 (fun r4 =>
          ((r4 = 0 →
            rec (x2 + (1))
          ) ∧
          (¬ r4 = 0 →
            wp_X3_placeOf a0 (fun r6 =>
              (vf_n64 (FP.dsub r6 (4624633867356078080 : UInt64))) ∧ (
                ∀ x8 : UInt64, x8 = FP.dsub r6 (4624633867356078080 : UInt64) →
                  ((¬ (dG (M_place S x2.toNatClampNeg) x8 ∨ dE (M_place S x2.toNatClampNeg) x8) →
                    rec (x2 + (1))
                  ) ∧
                  ((dG (M_place S x2.toNatClampNeg) x8 ∨ dE (M_place S x2.toNatClampNeg) x8) →
                    wp_X3_rear S x2 (fun r10 =>
                      wp_X3_placeOf a0 (fun r11 =>
                        (vf_n64 (FP.dadd r11 (4612811918334230528 : UInt64))) ∧ (
                          ∀ x13 : UInt64, x13 = FP.dadd r11 (4612811918334230528 : UInt64) →
                            ((¬ (dL r10 x13 ∨ dE r10 x13) →
                              rec (x2 + (1))
                            ) ∧
                            ((dL r10 x13 ∨ dE r10 x13) →
                              post (1 : Int32)
                            ))
                        )
                      )
                    )
                  ))
              )
            )
          ))
        )
      ))
    )
  ))
def wl_X3_isBusy_2 (S : MS) (a0 : Int32) (post : Int32 → Prop) : Nat → Int32 → Prop
  | 0 => fun _ => False
  | n + 1 => wb_X3_isBusy_2 S a0 post (wl_X3_isBusy_2 S a0 post n)
def wp_X3_isBusy (S : MS) (a0 : Int32) (post : Int32 → Prop) : Prop :=
  ∃ n, wl_X3_isBusy_2 S a0 post n (0 : Int32)
set_option maxHeartbeats 4000000 in
set_option maxRecDepth 100000 in
theorem lp_X3_isBusy_2 {l : Launch} {G : GT} {Z : State} {ws0 : va_W} {b : Nat → Nat} {p : Program} {e : Env} {s : State} {m : MethodId} {args : Array Value} {below : List Frame} {meth : Method} {c : Code} {S : MS} {a0 : Int32} (C : Cx G Z ws0 p s m args meth c RX3 cX3_isBusy 3 (some .boolean)) {post : Int32 → Prop} : ∀ (n : Nat) (x2 : Int32) (H : Heap) (locs : List Loc) (ls : Array Slot), wl_X3_isBusy_2 S a0 post n x2 → Hp G ws0 s H locs (wM G b S) → lv_has ls 3 [(0, .ref (b 0)), (1, .int a0), (2, .int x2)] → W p l e (rmz 3 63) s m args below meth c H locs 0 0 (QQ G Z ws0 below s args (SI (wM G b S) post) (rmz 3 63)) (F0 m 2 ls []) := by
  have hx := C.hx
  have hb := C.hb
  have hZ := C.hZ
  intro n
  induction n with
  | zero =>
    intro x2 H locs ls h
    exact False.elim h
  | succ n ih =>
    intro x2 H locs ls h hp hl
    have h : wb_X3_isBusy_2 S a0 post (wl_X3_isBusy_2 S a0 post n) x2 := h
    unfold wb_X3_isBusy_2 at h
    generalize hrec : wl_X3_isBusy_2 S a0 post n = rec at h ih
    refine lv_iload_n hx hb dX3_isBusy_2 rfl (lv_at hl 2 rfl) ?_
    refine lv_aload_n hx hb dX3_isBusy_3 rfl (lv_at hl 0 rfl) ?_
    refine gM_cuts C hp dX3_isBusy_4 ?_
    refine lv_icmp_ge (tgt := 72) hx hb dX3_isBusy_7 (by decide) (fun q1 => ?_) (fun q1 => ?_)
    · have h := h.1 q1
      refine lv_iconst (v := 0) hx hb dX3_isBusy_72 (by decide) ?_
      exact r_zret C hp dX3_isBusy_73 rfl ⟨_, rfl, rfl, h⟩
    · have h := h.2 q1
      refine lv_aload_n hx hb dX3_isBusy_10 rfl (lv_at hl 0 rfl) ?_
      refine gM_state C hp dX3_isBusy_11 ?_
      refine lv_iload_n hx hb dX3_isBusy_14 rfl (lv_at hl 2 rfl) ?_
      obtain ⟨g2, h⟩ := h
      refine aM_state C hp dX3_isBusy_15 g2 ?_
      refine lv_iconst (v := 1) hx hb dX3_isBusy_16 (by decide) ?_
      refine lv_icmp_ne (tgt := 66) hx hb dX3_isBusy_17 (by decide) (fun q3 => ?_) (fun q3 => ?_)
      · have h := h.1 q3
        refine lv_iinc (v := x2 + (1)) (lv' := [(2, .int (x2 + (1))), (0, .ref (b 0)), (1, .int a0)]) hx hb dX3_isBusy_66 hl (k := 2) rfl rfl (by decide) rfl (fun ls hl => ?_)
        refine lv_goto (tgt := 2) hx hb dX3_isBusy_69 (by decide) ?_
        exact ih _ _ _ _ h hp (lv_sub hl [1, 2, 0] rfl)
      · have h := h.2 q3
        refine lv_aload_n hx hb dX3_isBusy_20 rfl (lv_at hl 0 rfl) ?_
        refine lv_iload_n hx hb dX3_isBusy_21 rfl (lv_at hl 2 rfl) ?_
        refine lv_iload_n hx hb dX3_isBusy_22 rfl (lv_at hl 1 rfl) ?_
        refine r_callV (q0 := 0) (ci := 3) (rest := []) (c_X3_goesBy (b := b) C.hZ h) C hp mf_X3_goesBy km_X3_110 hl.1 dX3_isBusy_23 rfl rfl ⟨lb rfl, lb rfl, lb rfl, lb rfl⟩ rfl rfl (lb rfl) (fun v w1 H locs hv hp => ?_)
        obtain ⟨r4, rfl, rfl, h⟩ := hv
        refine W.eq (g2 := F0 m 26 ls [.int r4]) rfl ?_
        refine lv_if_eq (tgt := 66) hx hb dX3_isBusy_26 (by decide) (fun q5 => ?_) (fun q5 => ?_)
        · have h := h.1 q5
          refine lv_iinc (v := x2 + (1)) (lv' := [(2, .int (x2 + (1))), (0, .ref (b 0)), (1, .int a0)]) hx hb dX3_isBusy_66 hl (k := 2) rfl rfl (by decide) rfl (fun ls hl => ?_)
          refine lv_goto (tgt := 2) hx hb dX3_isBusy_69 (by decide) ?_
          exact ih _ _ _ _ h hp (lv_sub hl [1, 2, 0] rfl)
        · have h := h.2 q5
          refine lv_aload_n hx hb dX3_isBusy_29 rfl (lv_at hl 0 rfl) ?_
          refine gM_place C hp dX3_isBusy_30 ?_
          refine lv_iload_n hx hb dX3_isBusy_33 rfl (lv_at hl 2 rfl) ?_
          refine aM_place C hp dX3_isBusy_34 g2 ?_
          refine lv_iload_n hx hb dX3_isBusy_35 rfl (lv_at hl 1 rfl) ?_
          refine r_callS (rest := [.double (M_place S x2.toNatClampNeg)]) (c_X3_placeOf C.hZ h) C hp mf_X3_placeOf km_X3_114 hl.1 dX3_isBusy_36 ⟨lb rfl, lb rfl, lb rfl, lb rfl⟩ rfl rfl (lb rfl) (fun v w1 H locs hv hp => ?_)
          obtain ⟨r6, rfl, rfl, h⟩ := hv
          refine W.eq (g2 := F0 m 39 ls [.double r6, .double (M_place S x2.toNatClampNeg)]) rfl ?_
          refine lv_ldc2d hx hb C.hown (C.hts _ kd_X3_118) dX3_isBusy_39 ?_
          obtain ⟨g7, h⟩ := h
          refine lv_dsub hx hb dX3_isBusy_42 g7 ?_
          refine lv_topd (fun x8 ex8 => ?_)
          have h := h x8 ex8
          refine dcl_lt (tgt := 66) hx hb dX3_isBusy_43 dX3_isBusy_44 (by decide) (fun q9 => ?_) (fun q9 => ?_)
          · have h := h.1 q9
            refine lv_iinc (v := x2 + (1)) (lv' := [(2, .int (x2 + (1))), (0, .ref (b 0)), (1, .int a0)]) hx hb dX3_isBusy_66 hl (k := 2) rfl rfl (by decide) rfl (fun ls hl => ?_)
            refine lv_goto (tgt := 2) hx hb dX3_isBusy_69 (by decide) ?_
            exact ih _ _ _ _ h hp (lv_sub hl [1, 2, 0] rfl)
          · have h := h.2 q9
            refine lv_aload_n hx hb dX3_isBusy_47 rfl (lv_at hl 0 rfl) ?_
            refine lv_iload_n hx hb dX3_isBusy_48 rfl (lv_at hl 2 rfl) ?_
            refine r_callV (q0 := 0) (ci := 3) (rest := []) (c_X3_rear (b := b) C.hZ h) C hp mf_X3_rear km_X3_120 hl.1 dX3_isBusy_49 rfl rfl ⟨lb rfl, lb rfl, lb rfl, lb rfl⟩ rfl rfl (lb rfl) (fun v w1 H locs hv hp => ?_)
            obtain ⟨r10, rfl, rfl, h⟩ := hv
            refine W.eq (g2 := F0 m 52 ls [.double r10]) rfl ?_
            refine lv_iload_n hx hb dX3_isBusy_52 rfl (lv_at hl 1 rfl) ?_
            refine r_callS (rest := [.double r10]) (c_X3_placeOf C.hZ h) C hp mf_X3_placeOf km_X3_114 hl.1 dX3_isBusy_53 ⟨lb rfl, lb rfl, lb rfl, lb rfl⟩ rfl rfl (lb rfl) (fun v w1 H locs hv hp => ?_)
            obtain ⟨r11, rfl, rfl, h⟩ := hv
            refine W.eq (g2 := F0 m 56 ls [.double r11, .double r10]) rfl ?_
            refine lv_ldc2d hx hb C.hown (C.hts _ kd_X3_123) dX3_isBusy_56 ?_
            obtain ⟨g12, h⟩ := h
            refine lv_dadd hx hb dX3_isBusy_59 g12 ?_
            refine lv_topd (fun x13 ex13 => ?_)
            have h := h x13 ex13
            refine dcg_gt (tgt := 66) hx hb dX3_isBusy_60 dX3_isBusy_61 (by decide) (fun q14 => ?_) (fun q14 => ?_)
            · have h := h.1 q14
              refine lv_iinc (v := x2 + (1)) (lv' := [(2, .int (x2 + (1))), (0, .ref (b 0)), (1, .int a0)]) hx hb dX3_isBusy_66 hl (k := 2) rfl rfl (by decide) rfl (fun ls hl => ?_)
              refine lv_goto (tgt := 2) hx hb dX3_isBusy_69 (by decide) ?_
              exact ih _ _ _ _ h hp (lv_sub hl [1, 2, 0] rfl)
            · have h := h.2 q14
              refine lv_iconst (v := 1) hx hb dX3_isBusy_64 (by decide) ?_
              exact r_zret C hp dX3_isBusy_65 rfl ⟨_, rfl, rfl, h⟩
set_option maxHeartbeats 4000000 in
set_option maxRecDepth 100000 in
theorem c_X3_isBusy {l : Launch} {G : GT} {Z : State} {b : Nat → Nat} (hZ : ZOK G Z) {S : MS} {a0 : Int32} {post : Int32 → Prop} (h : wp_X3_isBusy S a0 post) : CM l G Z yX3_isBusy cX3_isBusy 3 (some .boolean) (rmz 3 63) [.ref (b 0), .int a0] (wM G b S) (SI (wM G b S) post) := by
  refine CM_ofW hZ (by decide) (lb rfl) (fun p e s m below meth c ls C hp hl hnm => ?_)
  have C : Cx G Z _ p s m _ meth c RX3 cX3_isBusy 3 (some .boolean) := C
  have hl : lv_has ls 3 [(0, .ref (b 0)), (1, .int a0)] := hl
  have hx := C.hx
  have hb := C.hb
  unfold wp_X3_isBusy at h
  refine lv_iconst (v := 0) hx hb dX3_isBusy_0 (by decide) ?_
  refine lv_istore_n (lv' := [(2, .int (0 : Int32)), (0, .ref (b 0)), (1, .int a0)]) hx hb dX3_isBusy_1 rfl hl (by decide) rfl (fun ls hl => ?_)
  obtain ⟨n, h⟩ := h
  exact lp_X3_isBusy_2 C n _ _ _ _ h hp (lv_sub hl [1, 2, 0] rfl)
theorem mf_X3_isBusy : MFv yX3_isBusy cX3_isBusy 3 (some .boolean) 1 := ⟨kc_X3_isBusy, kn_X3_isBusy, kv_X3_isBusy, ki_X3, by decide +kernel⟩

/-! X3_bound -/
def wb_X3_bound_4 (S : MS) (a0 : Int32) (post : Int32 → Prop) (rec : Int32 → Int32 → Prop) (x2 : Int32) (x3 : Int32) : Prop :=
  (((M_cuts S) ≤ x3 →
    post x2
  ) ∧
  (¬ (M_cuts S) ≤ x3 →
    (vp_in x3 60) ∧ (
      ((¬ (M_state S x3.toNatClampNeg) = (1 : Int32) →
        rec x2 (x3 + (1))
      ) ∧
      ((M_state S x3.toNatClampNeg) = (1 : Int32) →
        wp_X3_level a0 (fun r4 =>
          ((r4 < (M_passed S x3.toNatClampNeg) →
            rec x2 (x3 + (1))
          ) ∧
          (¬ r4 < (M_passed S x3.toNatClampNeg) →
            wp_X3_goesBy S x3 a0 (fun r6 =>
              ((r6 = 0 →
                rec x2 (x3 + (1))
              ) ∧
              (¬ r6 = 0 →
                wp_X3_leads a0 (M_wished S x3.toNatClampNeg) (fun r8 =>
                  ((r8 = 0 →
                    rec x2 (x3 + (1))
                  ) ∧
                  (¬ r8 = 0 →
                    ((x2 = (-1 : Int32) →
                      rec x3 (x3 + (1))
                    ) ∧
                    (¬ x2 = (-1 : Int32) →
                      (vp_in x2 60) ∧ (
                        ((¬ dG (M_place S x3.toNatClampNeg) (M_place S x2.toNatClampNeg) →
                          rec x2 (x3 + (1))
                        ) ∧
                        (dG (M_place S x3.toNatClampNeg) (M_place S x2.toNatClampNeg) →
                          rec x3 (x3 + (1))
                        ))
                      )
                    ))
                  ))
                )
              ))
            )
          ))
        )
      ))
    )
  ))
def wl_X3_bound_4 (S : MS) (a0 : Int32) (post : Int32 → Prop) : Nat → Int32 → Int32 → Prop
  | 0 => fun _ _ => False
  | n + 1 => wb_X3_bound_4 S a0 post (wl_X3_bound_4 S a0 post n)
def wp_X3_bound (S : MS) (a0 : Int32) (post : Int32 → Prop) : Prop :=
  ∃ n, wl_X3_bound_4 S a0 post n (-1 : Int32) (0 : Int32)
set_option maxHeartbeats 4000000 in
set_option maxRecDepth 100000 in
theorem lp_X3_bound_4 {l : Launch} {G : GT} {Z : State} {ws0 : va_W} {b : Nat → Nat} {p : Program} {e : Env} {s : State} {m : MethodId} {args : Array Value} {below : List Frame} {meth : Method} {c : Code} {S : MS} {a0 : Int32} (C : Cx G Z ws0 p s m args meth c RX3 cX3_bound 4 (some .int)) {post : Int32 → Prop} : ∀ (n : Nat) (x2 : Int32) (x3 : Int32) (H : Heap) (locs : List Loc) (ls : Array Slot), wl_X3_bound_4 S a0 post n x2 x3 → Hp G ws0 s H locs (wM G b S) → lv_has ls 4 [(0, .ref (b 0)), (1, .int a0), (2, .int x2), (3, .int x3)] → W p l e (rmz 3 63) s m args below meth c H locs 0 0 (QQ G Z ws0 below s args (SI (wM G b S) post) (rmz 3 63)) (F0 m 4 ls []) := by
  have hx := C.hx
  have hb := C.hb
  have hZ := C.hZ
  intro n
  induction n with
  | zero =>
    intro x2 x3 H locs ls h
    exact False.elim h
  | succ n ih =>
    intro x2 x3 H locs ls h hp hl
    have h : wb_X3_bound_4 S a0 post (wl_X3_bound_4 S a0 post n) x2 x3 := h
    unfold wb_X3_bound_4 at h
    generalize hrec : wl_X3_bound_4 S a0 post n = rec at h ih
    refine lv_iload_n hx hb dX3_bound_4 rfl (lv_at hl 3 rfl) ?_
    refine lv_aload_n hx hb dX3_bound_5 rfl (lv_at hl 0 rfl) ?_
    refine gM_cuts C hp dX3_bound_6 ?_
    refine lv_icmp_ge (tgt := 86) hx hb dX3_bound_9 (by decide) (fun q1 => ?_) (fun q1 => ?_)
    · have h := h.1 q1
      refine lv_iload_n hx hb dX3_bound_86 rfl (lv_at hl 2 rfl) ?_
      exact r_iret C hp dX3_bound_87 ⟨_, rfl, rfl, h⟩
    · have h := h.2 q1
      refine lv_aload_n hx hb dX3_bound_12 rfl (lv_at hl 0 rfl) ?_
      refine gM_state C hp dX3_bound_13 ?_
      refine lv_iload_n hx hb dX3_bound_16 rfl (lv_at hl 3 rfl) ?_
      obtain ⟨g2, h⟩ := h
      refine aM_state C hp dX3_bound_17 g2 ?_
      refine lv_iconst (v := 1) hx hb dX3_bound_18 (by decide) ?_
      refine lv_icmp_ne (tgt := 80) hx hb dX3_bound_19 (by decide) (fun q3 => ?_) (fun q3 => ?_)
      · have h := h.1 q3
        refine lv_iinc (v := x3 + (1)) (lv' := [(3, .int (x3 + (1))), (0, .ref (b 0)), (1, .int a0), (2, .int x2)]) hx hb dX3_bound_80 hl (k := 3) rfl rfl (by decide) rfl (fun ls hl => ?_)
        refine lv_goto (tgt := 4) hx hb dX3_bound_83 (by decide) ?_
        exact ih _ _ _ _ _ h hp (lv_sub hl [1, 2, 3, 0] rfl)
      · have h := h.2 q3
        refine lv_aload_n hx hb dX3_bound_22 rfl (lv_at hl 0 rfl) ?_
        refine gM_passed C hp dX3_bound_23 ?_
        refine lv_iload_n hx hb dX3_bound_26 rfl (lv_at hl 3 rfl) ?_
        refine aM_passed C hp dX3_bound_27 g2 ?_
        refine lv_iload_n hx hb dX3_bound_28 rfl (lv_at hl 1 rfl) ?_
        refine r_callS (rest := [.int (M_passed S x3.toNatClampNeg)]) (c_X3_level C.hZ h) C hp mf_X3_level km_X3_101 hl.1 dX3_bound_29 ⟨lb rfl, lb rfl, lb rfl, lb rfl⟩ rfl rfl (lb rfl) (fun v w1 H locs hv hp => ?_)
        obtain ⟨r4, rfl, rfl, h⟩ := hv
        refine W.eq (g2 := F0 m 32 ls [.int r4, .int (M_passed S x3.toNatClampNeg)]) rfl ?_
        refine lv_icmp_gt (tgt := 80) hx hb dX3_bound_32 (by decide) (fun q5 => ?_) (fun q5 => ?_)
        · have h := h.1 q5
          refine lv_iinc (v := x3 + (1)) (lv' := [(3, .int (x3 + (1))), (0, .ref (b 0)), (1, .int a0), (2, .int x2)]) hx hb dX3_bound_80 hl (k := 3) rfl rfl (by decide) rfl (fun ls hl => ?_)
          refine lv_goto (tgt := 4) hx hb dX3_bound_83 (by decide) ?_
          exact ih _ _ _ _ _ h hp (lv_sub hl [1, 2, 3, 0] rfl)
        · have h := h.2 q5
          refine lv_aload_n hx hb dX3_bound_35 rfl (lv_at hl 0 rfl) ?_
          refine lv_iload_n hx hb dX3_bound_36 rfl (lv_at hl 3 rfl) ?_
          refine lv_iload_n hx hb dX3_bound_37 rfl (lv_at hl 1 rfl) ?_
          refine r_callV (q0 := 0) (ci := 3) (rest := []) (c_X3_goesBy (b := b) C.hZ h) C hp mf_X3_goesBy km_X3_110 hl.1 dX3_bound_38 rfl rfl ⟨lb rfl, lb rfl, lb rfl, lb rfl⟩ rfl rfl (lb rfl) (fun v w1 H locs hv hp => ?_)
          obtain ⟨r6, rfl, rfl, h⟩ := hv
          refine W.eq (g2 := F0 m 41 ls [.int r6]) rfl ?_
          refine lv_if_eq (tgt := 80) hx hb dX3_bound_41 (by decide) (fun q7 => ?_) (fun q7 => ?_)
          · have h := h.1 q7
            refine lv_iinc (v := x3 + (1)) (lv' := [(3, .int (x3 + (1))), (0, .ref (b 0)), (1, .int a0), (2, .int x2)]) hx hb dX3_bound_80 hl (k := 3) rfl rfl (by decide) rfl (fun ls hl => ?_)
            refine lv_goto (tgt := 4) hx hb dX3_bound_83 (by decide) ?_
            exact ih _ _ _ _ _ h hp (lv_sub hl [1, 2, 3, 0] rfl)
          · have h := h.2 q7
            refine lv_iload_n hx hb dX3_bound_44 rfl (lv_at hl 1 rfl) ?_
            refine lv_aload_n hx hb dX3_bound_45 rfl (lv_at hl 0 rfl) ?_
            refine gM_wished C hp dX3_bound_46 ?_
            refine lv_iload_n hx hb dX3_bound_49 rfl (lv_at hl 3 rfl) ?_
            refine aM_wished C hp dX3_bound_50 g2 ?_
            refine r_callS (rest := []) (c_X3_leads C.hZ h) C hp mf_X3_leads km_X3_125 hl.1 dX3_bound_51 ⟨lb rfl, lb rfl, lb rfl, lb rfl⟩ rfl rfl (lb rfl) (fun v w1 H locs hv hp => ?_)
            obtain ⟨r8, rfl, rfl, h⟩ := hv
            refine W.eq (g2 := F0 m 54 ls [.int r8]) rfl ?_
            refine lv_if_eq (tgt := 80) hx hb dX3_bound_54 (by decide) (fun q9 => ?_) (fun q9 => ?_)
            · have h := h.1 q9
              refine lv_iinc (v := x3 + (1)) (lv' := [(3, .int (x3 + (1))), (0, .ref (b 0)), (1, .int a0), (2, .int x2)]) hx hb dX3_bound_80 hl (k := 3) rfl rfl (by decide) rfl (fun ls hl => ?_)
              refine lv_goto (tgt := 4) hx hb dX3_bound_83 (by decide) ?_
              exact ih _ _ _ _ _ h hp (lv_sub hl [1, 2, 3, 0] rfl)
            · have h := h.2 q9
              refine lv_iload_n hx hb dX3_bound_57 rfl (lv_at hl 2 rfl) ?_
              refine lv_iconst (v := -1) hx hb dX3_bound_58 (by decide) ?_
              refine lv_icmp_eq (tgt := 78) hx hb dX3_bound_59 (by decide) (fun q10 => ?_) (fun q10 => ?_)
              · have h := h.1 q10
                refine lv_iload_n hx hb dX3_bound_78 rfl (lv_at hl 3 rfl) ?_
                refine lv_istore_n (lv' := [(2, .int x3), (0, .ref (b 0)), (1, .int a0), (3, .int x3)]) hx hb dX3_bound_79 rfl hl (by decide) rfl (fun ls hl => ?_)
                refine lv_iinc (v := x3 + (1)) (lv' := [(3, .int (x3 + (1))), (2, .int x3), (0, .ref (b 0)), (1, .int a0)]) hx hb dX3_bound_80 hl (k := 3) rfl rfl (by decide) rfl (fun ls hl => ?_)
                refine lv_goto (tgt := 4) hx hb dX3_bound_83 (by decide) ?_
                exact ih _ _ _ _ _ h hp (lv_sub hl [2, 3, 1, 0] rfl)
              · have h := h.2 q10
                refine lv_aload_n hx hb dX3_bound_62 rfl (lv_at hl 0 rfl) ?_
                refine gM_place C hp dX3_bound_63 ?_
                refine lv_iload_n hx hb dX3_bound_66 rfl (lv_at hl 3 rfl) ?_
                refine aM_place C hp dX3_bound_67 g2 ?_
                refine lv_aload_n hx hb dX3_bound_68 rfl (lv_at hl 0 rfl) ?_
                refine gM_place C hp dX3_bound_69 ?_
                refine lv_iload_n hx hb dX3_bound_72 rfl (lv_at hl 2 rfl) ?_
                obtain ⟨g11, h⟩ := h
                refine aM_place C hp dX3_bound_73 g11 ?_
                refine dcl_le (tgt := 80) hx hb dX3_bound_74 dX3_bound_75 (by decide) (fun q12 => ?_) (fun q12 => ?_)
                · have h := h.1 q12
                  refine lv_iinc (v := x3 + (1)) (lv' := [(3, .int (x3 + (1))), (0, .ref (b 0)), (1, .int a0), (2, .int x2)]) hx hb dX3_bound_80 hl (k := 3) rfl rfl (by decide) rfl (fun ls hl => ?_)
                  refine lv_goto (tgt := 4) hx hb dX3_bound_83 (by decide) ?_
                  exact ih _ _ _ _ _ h hp (lv_sub hl [1, 2, 3, 0] rfl)
                · have h := h.2 q12
                  refine lv_iload_n hx hb dX3_bound_78 rfl (lv_at hl 3 rfl) ?_
                  refine lv_istore_n (lv' := [(2, .int x3), (0, .ref (b 0)), (1, .int a0), (3, .int x3)]) hx hb dX3_bound_79 rfl hl (by decide) rfl (fun ls hl => ?_)
                  refine lv_iinc (v := x3 + (1)) (lv' := [(3, .int (x3 + (1))), (2, .int x3), (0, .ref (b 0)), (1, .int a0)]) hx hb dX3_bound_80 hl (k := 3) rfl rfl (by decide) rfl (fun ls hl => ?_)
                  refine lv_goto (tgt := 4) hx hb dX3_bound_83 (by decide) ?_
                  exact ih _ _ _ _ _ h hp (lv_sub hl [2, 3, 1, 0] rfl)
set_option maxHeartbeats 4000000 in
set_option maxRecDepth 100000 in
theorem c_X3_bound {l : Launch} {G : GT} {Z : State} {b : Nat → Nat} (hZ : ZOK G Z) {S : MS} {a0 : Int32} {post : Int32 → Prop} (h : wp_X3_bound S a0 post) : CM l G Z yX3_bound cX3_bound 4 (some .int) (rmz 3 63) [.ref (b 0), .int a0] (wM G b S) (SI (wM G b S) post) := by
  refine CM_ofW hZ (by decide) (lb rfl) (fun p e s m below meth c ls C hp hl hnm => ?_)
  have C : Cx G Z _ p s m _ meth c RX3 cX3_bound 4 (some .int) := C
  have hl : lv_has ls 4 [(0, .ref (b 0)), (1, .int a0)] := hl
  have hx := C.hx
  have hb := C.hb
  unfold wp_X3_bound at h
  refine lv_iconst (v := -1) hx hb dX3_bound_0 (by decide) ?_
  refine lv_istore_n (lv' := [(2, .int (-1 : Int32)), (0, .ref (b 0)), (1, .int a0)]) hx hb dX3_bound_1 rfl hl (by decide) rfl (fun ls hl => ?_)
  refine lv_iconst (v := 0) hx hb dX3_bound_2 (by decide) ?_
  refine lv_istore_n (lv' := [(3, .int (0 : Int32)), (2, .int (-1 : Int32)), (0, .ref (b 0)), (1, .int a0)]) hx hb dX3_bound_3 rfl hl (by decide) rfl (fun ls hl => ?_)
  obtain ⟨n, h⟩ := h
  exact lp_X3_bound_4 C n _ _ _ _ _ h hp (lv_sub hl [2, 3, 1, 0] rfl)
theorem mf_X3_bound : MFv yX3_bound cX3_bound 4 (some .int) 1 := ⟨kc_X3_bound, kn_X3_bound, kv_X3_bound, ki_X3, by decide +kernel⟩

/-! X3_notes -/
def wp_X3_notes (a0 : Int32) (a1 : Int32) (a2 : Int32) (S : MS) (post : MS → Prop) : Prop :=
  ∀ x1 : Int32, x1 = (4 : Int32) * ((M_eventCount S) - (M_eventCount S) / (200 : Int32) * (200 : Int32)) →
    (vp_in x1 800) ∧ (
      ∀ S3 : MS, S3 = Ms_events S (upd (M_events S) x1.toNatClampNeg a0) →
        (vp_in (x1 + (1 : Int32)) 800) ∧ (
          ∀ S5 : MS, S5 = Ms_events S3 (upd (M_events S3) (x1 + (1 : Int32)).toNatClampNeg a1) →
            (vp_in (x1 + (2 : Int32)) 800) ∧ (
              ∀ S7 : MS, S7 = Ms_events S5 (upd (M_events S5) (x1 + (2 : Int32)).toNatClampNeg a2) →
                ∀ x8 : Int32, x8 = M_ticks S7 →
                  (vp_in (x1 + (3 : Int32)) 800) ∧ (
                    ∀ S10 : MS, S10 = Ms_events S7 (upd (M_events S7) (x1 + (3 : Int32)).toNatClampNeg x8) →
                      ∀ x11 : Int32, x11 = (M_eventCount S10) + (1 : Int32) →
                        ∀ S12 : MS, S12 = Ms_eventCount S10 x11 →
                          post S12
                  )
            )
        )
    )
set_option maxHeartbeats 4000000 in
set_option maxRecDepth 100000 in
theorem c_X3_notes {l : Launch} {G : GT} {Z : State} {b : Nat → Nat} (hZ : ZOK G Z) {a0 : Int32} {a1 : Int32} {a2 : Int32} {S : MS} {post : MS → Prop} (h : wp_X3_notes a0 a1 a2 S post) : CM l G Z yX3_notes cX3_notes 5 none (rmz 0 0) [.ref (b 0), .int a0, .int a1, .int a2] (wM G b S) (PV (wM G b) post) := by
  refine CM_ofW hZ (by decide) (lb rfl) (fun p e s m below meth c ls C hp hl hnm => ?_)
  have C : Cx G Z _ p s m _ meth c RX3 cX3_notes 5 none := C
  have hl : lv_has ls 5 [(0, .ref (b 0)), (1, .int a0), (2, .int a1), (3, .int a2)] := hl
  have hx := C.hx
  have hb := C.hb
  unfold wp_X3_notes at h
  refine lv_iconst (v := 4) hx hb dX3_notes_0 (by decide) ?_
  refine lv_aload_n hx hb dX3_notes_1 rfl (lv_at hl 0 rfl) ?_
  refine gM_eventCount C hp dX3_notes_2 ?_
  refine lv_sipush (v := 200) hx hb dX3_notes_5 (by decide) ?_
  refine lv_irem hx hb dX3_notes_8 (by decide) ?_
  refine lv_imul hx hb dX3_notes_9 ?_
  refine lv_topi (fun x1 ex1 => ?_)
  have h := h x1 ex1
  refine lv_istore (lv' := [(4, .int x1), (0, .ref (b 0)), (1, .int a0), (2, .int a1), (3, .int a2)]) hx hb dX3_notes_10 hl (by decide) rfl (fun ls hl => ?_)
  refine lv_aload_n hx hb dX3_notes_12 rfl (lv_at hl 1 rfl) ?_
  refine gM_events C hp dX3_notes_13 ?_
  refine lv_iload hx hb dX3_notes_16 (lv_at hl 0 rfl) ?_
  refine lv_iload_n hx hb dX3_notes_18 rfl (lv_at hl 2 rfl) ?_
  obtain ⟨g2, h⟩ := h
  refine uM_events C hp dX3_notes_19 g2 (fun H locs hp => ?_)
  obtain ⟨S3, eS3⟩ : ∃ z : MS, z = Ms_events S (upd (M_events S) x1.toNatClampNeg a0) := ⟨_, rfl⟩
  rw [← eS3] at hp
  have h := h S3 eS3
  refine lv_aload_n hx hb dX3_notes_20 rfl (lv_at hl 1 rfl) ?_
  refine gM_events C hp dX3_notes_21 ?_
  refine lv_iload hx hb dX3_notes_24 (lv_at hl 0 rfl) ?_
  refine lv_iconst (v := 1) hx hb dX3_notes_26 (by decide) ?_
  refine lv_iadd hx hb dX3_notes_27 ?_
  refine lv_iload_n hx hb dX3_notes_28 rfl (lv_at hl 3 rfl) ?_
  obtain ⟨g4, h⟩ := h
  refine uM_events C hp dX3_notes_29 g4 (fun H locs hp => ?_)
  obtain ⟨S5, eS5⟩ : ∃ z : MS, z = Ms_events S3 (upd (M_events S3) (x1 + (1 : Int32)).toNatClampNeg a1) := ⟨_, rfl⟩
  rw [← eS5] at hp
  have h := h S5 eS5
  refine lv_aload_n hx hb dX3_notes_30 rfl (lv_at hl 1 rfl) ?_
  refine gM_events C hp dX3_notes_31 ?_
  refine lv_iload hx hb dX3_notes_34 (lv_at hl 0 rfl) ?_
  refine lv_iconst (v := 2) hx hb dX3_notes_36 (by decide) ?_
  refine lv_iadd hx hb dX3_notes_37 ?_
  refine lv_iload_n hx hb dX3_notes_38 rfl (lv_at hl 4 rfl) ?_
  obtain ⟨g6, h⟩ := h
  refine uM_events C hp dX3_notes_39 g6 (fun H locs hp => ?_)
  obtain ⟨S7, eS7⟩ : ∃ z : MS, z = Ms_events S5 (upd (M_events S5) (x1 + (2 : Int32)).toNatClampNeg a2) := ⟨_, rfl⟩
  rw [← eS7] at hp
  have h := h S7 eS7
  refine lv_aload_n hx hb dX3_notes_40 rfl (lv_at hl 1 rfl) ?_
  refine gM_events C hp dX3_notes_41 ?_
  refine lv_iload hx hb dX3_notes_44 (lv_at hl 0 rfl) ?_
  refine lv_iconst (v := 3) hx hb dX3_notes_46 (by decide) ?_
  refine lv_iadd hx hb dX3_notes_47 ?_
  refine lv_aload_n hx hb dX3_notes_48 rfl (lv_at hl 1 rfl) ?_
  refine gM_ticks C hp dX3_notes_49 ?_
  refine lv_topi (fun x8 ex8 => ?_)
  have h := h x8 ex8
  obtain ⟨g9, h⟩ := h
  refine uM_events C hp dX3_notes_52 g9 (fun H locs hp => ?_)
  obtain ⟨S10, eS10⟩ : ∃ z : MS, z = Ms_events S7 (upd (M_events S7) (x1 + (3 : Int32)).toNatClampNeg x8) := ⟨_, rfl⟩
  rw [← eS10] at hp
  have h := h S10 eS10
  refine lv_aload_n hx hb dX3_notes_53 rfl (lv_at hl 1 rfl) ?_
  refine lv_dup hx hb dX3_notes_54 rfl ?_
  refine gM_eventCount C hp dX3_notes_55 ?_
  refine lv_iconst (v := 1) hx hb dX3_notes_58 (by decide) ?_
  refine lv_iadd hx hb dX3_notes_59 ?_
  refine lv_topi (fun x11 ex11 => ?_)
  have h := h x11 ex11
  refine pM_eventCount C hp dX3_notes_60 (fun H locs hp => ?_)
  obtain ⟨S12, eS12⟩ : ∃ z : MS, z = Ms_eventCount S10 x11 := ⟨_, rfl⟩
  rw [← eS12] at hp
  have h := h S12 eS12
  exact r_vret C hp dX3_notes_63 ⟨_, rfl, rfl, h⟩
theorem mf_X3_notes : MFv yX3_notes cX3_notes 5 none 3 := ⟨kc_X3_notes, kn_X3_notes, kv_X3_notes, ki_X3, by decide +kernel⟩

/-! X3_points -/
def wb_X3_points_76  (post : MS → Prop) (rec : Int32 → MS → Prop) (x1 : Int32) (S : MS) : Prop :=
  (((7 : Int32) ≤ x1 →
    post S
  ) ∧
  (¬ (7 : Int32) ≤ x1 →
    (vp_in x1 7) ∧ (
      ((0 < (M_turns S x1.toNatClampNeg) →
        rec (x1 + (1)) S
      ) ∧
      (¬ 0 < (M_turns S x1.toNatClampNeg) →
        ((¬ (M_stuck S x1.toNatClampNeg) = 0 →
          rec (x1 + (1)) S
        ) ∧
        ((M_stuck S x1.toNatClampNeg) = 0 →
          wp_X3_isBusy S x1 (fun r5 =>
            ((r5 = 0 →
              wp_X3_bound S x1 (fun r7 =>
                ((r7 = (-1 : Int32) →
                  rec (x1 + (1)) S
                ) ∧
                (¬ r7 = (-1 : Int32) →
                  (vp_in r7 60) ∧ (
                    wp_X3_level x1 (fun r10 =>
                      (((((M_wished S r7.toNatClampNeg) >>> (((2 : Int32) - r10) &&& 31)) &&& (1 : Int32)) = (M_lies S x1.toNatClampNeg) →
                        rec (x1 + (1)) S
                      ) ∧
                      (¬ (((M_wished S r7.toNatClampNeg) >>> (((2 : Int32) - r10) &&& 31)) &&& (1 : Int32)) = (M_lies S x1.toNatClampNeg) →
                        ∀ S12 : MS, S12 = Ms_turns S (upd (M_turns S) x1.toNatClampNeg (4 : Int32)) →
                          rec (x1 + (1)) S12
                      ))
                    )
                  )
                ))
              )
            ) ∧
            (¬ r5 = 0 →
              rec (x1 + (1)) S
            ))
          )
        ))
      ))
    )
  ))
def wl_X3_points_76  (post : MS → Prop) : Nat → Int32 → MS → Prop
  | 0 => fun _ _ => False
  | n + 1 => wb_X3_points_76  post (wl_X3_points_76  post n)
def wb_X3_points_2  (post : MS → Prop) (rec : Int32 → MS → Prop) (x1 : Int32) (S : MS) : Prop :=
  (((7 : Int32) ≤ x1 →
    ∃ n, wl_X3_points_76  post n (0 : Int32) S
  ) ∧
  (¬ (7 : Int32) ≤ x1 →
    (vp_in x1 7) ∧ (
      (((M_turns S x1.toNatClampNeg) ≤ 0 →
        rec (x1 + (1)) S
      ) ∧
      (¬ (M_turns S x1.toNatClampNeg) ≤ 0 →
        ((¬ (M_stuck S x1.toNatClampNeg) = 0 →
          rec (x1 + (1)) S
        ) ∧
        ((M_stuck S x1.toNatClampNeg) = 0 →
          ∀ x17 : Int32, x17 = (M_turns S x1.toNatClampNeg) - (1 : Int32) →
            ∀ S18 : MS, S18 = Ms_turns S (upd (M_turns S) x1.toNatClampNeg x17) →
              ((¬ (M_turns S18 x1.toNatClampNeg) = 0 →
                ∀ x20 : Int32, x20 = M_lies S18 x1.toNatClampNeg →
                  ∀ S21 : MS, S21 = Ms_lies S18 (upd (M_lies S18) x1.toNatClampNeg x20) →
                    rec (x1 + (1)) S21
              ) ∧
              ((M_turns S18 x1.toNatClampNeg) = 0 →
                ∀ x22 : Int32, x22 = (1 : Int32) - (M_lies S18 x1.toNatClampNeg) →
                  ∀ S23 : MS, S23 = Ms_lies S18 (upd (M_lies S18) x1.toNatClampNeg x22) →
                    rec (x1 + (1)) S23
              ))
        ))
      ))
    )
  ))
def wl_X3_points_2  (post : MS → Prop) : Nat → Int32 → MS → Prop
  | 0 => fun _ _ => False
  | n + 1 => wb_X3_points_2  post (wl_X3_points_2  post n)
def wp_X3_points  (S : MS) (post : MS → Prop) : Prop :=
  ∃ n, wl_X3_points_2  post n (0 : Int32) S
set_option maxHeartbeats 4000000 in
set_option maxRecDepth 100000 in
theorem lp_X3_points_76 {l : Launch} {G : GT} {Z : State} {ws0 : va_W} {b : Nat → Nat} {p : Program} {e : Env} {s : State} {m : MethodId} {args : Array Value} {below : List Frame} {meth : Method} {c : Code} (C : Cx G Z ws0 p s m args meth c RX3 cX3_points 3 none) {post : MS → Prop} : ∀ (n : Nat) (x1 : Int32) (S : MS) (H : Heap) (locs : List Loc) (ls : Array Slot), wl_X3_points_76  post n x1 S → Hp G ws0 s H locs (wM G b S) → lv_has ls 3 [(0, .ref (b 0)), (1, .int x1)] → W p l e (rmz 4 86) s m args below meth c H locs 0 0 (QQ G Z ws0 below s args (PV (wM G b) post) (rmz 4 86)) (F0 m 76 ls []) := by
  have hx := C.hx
  have hb := C.hb
  have hZ := C.hZ
  intro n
  induction n with
  | zero =>
    intro x1 S H locs ls h
    exact False.elim h
  | succ n ih =>
    intro x1 S H locs ls h hp hl
    have h : wb_X3_points_76  post (wl_X3_points_76  post n) x1 S := h
    unfold wb_X3_points_76 at h
    generalize hrec : wl_X3_points_76  post n = rec at h ih
    refine lv_iload_n hx hb dX3_points_76 rfl (lv_at hl 1 rfl) ?_
    refine lv_bipush (v := 7) hx hb dX3_points_77 (by decide) ?_
    refine lv_icmp_ge (tgt := 159) hx hb dX3_points_79 (by decide) (fun q1 => ?_) (fun q1 => ?_)
    · have h := h.1 q1
      exact r_vret C hp dX3_points_159 ⟨_, rfl, rfl, h⟩
    · have h := h.2 q1
      refine lv_aload_n hx hb dX3_points_82 rfl (lv_at hl 0 rfl) ?_
      refine gM_turns C hp dX3_points_83 ?_
      refine lv_iload_n hx hb dX3_points_86 rfl (lv_at hl 1 rfl) ?_
      obtain ⟨g2, h⟩ := h
      refine aM_turns C hp dX3_points_87 g2 ?_
      refine lv_if_gt (tgt := 153) hx hb dX3_points_88 (by decide) (fun q3 => ?_) (fun q3 => ?_)
      · have h := h.1 q3
        refine lv_iinc (v := x1 + (1)) (lv' := [(1, .int (x1 + (1))), (0, .ref (b 0))]) hx hb dX3_points_153 hl (k := 1) rfl rfl (by decide) rfl (fun ls hl => ?_)
        refine lv_goto (tgt := 76) hx hb dX3_points_156 (by decide) ?_
        exact ih _ _ _ _ _ h hp (lv_sub hl [1, 0] rfl)
      · have h := h.2 q3
        refine lv_aload_n hx hb dX3_points_91 rfl (lv_at hl 0 rfl) ?_
        refine gM_stuck C hp dX3_points_92 ?_
        refine lv_iload_n hx hb dX3_points_95 rfl (lv_at hl 1 rfl) ?_
        refine aM_stuck C hp dX3_points_96 g2 ?_
        refine lv_if_ne (tgt := 153) hx hb dX3_points_97 (by decide) (fun q4 => ?_) (fun q4 => ?_)
        · have h := h.1 q4
          refine lv_iinc (v := x1 + (1)) (lv' := [(1, .int (x1 + (1))), (0, .ref (b 0))]) hx hb dX3_points_153 hl (k := 1) rfl rfl (by decide) rfl (fun ls hl => ?_)
          refine lv_goto (tgt := 76) hx hb dX3_points_156 (by decide) ?_
          exact ih _ _ _ _ _ h hp (lv_sub hl [1, 0] rfl)
        · have h := h.2 q4
          refine lv_aload_n hx hb dX3_points_100 rfl (lv_at hl 0 rfl) ?_
          refine lv_iload_n hx hb dX3_points_101 rfl (lv_at hl 1 rfl) ?_
          refine r_callV (q0 := 0) (ci := 3) (rest := []) (c_X3_isBusy (b := b) C.hZ h) C hp mf_X3_isBusy km_X3_134 hl.1 dX3_points_102 rfl rfl ⟨lb rfl, lb rfl, lb rfl, lb rfl⟩ rfl rfl (lb rfl) (fun v w1 H locs hv hp => ?_)
          obtain ⟨r5, rfl, rfl, h⟩ := hv
          refine W.eq (g2 := F0 m 105 ls [.int r5]) rfl ?_
          refine lv_if_eq (tgt := 111) hx hb dX3_points_105 (by decide) (fun q6 => ?_) (fun q6 => ?_)
          · have h := h.1 q6
            refine lv_aload_n hx hb dX3_points_111 rfl (lv_at hl 0 rfl) ?_
            refine lv_iload_n hx hb dX3_points_112 rfl (lv_at hl 1 rfl) ?_
            refine r_callV (q0 := 0) (ci := 3) (rest := []) (c_X3_bound (b := b) C.hZ h) C hp mf_X3_bound km_X3_137 hl.1 dX3_points_113 rfl rfl ⟨lb rfl, lb rfl, lb rfl, lb rfl⟩ rfl rfl (lb rfl) (fun v w1 H locs hv hp => ?_)
            obtain ⟨r7, rfl, rfl, h⟩ := hv
            refine W.eq (g2 := F0 m 116 ls [.int r7]) rfl ?_
            refine lv_istore_n (lv' := [(2, .int r7), (0, .ref (b 0)), (1, .int x1)]) hx hb dX3_points_116 rfl hl (by decide) rfl (fun ls hl => ?_)
            refine lv_iload_n hx hb dX3_points_117 rfl (lv_at hl 0 rfl) ?_
            refine lv_iconst (v := -1) hx hb dX3_points_118 (by decide) ?_
            refine lv_icmp_eq (tgt := 153) hx hb dX3_points_119 (by decide) (fun q8 => ?_) (fun q8 => ?_)
            · have h := h.1 q8
              refine lv_iinc (v := x1 + (1)) (lv' := [(1, .int (x1 + (1))), (2, .int r7), (0, .ref (b 0))]) hx hb dX3_points_153 hl (k := 2) rfl rfl (by decide) rfl (fun ls hl => ?_)
              refine lv_goto (tgt := 76) hx hb dX3_points_156 (by decide) ?_
              exact ih _ _ _ _ _ h hp (lv_sub hl [2, 0] rfl)
            · have h := h.2 q8
              refine lv_aload_n hx hb dX3_points_122 rfl (lv_at hl 1 rfl) ?_
              refine gM_wished C hp dX3_points_123 ?_
              refine lv_iload_n hx hb dX3_points_126 rfl (lv_at hl 0 rfl) ?_
              obtain ⟨g9, h⟩ := h
              refine aM_wished C hp dX3_points_127 g9 ?_
              refine lv_iconst (v := 2) hx hb dX3_points_128 (by decide) ?_
              refine lv_iload_n hx hb dX3_points_129 rfl (lv_at hl 2 rfl) ?_
              refine r_callS (rest := [.int (2 : Int32), .int (M_wished S r7.toNatClampNeg)]) (c_X3_level C.hZ h) C hp mf_X3_level km_X3_101 hl.1 dX3_points_130 ⟨lb rfl, lb rfl, lb rfl, lb rfl⟩ rfl rfl (lb rfl) (fun v w1 H locs hv hp => ?_)
              obtain ⟨r10, rfl, rfl, h⟩ := hv
              refine W.eq (g2 := F0 m 133 ls [.int r10, .int (2 : Int32), .int (M_wished S r7.toNatClampNeg)]) rfl ?_
              refine lv_isub hx hb dX3_points_133 ?_
              refine lv_ishr hx hb dX3_points_134 ?_
              refine lv_iconst (v := 1) hx hb dX3_points_135 (by decide) ?_
              refine lv_iand hx hb dX3_points_136 ?_
              refine lv_aload_n hx hb dX3_points_137 rfl (lv_at hl 1 rfl) ?_
              refine gM_lies C hp dX3_points_138 ?_
              refine lv_iload_n hx hb dX3_points_141 rfl (lv_at hl 2 rfl) ?_
              refine aM_lies C hp dX3_points_142 g2 ?_
              refine lv_icmp_eq (tgt := 153) hx hb dX3_points_143 (by decide) (fun q11 => ?_) (fun q11 => ?_)
              · have h := h.1 q11
                refine lv_iinc (v := x1 + (1)) (lv' := [(1, .int (x1 + (1))), (2, .int r7), (0, .ref (b 0))]) hx hb dX3_points_153 hl (k := 2) rfl rfl (by decide) rfl (fun ls hl => ?_)
                refine lv_goto (tgt := 76) hx hb dX3_points_156 (by decide) ?_
                exact ih _ _ _ _ _ h hp (lv_sub hl [2, 0] rfl)
              · have h := h.2 q11
                refine lv_aload_n hx hb dX3_points_146 rfl (lv_at hl 1 rfl) ?_
                refine gM_turns C hp dX3_points_147 ?_
                refine lv_iload_n hx hb dX3_points_150 rfl (lv_at hl 2 rfl) ?_
                refine lv_iconst (v := 4) hx hb dX3_points_151 (by decide) ?_
                refine uM_turns C hp dX3_points_152 g2 (fun H locs hp => ?_)
                obtain ⟨S12, eS12⟩ : ∃ z : MS, z = Ms_turns S (upd (M_turns S) x1.toNatClampNeg (4 : Int32)) := ⟨_, rfl⟩
                rw [← eS12] at hp
                have h := h S12 eS12
                refine lv_iinc (v := x1 + (1)) (lv' := [(1, .int (x1 + (1))), (2, .int r7), (0, .ref (b 0))]) hx hb dX3_points_153 hl (k := 2) rfl rfl (by decide) rfl (fun ls hl => ?_)
                refine lv_goto (tgt := 76) hx hb dX3_points_156 (by decide) ?_
                exact ih _ _ _ _ _ h hp (lv_sub hl [2, 0] rfl)
          · have h := h.2 q6
            refine lv_goto (tgt := 153) hx hb dX3_points_108 (by decide) ?_
            refine lv_iinc (v := x1 + (1)) (lv' := [(1, .int (x1 + (1))), (0, .ref (b 0))]) hx hb dX3_points_153 hl (k := 1) rfl rfl (by decide) rfl (fun ls hl => ?_)
            refine lv_goto (tgt := 76) hx hb dX3_points_156 (by decide) ?_
            exact ih _ _ _ _ _ h hp (lv_sub hl [1, 0] rfl)
set_option maxHeartbeats 4000000 in
set_option maxRecDepth 100000 in
theorem lp_X3_points_2 {l : Launch} {G : GT} {Z : State} {ws0 : va_W} {b : Nat → Nat} {p : Program} {e : Env} {s : State} {m : MethodId} {args : Array Value} {below : List Frame} {meth : Method} {c : Code} (C : Cx G Z ws0 p s m args meth c RX3 cX3_points 3 none) {post : MS → Prop} : ∀ (n : Nat) (x1 : Int32) (S : MS) (H : Heap) (locs : List Loc) (ls : Array Slot), wl_X3_points_2  post n x1 S → Hp G ws0 s H locs (wM G b S) → lv_has ls 3 [(0, .ref (b 0)), (1, .int x1)] → W p l e (rmz 4 86) s m args below meth c H locs 0 0 (QQ G Z ws0 below s args (PV (wM G b) post) (rmz 4 86)) (F0 m 2 ls []) := by
  have hx := C.hx
  have hb := C.hb
  have hZ := C.hZ
  intro n
  induction n with
  | zero =>
    intro x1 S H locs ls h
    exact False.elim h
  | succ n ih =>
    intro x1 S H locs ls h hp hl
    have h : wb_X3_points_2  post (wl_X3_points_2  post n) x1 S := h
    unfold wb_X3_points_2 at h
    generalize hrec : wl_X3_points_2  post n = rec at h ih
    refine lv_iload_n hx hb dX3_points_2 rfl (lv_at hl 1 rfl) ?_
    refine lv_bipush (v := 7) hx hb dX3_points_3 (by decide) ?_
    refine lv_icmp_ge (tgt := 74) hx hb dX3_points_5 (by decide) (fun q13 => ?_) (fun q13 => ?_)
    · have h := h.1 q13
      refine lv_iconst (v := 0) hx hb dX3_points_74 (by decide) ?_
      refine lv_istore_n (lv' := [(1, .int (0 : Int32)), (0, .ref (b 0))]) hx hb dX3_points_75 rfl hl (by decide) rfl (fun ls hl => ?_)
      obtain ⟨n, h⟩ := h
      exact lp_X3_points_76 C n _ _ _ _ _ h hp (lv_sub hl [1, 0] rfl)
    · have h := h.2 q13
      refine lv_aload_n hx hb dX3_points_8 rfl (lv_at hl 0 rfl) ?_
      refine gM_turns C hp dX3_points_9 ?_
      refine lv_iload_n hx hb dX3_points_12 rfl (lv_at hl 1 rfl) ?_
      obtain ⟨g14, h⟩ := h
      refine aM_turns C hp dX3_points_13 g14 ?_
      refine lv_if_le (tgt := 68) hx hb dX3_points_14 (by decide) (fun q15 => ?_) (fun q15 => ?_)
      · have h := h.1 q15
        refine lv_iinc (v := x1 + (1)) (lv' := [(1, .int (x1 + (1))), (0, .ref (b 0))]) hx hb dX3_points_68 hl (k := 1) rfl rfl (by decide) rfl (fun ls hl => ?_)
        refine lv_goto (tgt := 2) hx hb dX3_points_71 (by decide) ?_
        exact ih _ _ _ _ _ h hp (lv_sub hl [1, 0] rfl)
      · have h := h.2 q15
        refine lv_aload_n hx hb dX3_points_17 rfl (lv_at hl 0 rfl) ?_
        refine gM_stuck C hp dX3_points_18 ?_
        refine lv_iload_n hx hb dX3_points_21 rfl (lv_at hl 1 rfl) ?_
        refine aM_stuck C hp dX3_points_22 g14 ?_
        refine lv_if_ne (tgt := 68) hx hb dX3_points_23 (by decide) (fun q16 => ?_) (fun q16 => ?_)
        · have h := h.1 q16
          refine lv_iinc (v := x1 + (1)) (lv' := [(1, .int (x1 + (1))), (0, .ref (b 0))]) hx hb dX3_points_68 hl (k := 1) rfl rfl (by decide) rfl (fun ls hl => ?_)
          refine lv_goto (tgt := 2) hx hb dX3_points_71 (by decide) ?_
          exact ih _ _ _ _ _ h hp (lv_sub hl [1, 0] rfl)
        · have h := h.2 q16
          refine lv_aload_n hx hb dX3_points_26 rfl (lv_at hl 0 rfl) ?_
          refine gM_turns C hp dX3_points_27 ?_
          refine lv_iload_n hx hb dX3_points_30 rfl (lv_at hl 1 rfl) ?_
          refine lv_dup2_11 hx hb dX3_points_31 rfl rfl ?_
          refine aM_turns C hp dX3_points_32 g14 ?_
          refine lv_iconst (v := 1) hx hb dX3_points_33 (by decide) ?_
          refine lv_isub hx hb dX3_points_34 ?_
          refine lv_topi (fun x17 ex17 => ?_)
          have h := h x17 ex17
          refine uM_turns C hp dX3_points_35 g14 (fun H locs hp => ?_)
          obtain ⟨S18, eS18⟩ : ∃ z : MS, z = Ms_turns S (upd (M_turns S) x1.toNatClampNeg x17) := ⟨_, rfl⟩
          rw [← eS18] at hp
          have h := h S18 eS18
          refine lv_aload_n hx hb dX3_points_36 rfl (lv_at hl 0 rfl) ?_
          refine gM_lies C hp dX3_points_37 ?_
          refine lv_iload_n hx hb dX3_points_40 rfl (lv_at hl 1 rfl) ?_
          refine lv_aload_n hx hb dX3_points_41 rfl (lv_at hl 0 rfl) ?_
          refine gM_turns C hp dX3_points_42 ?_
          refine lv_iload_n hx hb dX3_points_45 rfl (lv_at hl 1 rfl) ?_
          refine aM_turns C hp dX3_points_46 g14 ?_
          refine lv_if_ne (tgt := 61) hx hb dX3_points_47 (by decide) (fun q19 => ?_) (fun q19 => ?_)
          · have h := h.1 q19
            refine lv_aload_n hx hb dX3_points_61 rfl (lv_at hl 0 rfl) ?_
            refine gM_lies C hp dX3_points_62 ?_
            refine lv_iload_n hx hb dX3_points_65 rfl (lv_at hl 1 rfl) ?_
            refine aM_lies C hp dX3_points_66 g14 ?_
            refine lv_topi (fun x20 ex20 => ?_)
            have h := h x20 ex20
            refine uM_lies C hp dX3_points_67 g14 (fun H locs hp => ?_)
            obtain ⟨S21, eS21⟩ : ∃ z : MS, z = Ms_lies S18 (upd (M_lies S18) x1.toNatClampNeg x20) := ⟨_, rfl⟩
            rw [← eS21] at hp
            have h := h S21 eS21
            refine lv_iinc (v := x1 + (1)) (lv' := [(1, .int (x1 + (1))), (0, .ref (b 0))]) hx hb dX3_points_68 hl (k := 1) rfl rfl (by decide) rfl (fun ls hl => ?_)
            refine lv_goto (tgt := 2) hx hb dX3_points_71 (by decide) ?_
            exact ih _ _ _ _ _ h hp (lv_sub hl [1, 0] rfl)
          · have h := h.2 q19
            refine lv_iconst (v := 1) hx hb dX3_points_50 (by decide) ?_
            refine lv_aload_n hx hb dX3_points_51 rfl (lv_at hl 0 rfl) ?_
            refine gM_lies C hp dX3_points_52 ?_
            refine lv_iload_n hx hb dX3_points_55 rfl (lv_at hl 1 rfl) ?_
            refine aM_lies C hp dX3_points_56 g14 ?_
            refine lv_isub hx hb dX3_points_57 ?_
            refine lv_goto (tgt := 67) hx hb dX3_points_58 (by decide) ?_
            refine lv_topi (fun x22 ex22 => ?_)
            have h := h x22 ex22
            refine uM_lies C hp dX3_points_67 g14 (fun H locs hp => ?_)
            obtain ⟨S23, eS23⟩ : ∃ z : MS, z = Ms_lies S18 (upd (M_lies S18) x1.toNatClampNeg x22) := ⟨_, rfl⟩
            rw [← eS23] at hp
            have h := h S23 eS23
            refine lv_iinc (v := x1 + (1)) (lv' := [(1, .int (x1 + (1))), (0, .ref (b 0))]) hx hb dX3_points_68 hl (k := 1) rfl rfl (by decide) rfl (fun ls hl => ?_)
            refine lv_goto (tgt := 2) hx hb dX3_points_71 (by decide) ?_
            exact ih _ _ _ _ _ h hp (lv_sub hl [1, 0] rfl)
set_option maxHeartbeats 4000000 in
set_option maxRecDepth 100000 in
theorem c_X3_points {l : Launch} {G : GT} {Z : State} {b : Nat → Nat} (hZ : ZOK G Z) {S : MS} {post : MS → Prop} (h : wp_X3_points  S post) : CM l G Z yX3_points cX3_points 3 none (rmz 4 86) [.ref (b 0)] (wM G b S) (PV (wM G b) post) := by
  refine CM_ofW hZ (by decide) (lb rfl) (fun p e s m below meth c ls C hp hl hnm => ?_)
  have C : Cx G Z _ p s m _ meth c RX3 cX3_points 3 none := C
  have hl : lv_has ls 3 [(0, .ref (b 0))] := hl
  have hx := C.hx
  have hb := C.hb
  unfold wp_X3_points at h
  refine lv_iconst (v := 0) hx hb dX3_points_0 (by decide) ?_
  refine lv_istore_n (lv' := [(1, .int (0 : Int32)), (0, .ref (b 0))]) hx hb dX3_points_1 rfl hl (by decide) rfl (fun ls hl => ?_)
  obtain ⟨n, h⟩ := h
  exact lp_X3_points_2 C n _ _ _ _ _ h hp (lv_sub hl [1, 0] rfl)
theorem mf_X3_points : MFv yX3_points cX3_points 3 none 0 := ⟨kc_X3_points, kn_X3_points, kv_X3_points, ki_X3, by decide +kernel⟩

/-! X3_brakes -/
def wp_X3_brakes (S : MS) (a0 : Int32) (a1 : Int32) (post : UInt64 → Prop) : Prop :=
  ((¬ a0 = 0 →
    (vp_in a1 60) ∧ (
      ((dL (M_place S a1.toNatClampNeg) (4641592734702895104 : UInt64) →
        post FP.dconst0
      ) ∧
      (¬ dL (M_place S a1.toNatClampNeg) (4641592734702895104 : UInt64) →
        wp_X3_rear S a1 (fun r4 =>
          ((dG r4 (4642296422144671744 : UInt64) →
            post FP.dconst0
          ) ∧
          (¬ dG r4 (4642296422144671744 : UInt64) →
            (vp_in a0 9) ∧ (
              ((¬ (dL (M_speed S a1.toNatClampNeg) (M_wishes S a0.toNatClampNeg) ∨ dE (M_speed S a1.toNatClampNeg) (M_wishes S a0.toNatClampNeg)) →
                (vf_n64 (FP.dsub (M_speed S a1.toNatClampNeg) (M_wishes S a0.toNatClampNeg))) ∧ (
                  ∀ x9 : UInt64, x9 = FP.dsub (M_speed S a1.toNatClampNeg) (M_wishes S a0.toNatClampNeg) →
                    (vf_n64 (FP.dmul x9 (4620693217682128896 : UInt64))) ∧ (
                      ∀ x11 : UInt64, x11 = FP.dmul x9 (4620693217682128896 : UInt64) →
                        ∀ x12 : Int32, x12 = (FP.d2i x11) + (1 : Int32) →
                          ((x12 ≤ (15 : Int32) →
                            (vf_n64 (FP.dmul (4598175219545276416 : UInt64) (FP.i2d x12))) ∧ (
                              ∀ x15 : UInt64, x15 = FP.dmul (4598175219545276416 : UInt64) (FP.i2d x12) →
                                post x15
                            )
                          ) ∧
                          (¬ x12 ≤ (15 : Int32) →
                            (vf_n64 (FP.dmul (4598175219545276416 : UInt64) (FP.i2d (15 : Int32)))) ∧ (
                              ∀ x17 : UInt64, x17 = FP.dmul (4598175219545276416 : UInt64) (FP.i2d (15 : Int32)) →
                                post x17
                            )
                          ))
                    )
                )
              ) ∧
              ((dL (M_speed S a1.toNatClampNeg) (M_wishes S a0.toNatClampNeg) ∨ dE (M_speed S a1.toNatClampNeg) (M_wishes S a0.toNatClampNeg)) →
                post FP.dconst0
              ))
            )
          ))
        )
      ))
    )
  ) ∧
  (a0 = 0 →
    (vp_in a1 60) ∧ (
      ((dL (M_place S a1.toNatClampNeg) (4629137466983448576 : UInt64) →
        post FP.dconst0
      ) ∧
      (¬ dL (M_place S a1.toNatClampNeg) (4629137466983448576 : UInt64) →
        wp_X3_rear S a1 (fun r21 =>
          ((dG r21 (4632233691727265792 : UInt64) →
            post FP.dconst0
          ) ∧
          (¬ dG r21 (4632233691727265792 : UInt64) →
            (vp_in a0 9) ∧ (
              ((¬ (dL (M_speed S a1.toNatClampNeg) (M_wishes S a0.toNatClampNeg) ∨ dE (M_speed S a1.toNatClampNeg) (M_wishes S a0.toNatClampNeg)) →
                (vf_n64 (FP.dsub (M_speed S a1.toNatClampNeg) (M_wishes S a0.toNatClampNeg))) ∧ (
                  ∀ x26 : UInt64, x26 = FP.dsub (M_speed S a1.toNatClampNeg) (M_wishes S a0.toNatClampNeg) →
                    (vf_n64 (FP.dmul x26 (4620693217682128896 : UInt64))) ∧ (
                      ∀ x28 : UInt64, x28 = FP.dmul x26 (4620693217682128896 : UInt64) →
                        ∀ x29 : Int32, x29 = (FP.d2i x28) + (1 : Int32) →
                          ((x29 ≤ (15 : Int32) →
                            (vf_n64 (FP.dmul (4598175219545276416 : UInt64) (FP.i2d x29))) ∧ (
                              ∀ x32 : UInt64, x32 = FP.dmul (4598175219545276416 : UInt64) (FP.i2d x29) →
                                post x32
                            )
                          ) ∧
                          (¬ x29 ≤ (15 : Int32) →
                            (vf_n64 (FP.dmul (4598175219545276416 : UInt64) (FP.i2d (15 : Int32)))) ∧ (
                              ∀ x34 : UInt64, x34 = FP.dmul (4598175219545276416 : UInt64) (FP.i2d (15 : Int32)) →
                                post x34
                            )
                          ))
                    )
                )
              ) ∧
              ((dL (M_speed S a1.toNatClampNeg) (M_wishes S a0.toNatClampNeg) ∨ dE (M_speed S a1.toNatClampNeg) (M_wishes S a0.toNatClampNeg)) →
                post FP.dconst0
              ))
            )
          ))
        )
      ))
    )
  ))
set_option maxHeartbeats 4000000 in
set_option maxRecDepth 100000 in
theorem c_X3_brakes {l : Launch} {G : GT} {Z : State} {b : Nat → Nat} (hZ : ZOK G Z) {S : MS} {a0 : Int32} {a1 : Int32} {post : UInt64 → Prop} (h : wp_X3_brakes S a0 a1 post) : CM l G Z yX3_brakes cX3_brakes 8 (some .double) (rmz 1 21) [.ref (b 0), .int a0, .int a1] (wM G b S) (SD (wM G b S) post) := by
  refine CM_ofW hZ (by decide) (lb rfl) (fun p e s m below meth c ls C hp hl hnm => ?_)
  have C : Cx G Z _ p s m _ meth c RX3 cX3_brakes 8 (some .double) := C
  have hl : lv_has ls 8 [(0, .ref (b 0)), (1, .int a0), (2, .int a1)] := hl
  have hx := C.hx
  have hb := C.hb
  unfold wp_X3_brakes at h
  refine lv_iload_n hx hb dX3_brakes_0 rfl (lv_at hl 1 rfl) ?_
  refine lv_if_ne (tgt := 10) hx hb dX3_brakes_1 (by decide) (fun q1 => ?_) (fun q1 => ?_)
  · have h := h.1 q1
    refine lv_ldc2d hx hb C.hown (C.hts _ kd_X3_142) dX3_brakes_10 ?_
    refine lv_dstore_n (lv' := [(3, .double (4641592734702895104 : UInt64)), (0, .ref (b 0)), (1, .int a0), (2, .int a1)]) hx hb dX3_brakes_13 rfl hl (by decide) rfl (fun ls hl => ?_)
    refine lv_iload_n hx hb dX3_brakes_14 rfl (lv_at hl 2 rfl) ?_
    refine lv_if_ne (tgt := 24) hx hb dX3_brakes_15 (by decide) (fun q18 => ?_) (fun q18 => ?_)
    · refine lv_ldc2d hx hb C.hown (C.hts _ kd_X3_146) dX3_brakes_24 ?_
      refine lv_dstore (lv' := [(5, .double (4642296422144671744 : UInt64)), (3, .double (4641592734702895104 : UInt64)), (0, .ref (b 0)), (1, .int a0), (2, .int a1)]) hx hb dX3_brakes_27 hl (by decide) rfl (fun ls hl => ?_)
      refine lv_aload_n hx hb dX3_brakes_29 rfl (lv_at hl 2 rfl) ?_
      refine gM_place C hp dX3_brakes_30 ?_
      refine lv_iload_n hx hb dX3_brakes_33 rfl (lv_at hl 4 rfl) ?_
      obtain ⟨g2, h⟩ := h
      refine aM_place C hp dX3_brakes_34 g2 ?_
      refine lv_dload_n hx hb dX3_brakes_35 rfl (lv_at hl 1 rfl) ?_
      refine dcg_lt (tgt := 67) hx hb dX3_brakes_36 dX3_brakes_37 (by decide) (fun q3 => ?_) (fun q3 => ?_)
      · have h := h.1 q3
        refine lv_dconst0 hx hb dX3_brakes_67 ?_
        exact r_dret C hp dX3_brakes_68 ⟨_, rfl, rfl, h⟩
      · have h := h.2 q3
        refine lv_aload_n hx hb dX3_brakes_40 rfl (lv_at hl 2 rfl) ?_
        refine lv_iload_n hx hb dX3_brakes_41 rfl (lv_at hl 4 rfl) ?_
        refine r_callV (q0 := 0) (ci := 3) (rest := []) (c_X3_rear (b := b) C.hZ h) C hp mf_X3_rear km_X3_120 hl.1 dX3_brakes_42 rfl rfl ⟨lb rfl, lb rfl, lb rfl, lb rfl⟩ rfl rfl (lb rfl) (fun v w1 H locs hv hp => ?_)
        obtain ⟨r4, rfl, rfl, h⟩ := hv
        refine W.eq (g2 := F0 m 45 ls [.double r4]) rfl ?_
        refine lv_dload hx hb dX3_brakes_45 (lv_at hl 0 rfl) ?_
        refine dcl_gt (tgt := 67) hx hb dX3_brakes_47 dX3_brakes_48 (by decide) (fun q5 => ?_) (fun q5 => ?_)
        · have h := h.1 q5
          refine lv_dconst0 hx hb dX3_brakes_67 ?_
          exact r_dret C hp dX3_brakes_68 ⟨_, rfl, rfl, h⟩
        · have h := h.2 q5
          refine lv_aload_n hx hb dX3_brakes_51 rfl (lv_at hl 2 rfl) ?_
          refine gM_speed C hp dX3_brakes_52 ?_
          refine lv_iload_n hx hb dX3_brakes_55 rfl (lv_at hl 4 rfl) ?_
          refine aM_speed C hp dX3_brakes_56 g2 ?_
          refine lv_aload_n hx hb dX3_brakes_57 rfl (lv_at hl 2 rfl) ?_
          refine gM_wishes C hp dX3_brakes_58 ?_
          refine lv_iload_n hx hb dX3_brakes_61 rfl (lv_at hl 3 rfl) ?_
          obtain ⟨g6, h⟩ := h
          refine aM_wishes C hp dX3_brakes_62 g6 ?_
          refine dcg_gt (tgt := 69) hx hb dX3_brakes_63 dX3_brakes_64 (by decide) (fun q7 => ?_) (fun q7 => ?_)
          · have h := h.1 q7
            refine lv_aload_n hx hb dX3_brakes_69 rfl (lv_at hl 2 rfl) ?_
            refine gM_speed C hp dX3_brakes_70 ?_
            refine lv_iload_n hx hb dX3_brakes_73 rfl (lv_at hl 4 rfl) ?_
            refine aM_speed C hp dX3_brakes_74 g2 ?_
            refine lv_aload_n hx hb dX3_brakes_75 rfl (lv_at hl 2 rfl) ?_
            refine gM_wishes C hp dX3_brakes_76 ?_
            refine lv_iload_n hx hb dX3_brakes_79 rfl (lv_at hl 3 rfl) ?_
            refine aM_wishes C hp dX3_brakes_80 g6 ?_
            obtain ⟨g8, h⟩ := h
            refine lv_dsub hx hb dX3_brakes_81 g8 ?_
            refine lv_topd (fun x9 ex9 => ?_)
            have h := h x9 ex9
            refine lv_ldc2d hx hb C.hown (C.hts _ kd_X3_148) dX3_brakes_82 ?_
            obtain ⟨g10, h⟩ := h
            refine lv_dmul hx hb dX3_brakes_85 g10 ?_
            refine lv_topd (fun x11 ex11 => ?_)
            have h := h x11 ex11
            refine lv_d2i hx hb dX3_brakes_86 ?_
            refine lv_iconst (v := 1) hx hb dX3_brakes_87 (by decide) ?_
            refine lv_iadd hx hb dX3_brakes_88 ?_
            refine lv_topi (fun x12 ex12 => ?_)
            have h := h x12 ex12
            refine lv_istore (lv' := [(7, .int x12), (5, .double (4642296422144671744 : UInt64)), (3, .double (4641592734702895104 : UInt64)), (0, .ref (b 0)), (1, .int a0), (2, .int a1)]) hx hb dX3_brakes_89 hl (by decide) rfl (fun ls hl => ?_)
            refine lv_ldc2d hx hb C.hown (C.hts _ kd_X3_150) dX3_brakes_91 ?_
            refine lv_iload hx hb dX3_brakes_94 (lv_at hl 0 rfl) ?_
            refine lv_bipush (v := 15) hx hb dX3_brakes_96 (by decide) ?_
            refine lv_icmp_le (tgt := 106) hx hb dX3_brakes_98 (by decide) (fun q13 => ?_) (fun q13 => ?_)
            · have h := h.1 q13
              refine lv_iload hx hb dX3_brakes_106 (lv_at hl 0 rfl) ?_
              refine lv_i2d hx hb dX3_brakes_108 ?_
              obtain ⟨g14, h⟩ := h
              refine lv_dmul hx hb dX3_brakes_109 g14 ?_
              refine lv_topd (fun x15 ex15 => ?_)
              have h := h x15 ex15
              exact r_dret C hp dX3_brakes_110 ⟨_, rfl, rfl, h⟩
            · have h := h.2 q13
              refine lv_bipush (v := 15) hx hb dX3_brakes_101 (by decide) ?_
              refine lv_goto (tgt := 108) hx hb dX3_brakes_103 (by decide) ?_
              refine lv_i2d hx hb dX3_brakes_108 ?_
              obtain ⟨g16, h⟩ := h
              refine lv_dmul hx hb dX3_brakes_109 g16 ?_
              refine lv_topd (fun x17 ex17 => ?_)
              have h := h x17 ex17
              exact r_dret C hp dX3_brakes_110 ⟨_, rfl, rfl, h⟩
          · have h := h.2 q7
            refine lv_dconst0 hx hb dX3_brakes_67 ?_
            exact r_dret C hp dX3_brakes_68 ⟨_, rfl, rfl, h⟩
    · exact (by first | exact absurd q18 q1 | exact absurd q1 q18)
  · have h := h.2 q1
    refine lv_ldc2d hx hb C.hown (C.hts _ kd_X3_140) dX3_brakes_4 ?_
    refine lv_goto (tgt := 13) hx hb dX3_brakes_7 (by decide) ?_
    refine lv_dstore_n (lv' := [(3, .double (4629137466983448576 : UInt64)), (0, .ref (b 0)), (1, .int a0), (2, .int a1)]) hx hb dX3_brakes_13 rfl hl (by decide) rfl (fun ls hl => ?_)
    refine lv_iload_n hx hb dX3_brakes_14 rfl (lv_at hl 2 rfl) ?_
    refine lv_if_ne (tgt := 24) hx hb dX3_brakes_15 (by decide) (fun q35 => ?_) (fun q35 => ?_)
    · exact (by first | exact absurd q35 q1 | exact absurd q1 q35)
    · refine lv_ldc2d hx hb C.hown (C.hts _ kd_X3_144) dX3_brakes_18 ?_
      refine lv_goto (tgt := 27) hx hb dX3_brakes_21 (by decide) ?_
      refine lv_dstore (lv' := [(5, .double (4632233691727265792 : UInt64)), (3, .double (4629137466983448576 : UInt64)), (0, .ref (b 0)), (1, .int a0), (2, .int a1)]) hx hb dX3_brakes_27 hl (by decide) rfl (fun ls hl => ?_)
      refine lv_aload_n hx hb dX3_brakes_29 rfl (lv_at hl 2 rfl) ?_
      refine gM_place C hp dX3_brakes_30 ?_
      refine lv_iload_n hx hb dX3_brakes_33 rfl (lv_at hl 4 rfl) ?_
      obtain ⟨g19, h⟩ := h
      refine aM_place C hp dX3_brakes_34 g19 ?_
      refine lv_dload_n hx hb dX3_brakes_35 rfl (lv_at hl 1 rfl) ?_
      refine dcg_lt (tgt := 67) hx hb dX3_brakes_36 dX3_brakes_37 (by decide) (fun q20 => ?_) (fun q20 => ?_)
      · have h := h.1 q20
        refine lv_dconst0 hx hb dX3_brakes_67 ?_
        exact r_dret C hp dX3_brakes_68 ⟨_, rfl, rfl, h⟩
      · have h := h.2 q20
        refine lv_aload_n hx hb dX3_brakes_40 rfl (lv_at hl 2 rfl) ?_
        refine lv_iload_n hx hb dX3_brakes_41 rfl (lv_at hl 4 rfl) ?_
        refine r_callV (q0 := 0) (ci := 3) (rest := []) (c_X3_rear (b := b) C.hZ h) C hp mf_X3_rear km_X3_120 hl.1 dX3_brakes_42 rfl rfl ⟨lb rfl, lb rfl, lb rfl, lb rfl⟩ rfl rfl (lb rfl) (fun v w1 H locs hv hp => ?_)
        obtain ⟨r21, rfl, rfl, h⟩ := hv
        refine W.eq (g2 := F0 m 45 ls [.double r21]) rfl ?_
        refine lv_dload hx hb dX3_brakes_45 (lv_at hl 0 rfl) ?_
        refine dcl_gt (tgt := 67) hx hb dX3_brakes_47 dX3_brakes_48 (by decide) (fun q22 => ?_) (fun q22 => ?_)
        · have h := h.1 q22
          refine lv_dconst0 hx hb dX3_brakes_67 ?_
          exact r_dret C hp dX3_brakes_68 ⟨_, rfl, rfl, h⟩
        · have h := h.2 q22
          refine lv_aload_n hx hb dX3_brakes_51 rfl (lv_at hl 2 rfl) ?_
          refine gM_speed C hp dX3_brakes_52 ?_
          refine lv_iload_n hx hb dX3_brakes_55 rfl (lv_at hl 4 rfl) ?_
          refine aM_speed C hp dX3_brakes_56 g19 ?_
          refine lv_aload_n hx hb dX3_brakes_57 rfl (lv_at hl 2 rfl) ?_
          refine gM_wishes C hp dX3_brakes_58 ?_
          refine lv_iload_n hx hb dX3_brakes_61 rfl (lv_at hl 3 rfl) ?_
          obtain ⟨g23, h⟩ := h
          refine aM_wishes C hp dX3_brakes_62 g23 ?_
          refine dcg_gt (tgt := 69) hx hb dX3_brakes_63 dX3_brakes_64 (by decide) (fun q24 => ?_) (fun q24 => ?_)
          · have h := h.1 q24
            refine lv_aload_n hx hb dX3_brakes_69 rfl (lv_at hl 2 rfl) ?_
            refine gM_speed C hp dX3_brakes_70 ?_
            refine lv_iload_n hx hb dX3_brakes_73 rfl (lv_at hl 4 rfl) ?_
            refine aM_speed C hp dX3_brakes_74 g19 ?_
            refine lv_aload_n hx hb dX3_brakes_75 rfl (lv_at hl 2 rfl) ?_
            refine gM_wishes C hp dX3_brakes_76 ?_
            refine lv_iload_n hx hb dX3_brakes_79 rfl (lv_at hl 3 rfl) ?_
            refine aM_wishes C hp dX3_brakes_80 g23 ?_
            obtain ⟨g25, h⟩ := h
            refine lv_dsub hx hb dX3_brakes_81 g25 ?_
            refine lv_topd (fun x26 ex26 => ?_)
            have h := h x26 ex26
            refine lv_ldc2d hx hb C.hown (C.hts _ kd_X3_148) dX3_brakes_82 ?_
            obtain ⟨g27, h⟩ := h
            refine lv_dmul hx hb dX3_brakes_85 g27 ?_
            refine lv_topd (fun x28 ex28 => ?_)
            have h := h x28 ex28
            refine lv_d2i hx hb dX3_brakes_86 ?_
            refine lv_iconst (v := 1) hx hb dX3_brakes_87 (by decide) ?_
            refine lv_iadd hx hb dX3_brakes_88 ?_
            refine lv_topi (fun x29 ex29 => ?_)
            have h := h x29 ex29
            refine lv_istore (lv' := [(7, .int x29), (5, .double (4632233691727265792 : UInt64)), (3, .double (4629137466983448576 : UInt64)), (0, .ref (b 0)), (1, .int a0), (2, .int a1)]) hx hb dX3_brakes_89 hl (by decide) rfl (fun ls hl => ?_)
            refine lv_ldc2d hx hb C.hown (C.hts _ kd_X3_150) dX3_brakes_91 ?_
            refine lv_iload hx hb dX3_brakes_94 (lv_at hl 0 rfl) ?_
            refine lv_bipush (v := 15) hx hb dX3_brakes_96 (by decide) ?_
            refine lv_icmp_le (tgt := 106) hx hb dX3_brakes_98 (by decide) (fun q30 => ?_) (fun q30 => ?_)
            · have h := h.1 q30
              refine lv_iload hx hb dX3_brakes_106 (lv_at hl 0 rfl) ?_
              refine lv_i2d hx hb dX3_brakes_108 ?_
              obtain ⟨g31, h⟩ := h
              refine lv_dmul hx hb dX3_brakes_109 g31 ?_
              refine lv_topd (fun x32 ex32 => ?_)
              have h := h x32 ex32
              exact r_dret C hp dX3_brakes_110 ⟨_, rfl, rfl, h⟩
            · have h := h.2 q30
              refine lv_bipush (v := 15) hx hb dX3_brakes_101 (by decide) ?_
              refine lv_goto (tgt := 108) hx hb dX3_brakes_103 (by decide) ?_
              refine lv_i2d hx hb dX3_brakes_108 ?_
              obtain ⟨g33, h⟩ := h
              refine lv_dmul hx hb dX3_brakes_109 g33 ?_
              refine lv_topd (fun x34 ex34 => ?_)
              have h := h x34 ex34
              exact r_dret C hp dX3_brakes_110 ⟨_, rfl, rfl, h⟩
          · have h := h.2 q24
            refine lv_dconst0 hx hb dX3_brakes_67 ?_
            exact r_dret C hp dX3_brakes_68 ⟨_, rfl, rfl, h⟩
theorem mf_X3_brakes : MFv yX3_brakes cX3_brakes 8 (some .double) 2 := ⟨kc_X3_brakes, kn_X3_brakes, kv_X3_brakes, ki_X3, by decide +kernel⟩

/-! X3_rolls -/
def wb_X3_rolls_156 (a0 : Int32) (post : MS → Prop) (rec : MS → Prop) (S : MS) : Prop :=
  (vp_in a0 60) ∧ (
    (((3 : Int32) ≤ (M_passed S a0.toNatClampNeg) →
      post S
    ) ∧
    (¬ (3 : Int32) ≤ (M_passed S a0.toNatClampNeg) →
      (vf_n64 (FP.dmul (4630826316843712512 : UInt64) (FP.i2d (M_passed S a0.toNatClampNeg)))) ∧ (
        ∀ x4 : UInt64, x4 = FP.dmul (4630826316843712512 : UInt64) (FP.i2d (M_passed S a0.toNatClampNeg)) →
          (vf_n64 (FP.dadd (4635329916471083008 : UInt64) x4)) ∧ (
            ∀ x6 : UInt64, x6 = FP.dadd (4635329916471083008 : UInt64) x4 →
              ((¬ (dG (M_place S a0.toNatClampNeg) x6 ∨ dE (M_place S a0.toNatClampNeg) x6) →
                post S
              ) ∧
              ((dG (M_place S a0.toNatClampNeg) x6 ∨ dE (M_place S a0.toNatClampNeg) x6) →
                ∀ x8 : Int32, x8 = ((M_sides S a0.toNatClampNeg) + ((1 : Int32) <<< ((M_passed S a0.toNatClampNeg) &&& 31))) - (1 : Int32) →
                  (vp_in x8 7) ∧ (
                    ∀ x10 : Int32, x10 = M_lies S x8.toNatClampNeg →
                      wp_X3_leads x8 (M_wished S a0.toNatClampNeg) (fun r11 =>
                        ∀ x12 : Int32, x12 = ((2 : Int32) * (M_sides S a0.toNatClampNeg)) + x10 →
                          ∀ S13 : MS, S13 = Ms_sides S (upd (M_sides S) a0.toNatClampNeg x12) →
                            ∀ x14 : Int32, x14 = (M_passed S13 a0.toNatClampNeg) + (1 : Int32) →
                              ∀ S15 : MS, S15 = Ms_passed S13 (upd (M_passed S13) a0.toNatClampNeg x14) →
                                ((r11 = 0 →
                                  rec S15
                                ) ∧
                                (¬ r11 = 0 →
                                  (((((M_wished S15 a0.toNatClampNeg) >>> (((3 : Int32) - (M_passed S15 a0.toNatClampNeg)) &&& 31)) &&& (1 : Int32)) = x10 →
                                    rec S15
                                  ) ∧
                                  (¬ (((M_wished S15 a0.toNatClampNeg) >>> (((3 : Int32) - (M_passed S15 a0.toNatClampNeg)) &&& 31)) &&& (1 : Int32)) = x10 →
                                    wp_X3_notes (0 : Int32) a0 x8 S15 (fun S18 =>
                                      rec S18
                                    )
                                  ))
                                ))
                      )
                  )
              ))
          )
      )
    ))
  )
def wl_X3_rolls_156 (a0 : Int32) (post : MS → Prop) : Nat → MS → Prop
  | 0 => fun _ => False
  | n + 1 => wb_X3_rolls_156 a0 post (wl_X3_rolls_156 a0 post n)
def wj_X3_rolls_129 (a0 : Int32) (post : MS → Prop) (x6 : UInt64) (S : MS) : Prop :=
  (vp_in a0 60) ∧ (
    ∀ S20 : MS, S20 = Ms_speed S (vf_upd (M_speed S) a0.toNatClampNeg x6) →
      (vf_n64 (FP.dmul x6 (4593671619917905920 : UInt64))) ∧ (
        ∀ x22 : UInt64, x22 = FP.dmul x6 (4593671619917905920 : UInt64) →
          (vf_n64 (FP.dadd (M_place S20 a0.toNatClampNeg) x22)) ∧ (
            ∀ x24 : UInt64, x24 = FP.dadd (M_place S20 a0.toNatClampNeg) x22 →
              ∀ S25 : MS, S25 = Ms_place S20 (vf_upd (M_place S20) a0.toNatClampNeg x24) →
                ∃ n, wl_X3_rolls_156 a0 post n S25
          )
      )
  )
def wj_X3_rolls_99 (a0 : Int32) (post : MS → Prop) (x4 : UInt64) (S : MS) : Prop :=
  (vp_in a0 60) ∧ (
    (vf_n64 (FP.dmul x4 (4593671619917905920 : UInt64))) ∧ (
      ∀ x28 : UInt64, x28 = FP.dmul x4 (4593671619917905920 : UInt64) →
        (vf_n64 (FP.dadd (M_speed S a0.toNatClampNeg) x28)) ∧ (
          ∀ x30 : UInt64, x30 = FP.dadd (M_speed S a0.toNatClampNeg) x28 →
            ((¬ dL x30 FP.dconst0 →
              wj_X3_rolls_129 a0 post x30 S
            ) ∧
            (dL x30 FP.dconst0 →
              ∀ x32 : UInt64, x32 = FP.dconst0 →
                wj_X3_rolls_129 a0 post x32 S
            ))
        )
    )
  )
def wj_X3_rolls_41 (a0 : Int32) (post : MS → Prop) (t0 : UInt64) (S : MS) : Prop :=
  (vp_in a0 60) ∧ (
    (vf_n64 (FP.ddiv (M_resistance S a0.toNatClampNeg) (4652218415073722368 : UInt64))) ∧ (
      ∀ x35 : UInt64, x35 = FP.ddiv (M_resistance S a0.toNatClampNeg) (4652218415073722368 : UInt64) →
        (vf_n64 (FP.dsub t0 x35)) ∧ (
          ∀ x37 : UInt64, x37 = FP.dsub t0 x35 →
            (vf_n64 (FP.dmul (4621713564472705024 : UInt64) x37)) ∧ (
              ∀ x39 : UInt64, x39 = FP.dmul (4621713564472705024 : UInt64) x37 →
                wp_X3_brakes S (0 : Int32) a0 (fun r40 =>
                  (vf_n64 (FP.dsub x39 r40)) ∧ (
                    ∀ x42 : UInt64, x42 = FP.dsub x39 r40 →
                      ((¬ (M_passed S a0.toNatClampNeg) = (3 : Int32) →
                        wj_X3_rolls_99 a0 post x42 S
                      ) ∧
                      ((M_passed S a0.toNatClampNeg) = (3 : Int32) →
                        wp_X3_brakes S ((1 : Int32) + (M_sides S a0.toNatClampNeg)) a0 (fun r44 =>
                          (vf_n64 (FP.dsub x42 r44)) ∧ (
                            ∀ x46 : UInt64, x46 = FP.dsub x42 r44 →
                              wj_X3_rolls_99 a0 post x46 S
                          )
                        )
                      ))
                  )
                )
            )
        )
    )
  )
def wp_X3_rolls (a0 : Int32) (S : MS) (post : MS → Prop) : Prop :=
  (vp_in a0 60) ∧ (
    ((¬ dL (M_place S a0.toNatClampNeg) (4633641066610819072 : UInt64) →
      ((¬ dL (M_place S a0.toNatClampNeg) (4641240890982006784 : UInt64) →
        wj_X3_rolls_41 a0 post (4562254508917369340 : UInt64) S
      ) ∧
      (dL (M_place S a0.toNatClampNeg) (4641240890982006784 : UInt64) →
        wj_X3_rolls_41 a0 post (4578359381184846234 : UInt64) S
      ))
    ) ∧
    (dL (M_place S a0.toNatClampNeg) (4633641066610819072 : UInt64) →
      wj_X3_rolls_41 a0 post (4586916220476850176 : UInt64) S
    ))
  )
set_option maxHeartbeats 4000000 in
set_option maxRecDepth 100000 in
theorem lp_X3_rolls_156 {l : Launch} {G : GT} {Z : State} {ws0 : va_W} {b : Nat → Nat} {p : Program} {e : Env} {s : State} {m : MethodId} {args : Array Value} {below : List Frame} {meth : Method} {c : Code} {a0 : Int32} (C : Cx G Z ws0 p s m args meth c RX3 cX3_rolls 11 none) {post : MS → Prop} : ∀ (n : Nat) (S : MS) (H : Heap) (locs : List Loc) (ls : Array Slot), wl_X3_rolls_156 a0 post n S → Hp G ws0 s H locs (wM G b S) → lv_has ls 11 [(0, .ref (b 0)), (1, .int a0)] → W p l e (rmz 3 61) s m args below meth c H locs 0 0 (QQ G Z ws0 below s args (PV (wM G b) post) (rmz 3 61)) (F0 m 156 ls []) := by
  have hx := C.hx
  have hb := C.hb
  have hZ := C.hZ
  intro n
  induction n with
  | zero =>
    intro S H locs ls h
    exact False.elim h
  | succ n ih =>
    intro S H locs ls h hp hl
    have h : wb_X3_rolls_156 a0 post (wl_X3_rolls_156 a0 post n) S := h
    unfold wb_X3_rolls_156 at h
    generalize hrec : wl_X3_rolls_156 a0 post n = rec at h ih
    refine lv_aload_n hx hb dX3_rolls_156 rfl (lv_at hl 0 rfl) ?_
    refine gM_passed C hp dX3_rolls_157 ?_
    refine lv_iload_n hx hb dX3_rolls_160 rfl (lv_at hl 1 rfl) ?_
    obtain ⟨g1, h⟩ := h
    refine aM_passed C hp dX3_rolls_161 g1 ?_
    refine lv_iconst (v := 3) hx hb dX3_rolls_162 (by decide) ?_
    refine lv_icmp_ge (tgt := 297) hx hb dX3_rolls_163 (by decide) (fun q2 => ?_) (fun q2 => ?_)
    · have h := h.1 q2
      exact r_vret C hp dX3_rolls_297 ⟨_, rfl, rfl, h⟩
    · have h := h.2 q2
      refine lv_aload_n hx hb dX3_rolls_166 rfl (lv_at hl 0 rfl) ?_
      refine gM_place C hp dX3_rolls_167 ?_
      refine lv_iload_n hx hb dX3_rolls_170 rfl (lv_at hl 1 rfl) ?_
      refine aM_place C hp dX3_rolls_171 g1 ?_
      refine lv_ldc2d hx hb C.hown (C.hts _ kd_X3_97) dX3_rolls_172 ?_
      refine lv_ldc2d hx hb C.hown (C.hts _ kd_X3_99) dX3_rolls_175 ?_
      refine lv_aload_n hx hb dX3_rolls_178 rfl (lv_at hl 0 rfl) ?_
      refine gM_passed C hp dX3_rolls_179 ?_
      refine lv_iload_n hx hb dX3_rolls_182 rfl (lv_at hl 1 rfl) ?_
      refine aM_passed C hp dX3_rolls_183 g1 ?_
      refine lv_i2d hx hb dX3_rolls_184 ?_
      obtain ⟨g3, h⟩ := h
      refine lv_dmul hx hb dX3_rolls_185 g3 ?_
      refine lv_topd (fun x4 ex4 => ?_)
      have h := h x4 ex4
      obtain ⟨g5, h⟩ := h
      refine lv_dadd hx hb dX3_rolls_186 g5 ?_
      refine lv_topd (fun x6 ex6 => ?_)
      have h := h x6 ex6
      refine dcl_lt (tgt := 297) hx hb dX3_rolls_187 dX3_rolls_188 (by decide) (fun q7 => ?_) (fun q7 => ?_)
      · have h := h.1 q7
        exact r_vret C hp dX3_rolls_297 ⟨_, rfl, rfl, h⟩
      · have h := h.2 q7
        refine lv_aload_n hx hb dX3_rolls_191 rfl (lv_at hl 0 rfl) ?_
        refine gM_sides C hp dX3_rolls_192 ?_
        refine lv_iload_n hx hb dX3_rolls_195 rfl (lv_at hl 1 rfl) ?_
        refine aM_sides C hp dX3_rolls_196 g1 ?_
        refine lv_iconst (v := 1) hx hb dX3_rolls_197 (by decide) ?_
        refine lv_aload_n hx hb dX3_rolls_198 rfl (lv_at hl 0 rfl) ?_
        refine gM_passed C hp dX3_rolls_199 ?_
        refine lv_iload_n hx hb dX3_rolls_202 rfl (lv_at hl 1 rfl) ?_
        refine aM_passed C hp dX3_rolls_203 g1 ?_
        refine lv_ishl hx hb dX3_rolls_204 ?_
        refine lv_iadd hx hb dX3_rolls_205 ?_
        refine lv_iconst (v := 1) hx hb dX3_rolls_206 (by decide) ?_
        refine lv_isub hx hb dX3_rolls_207 ?_
        refine lv_topi (fun x8 ex8 => ?_)
        have h := h x8 ex8
        refine lv_istore (lv' := [(8, .int x8), (0, .ref (b 0)), (1, .int a0)]) hx hb dX3_rolls_208 hl (by decide) rfl (fun ls hl => ?_)
        refine lv_aload_n hx hb dX3_rolls_210 rfl (lv_at hl 1 rfl) ?_
        refine gM_lies C hp dX3_rolls_211 ?_
        refine lv_iload hx hb dX3_rolls_214 (lv_at hl 0 rfl) ?_
        obtain ⟨g9, h⟩ := h
        refine aM_lies C hp dX3_rolls_216 g9 ?_
        refine lv_topi (fun x10 ex10 => ?_)
        have h := h x10 ex10
        refine lv_istore (lv' := [(9, .int x10), (8, .int x8), (0, .ref (b 0)), (1, .int a0)]) hx hb dX3_rolls_217 hl (by decide) rfl (fun ls hl => ?_)
        refine lv_iload hx hb dX3_rolls_219 (lv_at hl 1 rfl) ?_
        refine lv_aload_n hx hb dX3_rolls_221 rfl (lv_at hl 2 rfl) ?_
        refine gM_wished C hp dX3_rolls_222 ?_
        refine lv_iload_n hx hb dX3_rolls_225 rfl (lv_at hl 3 rfl) ?_
        refine aM_wished C hp dX3_rolls_226 g1 ?_
        refine r_callS (rest := []) (c_X3_leads C.hZ h) C hp mf_X3_leads km_X3_125 hl.1 dX3_rolls_227 ⟨lb rfl, lb rfl, lb rfl, lb rfl⟩ rfl rfl (lb rfl) (fun v w1 H locs hv hp => ?_)
        obtain ⟨r11, rfl, rfl, h⟩ := hv
        refine W.eq (g2 := F0 m 230 ls [.int r11]) rfl ?_
        refine lv_istore (lv' := [(10, .int r11), (9, .int x10), (8, .int x8), (0, .ref (b 0)), (1, .int a0)]) hx hb dX3_rolls_230 hl (by decide) rfl (fun ls hl => ?_)
        refine lv_aload_n hx hb dX3_rolls_232 rfl (lv_at hl 3 rfl) ?_
        refine gM_sides C hp dX3_rolls_233 ?_
        refine lv_iload_n hx hb dX3_rolls_236 rfl (lv_at hl 4 rfl) ?_
        refine lv_iconst (v := 2) hx hb dX3_rolls_237 (by decide) ?_
        refine lv_aload_n hx hb dX3_rolls_238 rfl (lv_at hl 3 rfl) ?_
        refine gM_sides C hp dX3_rolls_239 ?_
        refine lv_iload_n hx hb dX3_rolls_242 rfl (lv_at hl 4 rfl) ?_
        refine aM_sides C hp dX3_rolls_243 g1 ?_
        refine lv_imul hx hb dX3_rolls_244 ?_
        refine lv_iload hx hb dX3_rolls_245 (lv_at hl 1 rfl) ?_
        refine lv_iadd hx hb dX3_rolls_247 ?_
        refine lv_topi (fun x12 ex12 => ?_)
        have h := h x12 ex12
        refine uM_sides C hp dX3_rolls_248 g1 (fun H locs hp => ?_)
        obtain ⟨S13, eS13⟩ : ∃ z : MS, z = Ms_sides S (upd (M_sides S) a0.toNatClampNeg x12) := ⟨_, rfl⟩
        rw [← eS13] at hp
        have h := h S13 eS13
        refine lv_aload_n hx hb dX3_rolls_249 rfl (lv_at hl 3 rfl) ?_
        refine gM_passed C hp dX3_rolls_250 ?_
        refine lv_iload_n hx hb dX3_rolls_253 rfl (lv_at hl 4 rfl) ?_
        refine lv_dup2_11 hx hb dX3_rolls_254 rfl rfl ?_
        refine aM_passed C hp dX3_rolls_255 g1 ?_
        refine lv_iconst (v := 1) hx hb dX3_rolls_256 (by decide) ?_
        refine lv_iadd hx hb dX3_rolls_257 ?_
        refine lv_topi (fun x14 ex14 => ?_)
        have h := h x14 ex14
        refine uM_passed C hp dX3_rolls_258 g1 (fun H locs hp => ?_)
        obtain ⟨S15, eS15⟩ : ∃ z : MS, z = Ms_passed S13 (upd (M_passed S13) a0.toNatClampNeg x14) := ⟨_, rfl⟩
        rw [← eS15] at hp
        have h := h S15 eS15
        refine lv_iload hx hb dX3_rolls_259 (lv_at hl 0 rfl) ?_
        refine lv_if_eq (tgt := 294) hx hb dX3_rolls_261 (by decide) (fun q16 => ?_) (fun q16 => ?_)
        · have h := h.1 q16
          refine lv_goto (tgt := 156) hx hb dX3_rolls_294 (by decide) ?_
          exact ih _ _ _ _ h hp (lv_sub hl [3, 4] rfl)
        · have h := h.2 q16
          refine lv_aload_n hx hb dX3_rolls_264 rfl (lv_at hl 3 rfl) ?_
          refine gM_wished C hp dX3_rolls_265 ?_
          refine lv_iload_n hx hb dX3_rolls_268 rfl (lv_at hl 4 rfl) ?_
          refine aM_wished C hp dX3_rolls_269 g1 ?_
          refine lv_iconst (v := 3) hx hb dX3_rolls_270 (by decide) ?_
          refine lv_aload_n hx hb dX3_rolls_271 rfl (lv_at hl 3 rfl) ?_
          refine gM_passed C hp dX3_rolls_272 ?_
          refine lv_iload_n hx hb dX3_rolls_275 rfl (lv_at hl 4 rfl) ?_
          refine aM_passed C hp dX3_rolls_276 g1 ?_
          refine lv_isub hx hb dX3_rolls_277 ?_
          refine lv_ishr hx hb dX3_rolls_278 ?_
          refine lv_iconst (v := 1) hx hb dX3_rolls_279 (by decide) ?_
          refine lv_iand hx hb dX3_rolls_280 ?_
          refine lv_iload hx hb dX3_rolls_281 (lv_at hl 1 rfl) ?_
          refine lv_icmp_eq (tgt := 294) hx hb dX3_rolls_283 (by decide) (fun q17 => ?_) (fun q17 => ?_)
          · have h := h.1 q17
            refine lv_goto (tgt := 156) hx hb dX3_rolls_294 (by decide) ?_
            exact ih _ _ _ _ h hp (lv_sub hl [3, 4] rfl)
          · have h := h.2 q17
            refine lv_aload_n hx hb dX3_rolls_286 rfl (lv_at hl 3 rfl) ?_
            refine lv_iconst (v := 0) hx hb dX3_rolls_287 (by decide) ?_
            refine lv_iload_n hx hb dX3_rolls_288 rfl (lv_at hl 4 rfl) ?_
            refine lv_iload hx hb dX3_rolls_289 (lv_at hl 2 rfl) ?_
            refine r_callV (q0 := 0) (ci := 3) (rest := []) (c_X3_notes (b := b) C.hZ h) C hp mf_X3_notes km_X3_172 hl.1 dX3_rolls_291 rfl rfl ⟨lb rfl, lb rfl, lb rfl, lb rfl⟩ rfl rfl (lb rfl) (fun v w1 H locs hv hp => ?_)
            obtain ⟨S18, rfl, rfl, h⟩ := hv
            refine W.eq (g2 := F0 m 294 ls []) rfl ?_
            refine lv_goto (tgt := 156) hx hb dX3_rolls_294 (by decide) ?_
            exact ih _ _ _ _ h hp (lv_sub hl [3, 4] rfl)
set_option maxHeartbeats 4000000 in
set_option maxRecDepth 100000 in
theorem lp_X3_rolls_129 {l : Launch} {G : GT} {Z : State} {ws0 : va_W} {b : Nat → Nat} {p : Program} {e : Env} {s : State} {m : MethodId} {args : Array Value} {below : List Frame} {meth : Method} {c : Code} {a0 : Int32} (C : Cx G Z ws0 p s m args meth c RX3 cX3_rolls 11 none) {post : MS → Prop} : ∀ (x6 : UInt64) (S : MS) (H : Heap) (locs : List Loc) (ls : Array Slot), wj_X3_rolls_129 a0 post x6 S → Hp G ws0 s H locs (wM G b S) → lv_has ls 11 [(0, .ref (b 0)), (1, .int a0), (6, .double x6)] → W p l e (rmz 3 61) s m args below meth c H locs 0 0 (QQ G Z ws0 below s args (PV (wM G b) post) (rmz 3 61)) (F0 m 129 ls []) := by
  have hx := C.hx
  have hb := C.hb
  have hZ := C.hZ
  intro x6 S H locs ls h hp hl
  unfold wj_X3_rolls_129 at h
  refine lv_aload_n hx hb dX3_rolls_129 rfl (lv_at hl 0 rfl) ?_
  refine gM_speed C hp dX3_rolls_130 ?_
  refine lv_iload_n hx hb dX3_rolls_133 rfl (lv_at hl 1 rfl) ?_
  refine lv_dload hx hb dX3_rolls_134 (lv_at hl 2 rfl) ?_
  obtain ⟨g19, h⟩ := h
  refine uM_speed C hp dX3_rolls_136 g19 (fun H locs hp => ?_)
  obtain ⟨S20, eS20⟩ : ∃ z : MS, z = Ms_speed S (vf_upd (M_speed S) a0.toNatClampNeg x6) := ⟨_, rfl⟩
  rw [← eS20] at hp
  have h := h S20 eS20
  refine lv_aload_n hx hb dX3_rolls_137 rfl (lv_at hl 0 rfl) ?_
  refine gM_place C hp dX3_rolls_138 ?_
  refine lv_iload_n hx hb dX3_rolls_141 rfl (lv_at hl 1 rfl) ?_
  refine lv_aload_n hx hb dX3_rolls_142 rfl (lv_at hl 0 rfl) ?_
  refine gM_place C hp dX3_rolls_143 ?_
  refine lv_iload_n hx hb dX3_rolls_146 rfl (lv_at hl 1 rfl) ?_
  refine aM_place C hp dX3_rolls_147 g19 ?_
  refine lv_dload hx hb dX3_rolls_148 (lv_at hl 2 rfl) ?_
  refine lv_ldc2d hx hb C.hown (C.hts _ kd_X3_170) dX3_rolls_150 ?_
  obtain ⟨g21, h⟩ := h
  refine lv_dmul hx hb dX3_rolls_153 g21 ?_
  refine lv_topd (fun x22 ex22 => ?_)
  have h := h x22 ex22
  obtain ⟨g23, h⟩ := h
  refine lv_dadd hx hb dX3_rolls_154 g23 ?_
  refine lv_topd (fun x24 ex24 => ?_)
  have h := h x24 ex24
  refine uM_place C hp dX3_rolls_155 g19 (fun H locs hp => ?_)
  obtain ⟨S25, eS25⟩ : ∃ z : MS, z = Ms_place S20 (vf_upd (M_place S20) a0.toNatClampNeg x24) := ⟨_, rfl⟩
  rw [← eS25] at hp
  have h := h S25 eS25
  obtain ⟨n, h⟩ := h
  exact lp_X3_rolls_156 C n _ _ _ _ h hp (lv_sub hl [0, 1] rfl)
set_option maxHeartbeats 4000000 in
set_option maxRecDepth 100000 in
theorem lp_X3_rolls_99 {l : Launch} {G : GT} {Z : State} {ws0 : va_W} {b : Nat → Nat} {p : Program} {e : Env} {s : State} {m : MethodId} {args : Array Value} {below : List Frame} {meth : Method} {c : Code} {a0 : Int32} (C : Cx G Z ws0 p s m args meth c RX3 cX3_rolls 11 none) {post : MS → Prop} : ∀ (x4 : UInt64) (S : MS) (H : Heap) (locs : List Loc) (ls : Array Slot), wj_X3_rolls_99 a0 post x4 S → Hp G ws0 s H locs (wM G b S) → lv_has ls 11 [(0, .ref (b 0)), (1, .int a0), (4, .double x4)] → W p l e (rmz 3 61) s m args below meth c H locs 0 0 (QQ G Z ws0 below s args (PV (wM G b) post) (rmz 3 61)) (F0 m 99 ls []) := by
  have hx := C.hx
  have hb := C.hb
  have hZ := C.hZ
  intro x4 S H locs ls h hp hl
  unfold wj_X3_rolls_99 at h
  refine lv_aload_n hx hb dX3_rolls_99 rfl (lv_at hl 0 rfl) ?_
  refine gM_speed C hp dX3_rolls_100 ?_
  refine lv_iload_n hx hb dX3_rolls_103 rfl (lv_at hl 1 rfl) ?_
  obtain ⟨g26, h⟩ := h
  refine aM_speed C hp dX3_rolls_104 g26 ?_
  refine lv_dload hx hb dX3_rolls_105 (lv_at hl 2 rfl) ?_
  refine lv_ldc2d hx hb C.hown (C.hts _ kd_X3_170) dX3_rolls_107 ?_
  obtain ⟨g27, h⟩ := h
  refine lv_dmul hx hb dX3_rolls_110 g27 ?_
  refine lv_topd (fun x28 ex28 => ?_)
  have h := h x28 ex28
  obtain ⟨g29, h⟩ := h
  refine lv_dadd hx hb dX3_rolls_111 g29 ?_
  refine lv_topd (fun x30 ex30 => ?_)
  have h := h x30 ex30
  refine lv_dstore (lv' := [(6, .double x30), (0, .ref (b 0)), (1, .int a0), (4, .double x4)]) hx hb dX3_rolls_112 hl (by decide) rfl (fun ls hl => ?_)
  refine lv_dload hx hb dX3_rolls_114 (lv_at hl 0 rfl) ?_
  refine lv_dconst0 hx hb dX3_rolls_116 ?_
  refine dcg_ge (tgt := 125) hx hb dX3_rolls_117 dX3_rolls_118 (by decide) (fun q31 => ?_) (fun q31 => ?_)
  · have h := h.1 q31
    refine lv_dload hx hb dX3_rolls_125 (lv_at hl 0 rfl) ?_
    refine lv_dstore (lv' := [(6, .double x30), (0, .ref (b 0)), (1, .int a0), (4, .double x4)]) hx hb dX3_rolls_127 hl (by decide) rfl (fun ls hl => ?_)
    exact lp_X3_rolls_129 C _ _ _ _ _ h hp (lv_sub hl [1, 2, 0] rfl)
  · have h := h.2 q31
    refine lv_dconst0 hx hb dX3_rolls_121 ?_
    refine lv_goto (tgt := 127) hx hb dX3_rolls_122 (by decide) ?_
    refine lv_topd (fun x32 ex32 => ?_)
    have h := h x32 ex32
    refine lv_dstore (lv' := [(6, .double x32), (0, .ref (b 0)), (1, .int a0), (4, .double x4)]) hx hb dX3_rolls_127 hl (by decide) rfl (fun ls hl => ?_)
    exact lp_X3_rolls_129 C _ _ _ _ _ h hp (lv_sub hl [1, 2, 0] rfl)
set_option maxHeartbeats 4000000 in
set_option maxRecDepth 100000 in
theorem lp_X3_rolls_41 {l : Launch} {G : GT} {Z : State} {ws0 : va_W} {b : Nat → Nat} {p : Program} {e : Env} {s : State} {m : MethodId} {args : Array Value} {below : List Frame} {meth : Method} {c : Code} {a0 : Int32} (C : Cx G Z ws0 p s m args meth c RX3 cX3_rolls 11 none) {post : MS → Prop} : ∀ (t0 : UInt64) (S : MS) (H : Heap) (locs : List Loc) (ls : Array Slot), wj_X3_rolls_41 a0 post t0 S → Hp G ws0 s H locs (wM G b S) → lv_has ls 11 [(0, .ref (b 0)), (1, .int a0)] → W p l e (rmz 3 61) s m args below meth c H locs 0 0 (QQ G Z ws0 below s args (PV (wM G b) post) (rmz 3 61)) (F0 m 41 ls [.double t0]) := by
  have hx := C.hx
  have hb := C.hb
  have hZ := C.hZ
  intro t0 S H locs ls h hp hl
  unfold wj_X3_rolls_41 at h
  refine lv_dstore_n (lv' := [(2, .double t0), (0, .ref (b 0)), (1, .int a0)]) hx hb dX3_rolls_41 rfl hl (by decide) rfl (fun ls hl => ?_)
  refine lv_ldc2d hx hb C.hown (C.hts _ kd_X3_162) dX3_rolls_42 ?_
  refine lv_dload_n hx hb dX3_rolls_45 rfl (lv_at hl 0 rfl) ?_
  refine lv_aload_n hx hb dX3_rolls_46 rfl (lv_at hl 1 rfl) ?_
  refine gM_resistance C hp dX3_rolls_47 ?_
  refine lv_iload_n hx hb dX3_rolls_50 rfl (lv_at hl 2 rfl) ?_
  obtain ⟨g33, h⟩ := h
  refine aM_resistance C hp dX3_rolls_51 g33 ?_
  refine lv_ldc2d hx hb C.hown (C.hts _ kd_X3_164) dX3_rolls_52 ?_
  obtain ⟨g34, h⟩ := h
  refine lv_ddiv hx hb dX3_rolls_55 g34 ?_
  refine lv_topd (fun x35 ex35 => ?_)
  have h := h x35 ex35
  obtain ⟨g36, h⟩ := h
  refine lv_dsub hx hb dX3_rolls_56 g36 ?_
  refine lv_topd (fun x37 ex37 => ?_)
  have h := h x37 ex37
  obtain ⟨g38, h⟩ := h
  refine lv_dmul hx hb dX3_rolls_57 g38 ?_
  refine lv_topd (fun x39 ex39 => ?_)
  have h := h x39 ex39
  refine lv_dstore (lv' := [(4, .double x39), (2, .double t0), (0, .ref (b 0)), (1, .int a0)]) hx hb dX3_rolls_58 hl (by decide) rfl (fun ls hl => ?_)
  refine lv_dload hx hb dX3_rolls_60 (lv_at hl 0 rfl) ?_
  refine lv_aload_n hx hb dX3_rolls_62 rfl (lv_at hl 2 rfl) ?_
  refine lv_iconst (v := 0) hx hb dX3_rolls_63 (by decide) ?_
  refine lv_iload_n hx hb dX3_rolls_64 rfl (lv_at hl 3 rfl) ?_
  refine r_callV (q0 := 0) (ci := 3) (rest := [.double x39]) (c_X3_brakes (b := b) C.hZ h) C hp mf_X3_brakes km_X3_166 hl.1 dX3_rolls_65 rfl rfl ⟨lb rfl, lb rfl, lb rfl, lb rfl⟩ rfl rfl (lb rfl) (fun v w1 H locs hv hp => ?_)
  obtain ⟨r40, rfl, rfl, h⟩ := hv
  refine W.eq (g2 := F0 m 68 ls [.double r40, .double x39]) rfl ?_
  obtain ⟨g41, h⟩ := h
  refine lv_dsub hx hb dX3_rolls_68 g41 ?_
  refine lv_topd (fun x42 ex42 => ?_)
  have h := h x42 ex42
  refine lv_dstore (lv' := [(4, .double x42), (2, .double t0), (0, .ref (b 0)), (1, .int a0)]) hx hb dX3_rolls_69 hl (by decide) rfl (fun ls hl => ?_)
  refine lv_aload_n hx hb dX3_rolls_71 rfl (lv_at hl 2 rfl) ?_
  refine gM_passed C hp dX3_rolls_72 ?_
  refine lv_iload_n hx hb dX3_rolls_75 rfl (lv_at hl 3 rfl) ?_
  refine aM_passed C hp dX3_rolls_76 g33 ?_
  refine lv_iconst (v := 3) hx hb dX3_rolls_77 (by decide) ?_
  refine lv_icmp_ne (tgt := 99) hx hb dX3_rolls_78 (by decide) (fun q43 => ?_) (fun q43 => ?_)
  · have h := h.1 q43
    exact lp_X3_rolls_99 C _ _ _ _ _ h hp (lv_sub hl [2, 3, 0] rfl)
  · have h := h.2 q43
    refine lv_dload hx hb dX3_rolls_81 (lv_at hl 0 rfl) ?_
    refine lv_aload_n hx hb dX3_rolls_83 rfl (lv_at hl 2 rfl) ?_
    refine lv_iconst (v := 1) hx hb dX3_rolls_84 (by decide) ?_
    refine lv_aload_n hx hb dX3_rolls_85 rfl (lv_at hl 2 rfl) ?_
    refine gM_sides C hp dX3_rolls_86 ?_
    refine lv_iload_n hx hb dX3_rolls_89 rfl (lv_at hl 3 rfl) ?_
    refine aM_sides C hp dX3_rolls_90 g33 ?_
    refine lv_iadd hx hb dX3_rolls_91 ?_
    refine lv_iload_n hx hb dX3_rolls_92 rfl (lv_at hl 3 rfl) ?_
    refine r_callV (q0 := 0) (ci := 3) (rest := [.double x42]) (c_X3_brakes (b := b) C.hZ h) C hp mf_X3_brakes km_X3_166 hl.1 dX3_rolls_93 rfl rfl ⟨lb rfl, lb rfl, lb rfl, lb rfl⟩ rfl rfl (lb rfl) (fun v w1 H locs hv hp => ?_)
    obtain ⟨r44, rfl, rfl, h⟩ := hv
    refine W.eq (g2 := F0 m 96 ls [.double r44, .double x42]) rfl ?_
    obtain ⟨g45, h⟩ := h
    refine lv_dsub hx hb dX3_rolls_96 g45 ?_
    refine lv_topd (fun x46 ex46 => ?_)
    have h := h x46 ex46
    refine lv_dstore (lv' := [(4, .double x46), (2, .double t0), (0, .ref (b 0)), (1, .int a0)]) hx hb dX3_rolls_97 hl (by decide) rfl (fun ls hl => ?_)
    exact lp_X3_rolls_99 C _ _ _ _ _ h hp (lv_sub hl [2, 3, 0] rfl)
set_option maxHeartbeats 4000000 in
set_option maxRecDepth 100000 in
theorem c_X3_rolls {l : Launch} {G : GT} {Z : State} {b : Nat → Nat} (hZ : ZOK G Z) {a0 : Int32} {S : MS} {post : MS → Prop} (h : wp_X3_rolls a0 S post) : CM l G Z yX3_rolls cX3_rolls 11 none (rmz 3 61) [.ref (b 0), .int a0] (wM G b S) (PV (wM G b) post) := by
  refine CM_ofW hZ (by decide) (lb rfl) (fun p e s m below meth c ls C hp hl hnm => ?_)
  have C : Cx G Z _ p s m _ meth c RX3 cX3_rolls 11 none := C
  have hl : lv_has ls 11 [(0, .ref (b 0)), (1, .int a0)] := hl
  have hx := C.hx
  have hb := C.hb
  unfold wp_X3_rolls at h
  refine lv_aload_n hx hb dX3_rolls_0 rfl (lv_at hl 0 rfl) ?_
  refine gM_place C hp dX3_rolls_1 ?_
  refine lv_iload_n hx hb dX3_rolls_4 rfl (lv_at hl 1 rfl) ?_
  obtain ⟨g47, h⟩ := h
  refine aM_place C hp dX3_rolls_5 g47 ?_
  refine lv_ldc2d hx hb C.hown (C.hts _ kd_X3_152) dX3_rolls_6 ?_
  refine dcg_ge (tgt := 19) hx hb dX3_rolls_9 dX3_rolls_10 (by decide) (fun q48 => ?_) (fun q48 => ?_)
  · have h := h.1 q48
    refine lv_aload_n hx hb dX3_rolls_19 rfl (lv_at hl 0 rfl) ?_
    refine gM_place C hp dX3_rolls_20 ?_
    refine lv_iload_n hx hb dX3_rolls_23 rfl (lv_at hl 1 rfl) ?_
    refine aM_place C hp dX3_rolls_24 g47 ?_
    refine lv_ldc2d hx hb C.hown (C.hts _ kd_X3_156) dX3_rolls_25 ?_
    refine dcg_ge (tgt := 38) hx hb dX3_rolls_28 dX3_rolls_29 (by decide) (fun q49 => ?_) (fun q49 => ?_)
    · have h := h.1 q49
      refine lv_ldc2d hx hb C.hown (C.hts _ kd_X3_160) dX3_rolls_38 ?_
      exact lp_X3_rolls_41 C _ _ _ _ _ h hp (lv_sub hl [0, 1] rfl)
    · have h := h.2 q49
      refine lv_ldc2d hx hb C.hown (C.hts _ kd_X3_158) dX3_rolls_32 ?_
      refine lv_goto (tgt := 41) hx hb dX3_rolls_35 (by decide) ?_
      exact lp_X3_rolls_41 C _ _ _ _ _ h hp (lv_sub hl [0, 1] rfl)
  · have h := h.2 q48
    refine lv_ldc2d hx hb C.hown (C.hts _ kd_X3_154) dX3_rolls_13 ?_
    refine lv_goto (tgt := 41) hx hb dX3_rolls_16 (by decide) ?_
    exact lp_X3_rolls_41 C _ _ _ _ _ h hp (lv_sub hl [0, 1] rfl)
theorem mf_X3_rolls : MFv yX3_rolls cX3_rolls 11 none 1 := ⟨kc_X3_rolls, kn_X3_rolls, kv_X3_rolls, ki_X3, by decide +kernel⟩

/-! X3_ahead -/
def wb_X3_ahead_4 (S : MS) (a0 : Int32) (post : Int32 → Prop) (rec : Int32 → Prop) (x2 : Int32) : Prop :=
  ((x2 < 0 →
    post (-1 : Int32)
  ) ∧
  (¬ x2 < 0 →
    (vp_in x2 60) ∧ (
      (vp_in a0 60) ∧ (
        (((M_passed S a0.toNatClampNeg) ≤ (M_passed S x2.toNatClampNeg) →
          ∀ x5 : Int32, x5 = M_passed S a0.toNatClampNeg →
            ((¬ (M_state S x2.toNatClampNeg) = (1 : Int32) →
              rec (x2 + (-1))
            ) ∧
            ((M_state S x2.toNatClampNeg) = (1 : Int32) →
              ((¬ ((M_sides S x2.toNatClampNeg) >>> (((M_passed S x2.toNatClampNeg) - x5) &&& 31)) = ((M_sides S a0.toNatClampNeg) >>> (((M_passed S a0.toNatClampNeg) - x5) &&& 31)) →
                rec (x2 + (-1))
              ) ∧
              (((M_sides S x2.toNatClampNeg) >>> (((M_passed S x2.toNatClampNeg) - x5) &&& 31)) = ((M_sides S a0.toNatClampNeg) >>> (((M_passed S a0.toNatClampNeg) - x5) &&& 31)) →
                post x2
              ))
            ))
        ) ∧
        (¬ (M_passed S a0.toNatClampNeg) ≤ (M_passed S x2.toNatClampNeg) →
          ∀ x8 : Int32, x8 = M_passed S x2.toNatClampNeg →
            ((¬ (M_state S x2.toNatClampNeg) = (1 : Int32) →
              rec (x2 + (-1))
            ) ∧
            ((M_state S x2.toNatClampNeg) = (1 : Int32) →
              ((¬ ((M_sides S x2.toNatClampNeg) >>> (((M_passed S x2.toNatClampNeg) - x8) &&& 31)) = ((M_sides S a0.toNatClampNeg) >>> (((M_passed S a0.toNatClampNeg) - x8) &&& 31)) →
                rec (x2 + (-1))
              ) ∧
              (((M_sides S x2.toNatClampNeg) >>> (((M_passed S x2.toNatClampNeg) - x8) &&& 31)) = ((M_sides S a0.toNatClampNeg) >>> (((M_passed S a0.toNatClampNeg) - x8) &&& 31)) →
                post x2
              ))
            ))
        ))
      )
    )
  ))
def wl_X3_ahead_4 (S : MS) (a0 : Int32) (post : Int32 → Prop) : Nat → Int32 → Prop
  | 0 => fun _ => False
  | n + 1 => wb_X3_ahead_4 S a0 post (wl_X3_ahead_4 S a0 post n)
def wp_X3_ahead (S : MS) (a0 : Int32) (post : Int32 → Prop) : Prop :=
  ∀ x11 : Int32, x11 = a0 - (1 : Int32) →
    ∃ n, wl_X3_ahead_4 S a0 post n x11
set_option maxHeartbeats 4000000 in
set_option maxRecDepth 100000 in
theorem lp_X3_ahead_4 {l : Launch} {G : GT} {Z : State} {ws0 : va_W} {b : Nat → Nat} {p : Program} {e : Env} {s : State} {m : MethodId} {args : Array Value} {below : List Frame} {meth : Method} {c : Code} {S : MS} {a0 : Int32} (C : Cx G Z ws0 p s m args meth c RX3 cX3_ahead 4 (some .int)) {post : Int32 → Prop} : ∀ (n : Nat) (x2 : Int32) (H : Heap) (locs : List Loc) (ls : Array Slot), wl_X3_ahead_4 S a0 post n x2 → Hp G ws0 s H locs (wM G b S) → lv_has ls 4 [(0, .ref (b 0)), (1, .int a0), (2, .int x2)] → W p l e (rmz 0 0) s m args below meth c H locs 0 0 (QQ G Z ws0 below s args (SI (wM G b S) post) (rmz 0 0)) (F0 m 4 ls []) := by
  have hx := C.hx
  have hb := C.hb
  have hZ := C.hZ
  intro n
  induction n with
  | zero =>
    intro x2 H locs ls h
    exact False.elim h
  | succ n ih =>
    intro x2 H locs ls h hp hl
    have h : wb_X3_ahead_4 S a0 post (wl_X3_ahead_4 S a0 post n) x2 := h
    unfold wb_X3_ahead_4 at h
    generalize hrec : wl_X3_ahead_4 S a0 post n = rec at h ih
    refine lv_iload_n hx hb dX3_ahead_4 rfl (lv_at hl 2 rfl) ?_
    refine lv_if_lt (tgt := 90) hx hb dX3_ahead_5 (by decide) (fun q1 => ?_) (fun q1 => ?_)
    · have h := h.1 q1
      refine lv_iconst (v := -1) hx hb dX3_ahead_90 (by decide) ?_
      exact r_iret C hp dX3_ahead_91 ⟨_, rfl, rfl, h⟩
    · have h := h.2 q1
      refine lv_aload_n hx hb dX3_ahead_8 rfl (lv_at hl 0 rfl) ?_
      refine gM_passed C hp dX3_ahead_9 ?_
      refine lv_iload_n hx hb dX3_ahead_12 rfl (lv_at hl 2 rfl) ?_
      obtain ⟨g2, h⟩ := h
      refine aM_passed C hp dX3_ahead_13 g2 ?_
      refine lv_aload_n hx hb dX3_ahead_14 rfl (lv_at hl 0 rfl) ?_
      refine gM_passed C hp dX3_ahead_15 ?_
      refine lv_iload_n hx hb dX3_ahead_18 rfl (lv_at hl 1 rfl) ?_
      obtain ⟨g3, h⟩ := h
      refine aM_passed C hp dX3_ahead_19 g3 ?_
      refine lv_icmp_ge (tgt := 32) hx hb dX3_ahead_20 (by decide) (fun q4 => ?_) (fun q4 => ?_)
      · have h := h.1 q4
        refine lv_aload_n hx hb dX3_ahead_32 rfl (lv_at hl 0 rfl) ?_
        refine gM_passed C hp dX3_ahead_33 ?_
        refine lv_iload_n hx hb dX3_ahead_36 rfl (lv_at hl 1 rfl) ?_
        refine aM_passed C hp dX3_ahead_37 g3 ?_
        refine lv_topi (fun x5 ex5 => ?_)
        have h := h x5 ex5
        refine lv_istore_n (lv' := [(3, .int x5), (0, .ref (b 0)), (1, .int a0), (2, .int x2)]) hx hb dX3_ahead_38 rfl hl (by decide) rfl (fun ls hl => ?_)
        refine lv_aload_n hx hb dX3_ahead_39 rfl (lv_at hl 1 rfl) ?_
        refine gM_state C hp dX3_ahead_40 ?_
        refine lv_iload_n hx hb dX3_ahead_43 rfl (lv_at hl 3 rfl) ?_
        refine aM_state C hp dX3_ahead_44 g2 ?_
        refine lv_iconst (v := 1) hx hb dX3_ahead_45 (by decide) ?_
        refine lv_icmp_ne (tgt := 84) hx hb dX3_ahead_46 (by decide) (fun q6 => ?_) (fun q6 => ?_)
        · have h := h.1 q6
          refine lv_iinc (v := x2 + (-1)) (lv' := [(2, .int (x2 + (-1))), (3, .int x5), (0, .ref (b 0)), (1, .int a0)]) hx hb dX3_ahead_84 hl (k := 3) rfl rfl (by decide) rfl (fun ls hl => ?_)
          refine lv_goto (tgt := 4) hx hb dX3_ahead_87 (by decide) ?_
          exact ih _ _ _ _ h hp (lv_sub hl [2, 3, 0] rfl)
        · have h := h.2 q6
          refine lv_aload_n hx hb dX3_ahead_49 rfl (lv_at hl 1 rfl) ?_
          refine gM_sides C hp dX3_ahead_50 ?_
          refine lv_iload_n hx hb dX3_ahead_53 rfl (lv_at hl 3 rfl) ?_
          refine aM_sides C hp dX3_ahead_54 g2 ?_
          refine lv_aload_n hx hb dX3_ahead_55 rfl (lv_at hl 1 rfl) ?_
          refine gM_passed C hp dX3_ahead_56 ?_
          refine lv_iload_n hx hb dX3_ahead_59 rfl (lv_at hl 3 rfl) ?_
          refine aM_passed C hp dX3_ahead_60 g2 ?_
          refine lv_iload_n hx hb dX3_ahead_61 rfl (lv_at hl 0 rfl) ?_
          refine lv_isub hx hb dX3_ahead_62 ?_
          refine lv_ishr hx hb dX3_ahead_63 ?_
          refine lv_aload_n hx hb dX3_ahead_64 rfl (lv_at hl 1 rfl) ?_
          refine gM_sides C hp dX3_ahead_65 ?_
          refine lv_iload_n hx hb dX3_ahead_68 rfl (lv_at hl 2 rfl) ?_
          refine aM_sides C hp dX3_ahead_69 g3 ?_
          refine lv_aload_n hx hb dX3_ahead_70 rfl (lv_at hl 1 rfl) ?_
          refine gM_passed C hp dX3_ahead_71 ?_
          refine lv_iload_n hx hb dX3_ahead_74 rfl (lv_at hl 2 rfl) ?_
          refine aM_passed C hp dX3_ahead_75 g3 ?_
          refine lv_iload_n hx hb dX3_ahead_76 rfl (lv_at hl 0 rfl) ?_
          refine lv_isub hx hb dX3_ahead_77 ?_
          refine lv_ishr hx hb dX3_ahead_78 ?_
          refine lv_icmp_ne (tgt := 84) hx hb dX3_ahead_79 (by decide) (fun q7 => ?_) (fun q7 => ?_)
          · have h := h.1 q7
            refine lv_iinc (v := x2 + (-1)) (lv' := [(2, .int (x2 + (-1))), (3, .int x5), (0, .ref (b 0)), (1, .int a0)]) hx hb dX3_ahead_84 hl (k := 3) rfl rfl (by decide) rfl (fun ls hl => ?_)
            refine lv_goto (tgt := 4) hx hb dX3_ahead_87 (by decide) ?_
            exact ih _ _ _ _ h hp (lv_sub hl [2, 3, 0] rfl)
          · have h := h.2 q7
            refine lv_iload_n hx hb dX3_ahead_82 rfl (lv_at hl 3 rfl) ?_
            exact r_iret C hp dX3_ahead_83 ⟨_, rfl, rfl, h⟩
      · have h := h.2 q4
        refine lv_aload_n hx hb dX3_ahead_23 rfl (lv_at hl 0 rfl) ?_
        refine gM_passed C hp dX3_ahead_24 ?_
        refine lv_iload_n hx hb dX3_ahead_27 rfl (lv_at hl 2 rfl) ?_
        refine aM_passed C hp dX3_ahead_28 g2 ?_
        refine lv_goto (tgt := 38) hx hb dX3_ahead_29 (by decide) ?_
        refine lv_topi (fun x8 ex8 => ?_)
        have h := h x8 ex8
        refine lv_istore_n (lv' := [(3, .int x8), (0, .ref (b 0)), (1, .int a0), (2, .int x2)]) hx hb dX3_ahead_38 rfl hl (by decide) rfl (fun ls hl => ?_)
        refine lv_aload_n hx hb dX3_ahead_39 rfl (lv_at hl 1 rfl) ?_
        refine gM_state C hp dX3_ahead_40 ?_
        refine lv_iload_n hx hb dX3_ahead_43 rfl (lv_at hl 3 rfl) ?_
        refine aM_state C hp dX3_ahead_44 g2 ?_
        refine lv_iconst (v := 1) hx hb dX3_ahead_45 (by decide) ?_
        refine lv_icmp_ne (tgt := 84) hx hb dX3_ahead_46 (by decide) (fun q9 => ?_) (fun q9 => ?_)
        · have h := h.1 q9
          refine lv_iinc (v := x2 + (-1)) (lv' := [(2, .int (x2 + (-1))), (3, .int x8), (0, .ref (b 0)), (1, .int a0)]) hx hb dX3_ahead_84 hl (k := 3) rfl rfl (by decide) rfl (fun ls hl => ?_)
          refine lv_goto (tgt := 4) hx hb dX3_ahead_87 (by decide) ?_
          exact ih _ _ _ _ h hp (lv_sub hl [2, 3, 0] rfl)
        · have h := h.2 q9
          refine lv_aload_n hx hb dX3_ahead_49 rfl (lv_at hl 1 rfl) ?_
          refine gM_sides C hp dX3_ahead_50 ?_
          refine lv_iload_n hx hb dX3_ahead_53 rfl (lv_at hl 3 rfl) ?_
          refine aM_sides C hp dX3_ahead_54 g2 ?_
          refine lv_aload_n hx hb dX3_ahead_55 rfl (lv_at hl 1 rfl) ?_
          refine gM_passed C hp dX3_ahead_56 ?_
          refine lv_iload_n hx hb dX3_ahead_59 rfl (lv_at hl 3 rfl) ?_
          refine aM_passed C hp dX3_ahead_60 g2 ?_
          refine lv_iload_n hx hb dX3_ahead_61 rfl (lv_at hl 0 rfl) ?_
          refine lv_isub hx hb dX3_ahead_62 ?_
          refine lv_ishr hx hb dX3_ahead_63 ?_
          refine lv_aload_n hx hb dX3_ahead_64 rfl (lv_at hl 1 rfl) ?_
          refine gM_sides C hp dX3_ahead_65 ?_
          refine lv_iload_n hx hb dX3_ahead_68 rfl (lv_at hl 2 rfl) ?_
          refine aM_sides C hp dX3_ahead_69 g3 ?_
          refine lv_aload_n hx hb dX3_ahead_70 rfl (lv_at hl 1 rfl) ?_
          refine gM_passed C hp dX3_ahead_71 ?_
          refine lv_iload_n hx hb dX3_ahead_74 rfl (lv_at hl 2 rfl) ?_
          refine aM_passed C hp dX3_ahead_75 g3 ?_
          refine lv_iload_n hx hb dX3_ahead_76 rfl (lv_at hl 0 rfl) ?_
          refine lv_isub hx hb dX3_ahead_77 ?_
          refine lv_ishr hx hb dX3_ahead_78 ?_
          refine lv_icmp_ne (tgt := 84) hx hb dX3_ahead_79 (by decide) (fun q10 => ?_) (fun q10 => ?_)
          · have h := h.1 q10
            refine lv_iinc (v := x2 + (-1)) (lv' := [(2, .int (x2 + (-1))), (3, .int x8), (0, .ref (b 0)), (1, .int a0)]) hx hb dX3_ahead_84 hl (k := 3) rfl rfl (by decide) rfl (fun ls hl => ?_)
            refine lv_goto (tgt := 4) hx hb dX3_ahead_87 (by decide) ?_
            exact ih _ _ _ _ h hp (lv_sub hl [2, 3, 0] rfl)
          · have h := h.2 q10
            refine lv_iload_n hx hb dX3_ahead_82 rfl (lv_at hl 3 rfl) ?_
            exact r_iret C hp dX3_ahead_83 ⟨_, rfl, rfl, h⟩
set_option maxHeartbeats 4000000 in
set_option maxRecDepth 100000 in
theorem c_X3_ahead {l : Launch} {G : GT} {Z : State} {b : Nat → Nat} (hZ : ZOK G Z) {S : MS} {a0 : Int32} {post : Int32 → Prop} (h : wp_X3_ahead S a0 post) : CM l G Z yX3_ahead cX3_ahead 4 (some .int) (rmz 0 0) [.ref (b 0), .int a0] (wM G b S) (SI (wM G b S) post) := by
  refine CM_ofW hZ (by decide) (lb rfl) (fun p e s m below meth c ls C hp hl hnm => ?_)
  have C : Cx G Z _ p s m _ meth c RX3 cX3_ahead 4 (some .int) := C
  have hl : lv_has ls 4 [(0, .ref (b 0)), (1, .int a0)] := hl
  have hx := C.hx
  have hb := C.hb
  unfold wp_X3_ahead at h
  refine lv_iload_n hx hb dX3_ahead_0 rfl (lv_at hl 1 rfl) ?_
  refine lv_iconst (v := 1) hx hb dX3_ahead_1 (by decide) ?_
  refine lv_isub hx hb dX3_ahead_2 ?_
  refine lv_topi (fun x11 ex11 => ?_)
  have h := h x11 ex11
  refine lv_istore_n (lv' := [(2, .int x11), (0, .ref (b 0)), (1, .int a0)]) hx hb dX3_ahead_3 rfl hl (by decide) rfl (fun ls hl => ?_)
  obtain ⟨n, h⟩ := h
  exact lp_X3_ahead_4 C n _ _ _ _ h hp (lv_sub hl [1, 2, 0] rfl)
theorem mf_X3_ahead : MFv yX3_ahead cX3_ahead 4 (some .int) 1 := ⟨kc_X3_ahead, kn_X3_ahead, kv_X3_ahead, ki_X3, by decide +kernel⟩

/-! X3_catches -/
def wp_X3_catches (a0 : Int32) (S : MS) (post : MS → Prop) : Prop :=
  wp_X3_ahead S a0 (fun r1 =>
    ((r1 = (-1 : Int32) →
      post S
    ) ∧
    (¬ r1 = (-1 : Int32) →
      (vp_in a0 60) ∧ (
        wp_X3_rear S r1 (fun r4 =>
          ((¬ dL (M_place S a0.toNatClampNeg) r4 →
            wp_X3_rear S r1 (fun r6 =>
              ∀ S7 : MS, S7 = Ms_place S (vf_upd (M_place S) a0.toNatClampNeg r6) →
                ∀ x8 : UInt64, x8 = FP.i2d ((M_wagons S7 a0.toNatClampNeg) * (M_tons S7 a0.toNatClampNeg)) →
                  (vp_in r1 60) ∧ (
                    ∀ x10 : UInt64, x10 = FP.i2d ((M_wagons S7 r1.toNatClampNeg) * (M_tons S7 r1.toNatClampNeg)) →
                      (vf_n64 (FP.dmul x8 (M_speed S7 a0.toNatClampNeg))) ∧ (
                        ∀ x12 : UInt64, x12 = FP.dmul x8 (M_speed S7 a0.toNatClampNeg) →
                          (vf_n64 (FP.dmul x10 (M_speed S7 r1.toNatClampNeg))) ∧ (
                            ∀ x14 : UInt64, x14 = FP.dmul x10 (M_speed S7 r1.toNatClampNeg) →
                              (vf_n64 (FP.dadd x12 x14)) ∧ (
                                ∀ x16 : UInt64, x16 = FP.dadd x12 x14 →
                                  (vf_n64 (FP.dadd x8 x10)) ∧ (
                                    ∀ x18 : UInt64, x18 = FP.dadd x8 x10 →
                                      (vf_n64 (FP.ddiv x16 x18)) ∧ (
                                        ∀ x20 : UInt64, x20 = FP.ddiv x16 x18 →
                                          ∀ S21 : MS, S21 = Ms_speed S7 (vf_upd (M_speed S7) a0.toNatClampNeg x20) →
                                            ∀ S22 : MS, S22 = Ms_speed S21 (vf_upd (M_speed S21) r1.toNatClampNeg x20) →
                                              (((M_caught S22 a0.toNatClampNeg) = r1 →
                                                ∀ S24 : MS, S24 = Ms_caught S22 (upd (M_caught S22) a0.toNatClampNeg r1) →
                                                  post S24
                                              ) ∧
                                              (¬ (M_caught S22 a0.toNatClampNeg) = r1 →
                                                wp_X3_notes (1 : Int32) a0 r1 S22 (fun S25 =>
                                                  ∀ S26 : MS, S26 = Ms_caught S25 (upd (M_caught S25) a0.toNatClampNeg r1) →
                                                    post S26
                                                )
                                              ))
                                      )
                                  )
                              )
                          )
                      )
                  )
            )
          ) ∧
          (dL (M_place S a0.toNatClampNeg) r4 →
            post S
          ))
        )
      )
    ))
  )
set_option maxHeartbeats 4000000 in
set_option maxRecDepth 100000 in
theorem c_X3_catches {l : Launch} {G : GT} {Z : State} {b : Nat → Nat} (hZ : ZOK G Z) {a0 : Int32} {S : MS} {post : MS → Prop} (h : wp_X3_catches a0 S post) : CM l G Z yX3_catches cX3_catches 9 none (rmz 1 24) [.ref (b 0), .int a0] (wM G b S) (PV (wM G b) post) := by
  refine CM_ofW hZ (by decide) (lb rfl) (fun p e s m below meth c ls C hp hl hnm => ?_)
  have C : Cx G Z _ p s m _ meth c RX3 cX3_catches 9 none := C
  have hl : lv_has ls 9 [(0, .ref (b 0)), (1, .int a0)] := hl
  have hx := C.hx
  have hb := C.hb
  unfold wp_X3_catches at h
  refine lv_aload_n hx hb dX3_catches_0 rfl (lv_at hl 0 rfl) ?_
  refine lv_iload_n hx hb dX3_catches_1 rfl (lv_at hl 1 rfl) ?_
  refine r_callV (q0 := 0) (ci := 3) (rest := []) (c_X3_ahead (b := b) C.hZ h) C hp mf_X3_ahead km_X3_176 hl.1 dX3_catches_2 rfl rfl ⟨lb rfl, lb rfl, lb rfl, lb rfl⟩ rfl rfl (lb rfl) (fun v w1 H locs hv hp => ?_)
  obtain ⟨r1, rfl, rfl, h⟩ := hv
  refine W.eq (g2 := F0 m 5 ls [.int r1]) rfl ?_
  refine lv_istore_n (lv' := [(2, .int r1), (0, .ref (b 0)), (1, .int a0)]) hx hb dX3_catches_5 rfl hl (by decide) rfl (fun ls hl => ?_)
  refine lv_iload_n hx hb dX3_catches_6 rfl (lv_at hl 0 rfl) ?_
  refine lv_iconst (v := -1) hx hb dX3_catches_7 (by decide) ?_
  refine lv_icmp_eq (tgt := 26) hx hb dX3_catches_8 (by decide) (fun q2 => ?_) (fun q2 => ?_)
  · have h := h.1 q2
    exact r_vret C hp dX3_catches_26 ⟨_, rfl, rfl, h⟩
  · have h := h.2 q2
    refine lv_aload_n hx hb dX3_catches_11 rfl (lv_at hl 1 rfl) ?_
    refine gM_place C hp dX3_catches_12 ?_
    refine lv_iload_n hx hb dX3_catches_15 rfl (lv_at hl 2 rfl) ?_
    obtain ⟨g3, h⟩ := h
    refine aM_place C hp dX3_catches_16 g3 ?_
    refine lv_aload_n hx hb dX3_catches_17 rfl (lv_at hl 1 rfl) ?_
    refine lv_iload_n hx hb dX3_catches_18 rfl (lv_at hl 0 rfl) ?_
    refine r_callV (q0 := 0) (ci := 3) (rest := [.double (M_place S a0.toNatClampNeg)]) (c_X3_rear (b := b) C.hZ h) C hp mf_X3_rear km_X3_120 hl.1 dX3_catches_19 rfl rfl ⟨lb rfl, lb rfl, lb rfl, lb rfl⟩ rfl rfl (lb rfl) (fun v w1 H locs hv hp => ?_)
    obtain ⟨r4, rfl, rfl, h⟩ := hv
    refine W.eq (g2 := F0 m 22 ls [.double r4, .double (M_place S a0.toNatClampNeg)]) rfl ?_
    refine dcg_ge (tgt := 27) hx hb dX3_catches_22 dX3_catches_23 (by decide) (fun q5 => ?_) (fun q5 => ?_)
    · have h := h.1 q5
      refine lv_aload_n hx hb dX3_catches_27 rfl (lv_at hl 1 rfl) ?_
      refine gM_place C hp dX3_catches_28 ?_
      refine lv_iload_n hx hb dX3_catches_31 rfl (lv_at hl 2 rfl) ?_
      refine lv_aload_n hx hb dX3_catches_32 rfl (lv_at hl 1 rfl) ?_
      refine lv_iload_n hx hb dX3_catches_33 rfl (lv_at hl 0 rfl) ?_
      refine r_callV (q0 := 0) (ci := 3) (rest := [.int a0, .ref (b 6)]) (c_X3_rear (b := b) C.hZ h) C hp mf_X3_rear km_X3_120 hl.1 dX3_catches_34 rfl rfl ⟨lb rfl, lb rfl, lb rfl, lb rfl⟩ rfl rfl (lb rfl) (fun v w1 H locs hv hp => ?_)
      obtain ⟨r6, rfl, rfl, h⟩ := hv
      refine W.eq (g2 := F0 m 37 ls [.double r6, .int a0, .ref (b 6)]) rfl ?_
      refine uM_place C hp dX3_catches_37 g3 (fun H locs hp => ?_)
      obtain ⟨S7, eS7⟩ : ∃ z : MS, z = Ms_place S (vf_upd (M_place S) a0.toNatClampNeg r6) := ⟨_, rfl⟩
      rw [← eS7] at hp
      have h := h S7 eS7
      refine lv_aload_n hx hb dX3_catches_38 rfl (lv_at hl 1 rfl) ?_
      refine gM_wagons C hp dX3_catches_39 ?_
      refine lv_iload_n hx hb dX3_catches_42 rfl (lv_at hl 2 rfl) ?_
      refine aM_wagons C hp dX3_catches_43 g3 ?_
      refine lv_aload_n hx hb dX3_catches_44 rfl (lv_at hl 1 rfl) ?_
      refine gM_tons C hp dX3_catches_45 ?_
      refine lv_iload_n hx hb dX3_catches_48 rfl (lv_at hl 2 rfl) ?_
      refine aM_tons C hp dX3_catches_49 g3 ?_
      refine lv_imul hx hb dX3_catches_50 ?_
      refine lv_i2d hx hb dX3_catches_51 ?_
      refine lv_topd (fun x8 ex8 => ?_)
      have h := h x8 ex8
      refine lv_dstore_n (lv' := [(3, .double x8), (2, .int r1), (0, .ref (b 0)), (1, .int a0)]) hx hb dX3_catches_52 rfl hl (by decide) rfl (fun ls hl => ?_)
      refine lv_aload_n hx hb dX3_catches_53 rfl (lv_at hl 2 rfl) ?_
      refine gM_wagons C hp dX3_catches_54 ?_
      refine lv_iload_n hx hb dX3_catches_57 rfl (lv_at hl 1 rfl) ?_
      obtain ⟨g9, h⟩ := h
      refine aM_wagons C hp dX3_catches_58 g9 ?_
      refine lv_aload_n hx hb dX3_catches_59 rfl (lv_at hl 2 rfl) ?_
      refine gM_tons C hp dX3_catches_60 ?_
      refine lv_iload_n hx hb dX3_catches_63 rfl (lv_at hl 1 rfl) ?_
      refine aM_tons C hp dX3_catches_64 g9 ?_
      refine lv_imul hx hb dX3_catches_65 ?_
      refine lv_i2d hx hb dX3_catches_66 ?_
      refine lv_topd (fun x10 ex10 => ?_)
      have h := h x10 ex10
      refine lv_dstore (lv' := [(5, .double x10), (3, .double x8), (2, .int r1), (0, .ref (b 0)), (1, .int a0)]) hx hb dX3_catches_67 hl (by decide) rfl (fun ls hl => ?_)
      refine lv_dload_n hx hb dX3_catches_69 rfl (lv_at hl 1 rfl) ?_
      refine lv_aload_n hx hb dX3_catches_70 rfl (lv_at hl 3 rfl) ?_
      refine gM_speed C hp dX3_catches_71 ?_
      refine lv_iload_n hx hb dX3_catches_74 rfl (lv_at hl 4 rfl) ?_
      refine aM_speed C hp dX3_catches_75 g3 ?_
      obtain ⟨g11, h⟩ := h
      refine lv_dmul hx hb dX3_catches_76 g11 ?_
      refine lv_topd (fun x12 ex12 => ?_)
      have h := h x12 ex12
      refine lv_dload hx hb dX3_catches_77 (lv_at hl 0 rfl) ?_
      refine lv_aload_n hx hb dX3_catches_79 rfl (lv_at hl 3 rfl) ?_
      refine gM_speed C hp dX3_catches_80 ?_
      refine lv_iload_n hx hb dX3_catches_83 rfl (lv_at hl 2 rfl) ?_
      refine aM_speed C hp dX3_catches_84 g9 ?_
      obtain ⟨g13, h⟩ := h
      refine lv_dmul hx hb dX3_catches_85 g13 ?_
      refine lv_topd (fun x14 ex14 => ?_)
      have h := h x14 ex14
      obtain ⟨g15, h⟩ := h
      refine lv_dadd hx hb dX3_catches_86 g15 ?_
      refine lv_topd (fun x16 ex16 => ?_)
      have h := h x16 ex16
      refine lv_dload_n hx hb dX3_catches_87 rfl (lv_at hl 1 rfl) ?_
      refine lv_dload hx hb dX3_catches_88 (lv_at hl 0 rfl) ?_
      obtain ⟨g17, h⟩ := h
      refine lv_dadd hx hb dX3_catches_90 g17 ?_
      refine lv_topd (fun x18 ex18 => ?_)
      have h := h x18 ex18
      obtain ⟨g19, h⟩ := h
      refine lv_ddiv hx hb dX3_catches_91 g19 ?_
      refine lv_topd (fun x20 ex20 => ?_)
      have h := h x20 ex20
      refine lv_dstore (lv' := [(7, .double x20), (5, .double x10), (3, .double x8), (2, .int r1), (0, .ref (b 0)), (1, .int a0)]) hx hb dX3_catches_92 hl (by decide) rfl (fun ls hl => ?_)
      refine lv_aload_n hx hb dX3_catches_94 rfl (lv_at hl 4 rfl) ?_
      refine gM_speed C hp dX3_catches_95 ?_
      refine lv_iload_n hx hb dX3_catches_98 rfl (lv_at hl 5 rfl) ?_
      refine lv_dload hx hb dX3_catches_99 (lv_at hl 0 rfl) ?_
      refine uM_speed C hp dX3_catches_101 g3 (fun H locs hp => ?_)
      obtain ⟨S21, eS21⟩ : ∃ z : MS, z = Ms_speed S7 (vf_upd (M_speed S7) a0.toNatClampNeg x20) := ⟨_, rfl⟩
      rw [← eS21] at hp
      have h := h S21 eS21
      refine lv_aload_n hx hb dX3_catches_102 rfl (lv_at hl 4 rfl) ?_
      refine gM_speed C hp dX3_catches_103 ?_
      refine lv_iload_n hx hb dX3_catches_106 rfl (lv_at hl 3 rfl) ?_
      refine lv_dload hx hb dX3_catches_107 (lv_at hl 0 rfl) ?_
      refine uM_speed C hp dX3_catches_109 g9 (fun H locs hp => ?_)
      obtain ⟨S22, eS22⟩ : ∃ z : MS, z = Ms_speed S21 (vf_upd (M_speed S21) r1.toNatClampNeg x20) := ⟨_, rfl⟩
      rw [← eS22] at hp
      have h := h S22 eS22
      refine lv_aload_n hx hb dX3_catches_110 rfl (lv_at hl 4 rfl) ?_
      refine gM_caught C hp dX3_catches_111 ?_
      refine lv_iload_n hx hb dX3_catches_114 rfl (lv_at hl 5 rfl) ?_
      refine aM_caught C hp dX3_catches_115 g3 ?_
      refine lv_iload_n hx hb dX3_catches_116 rfl (lv_at hl 3 rfl) ?_
      refine lv_icmp_eq (tgt := 127) hx hb dX3_catches_117 (by decide) (fun q23 => ?_) (fun q23 => ?_)
      · have h := h.1 q23
        refine lv_aload_n hx hb dX3_catches_127 rfl (lv_at hl 4 rfl) ?_
        refine gM_caught C hp dX3_catches_128 ?_
        refine lv_iload_n hx hb dX3_catches_131 rfl (lv_at hl 5 rfl) ?_
        refine lv_iload_n hx hb dX3_catches_132 rfl (lv_at hl 3 rfl) ?_
        refine uM_caught C hp dX3_catches_133 g3 (fun H locs hp => ?_)
        obtain ⟨S24, eS24⟩ : ∃ z : MS, z = Ms_caught S22 (upd (M_caught S22) a0.toNatClampNeg r1) := ⟨_, rfl⟩
        rw [← eS24] at hp
        have h := h S24 eS24
        exact r_vret C hp dX3_catches_134 ⟨_, rfl, rfl, h⟩
      · have h := h.2 q23
        refine lv_aload_n hx hb dX3_catches_120 rfl (lv_at hl 4 rfl) ?_
        refine lv_iconst (v := 1) hx hb dX3_catches_121 (by decide) ?_
        refine lv_iload_n hx hb dX3_catches_122 rfl (lv_at hl 5 rfl) ?_
        refine lv_iload_n hx hb dX3_catches_123 rfl (lv_at hl 3 rfl) ?_
        refine r_callV (q0 := 0) (ci := 3) (rest := []) (c_X3_notes (b := b) C.hZ h) C hp mf_X3_notes km_X3_172 hl.1 dX3_catches_124 rfl rfl ⟨lb rfl, lb rfl, lb rfl, lb rfl⟩ rfl rfl (lb rfl) (fun v w1 H locs hv hp => ?_)
        obtain ⟨S25, rfl, rfl, h⟩ := hv
        refine W.eq (g2 := F0 m 127 ls []) rfl ?_
        refine lv_aload_n hx hb dX3_catches_127 rfl (lv_at hl 4 rfl) ?_
        refine gM_caught C hp dX3_catches_128 ?_
        refine lv_iload_n hx hb dX3_catches_131 rfl (lv_at hl 5 rfl) ?_
        refine lv_iload_n hx hb dX3_catches_132 rfl (lv_at hl 3 rfl) ?_
        refine uM_caught C hp dX3_catches_133 g3 (fun H locs hp => ?_)
        obtain ⟨S26, eS26⟩ : ∃ z : MS, z = Ms_caught S25 (upd (M_caught S25) a0.toNatClampNeg r1) := ⟨_, rfl⟩
        rw [← eS26] at hp
        have h := h S26 eS26
        exact r_vret C hp dX3_catches_134 ⟨_, rfl, rfl, h⟩
    · have h := h.2 q5
      exact r_vret C hp dX3_catches_26 ⟨_, rfl, rfl, h⟩
theorem mf_X3_catches : MFv yX3_catches cX3_catches 9 none 1 := ⟨kc_X3_catches, kn_X3_catches, kv_X3_catches, ki_X3, by decide +kernel⟩

/-! X3_ends -/
def wp_X3_ends (a0 : Int32) (S : MS) (post : MS → Prop) : Prop :=
  (vp_in a0 60) ∧ (
    (((M_passed S a0.toNatClampNeg) < (3 : Int32) →
      post S
    ) ∧
    (¬ (M_passed S a0.toNatClampNeg) < (3 : Int32) →
      ((¬ dL (M_place S a0.toNatClampNeg) (4641240890982006784 : UInt64) →
        ∀ x4 : Int32, x4 = M_sides S a0.toNatClampNeg →
          (vp_in x4 8) ∧ (
            (vf_n64 (FP.dadd (4641240890982006784 : UInt64) (M_free S x4.toNatClampNeg))) ∧ (
              ∀ x7 : UInt64, x7 = FP.dadd (4641240890982006784 : UInt64) (M_free S x4.toNatClampNeg) →
                ((¬ (dG (M_place S a0.toNatClampNeg) x7 ∨ dE (M_place S a0.toNatClampNeg) x7) →
                  ((¬ dE (M_speed S a0.toNatClampNeg) FP.dconst0 →
                    post S
                  ) ∧
                  (dE (M_speed S a0.toNatClampNeg) FP.dconst0 →
                    wp_X3_rear S a0 (fun r10 =>
                      ((¬ (dG r10 (4641240890982006784 : UInt64) ∨ dE r10 (4641240890982006784 : UInt64)) →
                        post S
                      ) ∧
                      ((dG r10 (4641240890982006784 : UInt64) ∨ dE r10 (4641240890982006784 : UInt64)) →
                        ∀ S12 : MS, S12 = Ms_state S (upd (M_state S) a0.toNatClampNeg (3 : Int32)) →
                          wp_X3_rear S12 a0 (fun r13 =>
                            (vf_n64 (FP.dsub r13 (4641240890982006784 : UInt64))) ∧ (
                              ∀ x15 : UInt64, x15 = FP.dsub r13 (4641240890982006784 : UInt64) →
                                ∀ S16 : MS, S16 = Ms_free S12 (vf_upd (M_free S12) x4.toNatClampNeg x15) →
                                  (vp_in (((60 : Int32) * x4) + (M_sided S16 x4.toNatClampNeg)) 480) ∧ (
                                    ∀ S18 : MS, S18 = Ms_sidings S16 (upd (M_sidings S16) (((60 : Int32) * x4) + (M_sided S16 x4.toNatClampNeg)).toNatClampNeg a0) →
                                      ∀ x19 : Int32, x19 = (M_sided S18 x4.toNatClampNeg) + (1 : Int32) →
                                        ∀ S20 : MS, S20 = Ms_sided S18 (upd (M_sided S18) x4.toNatClampNeg x19) →
                                          wp_X3_notes (M_state S20 a0.toNatClampNeg) a0 x4 S20 (fun S21 =>
                                            post S21
                                          )
                                  )
                            )
                          )
                      ))
                    )
                  ))
                ) ∧
                ((dG (M_place S a0.toNatClampNeg) x7 ∨ dE (M_place S a0.toNatClampNeg) x7) →
                  ∀ S22 : MS, S22 = Ms_state S (upd (M_state S) a0.toNatClampNeg (2 : Int32)) →
                    (vf_n64 (FP.dmul (4623226492472524800 : UInt64) (FP.i2d (M_wagons S22 a0.toNatClampNeg)))) ∧ (
                      ∀ x24 : UInt64, x24 = FP.dmul (4623226492472524800 : UInt64) (FP.i2d (M_wagons S22 a0.toNatClampNeg)) →
                        (vf_n64 (FP.dsub (M_free S22 x4.toNatClampNeg) x24)) ∧ (
                          ∀ x26 : UInt64, x26 = FP.dsub (M_free S22 x4.toNatClampNeg) x24 →
                            ((¬ dL x26 FP.dconst0 →
                              ∀ S28 : MS, S28 = Ms_free S22 (vf_upd (M_free S22) x4.toNatClampNeg x26) →
                                ((¬ dG (M_speed S28 a0.toNatClampNeg) (M_fastest S28) →
                                  ∀ x30 : UInt64, x30 = M_fastest S28 →
                                    ∀ S31 : MS, S31 = Ms_fastest S28 x30 →
                                      (vp_in (((60 : Int32) * x4) + (M_sided S31 x4.toNatClampNeg)) 480) ∧ (
                                        ∀ S33 : MS, S33 = Ms_sidings S31 (upd (M_sidings S31) (((60 : Int32) * x4) + (M_sided S31 x4.toNatClampNeg)).toNatClampNeg a0) →
                                          ∀ x34 : Int32, x34 = (M_sided S33 x4.toNatClampNeg) + (1 : Int32) →
                                            ∀ S35 : MS, S35 = Ms_sided S33 (upd (M_sided S33) x4.toNatClampNeg x34) →
                                              wp_X3_notes (M_state S35 a0.toNatClampNeg) a0 x4 S35 (fun S36 =>
                                                post S36
                                              )
                                      )
                                ) ∧
                                (dG (M_speed S28 a0.toNatClampNeg) (M_fastest S28) →
                                  ∀ x37 : UInt64, x37 = M_speed S28 a0.toNatClampNeg →
                                    ∀ S38 : MS, S38 = Ms_fastest S28 x37 →
                                      (vp_in (((60 : Int32) * x4) + (M_sided S38 x4.toNatClampNeg)) 480) ∧ (
                                        ∀ S40 : MS, S40 = Ms_sidings S38 (upd (M_sidings S38) (((60 : Int32) * x4) + (M_sided S38 x4.toNatClampNeg)).toNatClampNeg a0) →
                                          ∀ x41 : Int32, x41 = (M_sided S40 x4.toNatClampNeg) + (1 : Int32) →
                                            ∀ S42 : MS, S42 = Ms_sided S40 (upd (M_sided S40) x4.toNatClampNeg x41) →
                                              wp_X3_notes (M_state S42 a0.toNatClampNeg) a0 x4 S42 (fun S43 =>
                                                post S43
                                              )
                                      )
                                ))
                            ) ∧
                            (dL x26 FP.dconst0 →
                              ∀ x44 : UInt64, x44 = FP.dconst0 →
                                ∀ S45 : MS, S45 = Ms_free S22 (vf_upd (M_free S22) x4.toNatClampNeg x44) →
                                  ((¬ dG (M_speed S45 a0.toNatClampNeg) (M_fastest S45) →
                                    ∀ x47 : UInt64, x47 = M_fastest S45 →
                                      ∀ S48 : MS, S48 = Ms_fastest S45 x47 →
                                        (vp_in (((60 : Int32) * x4) + (M_sided S48 x4.toNatClampNeg)) 480) ∧ (
                                          ∀ S50 : MS, S50 = Ms_sidings S48 (upd (M_sidings S48) (((60 : Int32) * x4) + (M_sided S48 x4.toNatClampNeg)).toNatClampNeg a0) →
                                            ∀ x51 : Int32, x51 = (M_sided S50 x4.toNatClampNeg) + (1 : Int32) →
                                              ∀ S52 : MS, S52 = Ms_sided S50 (upd (M_sided S50) x4.toNatClampNeg x51) →
                                                wp_X3_notes (M_state S52 a0.toNatClampNeg) a0 x4 S52 (fun S53 =>
                                                  post S53
                                                )
                                        )
                                  ) ∧
                                  (dG (M_speed S45 a0.toNatClampNeg) (M_fastest S45) →
                                    ∀ x54 : UInt64, x54 = M_speed S45 a0.toNatClampNeg →
                                      ∀ S55 : MS, S55 = Ms_fastest S45 x54 →
                                        (vp_in (((60 : Int32) * x4) + (M_sided S55 x4.toNatClampNeg)) 480) ∧ (
                                          ∀ S57 : MS, S57 = Ms_sidings S55 (upd (M_sidings S55) (((60 : Int32) * x4) + (M_sided S55 x4.toNatClampNeg)).toNatClampNeg a0) →
                                            ∀ x58 : Int32, x58 = (M_sided S57 x4.toNatClampNeg) + (1 : Int32) →
                                              ∀ S59 : MS, S59 = Ms_sided S57 (upd (M_sided S57) x4.toNatClampNeg x58) →
                                                wp_X3_notes (M_state S59 a0.toNatClampNeg) a0 x4 S59 (fun S60 =>
                                                  post S60
                                                )
                                        )
                                  ))
                            ))
                        )
                    )
                ))
            )
          )
      ) ∧
      (dL (M_place S a0.toNatClampNeg) (4641240890982006784 : UInt64) →
        post S
      ))
    ))
  )
set_option maxHeartbeats 4000000 in
set_option maxRecDepth 100000 in
theorem c_X3_ends {l : Launch} {G : GT} {Z : State} {b : Nat → Nat} (hZ : ZOK G Z) {a0 : Int32} {S : MS} {post : MS → Prop} (h : wp_X3_ends a0 S post) : CM l G Z yX3_ends cX3_ends 5 none (rmz 1 24) [.ref (b 0), .int a0] (wM G b S) (PV (wM G b) post) := by
  refine CM_ofW hZ (by decide) (lb rfl) (fun p e s m below meth c ls C hp hl hnm => ?_)
  have C : Cx G Z _ p s m _ meth c RX3 cX3_ends 5 none := C
  have hl : lv_has ls 5 [(0, .ref (b 0)), (1, .int a0)] := hl
  have hx := C.hx
  have hb := C.hb
  unfold wp_X3_ends at h
  refine lv_aload_n hx hb dX3_ends_0 rfl (lv_at hl 0 rfl) ?_
  refine gM_passed C hp dX3_ends_1 ?_
  refine lv_iload_n hx hb dX3_ends_4 rfl (lv_at hl 1 rfl) ?_
  obtain ⟨g1, h⟩ := h
  refine aM_passed C hp dX3_ends_5 g1 ?_
  refine lv_iconst (v := 3) hx hb dX3_ends_6 (by decide) ?_
  refine lv_icmp_lt (tgt := 23) hx hb dX3_ends_7 (by decide) (fun q2 => ?_) (fun q2 => ?_)
  · have h := h.1 q2
    exact r_vret C hp dX3_ends_23 ⟨_, rfl, rfl, h⟩
  · have h := h.2 q2
    refine lv_aload_n hx hb dX3_ends_10 rfl (lv_at hl 0 rfl) ?_
    refine gM_place C hp dX3_ends_11 ?_
    refine lv_iload_n hx hb dX3_ends_14 rfl (lv_at hl 1 rfl) ?_
    refine aM_place C hp dX3_ends_15 g1 ?_
    refine lv_ldc2d hx hb C.hown (C.hts _ kd_X3_156) dX3_ends_16 ?_
    refine dcg_ge (tgt := 24) hx hb dX3_ends_19 dX3_ends_20 (by decide) (fun q3 => ?_) (fun q3 => ?_)
    · have h := h.1 q3
      refine lv_aload_n hx hb dX3_ends_24 rfl (lv_at hl 0 rfl) ?_
      refine gM_sides C hp dX3_ends_25 ?_
      refine lv_iload_n hx hb dX3_ends_28 rfl (lv_at hl 1 rfl) ?_
      refine aM_sides C hp dX3_ends_29 g1 ?_
      refine lv_topi (fun x4 ex4 => ?_)
      have h := h x4 ex4
      refine lv_istore_n (lv' := [(2, .int x4), (0, .ref (b 0)), (1, .int a0)]) hx hb dX3_ends_30 rfl hl (by decide) rfl (fun ls hl => ?_)
      refine lv_aload_n hx hb dX3_ends_31 rfl (lv_at hl 1 rfl) ?_
      refine gM_place C hp dX3_ends_32 ?_
      refine lv_iload_n hx hb dX3_ends_35 rfl (lv_at hl 2 rfl) ?_
      refine aM_place C hp dX3_ends_36 g1 ?_
      refine lv_ldc2d hx hb C.hown (C.hts _ kd_X3_156) dX3_ends_37 ?_
      refine lv_aload_n hx hb dX3_ends_40 rfl (lv_at hl 1 rfl) ?_
      refine gM_free C hp dX3_ends_41 ?_
      refine lv_iload_n hx hb dX3_ends_44 rfl (lv_at hl 0 rfl) ?_
      obtain ⟨g5, h⟩ := h
      refine aM_free C hp dX3_ends_45 g5 ?_
      obtain ⟨g6, h⟩ := h
      refine lv_dadd hx hb dX3_ends_46 g6 ?_
      refine lv_topd (fun x7 ex7 => ?_)
      have h := h x7 ex7
      refine dcl_lt (tgt := 128) hx hb dX3_ends_47 dX3_ends_48 (by decide) (fun q8 => ?_) (fun q8 => ?_)
      · have h := h.1 q8
        refine lv_aload_n hx hb dX3_ends_128 rfl (lv_at hl 1 rfl) ?_
        refine gM_speed C hp dX3_ends_129 ?_
        refine lv_iload_n hx hb dX3_ends_132 rfl (lv_at hl 2 rfl) ?_
        refine aM_speed C hp dX3_ends_133 g1 ?_
        refine lv_dconst0 hx hb dX3_ends_134 ?_
        refine dcl_ne (tgt := 176) hx hb dX3_ends_135 dX3_ends_136 (by decide) (fun q9 => ?_) (fun q9 => ?_)
        · have h := h.1 q9
          exact r_vret C hp dX3_ends_176 ⟨_, rfl, rfl, h⟩
        · have h := h.2 q9
          refine lv_aload_n hx hb dX3_ends_139 rfl (lv_at hl 1 rfl) ?_
          refine lv_iload_n hx hb dX3_ends_140 rfl (lv_at hl 2 rfl) ?_
          refine r_callV (q0 := 0) (ci := 3) (rest := []) (c_X3_rear (b := b) C.hZ h) C hp mf_X3_rear km_X3_120 hl.1 dX3_ends_141 rfl rfl ⟨lb rfl, lb rfl, lb rfl, lb rfl⟩ rfl rfl (lb rfl) (fun v w1 H locs hv hp => ?_)
          obtain ⟨r10, rfl, rfl, h⟩ := hv
          refine W.eq (g2 := F0 m 144 ls [.double r10]) rfl ?_
          refine lv_ldc2d hx hb C.hown (C.hts _ kd_X3_156) dX3_ends_144 ?_
          refine dcl_lt (tgt := 176) hx hb dX3_ends_147 dX3_ends_148 (by decide) (fun q11 => ?_) (fun q11 => ?_)
          · have h := h.1 q11
            exact r_vret C hp dX3_ends_176 ⟨_, rfl, rfl, h⟩
          · have h := h.2 q11
            refine lv_aload_n hx hb dX3_ends_151 rfl (lv_at hl 1 rfl) ?_
            refine gM_state C hp dX3_ends_152 ?_
            refine lv_iload_n hx hb dX3_ends_155 rfl (lv_at hl 2 rfl) ?_
            refine lv_iconst (v := 3) hx hb dX3_ends_156 (by decide) ?_
            refine uM_state C hp dX3_ends_157 g1 (fun H locs hp => ?_)
            obtain ⟨S12, eS12⟩ : ∃ z : MS, z = Ms_state S (upd (M_state S) a0.toNatClampNeg (3 : Int32)) := ⟨_, rfl⟩
            rw [← eS12] at hp
            have h := h S12 eS12
            refine lv_aload_n hx hb dX3_ends_158 rfl (lv_at hl 1 rfl) ?_
            refine gM_free C hp dX3_ends_159 ?_
            refine lv_iload_n hx hb dX3_ends_162 rfl (lv_at hl 0 rfl) ?_
            refine lv_aload_n hx hb dX3_ends_163 rfl (lv_at hl 1 rfl) ?_
            refine lv_iload_n hx hb dX3_ends_164 rfl (lv_at hl 2 rfl) ?_
            refine r_callV (q0 := 0) (ci := 3) (rest := [.int x4, .ref (b 12)]) (c_X3_rear (b := b) C.hZ h) C hp mf_X3_rear km_X3_120 hl.1 dX3_ends_165 rfl rfl ⟨lb rfl, lb rfl, lb rfl, lb rfl⟩ rfl rfl (lb rfl) (fun v w1 H locs hv hp => ?_)
            obtain ⟨r13, rfl, rfl, h⟩ := hv
            refine W.eq (g2 := F0 m 168 ls [.double r13, .int x4, .ref (b 12)]) rfl ?_
            refine lv_ldc2d hx hb C.hown (C.hts _ kd_X3_156) dX3_ends_168 ?_
            obtain ⟨g14, h⟩ := h
            refine lv_dsub hx hb dX3_ends_171 g14 ?_
            refine lv_topd (fun x15 ex15 => ?_)
            have h := h x15 ex15
            refine uM_free C hp dX3_ends_172 g5 (fun H locs hp => ?_)
            obtain ⟨S16, eS16⟩ : ∃ z : MS, z = Ms_free S12 (vf_upd (M_free S12) x4.toNatClampNeg x15) := ⟨_, rfl⟩
            rw [← eS16] at hp
            have h := h S16 eS16
            refine lv_goto (tgt := 177) hx hb dX3_ends_173 (by decide) ?_
            refine lv_aload_n hx hb dX3_ends_177 rfl (lv_at hl 1 rfl) ?_
            refine gM_sidings C hp dX3_ends_178 ?_
            refine lv_bipush (v := 60) hx hb dX3_ends_181 (by decide) ?_
            refine lv_iload_n hx hb dX3_ends_183 rfl (lv_at hl 0 rfl) ?_
            refine lv_imul hx hb dX3_ends_184 ?_
            refine lv_aload_n hx hb dX3_ends_185 rfl (lv_at hl 1 rfl) ?_
            refine gM_sided C hp dX3_ends_186 ?_
            refine lv_iload_n hx hb dX3_ends_189 rfl (lv_at hl 0 rfl) ?_
            refine aM_sided C hp dX3_ends_190 g5 ?_
            refine lv_iadd hx hb dX3_ends_191 ?_
            refine lv_iload_n hx hb dX3_ends_192 rfl (lv_at hl 2 rfl) ?_
            obtain ⟨g17, h⟩ := h
            refine uM_sidings C hp dX3_ends_193 g17 (fun H locs hp => ?_)
            obtain ⟨S18, eS18⟩ : ∃ z : MS, z = Ms_sidings S16 (upd (M_sidings S16) (((60 : Int32) * x4) + (M_sided S16 x4.toNatClampNeg)).toNatClampNeg a0) := ⟨_, rfl⟩
            rw [← eS18] at hp
            have h := h S18 eS18
            refine lv_aload_n hx hb dX3_ends_194 rfl (lv_at hl 1 rfl) ?_
            refine gM_sided C hp dX3_ends_195 ?_
            refine lv_iload_n hx hb dX3_ends_198 rfl (lv_at hl 0 rfl) ?_
            refine lv_dup2_11 hx hb dX3_ends_199 rfl rfl ?_
            refine aM_sided C hp dX3_ends_200 g5 ?_
            refine lv_iconst (v := 1) hx hb dX3_ends_201 (by decide) ?_
            refine lv_iadd hx hb dX3_ends_202 ?_
            refine lv_topi (fun x19 ex19 => ?_)
            have h := h x19 ex19
            refine uM_sided C hp dX3_ends_203 g5 (fun H locs hp => ?_)
            obtain ⟨S20, eS20⟩ : ∃ z : MS, z = Ms_sided S18 (upd (M_sided S18) x4.toNatClampNeg x19) := ⟨_, rfl⟩
            rw [← eS20] at hp
            have h := h S20 eS20
            refine lv_aload_n hx hb dX3_ends_204 rfl (lv_at hl 1 rfl) ?_
            refine lv_aload_n hx hb dX3_ends_205 rfl (lv_at hl 1 rfl) ?_
            refine gM_state C hp dX3_ends_206 ?_
            refine lv_iload_n hx hb dX3_ends_209 rfl (lv_at hl 2 rfl) ?_
            refine aM_state C hp dX3_ends_210 g1 ?_
            refine lv_iload_n hx hb dX3_ends_211 rfl (lv_at hl 2 rfl) ?_
            refine lv_iload_n hx hb dX3_ends_212 rfl (lv_at hl 0 rfl) ?_
            refine r_callV (q0 := 0) (ci := 3) (rest := []) (c_X3_notes (b := b) C.hZ h) C hp mf_X3_notes km_X3_172 hl.1 dX3_ends_213 rfl rfl ⟨lb rfl, lb rfl, lb rfl, lb rfl⟩ rfl rfl (lb rfl) (fun v w1 H locs hv hp => ?_)
            obtain ⟨S21, rfl, rfl, h⟩ := hv
            refine W.eq (g2 := F0 m 216 ls []) rfl ?_
            exact r_vret C hp dX3_ends_216 ⟨_, rfl, rfl, h⟩
      · have h := h.2 q8
        refine lv_aload_n hx hb dX3_ends_51 rfl (lv_at hl 1 rfl) ?_
        refine gM_state C hp dX3_ends_52 ?_
        refine lv_iload_n hx hb dX3_ends_55 rfl (lv_at hl 2 rfl) ?_
        refine lv_iconst (v := 2) hx hb dX3_ends_56 (by decide) ?_
        refine uM_state C hp dX3_ends_57 g1 (fun H locs hp => ?_)
        obtain ⟨S22, eS22⟩ : ∃ z : MS, z = Ms_state S (upd (M_state S) a0.toNatClampNeg (2 : Int32)) := ⟨_, rfl⟩
        rw [← eS22] at hp
        have h := h S22 eS22
        refine lv_aload_n hx hb dX3_ends_58 rfl (lv_at hl 1 rfl) ?_
        refine gM_free C hp dX3_ends_59 ?_
        refine lv_iload_n hx hb dX3_ends_62 rfl (lv_at hl 0 rfl) ?_
        refine aM_free C hp dX3_ends_63 g5 ?_
        refine lv_ldc2d hx hb C.hown (C.hts _ kd_X3_108) dX3_ends_64 ?_
        refine lv_aload_n hx hb dX3_ends_67 rfl (lv_at hl 1 rfl) ?_
        refine gM_wagons C hp dX3_ends_68 ?_
        refine lv_iload_n hx hb dX3_ends_71 rfl (lv_at hl 2 rfl) ?_
        refine aM_wagons C hp dX3_ends_72 g1 ?_
        refine lv_i2d hx hb dX3_ends_73 ?_
        obtain ⟨g23, h⟩ := h
        refine lv_dmul hx hb dX3_ends_74 g23 ?_
        refine lv_topd (fun x24 ex24 => ?_)
        have h := h x24 ex24
        obtain ⟨g25, h⟩ := h
        refine lv_dsub hx hb dX3_ends_75 g25 ?_
        refine lv_topd (fun x26 ex26 => ?_)
        have h := h x26 ex26
        refine lv_dstore_n (lv' := [(3, .double x26), (2, .int x4), (0, .ref (b 0)), (1, .int a0)]) hx hb dX3_ends_76 rfl hl (by decide) rfl (fun ls hl => ?_)
        refine lv_aload_n hx hb dX3_ends_77 rfl (lv_at hl 2 rfl) ?_
        refine gM_free C hp dX3_ends_78 ?_
        refine lv_iload_n hx hb dX3_ends_81 rfl (lv_at hl 1 rfl) ?_
        refine lv_dload_n hx hb dX3_ends_82 rfl (lv_at hl 0 rfl) ?_
        refine lv_dconst0 hx hb dX3_ends_83 ?_
        refine dcg_ge (tgt := 92) hx hb dX3_ends_84 dX3_ends_85 (by decide) (fun q27 => ?_) (fun q27 => ?_)
        · have h := h.1 q27
          refine lv_dload_n hx hb dX3_ends_92 rfl (lv_at hl 0 rfl) ?_
          refine uM_free C hp dX3_ends_93 g5 (fun H locs hp => ?_)
          obtain ⟨S28, eS28⟩ : ∃ z : MS, z = Ms_free S22 (vf_upd (M_free S22) x4.toNatClampNeg x26) := ⟨_, rfl⟩
          rw [← eS28] at hp
          have h := h S28 eS28
          refine lv_aload_n hx hb dX3_ends_94 rfl (lv_at hl 2 rfl) ?_
          refine lv_aload_n hx hb dX3_ends_95 rfl (lv_at hl 2 rfl) ?_
          refine gM_speed C hp dX3_ends_96 ?_
          refine lv_iload_n hx hb dX3_ends_99 rfl (lv_at hl 3 rfl) ?_
          refine aM_speed C hp dX3_ends_100 g1 ?_
          refine lv_aload_n hx hb dX3_ends_101 rfl (lv_at hl 2 rfl) ?_
          refine gM_fastest C hp dX3_ends_102 ?_
          refine dcl_le (tgt := 118) hx hb dX3_ends_105 dX3_ends_106 (by decide) (fun q29 => ?_) (fun q29 => ?_)
          · have h := h.1 q29
            refine lv_aload_n hx hb dX3_ends_118 rfl (lv_at hl 2 rfl) ?_
            refine gM_fastest C hp dX3_ends_119 ?_
            refine lv_topd (fun x30 ex30 => ?_)
            have h := h x30 ex30
            refine pM_fastest C hp dX3_ends_122 (fun H locs hp => ?_)
            obtain ⟨S31, eS31⟩ : ∃ z : MS, z = Ms_fastest S28 x30 := ⟨_, rfl⟩
            rw [← eS31] at hp
            have h := h S31 eS31
            refine lv_goto (tgt := 177) hx hb dX3_ends_125 (by decide) ?_
            refine lv_aload_n hx hb dX3_ends_177 rfl (lv_at hl 2 rfl) ?_
            refine gM_sidings C hp dX3_ends_178 ?_
            refine lv_bipush (v := 60) hx hb dX3_ends_181 (by decide) ?_
            refine lv_iload_n hx hb dX3_ends_183 rfl (lv_at hl 1 rfl) ?_
            refine lv_imul hx hb dX3_ends_184 ?_
            refine lv_aload_n hx hb dX3_ends_185 rfl (lv_at hl 2 rfl) ?_
            refine gM_sided C hp dX3_ends_186 ?_
            refine lv_iload_n hx hb dX3_ends_189 rfl (lv_at hl 1 rfl) ?_
            refine aM_sided C hp dX3_ends_190 g5 ?_
            refine lv_iadd hx hb dX3_ends_191 ?_
            refine lv_iload_n hx hb dX3_ends_192 rfl (lv_at hl 3 rfl) ?_
            obtain ⟨g32, h⟩ := h
            refine uM_sidings C hp dX3_ends_193 g32 (fun H locs hp => ?_)
            obtain ⟨S33, eS33⟩ : ∃ z : MS, z = Ms_sidings S31 (upd (M_sidings S31) (((60 : Int32) * x4) + (M_sided S31 x4.toNatClampNeg)).toNatClampNeg a0) := ⟨_, rfl⟩
            rw [← eS33] at hp
            have h := h S33 eS33
            refine lv_aload_n hx hb dX3_ends_194 rfl (lv_at hl 2 rfl) ?_
            refine gM_sided C hp dX3_ends_195 ?_
            refine lv_iload_n hx hb dX3_ends_198 rfl (lv_at hl 1 rfl) ?_
            refine lv_dup2_11 hx hb dX3_ends_199 rfl rfl ?_
            refine aM_sided C hp dX3_ends_200 g5 ?_
            refine lv_iconst (v := 1) hx hb dX3_ends_201 (by decide) ?_
            refine lv_iadd hx hb dX3_ends_202 ?_
            refine lv_topi (fun x34 ex34 => ?_)
            have h := h x34 ex34
            refine uM_sided C hp dX3_ends_203 g5 (fun H locs hp => ?_)
            obtain ⟨S35, eS35⟩ : ∃ z : MS, z = Ms_sided S33 (upd (M_sided S33) x4.toNatClampNeg x34) := ⟨_, rfl⟩
            rw [← eS35] at hp
            have h := h S35 eS35
            refine lv_aload_n hx hb dX3_ends_204 rfl (lv_at hl 2 rfl) ?_
            refine lv_aload_n hx hb dX3_ends_205 rfl (lv_at hl 2 rfl) ?_
            refine gM_state C hp dX3_ends_206 ?_
            refine lv_iload_n hx hb dX3_ends_209 rfl (lv_at hl 3 rfl) ?_
            refine aM_state C hp dX3_ends_210 g1 ?_
            refine lv_iload_n hx hb dX3_ends_211 rfl (lv_at hl 3 rfl) ?_
            refine lv_iload_n hx hb dX3_ends_212 rfl (lv_at hl 1 rfl) ?_
            refine r_callV (q0 := 0) (ci := 3) (rest := []) (c_X3_notes (b := b) C.hZ h) C hp mf_X3_notes km_X3_172 hl.1 dX3_ends_213 rfl rfl ⟨lb rfl, lb rfl, lb rfl, lb rfl⟩ rfl rfl (lb rfl) (fun v w1 H locs hv hp => ?_)
            obtain ⟨S36, rfl, rfl, h⟩ := hv
            refine W.eq (g2 := F0 m 216 ls []) rfl ?_
            exact r_vret C hp dX3_ends_216 ⟨_, rfl, rfl, h⟩
          · have h := h.2 q29
            refine lv_aload_n hx hb dX3_ends_109 rfl (lv_at hl 2 rfl) ?_
            refine gM_speed C hp dX3_ends_110 ?_
            refine lv_iload_n hx hb dX3_ends_113 rfl (lv_at hl 3 rfl) ?_
            refine aM_speed C hp dX3_ends_114 g1 ?_
            refine lv_goto (tgt := 122) hx hb dX3_ends_115 (by decide) ?_
            refine lv_topd (fun x37 ex37 => ?_)
            have h := h x37 ex37
            refine pM_fastest C hp dX3_ends_122 (fun H locs hp => ?_)
            obtain ⟨S38, eS38⟩ : ∃ z : MS, z = Ms_fastest S28 x37 := ⟨_, rfl⟩
            rw [← eS38] at hp
            have h := h S38 eS38
            refine lv_goto (tgt := 177) hx hb dX3_ends_125 (by decide) ?_
            refine lv_aload_n hx hb dX3_ends_177 rfl (lv_at hl 2 rfl) ?_
            refine gM_sidings C hp dX3_ends_178 ?_
            refine lv_bipush (v := 60) hx hb dX3_ends_181 (by decide) ?_
            refine lv_iload_n hx hb dX3_ends_183 rfl (lv_at hl 1 rfl) ?_
            refine lv_imul hx hb dX3_ends_184 ?_
            refine lv_aload_n hx hb dX3_ends_185 rfl (lv_at hl 2 rfl) ?_
            refine gM_sided C hp dX3_ends_186 ?_
            refine lv_iload_n hx hb dX3_ends_189 rfl (lv_at hl 1 rfl) ?_
            refine aM_sided C hp dX3_ends_190 g5 ?_
            refine lv_iadd hx hb dX3_ends_191 ?_
            refine lv_iload_n hx hb dX3_ends_192 rfl (lv_at hl 3 rfl) ?_
            obtain ⟨g39, h⟩ := h
            refine uM_sidings C hp dX3_ends_193 g39 (fun H locs hp => ?_)
            obtain ⟨S40, eS40⟩ : ∃ z : MS, z = Ms_sidings S38 (upd (M_sidings S38) (((60 : Int32) * x4) + (M_sided S38 x4.toNatClampNeg)).toNatClampNeg a0) := ⟨_, rfl⟩
            rw [← eS40] at hp
            have h := h S40 eS40
            refine lv_aload_n hx hb dX3_ends_194 rfl (lv_at hl 2 rfl) ?_
            refine gM_sided C hp dX3_ends_195 ?_
            refine lv_iload_n hx hb dX3_ends_198 rfl (lv_at hl 1 rfl) ?_
            refine lv_dup2_11 hx hb dX3_ends_199 rfl rfl ?_
            refine aM_sided C hp dX3_ends_200 g5 ?_
            refine lv_iconst (v := 1) hx hb dX3_ends_201 (by decide) ?_
            refine lv_iadd hx hb dX3_ends_202 ?_
            refine lv_topi (fun x41 ex41 => ?_)
            have h := h x41 ex41
            refine uM_sided C hp dX3_ends_203 g5 (fun H locs hp => ?_)
            obtain ⟨S42, eS42⟩ : ∃ z : MS, z = Ms_sided S40 (upd (M_sided S40) x4.toNatClampNeg x41) := ⟨_, rfl⟩
            rw [← eS42] at hp
            have h := h S42 eS42
            refine lv_aload_n hx hb dX3_ends_204 rfl (lv_at hl 2 rfl) ?_
            refine lv_aload_n hx hb dX3_ends_205 rfl (lv_at hl 2 rfl) ?_
            refine gM_state C hp dX3_ends_206 ?_
            refine lv_iload_n hx hb dX3_ends_209 rfl (lv_at hl 3 rfl) ?_
            refine aM_state C hp dX3_ends_210 g1 ?_
            refine lv_iload_n hx hb dX3_ends_211 rfl (lv_at hl 3 rfl) ?_
            refine lv_iload_n hx hb dX3_ends_212 rfl (lv_at hl 1 rfl) ?_
            refine r_callV (q0 := 0) (ci := 3) (rest := []) (c_X3_notes (b := b) C.hZ h) C hp mf_X3_notes km_X3_172 hl.1 dX3_ends_213 rfl rfl ⟨lb rfl, lb rfl, lb rfl, lb rfl⟩ rfl rfl (lb rfl) (fun v w1 H locs hv hp => ?_)
            obtain ⟨S43, rfl, rfl, h⟩ := hv
            refine W.eq (g2 := F0 m 216 ls []) rfl ?_
            exact r_vret C hp dX3_ends_216 ⟨_, rfl, rfl, h⟩
        · have h := h.2 q27
          refine lv_dconst0 hx hb dX3_ends_88 ?_
          refine lv_goto (tgt := 93) hx hb dX3_ends_89 (by decide) ?_
          refine lv_topd (fun x44 ex44 => ?_)
          have h := h x44 ex44
          refine uM_free C hp dX3_ends_93 g5 (fun H locs hp => ?_)
          obtain ⟨S45, eS45⟩ : ∃ z : MS, z = Ms_free S22 (vf_upd (M_free S22) x4.toNatClampNeg x44) := ⟨_, rfl⟩
          rw [← eS45] at hp
          have h := h S45 eS45
          refine lv_aload_n hx hb dX3_ends_94 rfl (lv_at hl 2 rfl) ?_
          refine lv_aload_n hx hb dX3_ends_95 rfl (lv_at hl 2 rfl) ?_
          refine gM_speed C hp dX3_ends_96 ?_
          refine lv_iload_n hx hb dX3_ends_99 rfl (lv_at hl 3 rfl) ?_
          refine aM_speed C hp dX3_ends_100 g1 ?_
          refine lv_aload_n hx hb dX3_ends_101 rfl (lv_at hl 2 rfl) ?_
          refine gM_fastest C hp dX3_ends_102 ?_
          refine dcl_le (tgt := 118) hx hb dX3_ends_105 dX3_ends_106 (by decide) (fun q46 => ?_) (fun q46 => ?_)
          · have h := h.1 q46
            refine lv_aload_n hx hb dX3_ends_118 rfl (lv_at hl 2 rfl) ?_
            refine gM_fastest C hp dX3_ends_119 ?_
            refine lv_topd (fun x47 ex47 => ?_)
            have h := h x47 ex47
            refine pM_fastest C hp dX3_ends_122 (fun H locs hp => ?_)
            obtain ⟨S48, eS48⟩ : ∃ z : MS, z = Ms_fastest S45 x47 := ⟨_, rfl⟩
            rw [← eS48] at hp
            have h := h S48 eS48
            refine lv_goto (tgt := 177) hx hb dX3_ends_125 (by decide) ?_
            refine lv_aload_n hx hb dX3_ends_177 rfl (lv_at hl 2 rfl) ?_
            refine gM_sidings C hp dX3_ends_178 ?_
            refine lv_bipush (v := 60) hx hb dX3_ends_181 (by decide) ?_
            refine lv_iload_n hx hb dX3_ends_183 rfl (lv_at hl 1 rfl) ?_
            refine lv_imul hx hb dX3_ends_184 ?_
            refine lv_aload_n hx hb dX3_ends_185 rfl (lv_at hl 2 rfl) ?_
            refine gM_sided C hp dX3_ends_186 ?_
            refine lv_iload_n hx hb dX3_ends_189 rfl (lv_at hl 1 rfl) ?_
            refine aM_sided C hp dX3_ends_190 g5 ?_
            refine lv_iadd hx hb dX3_ends_191 ?_
            refine lv_iload_n hx hb dX3_ends_192 rfl (lv_at hl 3 rfl) ?_
            obtain ⟨g49, h⟩ := h
            refine uM_sidings C hp dX3_ends_193 g49 (fun H locs hp => ?_)
            obtain ⟨S50, eS50⟩ : ∃ z : MS, z = Ms_sidings S48 (upd (M_sidings S48) (((60 : Int32) * x4) + (M_sided S48 x4.toNatClampNeg)).toNatClampNeg a0) := ⟨_, rfl⟩
            rw [← eS50] at hp
            have h := h S50 eS50
            refine lv_aload_n hx hb dX3_ends_194 rfl (lv_at hl 2 rfl) ?_
            refine gM_sided C hp dX3_ends_195 ?_
            refine lv_iload_n hx hb dX3_ends_198 rfl (lv_at hl 1 rfl) ?_
            refine lv_dup2_11 hx hb dX3_ends_199 rfl rfl ?_
            refine aM_sided C hp dX3_ends_200 g5 ?_
            refine lv_iconst (v := 1) hx hb dX3_ends_201 (by decide) ?_
            refine lv_iadd hx hb dX3_ends_202 ?_
            refine lv_topi (fun x51 ex51 => ?_)
            have h := h x51 ex51
            refine uM_sided C hp dX3_ends_203 g5 (fun H locs hp => ?_)
            obtain ⟨S52, eS52⟩ : ∃ z : MS, z = Ms_sided S50 (upd (M_sided S50) x4.toNatClampNeg x51) := ⟨_, rfl⟩
            rw [← eS52] at hp
            have h := h S52 eS52
            refine lv_aload_n hx hb dX3_ends_204 rfl (lv_at hl 2 rfl) ?_
            refine lv_aload_n hx hb dX3_ends_205 rfl (lv_at hl 2 rfl) ?_
            refine gM_state C hp dX3_ends_206 ?_
            refine lv_iload_n hx hb dX3_ends_209 rfl (lv_at hl 3 rfl) ?_
            refine aM_state C hp dX3_ends_210 g1 ?_
            refine lv_iload_n hx hb dX3_ends_211 rfl (lv_at hl 3 rfl) ?_
            refine lv_iload_n hx hb dX3_ends_212 rfl (lv_at hl 1 rfl) ?_
            refine r_callV (q0 := 0) (ci := 3) (rest := []) (c_X3_notes (b := b) C.hZ h) C hp mf_X3_notes km_X3_172 hl.1 dX3_ends_213 rfl rfl ⟨lb rfl, lb rfl, lb rfl, lb rfl⟩ rfl rfl (lb rfl) (fun v w1 H locs hv hp => ?_)
            obtain ⟨S53, rfl, rfl, h⟩ := hv
            refine W.eq (g2 := F0 m 216 ls []) rfl ?_
            exact r_vret C hp dX3_ends_216 ⟨_, rfl, rfl, h⟩
          · have h := h.2 q46
            refine lv_aload_n hx hb dX3_ends_109 rfl (lv_at hl 2 rfl) ?_
            refine gM_speed C hp dX3_ends_110 ?_
            refine lv_iload_n hx hb dX3_ends_113 rfl (lv_at hl 3 rfl) ?_
            refine aM_speed C hp dX3_ends_114 g1 ?_
            refine lv_goto (tgt := 122) hx hb dX3_ends_115 (by decide) ?_
            refine lv_topd (fun x54 ex54 => ?_)
            have h := h x54 ex54
            refine pM_fastest C hp dX3_ends_122 (fun H locs hp => ?_)
            obtain ⟨S55, eS55⟩ : ∃ z : MS, z = Ms_fastest S45 x54 := ⟨_, rfl⟩
            rw [← eS55] at hp
            have h := h S55 eS55
            refine lv_goto (tgt := 177) hx hb dX3_ends_125 (by decide) ?_
            refine lv_aload_n hx hb dX3_ends_177 rfl (lv_at hl 2 rfl) ?_
            refine gM_sidings C hp dX3_ends_178 ?_
            refine lv_bipush (v := 60) hx hb dX3_ends_181 (by decide) ?_
            refine lv_iload_n hx hb dX3_ends_183 rfl (lv_at hl 1 rfl) ?_
            refine lv_imul hx hb dX3_ends_184 ?_
            refine lv_aload_n hx hb dX3_ends_185 rfl (lv_at hl 2 rfl) ?_
            refine gM_sided C hp dX3_ends_186 ?_
            refine lv_iload_n hx hb dX3_ends_189 rfl (lv_at hl 1 rfl) ?_
            refine aM_sided C hp dX3_ends_190 g5 ?_
            refine lv_iadd hx hb dX3_ends_191 ?_
            refine lv_iload_n hx hb dX3_ends_192 rfl (lv_at hl 3 rfl) ?_
            obtain ⟨g56, h⟩ := h
            refine uM_sidings C hp dX3_ends_193 g56 (fun H locs hp => ?_)
            obtain ⟨S57, eS57⟩ : ∃ z : MS, z = Ms_sidings S55 (upd (M_sidings S55) (((60 : Int32) * x4) + (M_sided S55 x4.toNatClampNeg)).toNatClampNeg a0) := ⟨_, rfl⟩
            rw [← eS57] at hp
            have h := h S57 eS57
            refine lv_aload_n hx hb dX3_ends_194 rfl (lv_at hl 2 rfl) ?_
            refine gM_sided C hp dX3_ends_195 ?_
            refine lv_iload_n hx hb dX3_ends_198 rfl (lv_at hl 1 rfl) ?_
            refine lv_dup2_11 hx hb dX3_ends_199 rfl rfl ?_
            refine aM_sided C hp dX3_ends_200 g5 ?_
            refine lv_iconst (v := 1) hx hb dX3_ends_201 (by decide) ?_
            refine lv_iadd hx hb dX3_ends_202 ?_
            refine lv_topi (fun x58 ex58 => ?_)
            have h := h x58 ex58
            refine uM_sided C hp dX3_ends_203 g5 (fun H locs hp => ?_)
            obtain ⟨S59, eS59⟩ : ∃ z : MS, z = Ms_sided S57 (upd (M_sided S57) x4.toNatClampNeg x58) := ⟨_, rfl⟩
            rw [← eS59] at hp
            have h := h S59 eS59
            refine lv_aload_n hx hb dX3_ends_204 rfl (lv_at hl 2 rfl) ?_
            refine lv_aload_n hx hb dX3_ends_205 rfl (lv_at hl 2 rfl) ?_
            refine gM_state C hp dX3_ends_206 ?_
            refine lv_iload_n hx hb dX3_ends_209 rfl (lv_at hl 3 rfl) ?_
            refine aM_state C hp dX3_ends_210 g1 ?_
            refine lv_iload_n hx hb dX3_ends_211 rfl (lv_at hl 3 rfl) ?_
            refine lv_iload_n hx hb dX3_ends_212 rfl (lv_at hl 1 rfl) ?_
            refine r_callV (q0 := 0) (ci := 3) (rest := []) (c_X3_notes (b := b) C.hZ h) C hp mf_X3_notes km_X3_172 hl.1 dX3_ends_213 rfl rfl ⟨lb rfl, lb rfl, lb rfl, lb rfl⟩ rfl rfl (lb rfl) (fun v w1 H locs hv hp => ?_)
            obtain ⟨S60, rfl, rfl, h⟩ := hv
            refine W.eq (g2 := F0 m 216 ls []) rfl ?_
            exact r_vret C hp dX3_ends_216 ⟨_, rfl, rfl, h⟩
    · have h := h.2 q3
      exact r_vret C hp dX3_ends_23 ⟨_, rfl, rfl, h⟩
theorem mf_X3_ends : MFv yX3_ends cX3_ends 5 none 1 := ⟨kc_X3_ends, kn_X3_ends, kv_X3_ends, ki_X3, by decide +kernel⟩

/-! X3_pushes -/
def wb_X3_pushes_24  (post : MS → Prop) (rec : Int32 → Int32 → Int32 → MS → Prop) (x1 : Int32) (x2 : Int32) (x3 : Int32) (S : MS) : Prop :=
  ((x3 < 0 →
    ((x2 = 0 →
      post S
    ) ∧
    (¬ x2 = 0 →
      ((x1 = (-1 : Int32) →
        post S
      ) ∧
      (¬ x1 = (-1 : Int32) →
        (vp_in x1 60) ∧ (
          ∀ S5 : MS, S5 = Ms_state S (upd (M_state S) x1.toNatClampNeg (1 : Int32)) →
            ∀ x6 : UInt64, x6 = FP.dconst0 →
              ∀ S7 : MS, S7 = Ms_place S5 (vf_upd (M_place S5) x1.toNatClampNeg x6) →
                ∀ x8 : UInt64, x8 = M_push S7 →
                  ∀ S9 : MS, S9 = Ms_speed S7 (vf_upd (M_speed S7) x1.toNatClampNeg x8) →
                    post S9
        )
      ))
    ))
  ) ∧
  (¬ x3 < 0 →
    (vp_in x3 60) ∧ (
      ((¬ (M_state S x3.toNatClampNeg) = 0 →
        ((x2 = 0 →
          rec x1 (0 : Int32) (x3 + (-1)) S
        ) ∧
        (¬ x2 = 0 →
          ((¬ (M_state S x3.toNatClampNeg) = (1 : Int32) →
            rec x1 (1 : Int32) (x3 + (-1)) S
          ) ∧
          ((M_state S x3.toNatClampNeg) = (1 : Int32) →
            wp_X3_rear S x3 (fun r14 =>
              ((¬ (dG r14 (4612811918334230528 : UInt64) ∨ dE r14 (4612811918334230528 : UInt64)) →
                rec x1 (0 : Int32) (x3 + (-1)) S
              ) ∧
              ((dG r14 (4612811918334230528 : UInt64) ∨ dE r14 (4612811918334230528 : UInt64)) →
                rec x1 (1 : Int32) (x3 + (-1)) S
              ))
            )
          ))
        ))
      ) ∧
      ((M_state S x3.toNatClampNeg) = 0 →
        ((x2 = 0 →
          rec x3 (0 : Int32) (x3 + (-1)) S
        ) ∧
        (¬ x2 = 0 →
          ((¬ (M_state S x3.toNatClampNeg) = (1 : Int32) →
            rec x3 (1 : Int32) (x3 + (-1)) S
          ) ∧
          ((M_state S x3.toNatClampNeg) = (1 : Int32) →
            wp_X3_rear S x3 (fun r18 =>
              ((¬ (dG r18 (4612811918334230528 : UInt64) ∨ dE r18 (4612811918334230528 : UInt64)) →
                rec x3 (0 : Int32) (x3 + (-1)) S
              ) ∧
              ((dG r18 (4612811918334230528 : UInt64) ∨ dE r18 (4612811918334230528 : UInt64)) →
                rec x3 (1 : Int32) (x3 + (-1)) S
              ))
            )
          ))
        ))
      ))
    )
  ))
def wl_X3_pushes_24  (post : MS → Prop) : Nat → Int32 → Int32 → Int32 → MS → Prop
  | 0 => fun _ _ _ _ => False
  | n + 1 => wb_X3_pushes_24  post (wl_X3_pushes_24  post n)
def wp_X3_pushes  (S : MS) (post : MS → Prop) : Prop :=
  ((¬ dG (M_push S) FP.dconst0 →
    ∀ x21 : Int32, x21 = (M_cuts S) - (1 : Int32) →
      ∃ n, wl_X3_pushes_24  post n (-1 : Int32) (0 : Int32) x21 S
  ) ∧
  (dG (M_push S) FP.dconst0 →
    ∀ x22 : Int32, x22 = (M_cuts S) - (1 : Int32) →
      ∃ n, wl_X3_pushes_24  post n (-1 : Int32) (1 : Int32) x22 S
  ))
set_option maxHeartbeats 4000000 in
set_option maxRecDepth 100000 in
theorem lp_X3_pushes_24 {l : Launch} {G : GT} {Z : State} {ws0 : va_W} {b : Nat → Nat} {p : Program} {e : Env} {s : State} {m : MethodId} {args : Array Value} {below : List Frame} {meth : Method} {c : Code} (C : Cx G Z ws0 p s m args meth c RX3 cX3_pushes 4 none) {post : MS → Prop} : ∀ (n : Nat) (x1 : Int32) (x2 : Int32) (x3 : Int32) (S : MS) (H : Heap) (locs : List Loc) (ls : Array Slot), wl_X3_pushes_24  post n x1 x2 x3 S → Hp G ws0 s H locs (wM G b S) → lv_has ls 4 [(0, .ref (b 0)), (1, .int x1), (2, .int x2), (3, .int x3)] → W p l e (rmz 1 21) s m args below meth c H locs 0 0 (QQ G Z ws0 below s args (PV (wM G b) post) (rmz 1 21)) (F0 m 24 ls []) := by
  have hx := C.hx
  have hb := C.hb
  have hZ := C.hZ
  intro n
  induction n with
  | zero =>
    intro x1 x2 x3 S H locs ls h
    exact False.elim h
  | succ n ih =>
    intro x1 x2 x3 S H locs ls h hp hl
    have h : wb_X3_pushes_24  post (wl_X3_pushes_24  post n) x1 x2 x3 S := h
    unfold wb_X3_pushes_24 at h
    generalize hrec : wl_X3_pushes_24  post n = rec at h ih
    refine lv_iload_n hx hb dX3_pushes_24 rfl (lv_at hl 3 rfl) ?_
    refine lv_if_lt (tgt := 81) hx hb dX3_pushes_25 (by decide) (fun q1 => ?_) (fun q1 => ?_)
    · have h := h.1 q1
      refine lv_iload_n hx hb dX3_pushes_81 rfl (lv_at hl 2 rfl) ?_
      refine lv_if_eq (tgt := 114) hx hb dX3_pushes_82 (by decide) (fun q2 => ?_) (fun q2 => ?_)
      · have h := h.1 q2
        exact r_vret C hp dX3_pushes_114 ⟨_, rfl, rfl, h⟩
      · have h := h.2 q2
        refine lv_iload_n hx hb dX3_pushes_85 rfl (lv_at hl 1 rfl) ?_
        refine lv_iconst (v := -1) hx hb dX3_pushes_86 (by decide) ?_
        refine lv_icmp_eq (tgt := 114) hx hb dX3_pushes_87 (by decide) (fun q3 => ?_) (fun q3 => ?_)
        · have h := h.1 q3
          exact r_vret C hp dX3_pushes_114 ⟨_, rfl, rfl, h⟩
        · have h := h.2 q3
          refine lv_aload_n hx hb dX3_pushes_90 rfl (lv_at hl 0 rfl) ?_
          refine gM_state C hp dX3_pushes_91 ?_
          refine lv_iload_n hx hb dX3_pushes_94 rfl (lv_at hl 1 rfl) ?_
          refine lv_iconst (v := 1) hx hb dX3_pushes_95 (by decide) ?_
          obtain ⟨g4, h⟩ := h
          refine uM_state C hp dX3_pushes_96 g4 (fun H locs hp => ?_)
          obtain ⟨S5, eS5⟩ : ∃ z : MS, z = Ms_state S (upd (M_state S) x1.toNatClampNeg (1 : Int32)) := ⟨_, rfl⟩
          rw [← eS5] at hp
          have h := h S5 eS5
          refine lv_aload_n hx hb dX3_pushes_97 rfl (lv_at hl 0 rfl) ?_
          refine gM_place C hp dX3_pushes_98 ?_
          refine lv_iload_n hx hb dX3_pushes_101 rfl (lv_at hl 1 rfl) ?_
          refine lv_dconst0 hx hb dX3_pushes_102 ?_
          refine lv_topd (fun x6 ex6 => ?_)
          have h := h x6 ex6
          refine uM_place C hp dX3_pushes_103 g4 (fun H locs hp => ?_)
          obtain ⟨S7, eS7⟩ : ∃ z : MS, z = Ms_place S5 (vf_upd (M_place S5) x1.toNatClampNeg x6) := ⟨_, rfl⟩
          rw [← eS7] at hp
          have h := h S7 eS7
          refine lv_aload_n hx hb dX3_pushes_104 rfl (lv_at hl 0 rfl) ?_
          refine gM_speed C hp dX3_pushes_105 ?_
          refine lv_iload_n hx hb dX3_pushes_108 rfl (lv_at hl 1 rfl) ?_
          refine lv_aload_n hx hb dX3_pushes_109 rfl (lv_at hl 0 rfl) ?_
          refine gM_push C hp dX3_pushes_110 ?_
          refine lv_topd (fun x8 ex8 => ?_)
          have h := h x8 ex8
          refine uM_speed C hp dX3_pushes_113 g4 (fun H locs hp => ?_)
          obtain ⟨S9, eS9⟩ : ∃ z : MS, z = Ms_speed S7 (vf_upd (M_speed S7) x1.toNatClampNeg x8) := ⟨_, rfl⟩
          rw [← eS9] at hp
          have h := h S9 eS9
          exact r_vret C hp dX3_pushes_114 ⟨_, rfl, rfl, h⟩
    · have h := h.2 q1
      refine lv_aload_n hx hb dX3_pushes_28 rfl (lv_at hl 0 rfl) ?_
      refine gM_state C hp dX3_pushes_29 ?_
      refine lv_iload_n hx hb dX3_pushes_32 rfl (lv_at hl 3 rfl) ?_
      obtain ⟨g10, h⟩ := h
      refine aM_state C hp dX3_pushes_33 g10 ?_
      refine lv_if_ne (tgt := 41) hx hb dX3_pushes_34 (by decide) (fun q11 => ?_) (fun q11 => ?_)
      · have h := h.1 q11
        refine lv_iload_n hx hb dX3_pushes_41 rfl (lv_at hl 1 rfl) ?_
        refine lv_istore_n (lv' := [(1, .int x1), (0, .ref (b 0)), (2, .int x2), (3, .int x3)]) hx hb dX3_pushes_42 rfl hl (by decide) rfl (fun ls hl => ?_)
        refine lv_iload_n hx hb dX3_pushes_43 rfl (lv_at hl 2 rfl) ?_
        refine lv_if_eq (tgt := 73) hx hb dX3_pushes_44 (by decide) (fun q12 => ?_) (fun q12 => ?_)
        · have h := h.1 q12
          refine lv_iconst (v := 0) hx hb dX3_pushes_73 (by decide) ?_
          refine lv_istore_n (lv' := [(2, .int (0 : Int32)), (1, .int x1), (0, .ref (b 0)), (3, .int x3)]) hx hb dX3_pushes_74 rfl hl (by decide) rfl (fun ls hl => ?_)
          refine lv_iinc (v := x3 + (-1)) (lv' := [(3, .int (x3 + (-1))), (2, .int (0 : Int32)), (1, .int x1), (0, .ref (b 0))]) hx hb dX3_pushes_75 hl (k := 3) rfl rfl (by decide) rfl (fun ls hl => ?_)
          refine lv_goto (tgt := 24) hx hb dX3_pushes_78 (by decide) ?_
          exact ih _ _ _ _ _ _ _ h hp (lv_sub hl [3, 2, 1, 0] rfl)
        · have h := h.2 q12
          refine lv_aload_n hx hb dX3_pushes_47 rfl (lv_at hl 1 rfl) ?_
          refine gM_state C hp dX3_pushes_48 ?_
          refine lv_iload_n hx hb dX3_pushes_51 rfl (lv_at hl 3 rfl) ?_
          refine aM_state C hp dX3_pushes_52 g10 ?_
          refine lv_iconst (v := 1) hx hb dX3_pushes_53 (by decide) ?_
          refine lv_icmp_ne (tgt := 69) hx hb dX3_pushes_54 (by decide) (fun q13 => ?_) (fun q13 => ?_)
          · have h := h.1 q13
            refine lv_iconst (v := 1) hx hb dX3_pushes_69 (by decide) ?_
            refine lv_goto (tgt := 74) hx hb dX3_pushes_70 (by decide) ?_
            refine lv_istore_n (lv' := [(2, .int (1 : Int32)), (1, .int x1), (0, .ref (b 0)), (3, .int x3)]) hx hb dX3_pushes_74 rfl hl (by decide) rfl (fun ls hl => ?_)
            refine lv_iinc (v := x3 + (-1)) (lv' := [(3, .int (x3 + (-1))), (2, .int (1 : Int32)), (1, .int x1), (0, .ref (b 0))]) hx hb dX3_pushes_75 hl (k := 3) rfl rfl (by decide) rfl (fun ls hl => ?_)
            refine lv_goto (tgt := 24) hx hb dX3_pushes_78 (by decide) ?_
            exact ih _ _ _ _ _ _ _ h hp (lv_sub hl [3, 2, 1, 0] rfl)
          · have h := h.2 q13
            refine lv_aload_n hx hb dX3_pushes_57 rfl (lv_at hl 1 rfl) ?_
            refine lv_iload_n hx hb dX3_pushes_58 rfl (lv_at hl 3 rfl) ?_
            refine r_callV (q0 := 0) (ci := 3) (rest := []) (c_X3_rear (b := b) C.hZ h) C hp mf_X3_rear km_X3_120 hl.1 dX3_pushes_59 rfl rfl ⟨lb rfl, lb rfl, lb rfl, lb rfl⟩ rfl rfl (lb rfl) (fun v w1 H locs hv hp => ?_)
            obtain ⟨r14, rfl, rfl, h⟩ := hv
            refine W.eq (g2 := F0 m 62 ls [.double r14]) rfl ?_
            refine lv_ldc2d hx hb C.hown (C.hts _ kd_X3_123) dX3_pushes_62 ?_
            refine dcl_lt (tgt := 73) hx hb dX3_pushes_65 dX3_pushes_66 (by decide) (fun q15 => ?_) (fun q15 => ?_)
            · have h := h.1 q15
              refine lv_iconst (v := 0) hx hb dX3_pushes_73 (by decide) ?_
              refine lv_istore_n (lv' := [(2, .int (0 : Int32)), (1, .int x1), (0, .ref (b 0)), (3, .int x3)]) hx hb dX3_pushes_74 rfl hl (by decide) rfl (fun ls hl => ?_)
              refine lv_iinc (v := x3 + (-1)) (lv' := [(3, .int (x3 + (-1))), (2, .int (0 : Int32)), (1, .int x1), (0, .ref (b 0))]) hx hb dX3_pushes_75 hl (k := 3) rfl rfl (by decide) rfl (fun ls hl => ?_)
              refine lv_goto (tgt := 24) hx hb dX3_pushes_78 (by decide) ?_
              exact ih _ _ _ _ _ _ _ h hp (lv_sub hl [3, 2, 1, 0] rfl)
            · have h := h.2 q15
              refine lv_iconst (v := 1) hx hb dX3_pushes_69 (by decide) ?_
              refine lv_goto (tgt := 74) hx hb dX3_pushes_70 (by decide) ?_
              refine lv_istore_n (lv' := [(2, .int (1 : Int32)), (1, .int x1), (0, .ref (b 0)), (3, .int x3)]) hx hb dX3_pushes_74 rfl hl (by decide) rfl (fun ls hl => ?_)
              refine lv_iinc (v := x3 + (-1)) (lv' := [(3, .int (x3 + (-1))), (2, .int (1 : Int32)), (1, .int x1), (0, .ref (b 0))]) hx hb dX3_pushes_75 hl (k := 3) rfl rfl (by decide) rfl (fun ls hl => ?_)
              refine lv_goto (tgt := 24) hx hb dX3_pushes_78 (by decide) ?_
              exact ih _ _ _ _ _ _ _ h hp (lv_sub hl [3, 2, 1, 0] rfl)
      · have h := h.2 q11
        refine lv_iload_n hx hb dX3_pushes_37 rfl (lv_at hl 3 rfl) ?_
        refine lv_goto (tgt := 42) hx hb dX3_pushes_38 (by decide) ?_
        refine lv_istore_n (lv' := [(1, .int x3), (0, .ref (b 0)), (2, .int x2), (3, .int x3)]) hx hb dX3_pushes_42 rfl hl (by decide) rfl (fun ls hl => ?_)
        refine lv_iload_n hx hb dX3_pushes_43 rfl (lv_at hl 2 rfl) ?_
        refine lv_if_eq (tgt := 73) hx hb dX3_pushes_44 (by decide) (fun q16 => ?_) (fun q16 => ?_)
        · have h := h.1 q16
          refine lv_iconst (v := 0) hx hb dX3_pushes_73 (by decide) ?_
          refine lv_istore_n (lv' := [(2, .int (0 : Int32)), (1, .int x3), (0, .ref (b 0)), (3, .int x3)]) hx hb dX3_pushes_74 rfl hl (by decide) rfl (fun ls hl => ?_)
          refine lv_iinc (v := x3 + (-1)) (lv' := [(3, .int (x3 + (-1))), (2, .int (0 : Int32)), (1, .int x3), (0, .ref (b 0))]) hx hb dX3_pushes_75 hl (k := 3) rfl rfl (by decide) rfl (fun ls hl => ?_)
          refine lv_goto (tgt := 24) hx hb dX3_pushes_78 (by decide) ?_
          exact ih _ _ _ _ _ _ _ h hp (lv_sub hl [3, 2, 1, 0] rfl)
        · have h := h.2 q16
          refine lv_aload_n hx hb dX3_pushes_47 rfl (lv_at hl 1 rfl) ?_
          refine gM_state C hp dX3_pushes_48 ?_
          refine lv_iload_n hx hb dX3_pushes_51 rfl (lv_at hl 3 rfl) ?_
          refine aM_state C hp dX3_pushes_52 g10 ?_
          refine lv_iconst (v := 1) hx hb dX3_pushes_53 (by decide) ?_
          refine lv_icmp_ne (tgt := 69) hx hb dX3_pushes_54 (by decide) (fun q17 => ?_) (fun q17 => ?_)
          · have h := h.1 q17
            refine lv_iconst (v := 1) hx hb dX3_pushes_69 (by decide) ?_
            refine lv_goto (tgt := 74) hx hb dX3_pushes_70 (by decide) ?_
            refine lv_istore_n (lv' := [(2, .int (1 : Int32)), (1, .int x3), (0, .ref (b 0)), (3, .int x3)]) hx hb dX3_pushes_74 rfl hl (by decide) rfl (fun ls hl => ?_)
            refine lv_iinc (v := x3 + (-1)) (lv' := [(3, .int (x3 + (-1))), (2, .int (1 : Int32)), (1, .int x3), (0, .ref (b 0))]) hx hb dX3_pushes_75 hl (k := 3) rfl rfl (by decide) rfl (fun ls hl => ?_)
            refine lv_goto (tgt := 24) hx hb dX3_pushes_78 (by decide) ?_
            exact ih _ _ _ _ _ _ _ h hp (lv_sub hl [3, 2, 1, 0] rfl)
          · have h := h.2 q17
            refine lv_aload_n hx hb dX3_pushes_57 rfl (lv_at hl 1 rfl) ?_
            refine lv_iload_n hx hb dX3_pushes_58 rfl (lv_at hl 3 rfl) ?_
            refine r_callV (q0 := 0) (ci := 3) (rest := []) (c_X3_rear (b := b) C.hZ h) C hp mf_X3_rear km_X3_120 hl.1 dX3_pushes_59 rfl rfl ⟨lb rfl, lb rfl, lb rfl, lb rfl⟩ rfl rfl (lb rfl) (fun v w1 H locs hv hp => ?_)
            obtain ⟨r18, rfl, rfl, h⟩ := hv
            refine W.eq (g2 := F0 m 62 ls [.double r18]) rfl ?_
            refine lv_ldc2d hx hb C.hown (C.hts _ kd_X3_123) dX3_pushes_62 ?_
            refine dcl_lt (tgt := 73) hx hb dX3_pushes_65 dX3_pushes_66 (by decide) (fun q19 => ?_) (fun q19 => ?_)
            · have h := h.1 q19
              refine lv_iconst (v := 0) hx hb dX3_pushes_73 (by decide) ?_
              refine lv_istore_n (lv' := [(2, .int (0 : Int32)), (1, .int x3), (0, .ref (b 0)), (3, .int x3)]) hx hb dX3_pushes_74 rfl hl (by decide) rfl (fun ls hl => ?_)
              refine lv_iinc (v := x3 + (-1)) (lv' := [(3, .int (x3 + (-1))), (2, .int (0 : Int32)), (1, .int x3), (0, .ref (b 0))]) hx hb dX3_pushes_75 hl (k := 3) rfl rfl (by decide) rfl (fun ls hl => ?_)
              refine lv_goto (tgt := 24) hx hb dX3_pushes_78 (by decide) ?_
              exact ih _ _ _ _ _ _ _ h hp (lv_sub hl [3, 2, 1, 0] rfl)
            · have h := h.2 q19
              refine lv_iconst (v := 1) hx hb dX3_pushes_69 (by decide) ?_
              refine lv_goto (tgt := 74) hx hb dX3_pushes_70 (by decide) ?_
              refine lv_istore_n (lv' := [(2, .int (1 : Int32)), (1, .int x3), (0, .ref (b 0)), (3, .int x3)]) hx hb dX3_pushes_74 rfl hl (by decide) rfl (fun ls hl => ?_)
              refine lv_iinc (v := x3 + (-1)) (lv' := [(3, .int (x3 + (-1))), (2, .int (1 : Int32)), (1, .int x3), (0, .ref (b 0))]) hx hb dX3_pushes_75 hl (k := 3) rfl rfl (by decide) rfl (fun ls hl => ?_)
              refine lv_goto (tgt := 24) hx hb dX3_pushes_78 (by decide) ?_
              exact ih _ _ _ _ _ _ _ h hp (lv_sub hl [3, 2, 1, 0] rfl)
set_option maxHeartbeats 4000000 in
set_option maxRecDepth 100000 in
theorem c_X3_pushes {l : Launch} {G : GT} {Z : State} {b : Nat → Nat} (hZ : ZOK G Z) {S : MS} {post : MS → Prop} (h : wp_X3_pushes  S post) : CM l G Z yX3_pushes cX3_pushes 4 none (rmz 1 21) [.ref (b 0)] (wM G b S) (PV (wM G b) post) := by
  refine CM_ofW hZ (by decide) (lb rfl) (fun p e s m below meth c ls C hp hl hnm => ?_)
  have C : Cx G Z _ p s m _ meth c RX3 cX3_pushes 4 none := C
  have hl : lv_has ls 4 [(0, .ref (b 0))] := hl
  have hx := C.hx
  have hb := C.hb
  unfold wp_X3_pushes at h
  refine lv_iconst (v := -1) hx hb dX3_pushes_0 (by decide) ?_
  refine lv_istore_n (lv' := [(1, .int (-1 : Int32)), (0, .ref (b 0))]) hx hb dX3_pushes_1 rfl hl (by decide) rfl (fun ls hl => ?_)
  refine lv_aload_n hx hb dX3_pushes_2 rfl (lv_at hl 1 rfl) ?_
  refine gM_push C hp dX3_pushes_3 ?_
  refine lv_dconst0 hx hb dX3_pushes_6 ?_
  refine dcl_le (tgt := 15) hx hb dX3_pushes_7 dX3_pushes_8 (by decide) (fun q20 => ?_) (fun q20 => ?_)
  · have h := h.1 q20
    refine lv_iconst (v := 0) hx hb dX3_pushes_15 (by decide) ?_
    refine lv_istore_n (lv' := [(2, .int (0 : Int32)), (1, .int (-1 : Int32)), (0, .ref (b 0))]) hx hb dX3_pushes_16 rfl hl (by decide) rfl (fun ls hl => ?_)
    refine lv_aload_n hx hb dX3_pushes_17 rfl (lv_at hl 2 rfl) ?_
    refine gM_cuts C hp dX3_pushes_18 ?_
    refine lv_iconst (v := 1) hx hb dX3_pushes_21 (by decide) ?_
    refine lv_isub hx hb dX3_pushes_22 ?_
    refine lv_topi (fun x21 ex21 => ?_)
    have h := h x21 ex21
    refine lv_istore_n (lv' := [(3, .int x21), (2, .int (0 : Int32)), (1, .int (-1 : Int32)), (0, .ref (b 0))]) hx hb dX3_pushes_23 rfl hl (by decide) rfl (fun ls hl => ?_)
    obtain ⟨n, h⟩ := h
    exact lp_X3_pushes_24 C n _ _ _ _ _ _ _ h hp (lv_sub hl [3, 2, 1, 0] rfl)
  · have h := h.2 q20
    refine lv_iconst (v := 1) hx hb dX3_pushes_11 (by decide) ?_
    refine lv_goto (tgt := 16) hx hb dX3_pushes_12 (by decide) ?_
    refine lv_istore_n (lv' := [(2, .int (1 : Int32)), (1, .int (-1 : Int32)), (0, .ref (b 0))]) hx hb dX3_pushes_16 rfl hl (by decide) rfl (fun ls hl => ?_)
    refine lv_aload_n hx hb dX3_pushes_17 rfl (lv_at hl 2 rfl) ?_
    refine gM_cuts C hp dX3_pushes_18 ?_
    refine lv_iconst (v := 1) hx hb dX3_pushes_21 (by decide) ?_
    refine lv_isub hx hb dX3_pushes_22 ?_
    refine lv_topi (fun x22 ex22 => ?_)
    have h := h x22 ex22
    refine lv_istore_n (lv' := [(3, .int x22), (2, .int (1 : Int32)), (1, .int (-1 : Int32)), (0, .ref (b 0))]) hx hb dX3_pushes_23 rfl hl (by decide) rfl (fun ls hl => ?_)
    obtain ⟨n, h⟩ := h
    exact lp_X3_pushes_24 C n _ _ _ _ _ _ _ h hp (lv_sub hl [3, 2, 1, 0] rfl)
theorem mf_X3_pushes : MFv yX3_pushes cX3_pushes 4 none 0 := ⟨kc_X3_pushes, kn_X3_pushes, kv_X3_pushes, ki_X3, by decide +kernel⟩

/-! X3_cut -/
def wp_X3_cut (a0 : Int32) (a1 : Int32) (a2 : UInt64) (a3 : Int32) (S : MS) (post : Int32 → MS → Prop) : Prop :=
  ((a0 < (1 : Int32) →
    wp_X3_refuses (1 : Int32) S (fun r3 S2 =>
      ((r3 = 0 →
        (vp_in (M_cuts S2) 60) ∧ (
          ∀ S6 : MS, S6 = Ms_wagons S2 (upd (M_wagons S2) (M_cuts S2).toNatClampNeg a0) →
            (vp_in (M_cuts S6) 60) ∧ (
              ∀ S8 : MS, S8 = Ms_tons S6 (upd (M_tons S6) (M_cuts S6).toNatClampNeg a1) →
                (vp_in (M_cuts S8) 60) ∧ (
                  ∀ S10 : MS, S10 = Ms_resistance S8 (vf_upd (M_resistance S8) (M_cuts S8).toNatClampNeg a2) →
                    (vp_in (M_cuts S10) 60) ∧ (
                      ∀ S12 : MS, S12 = Ms_wished S10 (upd (M_wished S10) (M_cuts S10).toNatClampNeg a3) →
                        (vp_in (M_cuts S12) 60) ∧ (
                          ∀ S14 : MS, S14 = Ms_caught S12 (upd (M_caught S12) (M_cuts S12).toNatClampNeg (-1 : Int32)) →
                            ∀ x15 : Int32, x15 = (M_cuts S14) + (1 : Int32) →
                              ∀ S16 : MS, S16 = Ms_cuts S14 x15 →
                                post ((M_cuts S16) - (1 : Int32)) S16
                        )
                    )
                )
            )
        )
      ) ∧
      (¬ r3 = 0 →
        post (0 : Int32) S2
      ))
    )
  ) ∧
  (¬ a0 < (1 : Int32) →
    (((20 : Int32) < a0 →
      wp_X3_refuses (1 : Int32) S (fun r20 S19 =>
        ((r20 = 0 →
          (vp_in (M_cuts S19) 60) ∧ (
            ∀ S23 : MS, S23 = Ms_wagons S19 (upd (M_wagons S19) (M_cuts S19).toNatClampNeg a0) →
              (vp_in (M_cuts S23) 60) ∧ (
                ∀ S25 : MS, S25 = Ms_tons S23 (upd (M_tons S23) (M_cuts S23).toNatClampNeg a1) →
                  (vp_in (M_cuts S25) 60) ∧ (
                    ∀ S27 : MS, S27 = Ms_resistance S25 (vf_upd (M_resistance S25) (M_cuts S25).toNatClampNeg a2) →
                      (vp_in (M_cuts S27) 60) ∧ (
                        ∀ S29 : MS, S29 = Ms_wished S27 (upd (M_wished S27) (M_cuts S27).toNatClampNeg a3) →
                          (vp_in (M_cuts S29) 60) ∧ (
                            ∀ S31 : MS, S31 = Ms_caught S29 (upd (M_caught S29) (M_cuts S29).toNatClampNeg (-1 : Int32)) →
                              ∀ x32 : Int32, x32 = (M_cuts S31) + (1 : Int32) →
                                ∀ S33 : MS, S33 = Ms_cuts S31 x32 →
                                  post ((M_cuts S33) - (1 : Int32)) S33
                          )
                      )
                  )
              )
          )
        ) ∧
        (¬ r20 = 0 →
          post (0 : Int32) S19
        ))
      )
    ) ∧
    (¬ (20 : Int32) < a0 →
      ((a1 < (1 : Int32) →
        wp_X3_refuses (1 : Int32) S (fun r37 S36 =>
          ((r37 = 0 →
            (vp_in (M_cuts S36) 60) ∧ (
              ∀ S40 : MS, S40 = Ms_wagons S36 (upd (M_wagons S36) (M_cuts S36).toNatClampNeg a0) →
                (vp_in (M_cuts S40) 60) ∧ (
                  ∀ S42 : MS, S42 = Ms_tons S40 (upd (M_tons S40) (M_cuts S40).toNatClampNeg a1) →
                    (vp_in (M_cuts S42) 60) ∧ (
                      ∀ S44 : MS, S44 = Ms_resistance S42 (vf_upd (M_resistance S42) (M_cuts S42).toNatClampNeg a2) →
                        (vp_in (M_cuts S44) 60) ∧ (
                          ∀ S46 : MS, S46 = Ms_wished S44 (upd (M_wished S44) (M_cuts S44).toNatClampNeg a3) →
                            (vp_in (M_cuts S46) 60) ∧ (
                              ∀ S48 : MS, S48 = Ms_caught S46 (upd (M_caught S46) (M_cuts S46).toNatClampNeg (-1 : Int32)) →
                                ∀ x49 : Int32, x49 = (M_cuts S48) + (1 : Int32) →
                                  ∀ S50 : MS, S50 = Ms_cuts S48 x49 →
                                    post ((M_cuts S50) - (1 : Int32)) S50
                            )
                        )
                    )
                )
            )
          ) ∧
          (¬ r37 = 0 →
            post (0 : Int32) S36
          ))
        )
      ) ∧
      (¬ a1 < (1 : Int32) →
        (((90 : Int32) < a1 →
          wp_X3_refuses (1 : Int32) S (fun r54 S53 =>
            ((r54 = 0 →
              (vp_in (M_cuts S53) 60) ∧ (
                ∀ S57 : MS, S57 = Ms_wagons S53 (upd (M_wagons S53) (M_cuts S53).toNatClampNeg a0) →
                  (vp_in (M_cuts S57) 60) ∧ (
                    ∀ S59 : MS, S59 = Ms_tons S57 (upd (M_tons S57) (M_cuts S57).toNatClampNeg a1) →
                      (vp_in (M_cuts S59) 60) ∧ (
                        ∀ S61 : MS, S61 = Ms_resistance S59 (vf_upd (M_resistance S59) (M_cuts S59).toNatClampNeg a2) →
                          (vp_in (M_cuts S61) 60) ∧ (
                            ∀ S63 : MS, S63 = Ms_wished S61 (upd (M_wished S61) (M_cuts S61).toNatClampNeg a3) →
                              (vp_in (M_cuts S63) 60) ∧ (
                                ∀ S65 : MS, S65 = Ms_caught S63 (upd (M_caught S63) (M_cuts S63).toNatClampNeg (-1 : Int32)) →
                                  ∀ x66 : Int32, x66 = (M_cuts S65) + (1 : Int32) →
                                    ∀ S67 : MS, S67 = Ms_cuts S65 x66 →
                                      post ((M_cuts S67) - (1 : Int32)) S67
                              )
                          )
                      )
                  )
              )
            ) ∧
            (¬ r54 = 0 →
              post (0 : Int32) S53
            ))
          )
        ) ∧
        (¬ (90 : Int32) < a1 →
          wp_X3_isIn a2 FP.dconst0 (4625196817309499392 : UInt64) (fun r69 =>
            ((r69 = 0 →
              wp_X3_refuses (1 : Int32) S (fun r72 S71 =>
                ((r72 = 0 →
                  (vp_in (M_cuts S71) 60) ∧ (
                    ∀ S75 : MS, S75 = Ms_wagons S71 (upd (M_wagons S71) (M_cuts S71).toNatClampNeg a0) →
                      (vp_in (M_cuts S75) 60) ∧ (
                        ∀ S77 : MS, S77 = Ms_tons S75 (upd (M_tons S75) (M_cuts S75).toNatClampNeg a1) →
                          (vp_in (M_cuts S77) 60) ∧ (
                            ∀ S79 : MS, S79 = Ms_resistance S77 (vf_upd (M_resistance S77) (M_cuts S77).toNatClampNeg a2) →
                              (vp_in (M_cuts S79) 60) ∧ (
                                ∀ S81 : MS, S81 = Ms_wished S79 (upd (M_wished S79) (M_cuts S79).toNatClampNeg a3) →
                                  (vp_in (M_cuts S81) 60) ∧ (
                                    ∀ S83 : MS, S83 = Ms_caught S81 (upd (M_caught S81) (M_cuts S81).toNatClampNeg (-1 : Int32)) →
                                      ∀ x84 : Int32, x84 = (M_cuts S83) + (1 : Int32) →
                                        ∀ S85 : MS, S85 = Ms_cuts S83 x84 →
                                          post ((M_cuts S85) - (1 : Int32)) S85
                                  )
                              )
                          )
                      )
                  )
                ) ∧
                (¬ r72 = 0 →
                  post (0 : Int32) S71
                ))
              )
            ) ∧
            (¬ r69 = 0 →
              ((a3 < 0 →
                wp_X3_refuses (1 : Int32) S (fun r89 S88 =>
                  ((r89 = 0 →
                    (vp_in (M_cuts S88) 60) ∧ (
                      ∀ S92 : MS, S92 = Ms_wagons S88 (upd (M_wagons S88) (M_cuts S88).toNatClampNeg a0) →
                        (vp_in (M_cuts S92) 60) ∧ (
                          ∀ S94 : MS, S94 = Ms_tons S92 (upd (M_tons S92) (M_cuts S92).toNatClampNeg a1) →
                            (vp_in (M_cuts S94) 60) ∧ (
                              ∀ S96 : MS, S96 = Ms_resistance S94 (vf_upd (M_resistance S94) (M_cuts S94).toNatClampNeg a2) →
                                (vp_in (M_cuts S96) 60) ∧ (
                                  ∀ S98 : MS, S98 = Ms_wished S96 (upd (M_wished S96) (M_cuts S96).toNatClampNeg a3) →
                                    (vp_in (M_cuts S98) 60) ∧ (
                                      ∀ S100 : MS, S100 = Ms_caught S98 (upd (M_caught S98) (M_cuts S98).toNatClampNeg (-1 : Int32)) →
                                        ∀ x101 : Int32, x101 = (M_cuts S100) + (1 : Int32) →
                                          ∀ S102 : MS, S102 = Ms_cuts S100 x101 →
                                            post ((M_cuts S102) - (1 : Int32)) S102
                                    )
                                )
                            )
                        )
                    )
                  ) ∧
                  (¬ r89 = 0 →
                    post (0 : Int32) S88
                  ))
                )
              ) ∧
              (¬ a3 < 0 →
                (((8 : Int32) ≤ a3 →
                  wp_X3_refuses (1 : Int32) S (fun r106 S105 =>
                    ((r106 = 0 →
                      (vp_in (M_cuts S105) 60) ∧ (
                        ∀ S109 : MS, S109 = Ms_wagons S105 (upd (M_wagons S105) (M_cuts S105).toNatClampNeg a0) →
                          (vp_in (M_cuts S109) 60) ∧ (
                            ∀ S111 : MS, S111 = Ms_tons S109 (upd (M_tons S109) (M_cuts S109).toNatClampNeg a1) →
                              (vp_in (M_cuts S111) 60) ∧ (
                                ∀ S113 : MS, S113 = Ms_resistance S111 (vf_upd (M_resistance S111) (M_cuts S111).toNatClampNeg a2) →
                                  (vp_in (M_cuts S113) 60) ∧ (
                                    ∀ S115 : MS, S115 = Ms_wished S113 (upd (M_wished S113) (M_cuts S113).toNatClampNeg a3) →
                                      (vp_in (M_cuts S115) 60) ∧ (
                                        ∀ S117 : MS, S117 = Ms_caught S115 (upd (M_caught S115) (M_cuts S115).toNatClampNeg (-1 : Int32)) →
                                          ∀ x118 : Int32, x118 = (M_cuts S117) + (1 : Int32) →
                                            ∀ S119 : MS, S119 = Ms_cuts S117 x118 →
                                              post ((M_cuts S119) - (1 : Int32)) S119
                                      )
                                  )
                              )
                          )
                      )
                    ) ∧
                    (¬ r106 = 0 →
                      post (0 : Int32) S105
                    ))
                  )
                ) ∧
                (¬ (8 : Int32) ≤ a3 →
                  ((¬ (M_cuts S) = (60 : Int32) →
                    wp_X3_refuses (0 : Int32) S (fun r123 S122 =>
                      ((r123 = 0 →
                        (vp_in (M_cuts S122) 60) ∧ (
                          ∀ S126 : MS, S126 = Ms_wagons S122 (upd (M_wagons S122) (M_cuts S122).toNatClampNeg a0) →
                            (vp_in (M_cuts S126) 60) ∧ (
                              ∀ S128 : MS, S128 = Ms_tons S126 (upd (M_tons S126) (M_cuts S126).toNatClampNeg a1) →
                                (vp_in (M_cuts S128) 60) ∧ (
                                  ∀ S130 : MS, S130 = Ms_resistance S128 (vf_upd (M_resistance S128) (M_cuts S128).toNatClampNeg a2) →
                                    (vp_in (M_cuts S130) 60) ∧ (
                                      ∀ S132 : MS, S132 = Ms_wished S130 (upd (M_wished S130) (M_cuts S130).toNatClampNeg a3) →
                                        (vp_in (M_cuts S132) 60) ∧ (
                                          ∀ S134 : MS, S134 = Ms_caught S132 (upd (M_caught S132) (M_cuts S132).toNatClampNeg (-1 : Int32)) →
                                            ∀ x135 : Int32, x135 = (M_cuts S134) + (1 : Int32) →
                                              ∀ S136 : MS, S136 = Ms_cuts S134 x135 →
                                                post ((M_cuts S136) - (1 : Int32)) S136
                                        )
                                    )
                                )
                            )
                        )
                      ) ∧
                      (¬ r123 = 0 →
                        post (0 : Int32) S122
                      ))
                    )
                  ) ∧
                  ((M_cuts S) = (60 : Int32) →
                    wp_X3_refuses (2 : Int32) S (fun r138 S137 =>
                      ((r138 = 0 →
                        (vp_in (M_cuts S137) 60) ∧ (
                          ∀ S141 : MS, S141 = Ms_wagons S137 (upd (M_wagons S137) (M_cuts S137).toNatClampNeg a0) →
                            (vp_in (M_cuts S141) 60) ∧ (
                              ∀ S143 : MS, S143 = Ms_tons S141 (upd (M_tons S141) (M_cuts S141).toNatClampNeg a1) →
                                (vp_in (M_cuts S143) 60) ∧ (
                                  ∀ S145 : MS, S145 = Ms_resistance S143 (vf_upd (M_resistance S143) (M_cuts S143).toNatClampNeg a2) →
                                    (vp_in (M_cuts S145) 60) ∧ (
                                      ∀ S147 : MS, S147 = Ms_wished S145 (upd (M_wished S145) (M_cuts S145).toNatClampNeg a3) →
                                        (vp_in (M_cuts S147) 60) ∧ (
                                          ∀ S149 : MS, S149 = Ms_caught S147 (upd (M_caught S147) (M_cuts S147).toNatClampNeg (-1 : Int32)) →
                                            ∀ x150 : Int32, x150 = (M_cuts S149) + (1 : Int32) →
                                              ∀ S151 : MS, S151 = Ms_cuts S149 x150 →
                                                post ((M_cuts S151) - (1 : Int32)) S151
                                        )
                                    )
                                )
                            )
                        )
                      ) ∧
                      (¬ r138 = 0 →
                        post (0 : Int32) S137
                      ))
                    )
                  ))
                ))
              ))
            ))
          )
        ))
      ))
    ))
  ))
set_option maxHeartbeats 4000000 in
set_option maxRecDepth 100000 in
theorem c_X3_cut {l : Launch} {G : GT} {Z : State} {b : Nat → Nat} (hZ : ZOK G Z) {a0 : Int32} {a1 : Int32} {a2 : UInt64} {a3 : Int32} {S : MS} {post : Int32 → MS → Prop} (h : wp_X3_cut a0 a1 a2 a3 S post) : CM l G Z yX3_cut cX3_cut 7 (some .int) (rmz 1 25) [.ref (b 0), .int a0, .int a1, .double a2, .int a3] (wM G b S) (PI (wM G b) post) := by
  refine CM_ofW hZ (by decide) (lb rfl) (fun p e s m below meth c ls C hp hl hnm => ?_)
  have C : Cx G Z _ p s m _ meth c RX3 cX3_cut 7 (some .int) := C
  have hl : lv_has ls 7 [(0, .ref (b 0)), (1, .int a0), (2, .int a1), (3, .double a2), (5, .int a3)] := hl
  have hx := C.hx
  have hb := C.hb
  unfold wp_X3_cut at h
  refine lv_iload_n hx hb dX3_cut_0 rfl (lv_at hl 1 rfl) ?_
  refine lv_iconst (v := 1) hx hb dX3_cut_1 (by decide) ?_
  refine lv_icmp_lt (tgt := 49) hx hb dX3_cut_2 (by decide) (fun q1 => ?_) (fun q1 => ?_)
  · have h := h.1 q1
    refine lv_iconst (v := 0) hx hb dX3_cut_49 (by decide) ?_
    refine lv_istore (lv' := [(6, .int (0 : Int32)), (0, .ref (b 0)), (1, .int a0), (2, .int a1), (3, .double a2), (5, .int a3)]) hx hb dX3_cut_50 hl (by decide) rfl (fun ls hl => ?_)
    refine lv_aload_n hx hb dX3_cut_52 rfl (lv_at hl 1 rfl) ?_
    refine lv_iload hx hb dX3_cut_53 (lv_at hl 0 rfl) ?_
    refine lv_if_ne (tgt := 62) hx hb dX3_cut_55 (by decide) (fun q17 => ?_) (fun q17 => ?_)
    · exact absurd q17 (by decide)
    · refine lv_iconst (v := 1) hx hb dX3_cut_58 (by decide) ?_
      refine lv_goto (tgt := 76) hx hb dX3_cut_59 (by decide) ?_
      refine r_callV (q0 := 0) (ci := 3) (rest := []) (c_X3_refuses (b := b) C.hZ h) C hp mf_X3_refuses km_X3_83 hl.1 dX3_cut_76 rfl rfl ⟨lb rfl, lb rfl, lb rfl, lb rfl⟩ rfl rfl (lb rfl) (fun v w1 H locs hv hp => ?_)
      obtain ⟨r3, S2, rfl, rfl, h⟩ := hv
      refine W.eq (g2 := F0 m 79 ls [.int r3]) rfl ?_
      refine lv_if_eq (tgt := 84) hx hb dX3_cut_79 (by decide) (fun q4 => ?_) (fun q4 => ?_)
      · have h := h.1 q4
        refine lv_aload_n hx hb dX3_cut_84 rfl (lv_at hl 1 rfl) ?_
        refine gM_wagons C hp dX3_cut_85 ?_
        refine lv_aload_n hx hb dX3_cut_88 rfl (lv_at hl 1 rfl) ?_
        refine gM_cuts C hp dX3_cut_89 ?_
        refine lv_iload_n hx hb dX3_cut_92 rfl (lv_at hl 2 rfl) ?_
        obtain ⟨g5, h⟩ := h
        refine uM_wagons C hp dX3_cut_93 g5 (fun H locs hp => ?_)
        obtain ⟨S6, eS6⟩ : ∃ z : MS, z = Ms_wagons S2 (upd (M_wagons S2) (M_cuts S2).toNatClampNeg a0) := ⟨_, rfl⟩
        rw [← eS6] at hp
        have h := h S6 eS6
        refine lv_aload_n hx hb dX3_cut_94 rfl (lv_at hl 1 rfl) ?_
        refine gM_tons C hp dX3_cut_95 ?_
        refine lv_aload_n hx hb dX3_cut_98 rfl (lv_at hl 1 rfl) ?_
        refine gM_cuts C hp dX3_cut_99 ?_
        refine lv_iload_n hx hb dX3_cut_102 rfl (lv_at hl 3 rfl) ?_
        obtain ⟨g7, h⟩ := h
        refine uM_tons C hp dX3_cut_103 g7 (fun H locs hp => ?_)
        obtain ⟨S8, eS8⟩ : ∃ z : MS, z = Ms_tons S6 (upd (M_tons S6) (M_cuts S6).toNatClampNeg a1) := ⟨_, rfl⟩
        rw [← eS8] at hp
        have h := h S8 eS8
        refine lv_aload_n hx hb dX3_cut_104 rfl (lv_at hl 1 rfl) ?_
        refine gM_resistance C hp dX3_cut_105 ?_
        refine lv_aload_n hx hb dX3_cut_108 rfl (lv_at hl 1 rfl) ?_
        refine gM_cuts C hp dX3_cut_109 ?_
        refine lv_dload_n hx hb dX3_cut_112 rfl (lv_at hl 4 rfl) ?_
        obtain ⟨g9, h⟩ := h
        refine uM_resistance C hp dX3_cut_113 g9 (fun H locs hp => ?_)
        obtain ⟨S10, eS10⟩ : ∃ z : MS, z = Ms_resistance S8 (vf_upd (M_resistance S8) (M_cuts S8).toNatClampNeg a2) := ⟨_, rfl⟩
        rw [← eS10] at hp
        have h := h S10 eS10
        refine lv_aload_n hx hb dX3_cut_114 rfl (lv_at hl 1 rfl) ?_
        refine gM_wished C hp dX3_cut_115 ?_
        refine lv_aload_n hx hb dX3_cut_118 rfl (lv_at hl 1 rfl) ?_
        refine gM_cuts C hp dX3_cut_119 ?_
        refine lv_iload hx hb dX3_cut_122 (lv_at hl 5 rfl) ?_
        obtain ⟨g11, h⟩ := h
        refine uM_wished C hp dX3_cut_124 g11 (fun H locs hp => ?_)
        obtain ⟨S12, eS12⟩ : ∃ z : MS, z = Ms_wished S10 (upd (M_wished S10) (M_cuts S10).toNatClampNeg a3) := ⟨_, rfl⟩
        rw [← eS12] at hp
        have h := h S12 eS12
        refine lv_aload_n hx hb dX3_cut_125 rfl (lv_at hl 1 rfl) ?_
        refine gM_caught C hp dX3_cut_126 ?_
        refine lv_aload_n hx hb dX3_cut_129 rfl (lv_at hl 1 rfl) ?_
        refine gM_cuts C hp dX3_cut_130 ?_
        refine lv_iconst (v := -1) hx hb dX3_cut_133 (by decide) ?_
        obtain ⟨g13, h⟩ := h
        refine uM_caught C hp dX3_cut_134 g13 (fun H locs hp => ?_)
        obtain ⟨S14, eS14⟩ : ∃ z : MS, z = Ms_caught S12 (upd (M_caught S12) (M_cuts S12).toNatClampNeg (-1 : Int32)) := ⟨_, rfl⟩
        rw [← eS14] at hp
        have h := h S14 eS14
        refine lv_aload_n hx hb dX3_cut_135 rfl (lv_at hl 1 rfl) ?_
        refine lv_dup hx hb dX3_cut_136 rfl ?_
        refine gM_cuts C hp dX3_cut_137 ?_
        refine lv_iconst (v := 1) hx hb dX3_cut_140 (by decide) ?_
        refine lv_iadd hx hb dX3_cut_141 ?_
        refine lv_topi (fun x15 ex15 => ?_)
        have h := h x15 ex15
        refine pM_cuts C hp dX3_cut_142 (fun H locs hp => ?_)
        obtain ⟨S16, eS16⟩ : ∃ z : MS, z = Ms_cuts S14 x15 := ⟨_, rfl⟩
        rw [← eS16] at hp
        have h := h S16 eS16
        refine lv_aload_n hx hb dX3_cut_145 rfl (lv_at hl 1 rfl) ?_
        refine gM_cuts C hp dX3_cut_146 ?_
        refine lv_iconst (v := 1) hx hb dX3_cut_149 (by decide) ?_
        refine lv_isub hx hb dX3_cut_150 ?_
        exact r_iret C hp dX3_cut_151 ⟨_, _, rfl, rfl, h⟩
      · have h := h.2 q4
        refine lv_iconst (v := 0) hx hb dX3_cut_82 (by decide) ?_
        exact r_iret C hp dX3_cut_83 ⟨_, _, rfl, rfl, h⟩
  · have h := h.2 q1
    refine lv_iload_n hx hb dX3_cut_5 rfl (lv_at hl 1 rfl) ?_
    refine lv_bipush (v := 20) hx hb dX3_cut_6 (by decide) ?_
    refine lv_icmp_gt (tgt := 49) hx hb dX3_cut_8 (by decide) (fun q18 => ?_) (fun q18 => ?_)
    · have h := h.1 q18
      refine lv_iconst (v := 0) hx hb dX3_cut_49 (by decide) ?_
      refine lv_istore (lv' := [(6, .int (0 : Int32)), (0, .ref (b 0)), (1, .int a0), (2, .int a1), (3, .double a2), (5, .int a3)]) hx hb dX3_cut_50 hl (by decide) rfl (fun ls hl => ?_)
      refine lv_aload_n hx hb dX3_cut_52 rfl (lv_at hl 1 rfl) ?_
      refine lv_iload hx hb dX3_cut_53 (lv_at hl 0 rfl) ?_
      refine lv_if_ne (tgt := 62) hx hb dX3_cut_55 (by decide) (fun q34 => ?_) (fun q34 => ?_)
      · exact absurd q34 (by decide)
      · refine lv_iconst (v := 1) hx hb dX3_cut_58 (by decide) ?_
        refine lv_goto (tgt := 76) hx hb dX3_cut_59 (by decide) ?_
        refine r_callV (q0 := 0) (ci := 3) (rest := []) (c_X3_refuses (b := b) C.hZ h) C hp mf_X3_refuses km_X3_83 hl.1 dX3_cut_76 rfl rfl ⟨lb rfl, lb rfl, lb rfl, lb rfl⟩ rfl rfl (lb rfl) (fun v w1 H locs hv hp => ?_)
        obtain ⟨r20, S19, rfl, rfl, h⟩ := hv
        refine W.eq (g2 := F0 m 79 ls [.int r20]) rfl ?_
        refine lv_if_eq (tgt := 84) hx hb dX3_cut_79 (by decide) (fun q21 => ?_) (fun q21 => ?_)
        · have h := h.1 q21
          refine lv_aload_n hx hb dX3_cut_84 rfl (lv_at hl 1 rfl) ?_
          refine gM_wagons C hp dX3_cut_85 ?_
          refine lv_aload_n hx hb dX3_cut_88 rfl (lv_at hl 1 rfl) ?_
          refine gM_cuts C hp dX3_cut_89 ?_
          refine lv_iload_n hx hb dX3_cut_92 rfl (lv_at hl 2 rfl) ?_
          obtain ⟨g22, h⟩ := h
          refine uM_wagons C hp dX3_cut_93 g22 (fun H locs hp => ?_)
          obtain ⟨S23, eS23⟩ : ∃ z : MS, z = Ms_wagons S19 (upd (M_wagons S19) (M_cuts S19).toNatClampNeg a0) := ⟨_, rfl⟩
          rw [← eS23] at hp
          have h := h S23 eS23
          refine lv_aload_n hx hb dX3_cut_94 rfl (lv_at hl 1 rfl) ?_
          refine gM_tons C hp dX3_cut_95 ?_
          refine lv_aload_n hx hb dX3_cut_98 rfl (lv_at hl 1 rfl) ?_
          refine gM_cuts C hp dX3_cut_99 ?_
          refine lv_iload_n hx hb dX3_cut_102 rfl (lv_at hl 3 rfl) ?_
          obtain ⟨g24, h⟩ := h
          refine uM_tons C hp dX3_cut_103 g24 (fun H locs hp => ?_)
          obtain ⟨S25, eS25⟩ : ∃ z : MS, z = Ms_tons S23 (upd (M_tons S23) (M_cuts S23).toNatClampNeg a1) := ⟨_, rfl⟩
          rw [← eS25] at hp
          have h := h S25 eS25
          refine lv_aload_n hx hb dX3_cut_104 rfl (lv_at hl 1 rfl) ?_
          refine gM_resistance C hp dX3_cut_105 ?_
          refine lv_aload_n hx hb dX3_cut_108 rfl (lv_at hl 1 rfl) ?_
          refine gM_cuts C hp dX3_cut_109 ?_
          refine lv_dload_n hx hb dX3_cut_112 rfl (lv_at hl 4 rfl) ?_
          obtain ⟨g26, h⟩ := h
          refine uM_resistance C hp dX3_cut_113 g26 (fun H locs hp => ?_)
          obtain ⟨S27, eS27⟩ : ∃ z : MS, z = Ms_resistance S25 (vf_upd (M_resistance S25) (M_cuts S25).toNatClampNeg a2) := ⟨_, rfl⟩
          rw [← eS27] at hp
          have h := h S27 eS27
          refine lv_aload_n hx hb dX3_cut_114 rfl (lv_at hl 1 rfl) ?_
          refine gM_wished C hp dX3_cut_115 ?_
          refine lv_aload_n hx hb dX3_cut_118 rfl (lv_at hl 1 rfl) ?_
          refine gM_cuts C hp dX3_cut_119 ?_
          refine lv_iload hx hb dX3_cut_122 (lv_at hl 5 rfl) ?_
          obtain ⟨g28, h⟩ := h
          refine uM_wished C hp dX3_cut_124 g28 (fun H locs hp => ?_)
          obtain ⟨S29, eS29⟩ : ∃ z : MS, z = Ms_wished S27 (upd (M_wished S27) (M_cuts S27).toNatClampNeg a3) := ⟨_, rfl⟩
          rw [← eS29] at hp
          have h := h S29 eS29
          refine lv_aload_n hx hb dX3_cut_125 rfl (lv_at hl 1 rfl) ?_
          refine gM_caught C hp dX3_cut_126 ?_
          refine lv_aload_n hx hb dX3_cut_129 rfl (lv_at hl 1 rfl) ?_
          refine gM_cuts C hp dX3_cut_130 ?_
          refine lv_iconst (v := -1) hx hb dX3_cut_133 (by decide) ?_
          obtain ⟨g30, h⟩ := h
          refine uM_caught C hp dX3_cut_134 g30 (fun H locs hp => ?_)
          obtain ⟨S31, eS31⟩ : ∃ z : MS, z = Ms_caught S29 (upd (M_caught S29) (M_cuts S29).toNatClampNeg (-1 : Int32)) := ⟨_, rfl⟩
          rw [← eS31] at hp
          have h := h S31 eS31
          refine lv_aload_n hx hb dX3_cut_135 rfl (lv_at hl 1 rfl) ?_
          refine lv_dup hx hb dX3_cut_136 rfl ?_
          refine gM_cuts C hp dX3_cut_137 ?_
          refine lv_iconst (v := 1) hx hb dX3_cut_140 (by decide) ?_
          refine lv_iadd hx hb dX3_cut_141 ?_
          refine lv_topi (fun x32 ex32 => ?_)
          have h := h x32 ex32
          refine pM_cuts C hp dX3_cut_142 (fun H locs hp => ?_)
          obtain ⟨S33, eS33⟩ : ∃ z : MS, z = Ms_cuts S31 x32 := ⟨_, rfl⟩
          rw [← eS33] at hp
          have h := h S33 eS33
          refine lv_aload_n hx hb dX3_cut_145 rfl (lv_at hl 1 rfl) ?_
          refine gM_cuts C hp dX3_cut_146 ?_
          refine lv_iconst (v := 1) hx hb dX3_cut_149 (by decide) ?_
          refine lv_isub hx hb dX3_cut_150 ?_
          exact r_iret C hp dX3_cut_151 ⟨_, _, rfl, rfl, h⟩
        · have h := h.2 q21
          refine lv_iconst (v := 0) hx hb dX3_cut_82 (by decide) ?_
          exact r_iret C hp dX3_cut_83 ⟨_, _, rfl, rfl, h⟩
    · have h := h.2 q18
      refine lv_iload_n hx hb dX3_cut_11 rfl (lv_at hl 2 rfl) ?_
      refine lv_iconst (v := 1) hx hb dX3_cut_12 (by decide) ?_
      refine lv_icmp_lt (tgt := 49) hx hb dX3_cut_13 (by decide) (fun q35 => ?_) (fun q35 => ?_)
      · have h := h.1 q35
        refine lv_iconst (v := 0) hx hb dX3_cut_49 (by decide) ?_
        refine lv_istore (lv' := [(6, .int (0 : Int32)), (0, .ref (b 0)), (1, .int a0), (2, .int a1), (3, .double a2), (5, .int a3)]) hx hb dX3_cut_50 hl (by decide) rfl (fun ls hl => ?_)
        refine lv_aload_n hx hb dX3_cut_52 rfl (lv_at hl 1 rfl) ?_
        refine lv_iload hx hb dX3_cut_53 (lv_at hl 0 rfl) ?_
        refine lv_if_ne (tgt := 62) hx hb dX3_cut_55 (by decide) (fun q51 => ?_) (fun q51 => ?_)
        · exact absurd q51 (by decide)
        · refine lv_iconst (v := 1) hx hb dX3_cut_58 (by decide) ?_
          refine lv_goto (tgt := 76) hx hb dX3_cut_59 (by decide) ?_
          refine r_callV (q0 := 0) (ci := 3) (rest := []) (c_X3_refuses (b := b) C.hZ h) C hp mf_X3_refuses km_X3_83 hl.1 dX3_cut_76 rfl rfl ⟨lb rfl, lb rfl, lb rfl, lb rfl⟩ rfl rfl (lb rfl) (fun v w1 H locs hv hp => ?_)
          obtain ⟨r37, S36, rfl, rfl, h⟩ := hv
          refine W.eq (g2 := F0 m 79 ls [.int r37]) rfl ?_
          refine lv_if_eq (tgt := 84) hx hb dX3_cut_79 (by decide) (fun q38 => ?_) (fun q38 => ?_)
          · have h := h.1 q38
            refine lv_aload_n hx hb dX3_cut_84 rfl (lv_at hl 1 rfl) ?_
            refine gM_wagons C hp dX3_cut_85 ?_
            refine lv_aload_n hx hb dX3_cut_88 rfl (lv_at hl 1 rfl) ?_
            refine gM_cuts C hp dX3_cut_89 ?_
            refine lv_iload_n hx hb dX3_cut_92 rfl (lv_at hl 2 rfl) ?_
            obtain ⟨g39, h⟩ := h
            refine uM_wagons C hp dX3_cut_93 g39 (fun H locs hp => ?_)
            obtain ⟨S40, eS40⟩ : ∃ z : MS, z = Ms_wagons S36 (upd (M_wagons S36) (M_cuts S36).toNatClampNeg a0) := ⟨_, rfl⟩
            rw [← eS40] at hp
            have h := h S40 eS40
            refine lv_aload_n hx hb dX3_cut_94 rfl (lv_at hl 1 rfl) ?_
            refine gM_tons C hp dX3_cut_95 ?_
            refine lv_aload_n hx hb dX3_cut_98 rfl (lv_at hl 1 rfl) ?_
            refine gM_cuts C hp dX3_cut_99 ?_
            refine lv_iload_n hx hb dX3_cut_102 rfl (lv_at hl 3 rfl) ?_
            obtain ⟨g41, h⟩ := h
            refine uM_tons C hp dX3_cut_103 g41 (fun H locs hp => ?_)
            obtain ⟨S42, eS42⟩ : ∃ z : MS, z = Ms_tons S40 (upd (M_tons S40) (M_cuts S40).toNatClampNeg a1) := ⟨_, rfl⟩
            rw [← eS42] at hp
            have h := h S42 eS42
            refine lv_aload_n hx hb dX3_cut_104 rfl (lv_at hl 1 rfl) ?_
            refine gM_resistance C hp dX3_cut_105 ?_
            refine lv_aload_n hx hb dX3_cut_108 rfl (lv_at hl 1 rfl) ?_
            refine gM_cuts C hp dX3_cut_109 ?_
            refine lv_dload_n hx hb dX3_cut_112 rfl (lv_at hl 4 rfl) ?_
            obtain ⟨g43, h⟩ := h
            refine uM_resistance C hp dX3_cut_113 g43 (fun H locs hp => ?_)
            obtain ⟨S44, eS44⟩ : ∃ z : MS, z = Ms_resistance S42 (vf_upd (M_resistance S42) (M_cuts S42).toNatClampNeg a2) := ⟨_, rfl⟩
            rw [← eS44] at hp
            have h := h S44 eS44
            refine lv_aload_n hx hb dX3_cut_114 rfl (lv_at hl 1 rfl) ?_
            refine gM_wished C hp dX3_cut_115 ?_
            refine lv_aload_n hx hb dX3_cut_118 rfl (lv_at hl 1 rfl) ?_
            refine gM_cuts C hp dX3_cut_119 ?_
            refine lv_iload hx hb dX3_cut_122 (lv_at hl 5 rfl) ?_
            obtain ⟨g45, h⟩ := h
            refine uM_wished C hp dX3_cut_124 g45 (fun H locs hp => ?_)
            obtain ⟨S46, eS46⟩ : ∃ z : MS, z = Ms_wished S44 (upd (M_wished S44) (M_cuts S44).toNatClampNeg a3) := ⟨_, rfl⟩
            rw [← eS46] at hp
            have h := h S46 eS46
            refine lv_aload_n hx hb dX3_cut_125 rfl (lv_at hl 1 rfl) ?_
            refine gM_caught C hp dX3_cut_126 ?_
            refine lv_aload_n hx hb dX3_cut_129 rfl (lv_at hl 1 rfl) ?_
            refine gM_cuts C hp dX3_cut_130 ?_
            refine lv_iconst (v := -1) hx hb dX3_cut_133 (by decide) ?_
            obtain ⟨g47, h⟩ := h
            refine uM_caught C hp dX3_cut_134 g47 (fun H locs hp => ?_)
            obtain ⟨S48, eS48⟩ : ∃ z : MS, z = Ms_caught S46 (upd (M_caught S46) (M_cuts S46).toNatClampNeg (-1 : Int32)) := ⟨_, rfl⟩
            rw [← eS48] at hp
            have h := h S48 eS48
            refine lv_aload_n hx hb dX3_cut_135 rfl (lv_at hl 1 rfl) ?_
            refine lv_dup hx hb dX3_cut_136 rfl ?_
            refine gM_cuts C hp dX3_cut_137 ?_
            refine lv_iconst (v := 1) hx hb dX3_cut_140 (by decide) ?_
            refine lv_iadd hx hb dX3_cut_141 ?_
            refine lv_topi (fun x49 ex49 => ?_)
            have h := h x49 ex49
            refine pM_cuts C hp dX3_cut_142 (fun H locs hp => ?_)
            obtain ⟨S50, eS50⟩ : ∃ z : MS, z = Ms_cuts S48 x49 := ⟨_, rfl⟩
            rw [← eS50] at hp
            have h := h S50 eS50
            refine lv_aload_n hx hb dX3_cut_145 rfl (lv_at hl 1 rfl) ?_
            refine gM_cuts C hp dX3_cut_146 ?_
            refine lv_iconst (v := 1) hx hb dX3_cut_149 (by decide) ?_
            refine lv_isub hx hb dX3_cut_150 ?_
            exact r_iret C hp dX3_cut_151 ⟨_, _, rfl, rfl, h⟩
          · have h := h.2 q38
            refine lv_iconst (v := 0) hx hb dX3_cut_82 (by decide) ?_
            exact r_iret C hp dX3_cut_83 ⟨_, _, rfl, rfl, h⟩
      · have h := h.2 q35
        refine lv_iload_n hx hb dX3_cut_16 rfl (lv_at hl 2 rfl) ?_
        refine lv_bipush (v := 90) hx hb dX3_cut_17 (by decide) ?_
        refine lv_icmp_gt (tgt := 49) hx hb dX3_cut_19 (by decide) (fun q52 => ?_) (fun q52 => ?_)
        · have h := h.1 q52
          refine lv_iconst (v := 0) hx hb dX3_cut_49 (by decide) ?_
          refine lv_istore (lv' := [(6, .int (0 : Int32)), (0, .ref (b 0)), (1, .int a0), (2, .int a1), (3, .double a2), (5, .int a3)]) hx hb dX3_cut_50 hl (by decide) rfl (fun ls hl => ?_)
          refine lv_aload_n hx hb dX3_cut_52 rfl (lv_at hl 1 rfl) ?_
          refine lv_iload hx hb dX3_cut_53 (lv_at hl 0 rfl) ?_
          refine lv_if_ne (tgt := 62) hx hb dX3_cut_55 (by decide) (fun q68 => ?_) (fun q68 => ?_)
          · exact absurd q68 (by decide)
          · refine lv_iconst (v := 1) hx hb dX3_cut_58 (by decide) ?_
            refine lv_goto (tgt := 76) hx hb dX3_cut_59 (by decide) ?_
            refine r_callV (q0 := 0) (ci := 3) (rest := []) (c_X3_refuses (b := b) C.hZ h) C hp mf_X3_refuses km_X3_83 hl.1 dX3_cut_76 rfl rfl ⟨lb rfl, lb rfl, lb rfl, lb rfl⟩ rfl rfl (lb rfl) (fun v w1 H locs hv hp => ?_)
            obtain ⟨r54, S53, rfl, rfl, h⟩ := hv
            refine W.eq (g2 := F0 m 79 ls [.int r54]) rfl ?_
            refine lv_if_eq (tgt := 84) hx hb dX3_cut_79 (by decide) (fun q55 => ?_) (fun q55 => ?_)
            · have h := h.1 q55
              refine lv_aload_n hx hb dX3_cut_84 rfl (lv_at hl 1 rfl) ?_
              refine gM_wagons C hp dX3_cut_85 ?_
              refine lv_aload_n hx hb dX3_cut_88 rfl (lv_at hl 1 rfl) ?_
              refine gM_cuts C hp dX3_cut_89 ?_
              refine lv_iload_n hx hb dX3_cut_92 rfl (lv_at hl 2 rfl) ?_
              obtain ⟨g56, h⟩ := h
              refine uM_wagons C hp dX3_cut_93 g56 (fun H locs hp => ?_)
              obtain ⟨S57, eS57⟩ : ∃ z : MS, z = Ms_wagons S53 (upd (M_wagons S53) (M_cuts S53).toNatClampNeg a0) := ⟨_, rfl⟩
              rw [← eS57] at hp
              have h := h S57 eS57
              refine lv_aload_n hx hb dX3_cut_94 rfl (lv_at hl 1 rfl) ?_
              refine gM_tons C hp dX3_cut_95 ?_
              refine lv_aload_n hx hb dX3_cut_98 rfl (lv_at hl 1 rfl) ?_
              refine gM_cuts C hp dX3_cut_99 ?_
              refine lv_iload_n hx hb dX3_cut_102 rfl (lv_at hl 3 rfl) ?_
              obtain ⟨g58, h⟩ := h
              refine uM_tons C hp dX3_cut_103 g58 (fun H locs hp => ?_)
              obtain ⟨S59, eS59⟩ : ∃ z : MS, z = Ms_tons S57 (upd (M_tons S57) (M_cuts S57).toNatClampNeg a1) := ⟨_, rfl⟩
              rw [← eS59] at hp
              have h := h S59 eS59
              refine lv_aload_n hx hb dX3_cut_104 rfl (lv_at hl 1 rfl) ?_
              refine gM_resistance C hp dX3_cut_105 ?_
              refine lv_aload_n hx hb dX3_cut_108 rfl (lv_at hl 1 rfl) ?_
              refine gM_cuts C hp dX3_cut_109 ?_
              refine lv_dload_n hx hb dX3_cut_112 rfl (lv_at hl 4 rfl) ?_
              obtain ⟨g60, h⟩ := h
              refine uM_resistance C hp dX3_cut_113 g60 (fun H locs hp => ?_)
              obtain ⟨S61, eS61⟩ : ∃ z : MS, z = Ms_resistance S59 (vf_upd (M_resistance S59) (M_cuts S59).toNatClampNeg a2) := ⟨_, rfl⟩
              rw [← eS61] at hp
              have h := h S61 eS61
              refine lv_aload_n hx hb dX3_cut_114 rfl (lv_at hl 1 rfl) ?_
              refine gM_wished C hp dX3_cut_115 ?_
              refine lv_aload_n hx hb dX3_cut_118 rfl (lv_at hl 1 rfl) ?_
              refine gM_cuts C hp dX3_cut_119 ?_
              refine lv_iload hx hb dX3_cut_122 (lv_at hl 5 rfl) ?_
              obtain ⟨g62, h⟩ := h
              refine uM_wished C hp dX3_cut_124 g62 (fun H locs hp => ?_)
              obtain ⟨S63, eS63⟩ : ∃ z : MS, z = Ms_wished S61 (upd (M_wished S61) (M_cuts S61).toNatClampNeg a3) := ⟨_, rfl⟩
              rw [← eS63] at hp
              have h := h S63 eS63
              refine lv_aload_n hx hb dX3_cut_125 rfl (lv_at hl 1 rfl) ?_
              refine gM_caught C hp dX3_cut_126 ?_
              refine lv_aload_n hx hb dX3_cut_129 rfl (lv_at hl 1 rfl) ?_
              refine gM_cuts C hp dX3_cut_130 ?_
              refine lv_iconst (v := -1) hx hb dX3_cut_133 (by decide) ?_
              obtain ⟨g64, h⟩ := h
              refine uM_caught C hp dX3_cut_134 g64 (fun H locs hp => ?_)
              obtain ⟨S65, eS65⟩ : ∃ z : MS, z = Ms_caught S63 (upd (M_caught S63) (M_cuts S63).toNatClampNeg (-1 : Int32)) := ⟨_, rfl⟩
              rw [← eS65] at hp
              have h := h S65 eS65
              refine lv_aload_n hx hb dX3_cut_135 rfl (lv_at hl 1 rfl) ?_
              refine lv_dup hx hb dX3_cut_136 rfl ?_
              refine gM_cuts C hp dX3_cut_137 ?_
              refine lv_iconst (v := 1) hx hb dX3_cut_140 (by decide) ?_
              refine lv_iadd hx hb dX3_cut_141 ?_
              refine lv_topi (fun x66 ex66 => ?_)
              have h := h x66 ex66
              refine pM_cuts C hp dX3_cut_142 (fun H locs hp => ?_)
              obtain ⟨S67, eS67⟩ : ∃ z : MS, z = Ms_cuts S65 x66 := ⟨_, rfl⟩
              rw [← eS67] at hp
              have h := h S67 eS67
              refine lv_aload_n hx hb dX3_cut_145 rfl (lv_at hl 1 rfl) ?_
              refine gM_cuts C hp dX3_cut_146 ?_
              refine lv_iconst (v := 1) hx hb dX3_cut_149 (by decide) ?_
              refine lv_isub hx hb dX3_cut_150 ?_
              exact r_iret C hp dX3_cut_151 ⟨_, _, rfl, rfl, h⟩
            · have h := h.2 q55
              refine lv_iconst (v := 0) hx hb dX3_cut_82 (by decide) ?_
              exact r_iret C hp dX3_cut_83 ⟨_, _, rfl, rfl, h⟩
        · have h := h.2 q52
          refine lv_dload_n hx hb dX3_cut_22 rfl (lv_at hl 3 rfl) ?_
          refine lv_dconst0 hx hb dX3_cut_23 ?_
          refine lv_ldc2d hx hb C.hown (C.hts _ kd_X3_74) dX3_cut_24 ?_
          refine r_callS (rest := []) (c_X3_isIn C.hZ h) C hp mf_X3_isIn km_X3_76 hl.1 dX3_cut_27 ⟨lb rfl, lb rfl, lb rfl, lb rfl⟩ rfl rfl (lb rfl) (fun v w1 H locs hv hp => ?_)
          obtain ⟨r69, rfl, rfl, h⟩ := hv
          refine W.eq (g2 := F0 m 30 ls [.int r69]) rfl ?_
          refine lv_if_eq (tgt := 49) hx hb dX3_cut_30 (by decide) (fun q70 => ?_) (fun q70 => ?_)
          · have h := h.1 q70
            refine lv_iconst (v := 0) hx hb dX3_cut_49 (by decide) ?_
            refine lv_istore (lv' := [(6, .int (0 : Int32)), (0, .ref (b 0)), (1, .int a0), (2, .int a1), (3, .double a2), (5, .int a3)]) hx hb dX3_cut_50 hl (by decide) rfl (fun ls hl => ?_)
            refine lv_aload_n hx hb dX3_cut_52 rfl (lv_at hl 1 rfl) ?_
            refine lv_iload hx hb dX3_cut_53 (lv_at hl 0 rfl) ?_
            refine lv_if_ne (tgt := 62) hx hb dX3_cut_55 (by decide) (fun q86 => ?_) (fun q86 => ?_)
            · exact absurd q86 (by decide)
            · refine lv_iconst (v := 1) hx hb dX3_cut_58 (by decide) ?_
              refine lv_goto (tgt := 76) hx hb dX3_cut_59 (by decide) ?_
              refine r_callV (q0 := 0) (ci := 3) (rest := []) (c_X3_refuses (b := b) C.hZ h) C hp mf_X3_refuses km_X3_83 hl.1 dX3_cut_76 rfl rfl ⟨lb rfl, lb rfl, lb rfl, lb rfl⟩ rfl rfl (lb rfl) (fun v w1 H locs hv hp => ?_)
              obtain ⟨r72, S71, rfl, rfl, h⟩ := hv
              refine W.eq (g2 := F0 m 79 ls [.int r72]) rfl ?_
              refine lv_if_eq (tgt := 84) hx hb dX3_cut_79 (by decide) (fun q73 => ?_) (fun q73 => ?_)
              · have h := h.1 q73
                refine lv_aload_n hx hb dX3_cut_84 rfl (lv_at hl 1 rfl) ?_
                refine gM_wagons C hp dX3_cut_85 ?_
                refine lv_aload_n hx hb dX3_cut_88 rfl (lv_at hl 1 rfl) ?_
                refine gM_cuts C hp dX3_cut_89 ?_
                refine lv_iload_n hx hb dX3_cut_92 rfl (lv_at hl 2 rfl) ?_
                obtain ⟨g74, h⟩ := h
                refine uM_wagons C hp dX3_cut_93 g74 (fun H locs hp => ?_)
                obtain ⟨S75, eS75⟩ : ∃ z : MS, z = Ms_wagons S71 (upd (M_wagons S71) (M_cuts S71).toNatClampNeg a0) := ⟨_, rfl⟩
                rw [← eS75] at hp
                have h := h S75 eS75
                refine lv_aload_n hx hb dX3_cut_94 rfl (lv_at hl 1 rfl) ?_
                refine gM_tons C hp dX3_cut_95 ?_
                refine lv_aload_n hx hb dX3_cut_98 rfl (lv_at hl 1 rfl) ?_
                refine gM_cuts C hp dX3_cut_99 ?_
                refine lv_iload_n hx hb dX3_cut_102 rfl (lv_at hl 3 rfl) ?_
                obtain ⟨g76, h⟩ := h
                refine uM_tons C hp dX3_cut_103 g76 (fun H locs hp => ?_)
                obtain ⟨S77, eS77⟩ : ∃ z : MS, z = Ms_tons S75 (upd (M_tons S75) (M_cuts S75).toNatClampNeg a1) := ⟨_, rfl⟩
                rw [← eS77] at hp
                have h := h S77 eS77
                refine lv_aload_n hx hb dX3_cut_104 rfl (lv_at hl 1 rfl) ?_
                refine gM_resistance C hp dX3_cut_105 ?_
                refine lv_aload_n hx hb dX3_cut_108 rfl (lv_at hl 1 rfl) ?_
                refine gM_cuts C hp dX3_cut_109 ?_
                refine lv_dload_n hx hb dX3_cut_112 rfl (lv_at hl 4 rfl) ?_
                obtain ⟨g78, h⟩ := h
                refine uM_resistance C hp dX3_cut_113 g78 (fun H locs hp => ?_)
                obtain ⟨S79, eS79⟩ : ∃ z : MS, z = Ms_resistance S77 (vf_upd (M_resistance S77) (M_cuts S77).toNatClampNeg a2) := ⟨_, rfl⟩
                rw [← eS79] at hp
                have h := h S79 eS79
                refine lv_aload_n hx hb dX3_cut_114 rfl (lv_at hl 1 rfl) ?_
                refine gM_wished C hp dX3_cut_115 ?_
                refine lv_aload_n hx hb dX3_cut_118 rfl (lv_at hl 1 rfl) ?_
                refine gM_cuts C hp dX3_cut_119 ?_
                refine lv_iload hx hb dX3_cut_122 (lv_at hl 5 rfl) ?_
                obtain ⟨g80, h⟩ := h
                refine uM_wished C hp dX3_cut_124 g80 (fun H locs hp => ?_)
                obtain ⟨S81, eS81⟩ : ∃ z : MS, z = Ms_wished S79 (upd (M_wished S79) (M_cuts S79).toNatClampNeg a3) := ⟨_, rfl⟩
                rw [← eS81] at hp
                have h := h S81 eS81
                refine lv_aload_n hx hb dX3_cut_125 rfl (lv_at hl 1 rfl) ?_
                refine gM_caught C hp dX3_cut_126 ?_
                refine lv_aload_n hx hb dX3_cut_129 rfl (lv_at hl 1 rfl) ?_
                refine gM_cuts C hp dX3_cut_130 ?_
                refine lv_iconst (v := -1) hx hb dX3_cut_133 (by decide) ?_
                obtain ⟨g82, h⟩ := h
                refine uM_caught C hp dX3_cut_134 g82 (fun H locs hp => ?_)
                obtain ⟨S83, eS83⟩ : ∃ z : MS, z = Ms_caught S81 (upd (M_caught S81) (M_cuts S81).toNatClampNeg (-1 : Int32)) := ⟨_, rfl⟩
                rw [← eS83] at hp
                have h := h S83 eS83
                refine lv_aload_n hx hb dX3_cut_135 rfl (lv_at hl 1 rfl) ?_
                refine lv_dup hx hb dX3_cut_136 rfl ?_
                refine gM_cuts C hp dX3_cut_137 ?_
                refine lv_iconst (v := 1) hx hb dX3_cut_140 (by decide) ?_
                refine lv_iadd hx hb dX3_cut_141 ?_
                refine lv_topi (fun x84 ex84 => ?_)
                have h := h x84 ex84
                refine pM_cuts C hp dX3_cut_142 (fun H locs hp => ?_)
                obtain ⟨S85, eS85⟩ : ∃ z : MS, z = Ms_cuts S83 x84 := ⟨_, rfl⟩
                rw [← eS85] at hp
                have h := h S85 eS85
                refine lv_aload_n hx hb dX3_cut_145 rfl (lv_at hl 1 rfl) ?_
                refine gM_cuts C hp dX3_cut_146 ?_
                refine lv_iconst (v := 1) hx hb dX3_cut_149 (by decide) ?_
                refine lv_isub hx hb dX3_cut_150 ?_
                exact r_iret C hp dX3_cut_151 ⟨_, _, rfl, rfl, h⟩
              · have h := h.2 q73
                refine lv_iconst (v := 0) hx hb dX3_cut_82 (by decide) ?_
                exact r_iret C hp dX3_cut_83 ⟨_, _, rfl, rfl, h⟩
          · have h := h.2 q70
            refine lv_iload hx hb dX3_cut_33 (lv_at hl 4 rfl) ?_
            refine lv_if_lt (tgt := 49) hx hb dX3_cut_35 (by decide) (fun q87 => ?_) (fun q87 => ?_)
            · have h := h.1 q87
              refine lv_iconst (v := 0) hx hb dX3_cut_49 (by decide) ?_
              refine lv_istore (lv' := [(6, .int (0 : Int32)), (0, .ref (b 0)), (1, .int a0), (2, .int a1), (3, .double a2), (5, .int a3)]) hx hb dX3_cut_50 hl (by decide) rfl (fun ls hl => ?_)
              refine lv_aload_n hx hb dX3_cut_52 rfl (lv_at hl 1 rfl) ?_
              refine lv_iload hx hb dX3_cut_53 (lv_at hl 0 rfl) ?_
              refine lv_if_ne (tgt := 62) hx hb dX3_cut_55 (by decide) (fun q103 => ?_) (fun q103 => ?_)
              · exact absurd q103 (by decide)
              · refine lv_iconst (v := 1) hx hb dX3_cut_58 (by decide) ?_
                refine lv_goto (tgt := 76) hx hb dX3_cut_59 (by decide) ?_
                refine r_callV (q0 := 0) (ci := 3) (rest := []) (c_X3_refuses (b := b) C.hZ h) C hp mf_X3_refuses km_X3_83 hl.1 dX3_cut_76 rfl rfl ⟨lb rfl, lb rfl, lb rfl, lb rfl⟩ rfl rfl (lb rfl) (fun v w1 H locs hv hp => ?_)
                obtain ⟨r89, S88, rfl, rfl, h⟩ := hv
                refine W.eq (g2 := F0 m 79 ls [.int r89]) rfl ?_
                refine lv_if_eq (tgt := 84) hx hb dX3_cut_79 (by decide) (fun q90 => ?_) (fun q90 => ?_)
                · have h := h.1 q90
                  refine lv_aload_n hx hb dX3_cut_84 rfl (lv_at hl 1 rfl) ?_
                  refine gM_wagons C hp dX3_cut_85 ?_
                  refine lv_aload_n hx hb dX3_cut_88 rfl (lv_at hl 1 rfl) ?_
                  refine gM_cuts C hp dX3_cut_89 ?_
                  refine lv_iload_n hx hb dX3_cut_92 rfl (lv_at hl 2 rfl) ?_
                  obtain ⟨g91, h⟩ := h
                  refine uM_wagons C hp dX3_cut_93 g91 (fun H locs hp => ?_)
                  obtain ⟨S92, eS92⟩ : ∃ z : MS, z = Ms_wagons S88 (upd (M_wagons S88) (M_cuts S88).toNatClampNeg a0) := ⟨_, rfl⟩
                  rw [← eS92] at hp
                  have h := h S92 eS92
                  refine lv_aload_n hx hb dX3_cut_94 rfl (lv_at hl 1 rfl) ?_
                  refine gM_tons C hp dX3_cut_95 ?_
                  refine lv_aload_n hx hb dX3_cut_98 rfl (lv_at hl 1 rfl) ?_
                  refine gM_cuts C hp dX3_cut_99 ?_
                  refine lv_iload_n hx hb dX3_cut_102 rfl (lv_at hl 3 rfl) ?_
                  obtain ⟨g93, h⟩ := h
                  refine uM_tons C hp dX3_cut_103 g93 (fun H locs hp => ?_)
                  obtain ⟨S94, eS94⟩ : ∃ z : MS, z = Ms_tons S92 (upd (M_tons S92) (M_cuts S92).toNatClampNeg a1) := ⟨_, rfl⟩
                  rw [← eS94] at hp
                  have h := h S94 eS94
                  refine lv_aload_n hx hb dX3_cut_104 rfl (lv_at hl 1 rfl) ?_
                  refine gM_resistance C hp dX3_cut_105 ?_
                  refine lv_aload_n hx hb dX3_cut_108 rfl (lv_at hl 1 rfl) ?_
                  refine gM_cuts C hp dX3_cut_109 ?_
                  refine lv_dload_n hx hb dX3_cut_112 rfl (lv_at hl 4 rfl) ?_
                  obtain ⟨g95, h⟩ := h
                  refine uM_resistance C hp dX3_cut_113 g95 (fun H locs hp => ?_)
                  obtain ⟨S96, eS96⟩ : ∃ z : MS, z = Ms_resistance S94 (vf_upd (M_resistance S94) (M_cuts S94).toNatClampNeg a2) := ⟨_, rfl⟩
                  rw [← eS96] at hp
                  have h := h S96 eS96
                  refine lv_aload_n hx hb dX3_cut_114 rfl (lv_at hl 1 rfl) ?_
                  refine gM_wished C hp dX3_cut_115 ?_
                  refine lv_aload_n hx hb dX3_cut_118 rfl (lv_at hl 1 rfl) ?_
                  refine gM_cuts C hp dX3_cut_119 ?_
                  refine lv_iload hx hb dX3_cut_122 (lv_at hl 5 rfl) ?_
                  obtain ⟨g97, h⟩ := h
                  refine uM_wished C hp dX3_cut_124 g97 (fun H locs hp => ?_)
                  obtain ⟨S98, eS98⟩ : ∃ z : MS, z = Ms_wished S96 (upd (M_wished S96) (M_cuts S96).toNatClampNeg a3) := ⟨_, rfl⟩
                  rw [← eS98] at hp
                  have h := h S98 eS98
                  refine lv_aload_n hx hb dX3_cut_125 rfl (lv_at hl 1 rfl) ?_
                  refine gM_caught C hp dX3_cut_126 ?_
                  refine lv_aload_n hx hb dX3_cut_129 rfl (lv_at hl 1 rfl) ?_
                  refine gM_cuts C hp dX3_cut_130 ?_
                  refine lv_iconst (v := -1) hx hb dX3_cut_133 (by decide) ?_
                  obtain ⟨g99, h⟩ := h
                  refine uM_caught C hp dX3_cut_134 g99 (fun H locs hp => ?_)
                  obtain ⟨S100, eS100⟩ : ∃ z : MS, z = Ms_caught S98 (upd (M_caught S98) (M_cuts S98).toNatClampNeg (-1 : Int32)) := ⟨_, rfl⟩
                  rw [← eS100] at hp
                  have h := h S100 eS100
                  refine lv_aload_n hx hb dX3_cut_135 rfl (lv_at hl 1 rfl) ?_
                  refine lv_dup hx hb dX3_cut_136 rfl ?_
                  refine gM_cuts C hp dX3_cut_137 ?_
                  refine lv_iconst (v := 1) hx hb dX3_cut_140 (by decide) ?_
                  refine lv_iadd hx hb dX3_cut_141 ?_
                  refine lv_topi (fun x101 ex101 => ?_)
                  have h := h x101 ex101
                  refine pM_cuts C hp dX3_cut_142 (fun H locs hp => ?_)
                  obtain ⟨S102, eS102⟩ : ∃ z : MS, z = Ms_cuts S100 x101 := ⟨_, rfl⟩
                  rw [← eS102] at hp
                  have h := h S102 eS102
                  refine lv_aload_n hx hb dX3_cut_145 rfl (lv_at hl 1 rfl) ?_
                  refine gM_cuts C hp dX3_cut_146 ?_
                  refine lv_iconst (v := 1) hx hb dX3_cut_149 (by decide) ?_
                  refine lv_isub hx hb dX3_cut_150 ?_
                  exact r_iret C hp dX3_cut_151 ⟨_, _, rfl, rfl, h⟩
                · have h := h.2 q90
                  refine lv_iconst (v := 0) hx hb dX3_cut_82 (by decide) ?_
                  exact r_iret C hp dX3_cut_83 ⟨_, _, rfl, rfl, h⟩
            · have h := h.2 q87
              refine lv_iload hx hb dX3_cut_38 (lv_at hl 4 rfl) ?_
              refine lv_bipush (v := 8) hx hb dX3_cut_40 (by decide) ?_
              refine lv_icmp_ge (tgt := 49) hx hb dX3_cut_42 (by decide) (fun q104 => ?_) (fun q104 => ?_)
              · have h := h.1 q104
                refine lv_iconst (v := 0) hx hb dX3_cut_49 (by decide) ?_
                refine lv_istore (lv' := [(6, .int (0 : Int32)), (0, .ref (b 0)), (1, .int a0), (2, .int a1), (3, .double a2), (5, .int a3)]) hx hb dX3_cut_50 hl (by decide) rfl (fun ls hl => ?_)
                refine lv_aload_n hx hb dX3_cut_52 rfl (lv_at hl 1 rfl) ?_
                refine lv_iload hx hb dX3_cut_53 (lv_at hl 0 rfl) ?_
                refine lv_if_ne (tgt := 62) hx hb dX3_cut_55 (by decide) (fun q120 => ?_) (fun q120 => ?_)
                · exact absurd q120 (by decide)
                · refine lv_iconst (v := 1) hx hb dX3_cut_58 (by decide) ?_
                  refine lv_goto (tgt := 76) hx hb dX3_cut_59 (by decide) ?_
                  refine r_callV (q0 := 0) (ci := 3) (rest := []) (c_X3_refuses (b := b) C.hZ h) C hp mf_X3_refuses km_X3_83 hl.1 dX3_cut_76 rfl rfl ⟨lb rfl, lb rfl, lb rfl, lb rfl⟩ rfl rfl (lb rfl) (fun v w1 H locs hv hp => ?_)
                  obtain ⟨r106, S105, rfl, rfl, h⟩ := hv
                  refine W.eq (g2 := F0 m 79 ls [.int r106]) rfl ?_
                  refine lv_if_eq (tgt := 84) hx hb dX3_cut_79 (by decide) (fun q107 => ?_) (fun q107 => ?_)
                  · have h := h.1 q107
                    refine lv_aload_n hx hb dX3_cut_84 rfl (lv_at hl 1 rfl) ?_
                    refine gM_wagons C hp dX3_cut_85 ?_
                    refine lv_aload_n hx hb dX3_cut_88 rfl (lv_at hl 1 rfl) ?_
                    refine gM_cuts C hp dX3_cut_89 ?_
                    refine lv_iload_n hx hb dX3_cut_92 rfl (lv_at hl 2 rfl) ?_
                    obtain ⟨g108, h⟩ := h
                    refine uM_wagons C hp dX3_cut_93 g108 (fun H locs hp => ?_)
                    obtain ⟨S109, eS109⟩ : ∃ z : MS, z = Ms_wagons S105 (upd (M_wagons S105) (M_cuts S105).toNatClampNeg a0) := ⟨_, rfl⟩
                    rw [← eS109] at hp
                    have h := h S109 eS109
                    refine lv_aload_n hx hb dX3_cut_94 rfl (lv_at hl 1 rfl) ?_
                    refine gM_tons C hp dX3_cut_95 ?_
                    refine lv_aload_n hx hb dX3_cut_98 rfl (lv_at hl 1 rfl) ?_
                    refine gM_cuts C hp dX3_cut_99 ?_
                    refine lv_iload_n hx hb dX3_cut_102 rfl (lv_at hl 3 rfl) ?_
                    obtain ⟨g110, h⟩ := h
                    refine uM_tons C hp dX3_cut_103 g110 (fun H locs hp => ?_)
                    obtain ⟨S111, eS111⟩ : ∃ z : MS, z = Ms_tons S109 (upd (M_tons S109) (M_cuts S109).toNatClampNeg a1) := ⟨_, rfl⟩
                    rw [← eS111] at hp
                    have h := h S111 eS111
                    refine lv_aload_n hx hb dX3_cut_104 rfl (lv_at hl 1 rfl) ?_
                    refine gM_resistance C hp dX3_cut_105 ?_
                    refine lv_aload_n hx hb dX3_cut_108 rfl (lv_at hl 1 rfl) ?_
                    refine gM_cuts C hp dX3_cut_109 ?_
                    refine lv_dload_n hx hb dX3_cut_112 rfl (lv_at hl 4 rfl) ?_
                    obtain ⟨g112, h⟩ := h
                    refine uM_resistance C hp dX3_cut_113 g112 (fun H locs hp => ?_)
                    obtain ⟨S113, eS113⟩ : ∃ z : MS, z = Ms_resistance S111 (vf_upd (M_resistance S111) (M_cuts S111).toNatClampNeg a2) := ⟨_, rfl⟩
                    rw [← eS113] at hp
                    have h := h S113 eS113
                    refine lv_aload_n hx hb dX3_cut_114 rfl (lv_at hl 1 rfl) ?_
                    refine gM_wished C hp dX3_cut_115 ?_
                    refine lv_aload_n hx hb dX3_cut_118 rfl (lv_at hl 1 rfl) ?_
                    refine gM_cuts C hp dX3_cut_119 ?_
                    refine lv_iload hx hb dX3_cut_122 (lv_at hl 5 rfl) ?_
                    obtain ⟨g114, h⟩ := h
                    refine uM_wished C hp dX3_cut_124 g114 (fun H locs hp => ?_)
                    obtain ⟨S115, eS115⟩ : ∃ z : MS, z = Ms_wished S113 (upd (M_wished S113) (M_cuts S113).toNatClampNeg a3) := ⟨_, rfl⟩
                    rw [← eS115] at hp
                    have h := h S115 eS115
                    refine lv_aload_n hx hb dX3_cut_125 rfl (lv_at hl 1 rfl) ?_
                    refine gM_caught C hp dX3_cut_126 ?_
                    refine lv_aload_n hx hb dX3_cut_129 rfl (lv_at hl 1 rfl) ?_
                    refine gM_cuts C hp dX3_cut_130 ?_
                    refine lv_iconst (v := -1) hx hb dX3_cut_133 (by decide) ?_
                    obtain ⟨g116, h⟩ := h
                    refine uM_caught C hp dX3_cut_134 g116 (fun H locs hp => ?_)
                    obtain ⟨S117, eS117⟩ : ∃ z : MS, z = Ms_caught S115 (upd (M_caught S115) (M_cuts S115).toNatClampNeg (-1 : Int32)) := ⟨_, rfl⟩
                    rw [← eS117] at hp
                    have h := h S117 eS117
                    refine lv_aload_n hx hb dX3_cut_135 rfl (lv_at hl 1 rfl) ?_
                    refine lv_dup hx hb dX3_cut_136 rfl ?_
                    refine gM_cuts C hp dX3_cut_137 ?_
                    refine lv_iconst (v := 1) hx hb dX3_cut_140 (by decide) ?_
                    refine lv_iadd hx hb dX3_cut_141 ?_
                    refine lv_topi (fun x118 ex118 => ?_)
                    have h := h x118 ex118
                    refine pM_cuts C hp dX3_cut_142 (fun H locs hp => ?_)
                    obtain ⟨S119, eS119⟩ : ∃ z : MS, z = Ms_cuts S117 x118 := ⟨_, rfl⟩
                    rw [← eS119] at hp
                    have h := h S119 eS119
                    refine lv_aload_n hx hb dX3_cut_145 rfl (lv_at hl 1 rfl) ?_
                    refine gM_cuts C hp dX3_cut_146 ?_
                    refine lv_iconst (v := 1) hx hb dX3_cut_149 (by decide) ?_
                    refine lv_isub hx hb dX3_cut_150 ?_
                    exact r_iret C hp dX3_cut_151 ⟨_, _, rfl, rfl, h⟩
                  · have h := h.2 q107
                    refine lv_iconst (v := 0) hx hb dX3_cut_82 (by decide) ?_
                    exact r_iret C hp dX3_cut_83 ⟨_, _, rfl, rfl, h⟩
              · have h := h.2 q104
                refine lv_iconst (v := 1) hx hb dX3_cut_45 (by decide) ?_
                refine lv_goto (tgt := 50) hx hb dX3_cut_46 (by decide) ?_
                refine lv_istore (lv' := [(6, .int (1 : Int32)), (0, .ref (b 0)), (1, .int a0), (2, .int a1), (3, .double a2), (5, .int a3)]) hx hb dX3_cut_50 hl (by decide) rfl (fun ls hl => ?_)
                refine lv_aload_n hx hb dX3_cut_52 rfl (lv_at hl 1 rfl) ?_
                refine lv_iload hx hb dX3_cut_53 (lv_at hl 0 rfl) ?_
                refine lv_if_ne (tgt := 62) hx hb dX3_cut_55 (by decide) (fun q152 => ?_) (fun q152 => ?_)
                · refine lv_aload_n hx hb dX3_cut_62 rfl (lv_at hl 1 rfl) ?_
                  refine gM_cuts C hp dX3_cut_63 ?_
                  refine lv_bipush (v := 60) hx hb dX3_cut_66 (by decide) ?_
                  refine lv_icmp_ne (tgt := 75) hx hb dX3_cut_68 (by decide) (fun q121 => ?_) (fun q121 => ?_)
                  · have h := h.1 q121
                    refine lv_iconst (v := 0) hx hb dX3_cut_75 (by decide) ?_
                    refine r_callV (q0 := 0) (ci := 3) (rest := []) (c_X3_refuses (b := b) C.hZ h) C hp mf_X3_refuses km_X3_83 hl.1 dX3_cut_76 rfl rfl ⟨lb rfl, lb rfl, lb rfl, lb rfl⟩ rfl rfl (lb rfl) (fun v w1 H locs hv hp => ?_)
                    obtain ⟨r123, S122, rfl, rfl, h⟩ := hv
                    refine W.eq (g2 := F0 m 79 ls [.int r123]) rfl ?_
                    refine lv_if_eq (tgt := 84) hx hb dX3_cut_79 (by decide) (fun q124 => ?_) (fun q124 => ?_)
                    · have h := h.1 q124
                      refine lv_aload_n hx hb dX3_cut_84 rfl (lv_at hl 1 rfl) ?_
                      refine gM_wagons C hp dX3_cut_85 ?_
                      refine lv_aload_n hx hb dX3_cut_88 rfl (lv_at hl 1 rfl) ?_
                      refine gM_cuts C hp dX3_cut_89 ?_
                      refine lv_iload_n hx hb dX3_cut_92 rfl (lv_at hl 2 rfl) ?_
                      obtain ⟨g125, h⟩ := h
                      refine uM_wagons C hp dX3_cut_93 g125 (fun H locs hp => ?_)
                      obtain ⟨S126, eS126⟩ : ∃ z : MS, z = Ms_wagons S122 (upd (M_wagons S122) (M_cuts S122).toNatClampNeg a0) := ⟨_, rfl⟩
                      rw [← eS126] at hp
                      have h := h S126 eS126
                      refine lv_aload_n hx hb dX3_cut_94 rfl (lv_at hl 1 rfl) ?_
                      refine gM_tons C hp dX3_cut_95 ?_
                      refine lv_aload_n hx hb dX3_cut_98 rfl (lv_at hl 1 rfl) ?_
                      refine gM_cuts C hp dX3_cut_99 ?_
                      refine lv_iload_n hx hb dX3_cut_102 rfl (lv_at hl 3 rfl) ?_
                      obtain ⟨g127, h⟩ := h
                      refine uM_tons C hp dX3_cut_103 g127 (fun H locs hp => ?_)
                      obtain ⟨S128, eS128⟩ : ∃ z : MS, z = Ms_tons S126 (upd (M_tons S126) (M_cuts S126).toNatClampNeg a1) := ⟨_, rfl⟩
                      rw [← eS128] at hp
                      have h := h S128 eS128
                      refine lv_aload_n hx hb dX3_cut_104 rfl (lv_at hl 1 rfl) ?_
                      refine gM_resistance C hp dX3_cut_105 ?_
                      refine lv_aload_n hx hb dX3_cut_108 rfl (lv_at hl 1 rfl) ?_
                      refine gM_cuts C hp dX3_cut_109 ?_
                      refine lv_dload_n hx hb dX3_cut_112 rfl (lv_at hl 4 rfl) ?_
                      obtain ⟨g129, h⟩ := h
                      refine uM_resistance C hp dX3_cut_113 g129 (fun H locs hp => ?_)
                      obtain ⟨S130, eS130⟩ : ∃ z : MS, z = Ms_resistance S128 (vf_upd (M_resistance S128) (M_cuts S128).toNatClampNeg a2) := ⟨_, rfl⟩
                      rw [← eS130] at hp
                      have h := h S130 eS130
                      refine lv_aload_n hx hb dX3_cut_114 rfl (lv_at hl 1 rfl) ?_
                      refine gM_wished C hp dX3_cut_115 ?_
                      refine lv_aload_n hx hb dX3_cut_118 rfl (lv_at hl 1 rfl) ?_
                      refine gM_cuts C hp dX3_cut_119 ?_
                      refine lv_iload hx hb dX3_cut_122 (lv_at hl 5 rfl) ?_
                      obtain ⟨g131, h⟩ := h
                      refine uM_wished C hp dX3_cut_124 g131 (fun H locs hp => ?_)
                      obtain ⟨S132, eS132⟩ : ∃ z : MS, z = Ms_wished S130 (upd (M_wished S130) (M_cuts S130).toNatClampNeg a3) := ⟨_, rfl⟩
                      rw [← eS132] at hp
                      have h := h S132 eS132
                      refine lv_aload_n hx hb dX3_cut_125 rfl (lv_at hl 1 rfl) ?_
                      refine gM_caught C hp dX3_cut_126 ?_
                      refine lv_aload_n hx hb dX3_cut_129 rfl (lv_at hl 1 rfl) ?_
                      refine gM_cuts C hp dX3_cut_130 ?_
                      refine lv_iconst (v := -1) hx hb dX3_cut_133 (by decide) ?_
                      obtain ⟨g133, h⟩ := h
                      refine uM_caught C hp dX3_cut_134 g133 (fun H locs hp => ?_)
                      obtain ⟨S134, eS134⟩ : ∃ z : MS, z = Ms_caught S132 (upd (M_caught S132) (M_cuts S132).toNatClampNeg (-1 : Int32)) := ⟨_, rfl⟩
                      rw [← eS134] at hp
                      have h := h S134 eS134
                      refine lv_aload_n hx hb dX3_cut_135 rfl (lv_at hl 1 rfl) ?_
                      refine lv_dup hx hb dX3_cut_136 rfl ?_
                      refine gM_cuts C hp dX3_cut_137 ?_
                      refine lv_iconst (v := 1) hx hb dX3_cut_140 (by decide) ?_
                      refine lv_iadd hx hb dX3_cut_141 ?_
                      refine lv_topi (fun x135 ex135 => ?_)
                      have h := h x135 ex135
                      refine pM_cuts C hp dX3_cut_142 (fun H locs hp => ?_)
                      obtain ⟨S136, eS136⟩ : ∃ z : MS, z = Ms_cuts S134 x135 := ⟨_, rfl⟩
                      rw [← eS136] at hp
                      have h := h S136 eS136
                      refine lv_aload_n hx hb dX3_cut_145 rfl (lv_at hl 1 rfl) ?_
                      refine gM_cuts C hp dX3_cut_146 ?_
                      refine lv_iconst (v := 1) hx hb dX3_cut_149 (by decide) ?_
                      refine lv_isub hx hb dX3_cut_150 ?_
                      exact r_iret C hp dX3_cut_151 ⟨_, _, rfl, rfl, h⟩
                    · have h := h.2 q124
                      refine lv_iconst (v := 0) hx hb dX3_cut_82 (by decide) ?_
                      exact r_iret C hp dX3_cut_83 ⟨_, _, rfl, rfl, h⟩
                  · have h := h.2 q121
                    refine lv_iconst (v := 2) hx hb dX3_cut_71 (by decide) ?_
                    refine lv_goto (tgt := 76) hx hb dX3_cut_72 (by decide) ?_
                    refine r_callV (q0 := 0) (ci := 3) (rest := []) (c_X3_refuses (b := b) C.hZ h) C hp mf_X3_refuses km_X3_83 hl.1 dX3_cut_76 rfl rfl ⟨lb rfl, lb rfl, lb rfl, lb rfl⟩ rfl rfl (lb rfl) (fun v w1 H locs hv hp => ?_)
                    obtain ⟨r138, S137, rfl, rfl, h⟩ := hv
                    refine W.eq (g2 := F0 m 79 ls [.int r138]) rfl ?_
                    refine lv_if_eq (tgt := 84) hx hb dX3_cut_79 (by decide) (fun q139 => ?_) (fun q139 => ?_)
                    · have h := h.1 q139
                      refine lv_aload_n hx hb dX3_cut_84 rfl (lv_at hl 1 rfl) ?_
                      refine gM_wagons C hp dX3_cut_85 ?_
                      refine lv_aload_n hx hb dX3_cut_88 rfl (lv_at hl 1 rfl) ?_
                      refine gM_cuts C hp dX3_cut_89 ?_
                      refine lv_iload_n hx hb dX3_cut_92 rfl (lv_at hl 2 rfl) ?_
                      obtain ⟨g140, h⟩ := h
                      refine uM_wagons C hp dX3_cut_93 g140 (fun H locs hp => ?_)
                      obtain ⟨S141, eS141⟩ : ∃ z : MS, z = Ms_wagons S137 (upd (M_wagons S137) (M_cuts S137).toNatClampNeg a0) := ⟨_, rfl⟩
                      rw [← eS141] at hp
                      have h := h S141 eS141
                      refine lv_aload_n hx hb dX3_cut_94 rfl (lv_at hl 1 rfl) ?_
                      refine gM_tons C hp dX3_cut_95 ?_
                      refine lv_aload_n hx hb dX3_cut_98 rfl (lv_at hl 1 rfl) ?_
                      refine gM_cuts C hp dX3_cut_99 ?_
                      refine lv_iload_n hx hb dX3_cut_102 rfl (lv_at hl 3 rfl) ?_
                      obtain ⟨g142, h⟩ := h
                      refine uM_tons C hp dX3_cut_103 g142 (fun H locs hp => ?_)
                      obtain ⟨S143, eS143⟩ : ∃ z : MS, z = Ms_tons S141 (upd (M_tons S141) (M_cuts S141).toNatClampNeg a1) := ⟨_, rfl⟩
                      rw [← eS143] at hp
                      have h := h S143 eS143
                      refine lv_aload_n hx hb dX3_cut_104 rfl (lv_at hl 1 rfl) ?_
                      refine gM_resistance C hp dX3_cut_105 ?_
                      refine lv_aload_n hx hb dX3_cut_108 rfl (lv_at hl 1 rfl) ?_
                      refine gM_cuts C hp dX3_cut_109 ?_
                      refine lv_dload_n hx hb dX3_cut_112 rfl (lv_at hl 4 rfl) ?_
                      obtain ⟨g144, h⟩ := h
                      refine uM_resistance C hp dX3_cut_113 g144 (fun H locs hp => ?_)
                      obtain ⟨S145, eS145⟩ : ∃ z : MS, z = Ms_resistance S143 (vf_upd (M_resistance S143) (M_cuts S143).toNatClampNeg a2) := ⟨_, rfl⟩
                      rw [← eS145] at hp
                      have h := h S145 eS145
                      refine lv_aload_n hx hb dX3_cut_114 rfl (lv_at hl 1 rfl) ?_
                      refine gM_wished C hp dX3_cut_115 ?_
                      refine lv_aload_n hx hb dX3_cut_118 rfl (lv_at hl 1 rfl) ?_
                      refine gM_cuts C hp dX3_cut_119 ?_
                      refine lv_iload hx hb dX3_cut_122 (lv_at hl 5 rfl) ?_
                      obtain ⟨g146, h⟩ := h
                      refine uM_wished C hp dX3_cut_124 g146 (fun H locs hp => ?_)
                      obtain ⟨S147, eS147⟩ : ∃ z : MS, z = Ms_wished S145 (upd (M_wished S145) (M_cuts S145).toNatClampNeg a3) := ⟨_, rfl⟩
                      rw [← eS147] at hp
                      have h := h S147 eS147
                      refine lv_aload_n hx hb dX3_cut_125 rfl (lv_at hl 1 rfl) ?_
                      refine gM_caught C hp dX3_cut_126 ?_
                      refine lv_aload_n hx hb dX3_cut_129 rfl (lv_at hl 1 rfl) ?_
                      refine gM_cuts C hp dX3_cut_130 ?_
                      refine lv_iconst (v := -1) hx hb dX3_cut_133 (by decide) ?_
                      obtain ⟨g148, h⟩ := h
                      refine uM_caught C hp dX3_cut_134 g148 (fun H locs hp => ?_)
                      obtain ⟨S149, eS149⟩ : ∃ z : MS, z = Ms_caught S147 (upd (M_caught S147) (M_cuts S147).toNatClampNeg (-1 : Int32)) := ⟨_, rfl⟩
                      rw [← eS149] at hp
                      have h := h S149 eS149
                      refine lv_aload_n hx hb dX3_cut_135 rfl (lv_at hl 1 rfl) ?_
                      refine lv_dup hx hb dX3_cut_136 rfl ?_
                      refine gM_cuts C hp dX3_cut_137 ?_
                      refine lv_iconst (v := 1) hx hb dX3_cut_140 (by decide) ?_
                      refine lv_iadd hx hb dX3_cut_141 ?_
                      refine lv_topi (fun x150 ex150 => ?_)
                      have h := h x150 ex150
                      refine pM_cuts C hp dX3_cut_142 (fun H locs hp => ?_)
                      obtain ⟨S151, eS151⟩ : ∃ z : MS, z = Ms_cuts S149 x150 := ⟨_, rfl⟩
                      rw [← eS151] at hp
                      have h := h S151 eS151
                      refine lv_aload_n hx hb dX3_cut_145 rfl (lv_at hl 1 rfl) ?_
                      refine gM_cuts C hp dX3_cut_146 ?_
                      refine lv_iconst (v := 1) hx hb dX3_cut_149 (by decide) ?_
                      refine lv_isub hx hb dX3_cut_150 ?_
                      exact r_iret C hp dX3_cut_151 ⟨_, _, rfl, rfl, h⟩
                    · have h := h.2 q139
                      refine lv_iconst (v := 0) hx hb dX3_cut_82 (by decide) ?_
                      exact r_iret C hp dX3_cut_83 ⟨_, _, rfl, rfl, h⟩
                · exact absurd q152 (by decide)
theorem mf_X3_cut : MFv yX3_cut cX3_cut 7 (some .int) 4 := ⟨kc_X3_cut, kn_X3_cut, kv_X3_cut, ki_X3, by decide +kernel⟩

/-! X3_push -/
def wp_X3_push (a0 : UInt64) (S : MS) (post : UInt64 → MS → Prop) : Prop :=
  wp_X3_isIn a0 FP.dconst0 (4616189618054758400 : UInt64) (fun r1 =>
    ((r1 = 0 →
      wp_X3_refuses (1 : Int32) S (fun r4 S3 =>
        ((r4 = 0 →
          ∀ x6 : UInt64, x6 = M_push S3 →
            ∀ S7 : MS, S7 = Ms_push S3 a0 →
              post x6 S7
        ) ∧
        (¬ r4 = 0 →
          post FP.dconst0 S3
        ))
      )
    ) ∧
    (¬ r1 = 0 →
      wp_X3_refuses (0 : Int32) S (fun r9 S8 =>
        ((r9 = 0 →
          ∀ x11 : UInt64, x11 = M_push S8 →
            ∀ S12 : MS, S12 = Ms_push S8 a0 →
              post x11 S12
        ) ∧
        (¬ r9 = 0 →
          post FP.dconst0 S8
        ))
      )
    ))
  )
set_option maxHeartbeats 4000000 in
set_option maxRecDepth 100000 in
theorem c_X3_push {l : Launch} {G : GT} {Z : State} {b : Nat → Nat} (hZ : ZOK G Z) {a0 : UInt64} {S : MS} {post : UInt64 → MS → Prop} (h : wp_X3_push a0 S post) : CM l G Z yX3_push cX3_push 5 (some .double) (rmz 1 25) [.ref (b 0), .double a0] (wM G b S) (PD (wM G b) post) := by
  refine CM_ofW hZ (by decide) (lb rfl) (fun p e s m below meth c ls C hp hl hnm => ?_)
  have C : Cx G Z _ p s m _ meth c RX3 cX3_push 5 (some .double) := C
  have hl : lv_has ls 5 [(0, .ref (b 0)), (1, .double a0)] := hl
  have hx := C.hx
  have hb := C.hb
  unfold wp_X3_push at h
  refine lv_aload_n hx hb dX3_push_0 rfl (lv_at hl 0 rfl) ?_
  refine lv_dload_n hx hb dX3_push_1 rfl (lv_at hl 1 rfl) ?_
  refine lv_dconst0 hx hb dX3_push_2 ?_
  refine lv_ldc2d hx hb C.hown (C.hts _ kd_X3_87) dX3_push_3 ?_
  refine r_callS (rest := [.ref (b 0)]) (c_X3_isIn C.hZ h) C hp mf_X3_isIn km_X3_76 hl.1 dX3_push_6 ⟨lb rfl, lb rfl, lb rfl, lb rfl⟩ rfl rfl (lb rfl) (fun v w1 H locs hv hp => ?_)
  obtain ⟨r1, rfl, rfl, h⟩ := hv
  refine W.eq (g2 := F0 m 9 ls [.int r1, .ref (b 0)]) rfl ?_
  refine lv_if_eq (tgt := 16) hx hb dX3_push_9 (by decide) (fun q2 => ?_) (fun q2 => ?_)
  · have h := h.1 q2
    refine lv_iconst (v := 1) hx hb dX3_push_16 (by decide) ?_
    refine r_callV (q0 := 0) (ci := 3) (rest := []) (c_X3_refuses (b := b) C.hZ h) C hp mf_X3_refuses km_X3_83 hl.1 dX3_push_17 rfl rfl ⟨lb rfl, lb rfl, lb rfl, lb rfl⟩ rfl rfl (lb rfl) (fun v w1 H locs hv hp => ?_)
    obtain ⟨r4, S3, rfl, rfl, h⟩ := hv
    refine W.eq (g2 := F0 m 20 ls [.int r4]) rfl ?_
    refine lv_if_eq (tgt := 25) hx hb dX3_push_20 (by decide) (fun q5 => ?_) (fun q5 => ?_)
    · have h := h.1 q5
      refine lv_aload_n hx hb dX3_push_25 rfl (lv_at hl 0 rfl) ?_
      refine gM_push C hp dX3_push_26 ?_
      refine lv_topd (fun x6 ex6 => ?_)
      have h := h x6 ex6
      refine lv_dstore_n (lv' := [(3, .double x6), (0, .ref (b 0)), (1, .double a0)]) hx hb dX3_push_29 rfl hl (by decide) rfl (fun ls hl => ?_)
      refine lv_aload_n hx hb dX3_push_30 rfl (lv_at hl 1 rfl) ?_
      refine lv_dload_n hx hb dX3_push_31 rfl (lv_at hl 2 rfl) ?_
      refine pM_push C hp dX3_push_32 (fun H locs hp => ?_)
      obtain ⟨S7, eS7⟩ : ∃ z : MS, z = Ms_push S3 a0 := ⟨_, rfl⟩
      rw [← eS7] at hp
      have h := h S7 eS7
      refine lv_dload_n hx hb dX3_push_35 rfl (lv_at hl 0 rfl) ?_
      exact r_dret C hp dX3_push_36 ⟨_, _, rfl, rfl, h⟩
    · have h := h.2 q5
      refine lv_dconst0 hx hb dX3_push_23 ?_
      exact r_dret C hp dX3_push_24 ⟨_, _, rfl, rfl, h⟩
  · have h := h.2 q2
    refine lv_iconst (v := 0) hx hb dX3_push_12 (by decide) ?_
    refine lv_goto (tgt := 17) hx hb dX3_push_13 (by decide) ?_
    refine r_callV (q0 := 0) (ci := 3) (rest := []) (c_X3_refuses (b := b) C.hZ h) C hp mf_X3_refuses km_X3_83 hl.1 dX3_push_17 rfl rfl ⟨lb rfl, lb rfl, lb rfl, lb rfl⟩ rfl rfl (lb rfl) (fun v w1 H locs hv hp => ?_)
    obtain ⟨r9, S8, rfl, rfl, h⟩ := hv
    refine W.eq (g2 := F0 m 20 ls [.int r9]) rfl ?_
    refine lv_if_eq (tgt := 25) hx hb dX3_push_20 (by decide) (fun q10 => ?_) (fun q10 => ?_)
    · have h := h.1 q10
      refine lv_aload_n hx hb dX3_push_25 rfl (lv_at hl 0 rfl) ?_
      refine gM_push C hp dX3_push_26 ?_
      refine lv_topd (fun x11 ex11 => ?_)
      have h := h x11 ex11
      refine lv_dstore_n (lv' := [(3, .double x11), (0, .ref (b 0)), (1, .double a0)]) hx hb dX3_push_29 rfl hl (by decide) rfl (fun ls hl => ?_)
      refine lv_aload_n hx hb dX3_push_30 rfl (lv_at hl 1 rfl) ?_
      refine lv_dload_n hx hb dX3_push_31 rfl (lv_at hl 2 rfl) ?_
      refine pM_push C hp dX3_push_32 (fun H locs hp => ?_)
      obtain ⟨S12, eS12⟩ : ∃ z : MS, z = Ms_push S8 a0 := ⟨_, rfl⟩
      rw [← eS12] at hp
      have h := h S12 eS12
      refine lv_dload_n hx hb dX3_push_35 rfl (lv_at hl 0 rfl) ?_
      exact r_dret C hp dX3_push_36 ⟨_, _, rfl, rfl, h⟩
    · have h := h.2 q10
      refine lv_dconst0 hx hb dX3_push_23 ?_
      exact r_dret C hp dX3_push_24 ⟨_, _, rfl, rfl, h⟩
theorem mf_X3_push : MFv yX3_push cX3_push 5 (some .double) 1 := ⟨kc_X3_push, kn_X3_push, kv_X3_push, ki_X3, by decide +kernel⟩

/-! X3_wish -/
def wp_X3_wish (a0 : Int32) (a1 : UInt64) (S : MS) (post : UInt64 → MS → Prop) : Prop :=
  ((a0 < 0 →
    wp_X3_refuses (1 : Int32) S (fun r3 S2 =>
      ((r3 = 0 →
        (vp_in a0 9) ∧ (
          ∀ x6 : UInt64, x6 = M_wishes S2 a0.toNatClampNeg →
            ∀ S7 : MS, S7 = Ms_wishes S2 (vf_upd (M_wishes S2) a0.toNatClampNeg a1) →
              post x6 S7
        )
      ) ∧
      (¬ r3 = 0 →
        post FP.dconst0 S2
      ))
    )
  ) ∧
  (¬ a0 < 0 →
    ((a0 < (9 : Int32) →
      wp_X3_isIn a1 FP.dconst0 (4626322717216342016 : UInt64) (fun r9 =>
        ((r9 = 0 →
          wp_X3_refuses (2 : Int32) S (fun r12 S11 =>
            ((r12 = 0 →
              (vp_in a0 9) ∧ (
                ∀ x15 : UInt64, x15 = M_wishes S11 a0.toNatClampNeg →
                  ∀ S16 : MS, S16 = Ms_wishes S11 (vf_upd (M_wishes S11) a0.toNatClampNeg a1) →
                    post x15 S16
              )
            ) ∧
            (¬ r12 = 0 →
              post FP.dconst0 S11
            ))
          )
        ) ∧
        (¬ r9 = 0 →
          wp_X3_refuses (0 : Int32) S (fun r18 S17 =>
            ((r18 = 0 →
              (vp_in a0 9) ∧ (
                ∀ x21 : UInt64, x21 = M_wishes S17 a0.toNatClampNeg →
                  ∀ S22 : MS, S22 = Ms_wishes S17 (vf_upd (M_wishes S17) a0.toNatClampNeg a1) →
                    post x21 S22
              )
            ) ∧
            (¬ r18 = 0 →
              post FP.dconst0 S17
            ))
          )
        ))
      )
    ) ∧
    (¬ a0 < (9 : Int32) →
      wp_X3_refuses (1 : Int32) S (fun r24 S23 =>
        ((r24 = 0 →
          (vp_in a0 9) ∧ (
            ∀ x27 : UInt64, x27 = M_wishes S23 a0.toNatClampNeg →
              ∀ S28 : MS, S28 = Ms_wishes S23 (vf_upd (M_wishes S23) a0.toNatClampNeg a1) →
                post x27 S28
          )
        ) ∧
        (¬ r24 = 0 →
          post FP.dconst0 S23
        ))
      )
    ))
  ))
set_option maxHeartbeats 4000000 in
set_option maxRecDepth 100000 in
theorem c_X3_wish {l : Launch} {G : GT} {Z : State} {b : Nat → Nat} (hZ : ZOK G Z) {a0 : Int32} {a1 : UInt64} {S : MS} {post : UInt64 → MS → Prop} (h : wp_X3_wish a0 a1 S post) : CM l G Z yX3_wish cX3_wish 6 (some .double) (rmz 1 25) [.ref (b 0), .int a0, .double a1] (wM G b S) (PD (wM G b) post) := by
  refine CM_ofW hZ (by decide) (lb rfl) (fun p e s m below meth c ls C hp hl hnm => ?_)
  have C : Cx G Z _ p s m _ meth c RX3 cX3_wish 6 (some .double) := C
  have hl : lv_has ls 6 [(0, .ref (b 0)), (1, .int a0), (2, .double a1)] := hl
  have hx := C.hx
  have hb := C.hb
  unfold wp_X3_wish at h
  refine lv_aload_n hx hb dX3_wish_0 rfl (lv_at hl 0 rfl) ?_
  refine lv_iload_n hx hb dX3_wish_1 rfl (lv_at hl 1 rfl) ?_
  refine lv_if_lt (tgt := 11) hx hb dX3_wish_2 (by decide) (fun q1 => ?_) (fun q1 => ?_)
  · have h := h.1 q1
    refine lv_iconst (v := 1) hx hb dX3_wish_11 (by decide) ?_
    refine lv_goto (tgt := 31) hx hb dX3_wish_12 (by decide) ?_
    refine r_callV (q0 := 0) (ci := 3) (rest := []) (c_X3_refuses (b := b) C.hZ h) C hp mf_X3_refuses km_X3_83 hl.1 dX3_wish_31 rfl rfl ⟨lb rfl, lb rfl, lb rfl, lb rfl⟩ rfl rfl (lb rfl) (fun v w1 H locs hv hp => ?_)
    obtain ⟨r3, S2, rfl, rfl, h⟩ := hv
    refine W.eq (g2 := F0 m 34 ls [.int r3]) rfl ?_
    refine lv_if_eq (tgt := 39) hx hb dX3_wish_34 (by decide) (fun q4 => ?_) (fun q4 => ?_)
    · have h := h.1 q4
      refine lv_aload_n hx hb dX3_wish_39 rfl (lv_at hl 0 rfl) ?_
      refine gM_wishes C hp dX3_wish_40 ?_
      refine lv_iload_n hx hb dX3_wish_43 rfl (lv_at hl 1 rfl) ?_
      obtain ⟨g5, h⟩ := h
      refine aM_wishes C hp dX3_wish_44 g5 ?_
      refine lv_topd (fun x6 ex6 => ?_)
      have h := h x6 ex6
      refine lv_dstore (lv' := [(4, .double x6), (0, .ref (b 0)), (1, .int a0), (2, .double a1)]) hx hb dX3_wish_45 hl (by decide) rfl (fun ls hl => ?_)
      refine lv_aload_n hx hb dX3_wish_47 rfl (lv_at hl 1 rfl) ?_
      refine gM_wishes C hp dX3_wish_48 ?_
      refine lv_iload_n hx hb dX3_wish_51 rfl (lv_at hl 2 rfl) ?_
      refine lv_dload_n hx hb dX3_wish_52 rfl (lv_at hl 3 rfl) ?_
      refine uM_wishes C hp dX3_wish_53 g5 (fun H locs hp => ?_)
      obtain ⟨S7, eS7⟩ : ∃ z : MS, z = Ms_wishes S2 (vf_upd (M_wishes S2) a0.toNatClampNeg a1) := ⟨_, rfl⟩
      rw [← eS7] at hp
      have h := h S7 eS7
      refine lv_dload hx hb dX3_wish_54 (lv_at hl 0 rfl) ?_
      exact r_dret C hp dX3_wish_56 ⟨_, _, rfl, rfl, h⟩
    · have h := h.2 q4
      refine lv_dconst0 hx hb dX3_wish_37 ?_
      exact r_dret C hp dX3_wish_38 ⟨_, _, rfl, rfl, h⟩
  · have h := h.2 q1
    refine lv_iload_n hx hb dX3_wish_5 rfl (lv_at hl 1 rfl) ?_
    refine lv_bipush (v := 9) hx hb dX3_wish_6 (by decide) ?_
    refine lv_icmp_lt (tgt := 15) hx hb dX3_wish_8 (by decide) (fun q8 => ?_) (fun q8 => ?_)
    · have h := h.1 q8
      refine lv_dload_n hx hb dX3_wish_15 rfl (lv_at hl 2 rfl) ?_
      refine lv_dconst0 hx hb dX3_wish_16 ?_
      refine lv_ldc2d hx hb C.hown (C.hts _ kd_X3_93) dX3_wish_17 ?_
      refine r_callS (rest := [.ref (b 0)]) (c_X3_isIn C.hZ h) C hp mf_X3_isIn km_X3_76 hl.1 dX3_wish_20 ⟨lb rfl, lb rfl, lb rfl, lb rfl⟩ rfl rfl (lb rfl) (fun v w1 H locs hv hp => ?_)
      obtain ⟨r9, rfl, rfl, h⟩ := hv
      refine W.eq (g2 := F0 m 23 ls [.int r9, .ref (b 0)]) rfl ?_
      refine lv_if_eq (tgt := 30) hx hb dX3_wish_23 (by decide) (fun q10 => ?_) (fun q10 => ?_)
      · have h := h.1 q10
        refine lv_iconst (v := 2) hx hb dX3_wish_30 (by decide) ?_
        refine r_callV (q0 := 0) (ci := 3) (rest := []) (c_X3_refuses (b := b) C.hZ h) C hp mf_X3_refuses km_X3_83 hl.1 dX3_wish_31 rfl rfl ⟨lb rfl, lb rfl, lb rfl, lb rfl⟩ rfl rfl (lb rfl) (fun v w1 H locs hv hp => ?_)
        obtain ⟨r12, S11, rfl, rfl, h⟩ := hv
        refine W.eq (g2 := F0 m 34 ls [.int r12]) rfl ?_
        refine lv_if_eq (tgt := 39) hx hb dX3_wish_34 (by decide) (fun q13 => ?_) (fun q13 => ?_)
        · have h := h.1 q13
          refine lv_aload_n hx hb dX3_wish_39 rfl (lv_at hl 0 rfl) ?_
          refine gM_wishes C hp dX3_wish_40 ?_
          refine lv_iload_n hx hb dX3_wish_43 rfl (lv_at hl 1 rfl) ?_
          obtain ⟨g14, h⟩ := h
          refine aM_wishes C hp dX3_wish_44 g14 ?_
          refine lv_topd (fun x15 ex15 => ?_)
          have h := h x15 ex15
          refine lv_dstore (lv' := [(4, .double x15), (0, .ref (b 0)), (1, .int a0), (2, .double a1)]) hx hb dX3_wish_45 hl (by decide) rfl (fun ls hl => ?_)
          refine lv_aload_n hx hb dX3_wish_47 rfl (lv_at hl 1 rfl) ?_
          refine gM_wishes C hp dX3_wish_48 ?_
          refine lv_iload_n hx hb dX3_wish_51 rfl (lv_at hl 2 rfl) ?_
          refine lv_dload_n hx hb dX3_wish_52 rfl (lv_at hl 3 rfl) ?_
          refine uM_wishes C hp dX3_wish_53 g14 (fun H locs hp => ?_)
          obtain ⟨S16, eS16⟩ : ∃ z : MS, z = Ms_wishes S11 (vf_upd (M_wishes S11) a0.toNatClampNeg a1) := ⟨_, rfl⟩
          rw [← eS16] at hp
          have h := h S16 eS16
          refine lv_dload hx hb dX3_wish_54 (lv_at hl 0 rfl) ?_
          exact r_dret C hp dX3_wish_56 ⟨_, _, rfl, rfl, h⟩
        · have h := h.2 q13
          refine lv_dconst0 hx hb dX3_wish_37 ?_
          exact r_dret C hp dX3_wish_38 ⟨_, _, rfl, rfl, h⟩
      · have h := h.2 q10
        refine lv_iconst (v := 0) hx hb dX3_wish_26 (by decide) ?_
        refine lv_goto (tgt := 31) hx hb dX3_wish_27 (by decide) ?_
        refine r_callV (q0 := 0) (ci := 3) (rest := []) (c_X3_refuses (b := b) C.hZ h) C hp mf_X3_refuses km_X3_83 hl.1 dX3_wish_31 rfl rfl ⟨lb rfl, lb rfl, lb rfl, lb rfl⟩ rfl rfl (lb rfl) (fun v w1 H locs hv hp => ?_)
        obtain ⟨r18, S17, rfl, rfl, h⟩ := hv
        refine W.eq (g2 := F0 m 34 ls [.int r18]) rfl ?_
        refine lv_if_eq (tgt := 39) hx hb dX3_wish_34 (by decide) (fun q19 => ?_) (fun q19 => ?_)
        · have h := h.1 q19
          refine lv_aload_n hx hb dX3_wish_39 rfl (lv_at hl 0 rfl) ?_
          refine gM_wishes C hp dX3_wish_40 ?_
          refine lv_iload_n hx hb dX3_wish_43 rfl (lv_at hl 1 rfl) ?_
          obtain ⟨g20, h⟩ := h
          refine aM_wishes C hp dX3_wish_44 g20 ?_
          refine lv_topd (fun x21 ex21 => ?_)
          have h := h x21 ex21
          refine lv_dstore (lv' := [(4, .double x21), (0, .ref (b 0)), (1, .int a0), (2, .double a1)]) hx hb dX3_wish_45 hl (by decide) rfl (fun ls hl => ?_)
          refine lv_aload_n hx hb dX3_wish_47 rfl (lv_at hl 1 rfl) ?_
          refine gM_wishes C hp dX3_wish_48 ?_
          refine lv_iload_n hx hb dX3_wish_51 rfl (lv_at hl 2 rfl) ?_
          refine lv_dload_n hx hb dX3_wish_52 rfl (lv_at hl 3 rfl) ?_
          refine uM_wishes C hp dX3_wish_53 g20 (fun H locs hp => ?_)
          obtain ⟨S22, eS22⟩ : ∃ z : MS, z = Ms_wishes S17 (vf_upd (M_wishes S17) a0.toNatClampNeg a1) := ⟨_, rfl⟩
          rw [← eS22] at hp
          have h := h S22 eS22
          refine lv_dload hx hb dX3_wish_54 (lv_at hl 0 rfl) ?_
          exact r_dret C hp dX3_wish_56 ⟨_, _, rfl, rfl, h⟩
        · have h := h.2 q19
          refine lv_dconst0 hx hb dX3_wish_37 ?_
          exact r_dret C hp dX3_wish_38 ⟨_, _, rfl, rfl, h⟩
    · have h := h.2 q8
      refine lv_iconst (v := 1) hx hb dX3_wish_11 (by decide) ?_
      refine lv_goto (tgt := 31) hx hb dX3_wish_12 (by decide) ?_
      refine r_callV (q0 := 0) (ci := 3) (rest := []) (c_X3_refuses (b := b) C.hZ h) C hp mf_X3_refuses km_X3_83 hl.1 dX3_wish_31 rfl rfl ⟨lb rfl, lb rfl, lb rfl, lb rfl⟩ rfl rfl (lb rfl) (fun v w1 H locs hv hp => ?_)
      obtain ⟨r24, S23, rfl, rfl, h⟩ := hv
      refine W.eq (g2 := F0 m 34 ls [.int r24]) rfl ?_
      refine lv_if_eq (tgt := 39) hx hb dX3_wish_34 (by decide) (fun q25 => ?_) (fun q25 => ?_)
      · have h := h.1 q25
        refine lv_aload_n hx hb dX3_wish_39 rfl (lv_at hl 0 rfl) ?_
        refine gM_wishes C hp dX3_wish_40 ?_
        refine lv_iload_n hx hb dX3_wish_43 rfl (lv_at hl 1 rfl) ?_
        obtain ⟨g26, h⟩ := h
        refine aM_wishes C hp dX3_wish_44 g26 ?_
        refine lv_topd (fun x27 ex27 => ?_)
        have h := h x27 ex27
        refine lv_dstore (lv' := [(4, .double x27), (0, .ref (b 0)), (1, .int a0), (2, .double a1)]) hx hb dX3_wish_45 hl (by decide) rfl (fun ls hl => ?_)
        refine lv_aload_n hx hb dX3_wish_47 rfl (lv_at hl 1 rfl) ?_
        refine gM_wishes C hp dX3_wish_48 ?_
        refine lv_iload_n hx hb dX3_wish_51 rfl (lv_at hl 2 rfl) ?_
        refine lv_dload_n hx hb dX3_wish_52 rfl (lv_at hl 3 rfl) ?_
        refine uM_wishes C hp dX3_wish_53 g26 (fun H locs hp => ?_)
        obtain ⟨S28, eS28⟩ : ∃ z : MS, z = Ms_wishes S23 (vf_upd (M_wishes S23) a0.toNatClampNeg a1) := ⟨_, rfl⟩
        rw [← eS28] at hp
        have h := h S28 eS28
        refine lv_dload hx hb dX3_wish_54 (lv_at hl 0 rfl) ?_
        exact r_dret C hp dX3_wish_56 ⟨_, _, rfl, rfl, h⟩
      · have h := h.2 q25
        refine lv_dconst0 hx hb dX3_wish_37 ?_
        exact r_dret C hp dX3_wish_38 ⟨_, _, rfl, rfl, h⟩
theorem mf_X3_wish : MFv yX3_wish cX3_wish 6 (some .double) 2 := ⟨kc_X3_wish, kn_X3_wish, kv_X3_wish, ki_X3, by decide +kernel⟩

/-! X3_stick -/
def wp_X3_stick (a0 : Int32) (a1 : Int32) (S : MS) (post : Int32 → MS → Prop) : Prop :=
  ((a0 < 0 →
    wp_X3_refuses (1 : Int32) S (fun r3 S2 =>
      ((r3 = 0 →
        (vp_in a0 7) ∧ (
          ∀ x6 : Int32, x6 = M_stuck S2 a0.toNatClampNeg →
            ∀ S7 : MS, S7 = Ms_stuck S2 (upd (M_stuck S2) a0.toNatClampNeg (vp_nar .boolean a1)) →
              (narrow .boolean (.int x6) = .int x6) ∧ post x6 S7
        )
      ) ∧
      (¬ r3 = 0 →
        post (0 : Int32) S2
      ))
    )
  ) ∧
  (¬ a0 < 0 →
    ((a0 < (7 : Int32) →
      wp_X3_refuses (0 : Int32) S (fun r10 S9 =>
        ((r10 = 0 →
          (vp_in a0 7) ∧ (
            ∀ x13 : Int32, x13 = M_stuck S9 a0.toNatClampNeg →
              ∀ S14 : MS, S14 = Ms_stuck S9 (upd (M_stuck S9) a0.toNatClampNeg (vp_nar .boolean a1)) →
                (narrow .boolean (.int x13) = .int x13) ∧ post x13 S14
          )
        ) ∧
        (¬ r10 = 0 →
          post (0 : Int32) S9
        ))
      )
    ) ∧
    (¬ a0 < (7 : Int32) →
      wp_X3_refuses (1 : Int32) S (fun r16 S15 =>
        ((r16 = 0 →
          (vp_in a0 7) ∧ (
            ∀ x19 : Int32, x19 = M_stuck S15 a0.toNatClampNeg →
              ∀ S20 : MS, S20 = Ms_stuck S15 (upd (M_stuck S15) a0.toNatClampNeg (vp_nar .boolean a1)) →
                (narrow .boolean (.int x19) = .int x19) ∧ post x19 S20
          )
        ) ∧
        (¬ r16 = 0 →
          post (0 : Int32) S15
        ))
      )
    ))
  ))
set_option maxHeartbeats 4000000 in
set_option maxRecDepth 100000 in
theorem c_X3_stick {l : Launch} {G : GT} {Z : State} {b : Nat → Nat} (hZ : ZOK G Z) {a0 : Int32} {a1 : Int32} {S : MS} {post : Int32 → MS → Prop} (h : wp_X3_stick a0 a1 S post) : CM l G Z yX3_stick cX3_stick 4 (some .boolean) (rmz 1 21) [.ref (b 0), .int a0, .int a1] (wM G b S) (PI (wM G b) post) := by
  refine CM_ofW hZ (by decide) (lb rfl) (fun p e s m below meth c ls C hp hl hnm => ?_)
  have C : Cx G Z _ p s m _ meth c RX3 cX3_stick 4 (some .boolean) := C
  have hl : lv_has ls 4 [(0, .ref (b 0)), (1, .int a0), (2, .int a1)] := hl
  have hx := C.hx
  have hb := C.hb
  unfold wp_X3_stick at h
  refine lv_aload_n hx hb dX3_stick_0 rfl (lv_at hl 0 rfl) ?_
  refine lv_iload_n hx hb dX3_stick_1 rfl (lv_at hl 1 rfl) ?_
  refine lv_if_lt (tgt := 11) hx hb dX3_stick_2 (by decide) (fun q1 => ?_) (fun q1 => ?_)
  · have h := h.1 q1
    refine lv_iconst (v := 1) hx hb dX3_stick_11 (by decide) ?_
    refine lv_goto (tgt := 16) hx hb dX3_stick_12 (by decide) ?_
    refine r_callV (q0 := 0) (ci := 3) (rest := []) (c_X3_refuses (b := b) C.hZ h) C hp mf_X3_refuses km_X3_83 hl.1 dX3_stick_16 rfl rfl ⟨lb rfl, lb rfl, lb rfl, lb rfl⟩ rfl rfl (lb rfl) (fun v w1 H locs hv hp => ?_)
    obtain ⟨r3, S2, rfl, rfl, h⟩ := hv
    refine W.eq (g2 := F0 m 19 ls [.int r3]) rfl ?_
    refine lv_if_eq (tgt := 24) hx hb dX3_stick_19 (by decide) (fun q4 => ?_) (fun q4 => ?_)
    · have h := h.1 q4
      refine lv_aload_n hx hb dX3_stick_24 rfl (lv_at hl 0 rfl) ?_
      refine gM_stuck C hp dX3_stick_25 ?_
      refine lv_iload_n hx hb dX3_stick_28 rfl (lv_at hl 1 rfl) ?_
      obtain ⟨g5, h⟩ := h
      refine aM_stuck C hp dX3_stick_29 g5 ?_
      refine lv_topi (fun x6 ex6 => ?_)
      have h := h x6 ex6
      refine lv_istore_n (lv' := [(3, .int x6), (0, .ref (b 0)), (1, .int a0), (2, .int a1)]) hx hb dX3_stick_30 rfl hl (by decide) rfl (fun ls hl => ?_)
      refine lv_aload_n hx hb dX3_stick_31 rfl (lv_at hl 1 rfl) ?_
      refine gM_stuck C hp dX3_stick_32 ?_
      refine lv_iload_n hx hb dX3_stick_35 rfl (lv_at hl 2 rfl) ?_
      refine lv_iload_n hx hb dX3_stick_36 rfl (lv_at hl 3 rfl) ?_
      refine uM_stuck C hp dX3_stick_37 g5 (fun H locs hp => ?_)
      obtain ⟨S7, eS7⟩ : ∃ z : MS, z = Ms_stuck S2 (upd (M_stuck S2) a0.toNatClampNeg (vp_nar .boolean a1)) := ⟨_, rfl⟩
      rw [← eS7] at hp
      have h := h S7 eS7
      refine lv_iload_n hx hb dX3_stick_38 rfl (lv_at hl 0 rfl) ?_
      obtain ⟨gz, h⟩ := h
      exact r_zret C hp dX3_stick_39 gz ⟨_, _, rfl, rfl, h⟩
    · have h := h.2 q4
      refine lv_iconst (v := 0) hx hb dX3_stick_22 (by decide) ?_
      exact r_zret C hp dX3_stick_23 rfl ⟨_, _, rfl, rfl, h⟩
  · have h := h.2 q1
    refine lv_iload_n hx hb dX3_stick_5 rfl (lv_at hl 1 rfl) ?_
    refine lv_bipush (v := 7) hx hb dX3_stick_6 (by decide) ?_
    refine lv_icmp_lt (tgt := 15) hx hb dX3_stick_8 (by decide) (fun q8 => ?_) (fun q8 => ?_)
    · have h := h.1 q8
      refine lv_iconst (v := 0) hx hb dX3_stick_15 (by decide) ?_
      refine r_callV (q0 := 0) (ci := 3) (rest := []) (c_X3_refuses (b := b) C.hZ h) C hp mf_X3_refuses km_X3_83 hl.1 dX3_stick_16 rfl rfl ⟨lb rfl, lb rfl, lb rfl, lb rfl⟩ rfl rfl (lb rfl) (fun v w1 H locs hv hp => ?_)
      obtain ⟨r10, S9, rfl, rfl, h⟩ := hv
      refine W.eq (g2 := F0 m 19 ls [.int r10]) rfl ?_
      refine lv_if_eq (tgt := 24) hx hb dX3_stick_19 (by decide) (fun q11 => ?_) (fun q11 => ?_)
      · have h := h.1 q11
        refine lv_aload_n hx hb dX3_stick_24 rfl (lv_at hl 0 rfl) ?_
        refine gM_stuck C hp dX3_stick_25 ?_
        refine lv_iload_n hx hb dX3_stick_28 rfl (lv_at hl 1 rfl) ?_
        obtain ⟨g12, h⟩ := h
        refine aM_stuck C hp dX3_stick_29 g12 ?_
        refine lv_topi (fun x13 ex13 => ?_)
        have h := h x13 ex13
        refine lv_istore_n (lv' := [(3, .int x13), (0, .ref (b 0)), (1, .int a0), (2, .int a1)]) hx hb dX3_stick_30 rfl hl (by decide) rfl (fun ls hl => ?_)
        refine lv_aload_n hx hb dX3_stick_31 rfl (lv_at hl 1 rfl) ?_
        refine gM_stuck C hp dX3_stick_32 ?_
        refine lv_iload_n hx hb dX3_stick_35 rfl (lv_at hl 2 rfl) ?_
        refine lv_iload_n hx hb dX3_stick_36 rfl (lv_at hl 3 rfl) ?_
        refine uM_stuck C hp dX3_stick_37 g12 (fun H locs hp => ?_)
        obtain ⟨S14, eS14⟩ : ∃ z : MS, z = Ms_stuck S9 (upd (M_stuck S9) a0.toNatClampNeg (vp_nar .boolean a1)) := ⟨_, rfl⟩
        rw [← eS14] at hp
        have h := h S14 eS14
        refine lv_iload_n hx hb dX3_stick_38 rfl (lv_at hl 0 rfl) ?_
        obtain ⟨gz, h⟩ := h
        exact r_zret C hp dX3_stick_39 gz ⟨_, _, rfl, rfl, h⟩
      · have h := h.2 q11
        refine lv_iconst (v := 0) hx hb dX3_stick_22 (by decide) ?_
        exact r_zret C hp dX3_stick_23 rfl ⟨_, _, rfl, rfl, h⟩
    · have h := h.2 q8
      refine lv_iconst (v := 1) hx hb dX3_stick_11 (by decide) ?_
      refine lv_goto (tgt := 16) hx hb dX3_stick_12 (by decide) ?_
      refine r_callV (q0 := 0) (ci := 3) (rest := []) (c_X3_refuses (b := b) C.hZ h) C hp mf_X3_refuses km_X3_83 hl.1 dX3_stick_16 rfl rfl ⟨lb rfl, lb rfl, lb rfl, lb rfl⟩ rfl rfl (lb rfl) (fun v w1 H locs hv hp => ?_)
      obtain ⟨r16, S15, rfl, rfl, h⟩ := hv
      refine W.eq (g2 := F0 m 19 ls [.int r16]) rfl ?_
      refine lv_if_eq (tgt := 24) hx hb dX3_stick_19 (by decide) (fun q17 => ?_) (fun q17 => ?_)
      · have h := h.1 q17
        refine lv_aload_n hx hb dX3_stick_24 rfl (lv_at hl 0 rfl) ?_
        refine gM_stuck C hp dX3_stick_25 ?_
        refine lv_iload_n hx hb dX3_stick_28 rfl (lv_at hl 1 rfl) ?_
        obtain ⟨g18, h⟩ := h
        refine aM_stuck C hp dX3_stick_29 g18 ?_
        refine lv_topi (fun x19 ex19 => ?_)
        have h := h x19 ex19
        refine lv_istore_n (lv' := [(3, .int x19), (0, .ref (b 0)), (1, .int a0), (2, .int a1)]) hx hb dX3_stick_30 rfl hl (by decide) rfl (fun ls hl => ?_)
        refine lv_aload_n hx hb dX3_stick_31 rfl (lv_at hl 1 rfl) ?_
        refine gM_stuck C hp dX3_stick_32 ?_
        refine lv_iload_n hx hb dX3_stick_35 rfl (lv_at hl 2 rfl) ?_
        refine lv_iload_n hx hb dX3_stick_36 rfl (lv_at hl 3 rfl) ?_
        refine uM_stuck C hp dX3_stick_37 g18 (fun H locs hp => ?_)
        obtain ⟨S20, eS20⟩ : ∃ z : MS, z = Ms_stuck S15 (upd (M_stuck S15) a0.toNatClampNeg (vp_nar .boolean a1)) := ⟨_, rfl⟩
        rw [← eS20] at hp
        have h := h S20 eS20
        refine lv_iload_n hx hb dX3_stick_38 rfl (lv_at hl 0 rfl) ?_
        obtain ⟨gz, h⟩ := h
        exact r_zret C hp dX3_stick_39 gz ⟨_, _, rfl, rfl, h⟩
      · have h := h.2 q17
        refine lv_iconst (v := 0) hx hb dX3_stick_22 (by decide) ?_
        exact r_zret C hp dX3_stick_23 rfl ⟨_, _, rfl, rfl, h⟩
theorem mf_X3_stick : MFv yX3_stick cX3_stick 4 (some .boolean) 2 := ⟨kc_X3_stick, kn_X3_stick, kv_X3_stick, ki_X3, by decide +kernel⟩

/-! X3_fill -/
def wp_X3_fill (a0 : Int32) (a1 : UInt64) (S : MS) (post : UInt64 → MS → Prop) : Prop :=
  ((a0 < 0 →
    wp_X3_refuses (1 : Int32) S (fun r3 S2 =>
      ((r3 = 0 →
        (vp_in a0 8) ∧ (
          ∀ x6 : UInt64, x6 = M_free S2 a0.toNatClampNeg →
            ∀ S7 : MS, S7 = Ms_free S2 (vf_upd (M_free S2) a0.toNatClampNeg a1) →
              post x6 S7
        )
      ) ∧
      (¬ r3 = 0 →
        post FP.dconst0 S2
      ))
    )
  ) ∧
  (¬ a0 < 0 →
    ((a0 < (8 : Int32) →
      wp_X3_isIn a1 FP.dconst0 (4650248090236747776 : UInt64) (fun r9 =>
        ((r9 = 0 →
          wp_X3_refuses (2 : Int32) S (fun r12 S11 =>
            ((r12 = 0 →
              (vp_in a0 8) ∧ (
                ∀ x15 : UInt64, x15 = M_free S11 a0.toNatClampNeg →
                  ∀ S16 : MS, S16 = Ms_free S11 (vf_upd (M_free S11) a0.toNatClampNeg a1) →
                    post x15 S16
              )
            ) ∧
            (¬ r12 = 0 →
              post FP.dconst0 S11
            ))
          )
        ) ∧
        (¬ r9 = 0 →
          wp_X3_refuses (0 : Int32) S (fun r18 S17 =>
            ((r18 = 0 →
              (vp_in a0 8) ∧ (
                ∀ x21 : UInt64, x21 = M_free S17 a0.toNatClampNeg →
                  ∀ S22 : MS, S22 = Ms_free S17 (vf_upd (M_free S17) a0.toNatClampNeg a1) →
                    post x21 S22
              )
            ) ∧
            (¬ r18 = 0 →
              post FP.dconst0 S17
            ))
          )
        ))
      )
    ) ∧
    (¬ a0 < (8 : Int32) →
      wp_X3_refuses (1 : Int32) S (fun r24 S23 =>
        ((r24 = 0 →
          (vp_in a0 8) ∧ (
            ∀ x27 : UInt64, x27 = M_free S23 a0.toNatClampNeg →
              ∀ S28 : MS, S28 = Ms_free S23 (vf_upd (M_free S23) a0.toNatClampNeg a1) →
                post x27 S28
          )
        ) ∧
        (¬ r24 = 0 →
          post FP.dconst0 S23
        ))
      )
    ))
  ))
set_option maxHeartbeats 4000000 in
set_option maxRecDepth 100000 in
theorem c_X3_fill {l : Launch} {G : GT} {Z : State} {b : Nat → Nat} (hZ : ZOK G Z) {a0 : Int32} {a1 : UInt64} {S : MS} {post : UInt64 → MS → Prop} (h : wp_X3_fill a0 a1 S post) : CM l G Z yX3_fill cX3_fill 6 (some .double) (rmz 1 25) [.ref (b 0), .int a0, .double a1] (wM G b S) (PD (wM G b) post) := by
  refine CM_ofW hZ (by decide) (lb rfl) (fun p e s m below meth c ls C hp hl hnm => ?_)
  have C : Cx G Z _ p s m _ meth c RX3 cX3_fill 6 (some .double) := C
  have hl : lv_has ls 6 [(0, .ref (b 0)), (1, .int a0), (2, .double a1)] := hl
  have hx := C.hx
  have hb := C.hb
  unfold wp_X3_fill at h
  refine lv_aload_n hx hb dX3_fill_0 rfl (lv_at hl 0 rfl) ?_
  refine lv_iload_n hx hb dX3_fill_1 rfl (lv_at hl 1 rfl) ?_
  refine lv_if_lt (tgt := 11) hx hb dX3_fill_2 (by decide) (fun q1 => ?_) (fun q1 => ?_)
  · have h := h.1 q1
    refine lv_iconst (v := 1) hx hb dX3_fill_11 (by decide) ?_
    refine lv_goto (tgt := 31) hx hb dX3_fill_12 (by decide) ?_
    refine r_callV (q0 := 0) (ci := 3) (rest := []) (c_X3_refuses (b := b) C.hZ h) C hp mf_X3_refuses km_X3_83 hl.1 dX3_fill_31 rfl rfl ⟨lb rfl, lb rfl, lb rfl, lb rfl⟩ rfl rfl (lb rfl) (fun v w1 H locs hv hp => ?_)
    obtain ⟨r3, S2, rfl, rfl, h⟩ := hv
    refine W.eq (g2 := F0 m 34 ls [.int r3]) rfl ?_
    refine lv_if_eq (tgt := 39) hx hb dX3_fill_34 (by decide) (fun q4 => ?_) (fun q4 => ?_)
    · have h := h.1 q4
      refine lv_aload_n hx hb dX3_fill_39 rfl (lv_at hl 0 rfl) ?_
      refine gM_free C hp dX3_fill_40 ?_
      refine lv_iload_n hx hb dX3_fill_43 rfl (lv_at hl 1 rfl) ?_
      obtain ⟨g5, h⟩ := h
      refine aM_free C hp dX3_fill_44 g5 ?_
      refine lv_topd (fun x6 ex6 => ?_)
      have h := h x6 ex6
      refine lv_dstore (lv' := [(4, .double x6), (0, .ref (b 0)), (1, .int a0), (2, .double a1)]) hx hb dX3_fill_45 hl (by decide) rfl (fun ls hl => ?_)
      refine lv_aload_n hx hb dX3_fill_47 rfl (lv_at hl 1 rfl) ?_
      refine gM_free C hp dX3_fill_48 ?_
      refine lv_iload_n hx hb dX3_fill_51 rfl (lv_at hl 2 rfl) ?_
      refine lv_dload_n hx hb dX3_fill_52 rfl (lv_at hl 3 rfl) ?_
      refine uM_free C hp dX3_fill_53 g5 (fun H locs hp => ?_)
      obtain ⟨S7, eS7⟩ : ∃ z : MS, z = Ms_free S2 (vf_upd (M_free S2) a0.toNatClampNeg a1) := ⟨_, rfl⟩
      rw [← eS7] at hp
      have h := h S7 eS7
      refine lv_dload hx hb dX3_fill_54 (lv_at hl 0 rfl) ?_
      exact r_dret C hp dX3_fill_56 ⟨_, _, rfl, rfl, h⟩
    · have h := h.2 q4
      refine lv_dconst0 hx hb dX3_fill_37 ?_
      exact r_dret C hp dX3_fill_38 ⟨_, _, rfl, rfl, h⟩
  · have h := h.2 q1
    refine lv_iload_n hx hb dX3_fill_5 rfl (lv_at hl 1 rfl) ?_
    refine lv_bipush (v := 8) hx hb dX3_fill_6 (by decide) ?_
    refine lv_icmp_lt (tgt := 15) hx hb dX3_fill_8 (by decide) (fun q8 => ?_) (fun q8 => ?_)
    · have h := h.1 q8
      refine lv_dload_n hx hb dX3_fill_15 rfl (lv_at hl 2 rfl) ?_
      refine lv_dconst0 hx hb dX3_fill_16 ?_
      refine lv_ldc2d hx hb C.hown (C.hts _ kd_X3_95) dX3_fill_17 ?_
      refine r_callS (rest := [.ref (b 0)]) (c_X3_isIn C.hZ h) C hp mf_X3_isIn km_X3_76 hl.1 dX3_fill_20 ⟨lb rfl, lb rfl, lb rfl, lb rfl⟩ rfl rfl (lb rfl) (fun v w1 H locs hv hp => ?_)
      obtain ⟨r9, rfl, rfl, h⟩ := hv
      refine W.eq (g2 := F0 m 23 ls [.int r9, .ref (b 0)]) rfl ?_
      refine lv_if_eq (tgt := 30) hx hb dX3_fill_23 (by decide) (fun q10 => ?_) (fun q10 => ?_)
      · have h := h.1 q10
        refine lv_iconst (v := 2) hx hb dX3_fill_30 (by decide) ?_
        refine r_callV (q0 := 0) (ci := 3) (rest := []) (c_X3_refuses (b := b) C.hZ h) C hp mf_X3_refuses km_X3_83 hl.1 dX3_fill_31 rfl rfl ⟨lb rfl, lb rfl, lb rfl, lb rfl⟩ rfl rfl (lb rfl) (fun v w1 H locs hv hp => ?_)
        obtain ⟨r12, S11, rfl, rfl, h⟩ := hv
        refine W.eq (g2 := F0 m 34 ls [.int r12]) rfl ?_
        refine lv_if_eq (tgt := 39) hx hb dX3_fill_34 (by decide) (fun q13 => ?_) (fun q13 => ?_)
        · have h := h.1 q13
          refine lv_aload_n hx hb dX3_fill_39 rfl (lv_at hl 0 rfl) ?_
          refine gM_free C hp dX3_fill_40 ?_
          refine lv_iload_n hx hb dX3_fill_43 rfl (lv_at hl 1 rfl) ?_
          obtain ⟨g14, h⟩ := h
          refine aM_free C hp dX3_fill_44 g14 ?_
          refine lv_topd (fun x15 ex15 => ?_)
          have h := h x15 ex15
          refine lv_dstore (lv' := [(4, .double x15), (0, .ref (b 0)), (1, .int a0), (2, .double a1)]) hx hb dX3_fill_45 hl (by decide) rfl (fun ls hl => ?_)
          refine lv_aload_n hx hb dX3_fill_47 rfl (lv_at hl 1 rfl) ?_
          refine gM_free C hp dX3_fill_48 ?_
          refine lv_iload_n hx hb dX3_fill_51 rfl (lv_at hl 2 rfl) ?_
          refine lv_dload_n hx hb dX3_fill_52 rfl (lv_at hl 3 rfl) ?_
          refine uM_free C hp dX3_fill_53 g14 (fun H locs hp => ?_)
          obtain ⟨S16, eS16⟩ : ∃ z : MS, z = Ms_free S11 (vf_upd (M_free S11) a0.toNatClampNeg a1) := ⟨_, rfl⟩
          rw [← eS16] at hp
          have h := h S16 eS16
          refine lv_dload hx hb dX3_fill_54 (lv_at hl 0 rfl) ?_
          exact r_dret C hp dX3_fill_56 ⟨_, _, rfl, rfl, h⟩
        · have h := h.2 q13
          refine lv_dconst0 hx hb dX3_fill_37 ?_
          exact r_dret C hp dX3_fill_38 ⟨_, _, rfl, rfl, h⟩
      · have h := h.2 q10
        refine lv_iconst (v := 0) hx hb dX3_fill_26 (by decide) ?_
        refine lv_goto (tgt := 31) hx hb dX3_fill_27 (by decide) ?_
        refine r_callV (q0 := 0) (ci := 3) (rest := []) (c_X3_refuses (b := b) C.hZ h) C hp mf_X3_refuses km_X3_83 hl.1 dX3_fill_31 rfl rfl ⟨lb rfl, lb rfl, lb rfl, lb rfl⟩ rfl rfl (lb rfl) (fun v w1 H locs hv hp => ?_)
        obtain ⟨r18, S17, rfl, rfl, h⟩ := hv
        refine W.eq (g2 := F0 m 34 ls [.int r18]) rfl ?_
        refine lv_if_eq (tgt := 39) hx hb dX3_fill_34 (by decide) (fun q19 => ?_) (fun q19 => ?_)
        · have h := h.1 q19
          refine lv_aload_n hx hb dX3_fill_39 rfl (lv_at hl 0 rfl) ?_
          refine gM_free C hp dX3_fill_40 ?_
          refine lv_iload_n hx hb dX3_fill_43 rfl (lv_at hl 1 rfl) ?_
          obtain ⟨g20, h⟩ := h
          refine aM_free C hp dX3_fill_44 g20 ?_
          refine lv_topd (fun x21 ex21 => ?_)
          have h := h x21 ex21
          refine lv_dstore (lv' := [(4, .double x21), (0, .ref (b 0)), (1, .int a0), (2, .double a1)]) hx hb dX3_fill_45 hl (by decide) rfl (fun ls hl => ?_)
          refine lv_aload_n hx hb dX3_fill_47 rfl (lv_at hl 1 rfl) ?_
          refine gM_free C hp dX3_fill_48 ?_
          refine lv_iload_n hx hb dX3_fill_51 rfl (lv_at hl 2 rfl) ?_
          refine lv_dload_n hx hb dX3_fill_52 rfl (lv_at hl 3 rfl) ?_
          refine uM_free C hp dX3_fill_53 g20 (fun H locs hp => ?_)
          obtain ⟨S22, eS22⟩ : ∃ z : MS, z = Ms_free S17 (vf_upd (M_free S17) a0.toNatClampNeg a1) := ⟨_, rfl⟩
          rw [← eS22] at hp
          have h := h S22 eS22
          refine lv_dload hx hb dX3_fill_54 (lv_at hl 0 rfl) ?_
          exact r_dret C hp dX3_fill_56 ⟨_, _, rfl, rfl, h⟩
        · have h := h.2 q19
          refine lv_dconst0 hx hb dX3_fill_37 ?_
          exact r_dret C hp dX3_fill_38 ⟨_, _, rfl, rfl, h⟩
    · have h := h.2 q8
      refine lv_iconst (v := 1) hx hb dX3_fill_11 (by decide) ?_
      refine lv_goto (tgt := 31) hx hb dX3_fill_12 (by decide) ?_
      refine r_callV (q0 := 0) (ci := 3) (rest := []) (c_X3_refuses (b := b) C.hZ h) C hp mf_X3_refuses km_X3_83 hl.1 dX3_fill_31 rfl rfl ⟨lb rfl, lb rfl, lb rfl, lb rfl⟩ rfl rfl (lb rfl) (fun v w1 H locs hv hp => ?_)
      obtain ⟨r24, S23, rfl, rfl, h⟩ := hv
      refine W.eq (g2 := F0 m 34 ls [.int r24]) rfl ?_
      refine lv_if_eq (tgt := 39) hx hb dX3_fill_34 (by decide) (fun q25 => ?_) (fun q25 => ?_)
      · have h := h.1 q25
        refine lv_aload_n hx hb dX3_fill_39 rfl (lv_at hl 0 rfl) ?_
        refine gM_free C hp dX3_fill_40 ?_
        refine lv_iload_n hx hb dX3_fill_43 rfl (lv_at hl 1 rfl) ?_
        obtain ⟨g26, h⟩ := h
        refine aM_free C hp dX3_fill_44 g26 ?_
        refine lv_topd (fun x27 ex27 => ?_)
        have h := h x27 ex27
        refine lv_dstore (lv' := [(4, .double x27), (0, .ref (b 0)), (1, .int a0), (2, .double a1)]) hx hb dX3_fill_45 hl (by decide) rfl (fun ls hl => ?_)
        refine lv_aload_n hx hb dX3_fill_47 rfl (lv_at hl 1 rfl) ?_
        refine gM_free C hp dX3_fill_48 ?_
        refine lv_iload_n hx hb dX3_fill_51 rfl (lv_at hl 2 rfl) ?_
        refine lv_dload_n hx hb dX3_fill_52 rfl (lv_at hl 3 rfl) ?_
        refine uM_free C hp dX3_fill_53 g26 (fun H locs hp => ?_)
        obtain ⟨S28, eS28⟩ : ∃ z : MS, z = Ms_free S23 (vf_upd (M_free S23) a0.toNatClampNeg a1) := ⟨_, rfl⟩
        rw [← eS28] at hp
        have h := h S28 eS28
        refine lv_dload hx hb dX3_fill_54 (lv_at hl 0 rfl) ?_
        exact r_dret C hp dX3_fill_56 ⟨_, _, rfl, rfl, h⟩
      · have h := h.2 q25
        refine lv_dconst0 hx hb dX3_fill_37 ?_
        exact r_dret C hp dX3_fill_38 ⟨_, _, rfl, rfl, h⟩
theorem mf_X3_fill : MFv yX3_fill cX3_fill 6 (some .double) 2 := ⟨kc_X3_fill, kn_X3_fill, kv_X3_fill, ki_X3, by decide +kernel⟩

/-! X3_tick -/
def wb_X3_tick_125 (a0 : Int32) (post : Int32 → MS → Prop) (K33 : Int32 → Int32 → MS → Prop) (rec : Int32 → Int32 → Int32 → MS → Prop) (x2 : Int32) (x3 : Int32) (x4 : Int32) (S : MS) : Prop :=
  (((M_cuts S) ≤ x4 →
    wp_X3_pushes  S (fun S2 =>
      K33 x2 (x3 + (1)) S2
    )
  ) ∧
  (¬ (M_cuts S) ≤ x4 →
    (vp_in x4 60) ∧ (
      ((¬ (M_state S x4.toNatClampNeg) = (1 : Int32) →
        rec x2 x3 (x4 + (1)) S
      ) ∧
      ((M_state S x4.toNatClampNeg) = (1 : Int32) →
        wp_X3_ends x4 S (fun S5 =>
          rec x2 x3 (x4 + (1)) S5
        )
      ))
    )
  ))
def wl_X3_tick_125 (a0 : Int32) (post : Int32 → MS → Prop) (K33 : Int32 → Int32 → MS → Prop) : Nat → Int32 → Int32 → Int32 → MS → Prop
  | 0 => fun _ _ _ _ => False
  | n + 1 => wb_X3_tick_125 a0 post K33 (wl_X3_tick_125 a0 post K33 n)
def wb_X3_tick_90 (a0 : Int32) (post : Int32 → MS → Prop) (K33 : Int32 → Int32 → MS → Prop) (rec : Int32 → Int32 → Int32 → MS → Prop) (x2 : Int32) (x3 : Int32) (x4 : Int32) (S : MS) : Prop :=
  (((M_cuts S) ≤ x4 →
    ∃ n, wl_X3_tick_125 a0 post K33 n x2 x3 (0 : Int32) S
  ) ∧
  (¬ (M_cuts S) ≤ x4 →
    (vp_in x4 60) ∧ (
      ((¬ (M_state S x4.toNatClampNeg) = (1 : Int32) →
        rec x2 x3 (x4 + (1)) S
      ) ∧
      ((M_state S x4.toNatClampNeg) = (1 : Int32) →
        wp_X3_catches x4 S (fun S9 =>
          rec x2 x3 (x4 + (1)) S9
        )
      ))
    )
  ))
def wl_X3_tick_90 (a0 : Int32) (post : Int32 → MS → Prop) (K33 : Int32 → Int32 → MS → Prop) : Nat → Int32 → Int32 → Int32 → MS → Prop
  | 0 => fun _ _ _ _ => False
  | n + 1 => wb_X3_tick_90 a0 post K33 (wl_X3_tick_90 a0 post K33 n)
def wb_X3_tick_55 (a0 : Int32) (post : Int32 → MS → Prop) (K33 : Int32 → Int32 → MS → Prop) (rec : Int32 → Int32 → Int32 → MS → Prop) (x2 : Int32) (x3 : Int32) (x4 : Int32) (S : MS) : Prop :=
  (((M_cuts S) ≤ x4 →
    ∃ n, wl_X3_tick_90 a0 post K33 n x2 x3 (0 : Int32) S
  ) ∧
  (¬ (M_cuts S) ≤ x4 →
    (vp_in x4 60) ∧ (
      ((¬ (M_state S x4.toNatClampNeg) = (1 : Int32) →
        rec x2 x3 (x4 + (1)) S
      ) ∧
      ((M_state S x4.toNatClampNeg) = (1 : Int32) →
        wp_X3_rolls x4 S (fun S13 =>
          rec x2 x3 (x4 + (1)) S13
        )
      ))
    )
  ))
def wl_X3_tick_55 (a0 : Int32) (post : Int32 → MS → Prop) (K33 : Int32 → Int32 → MS → Prop) : Nat → Int32 → Int32 → Int32 → MS → Prop
  | 0 => fun _ _ _ _ => False
  | n + 1 => wb_X3_tick_55 a0 post K33 (wl_X3_tick_55 a0 post K33 n)
def wb_X3_tick_33 (a0 : Int32) (post : Int32 → MS → Prop) (rec : Int32 → Int32 → MS → Prop) (x2 : Int32) (x3 : Int32) (S : MS) : Prop :=
  ((a0 ≤ x3 →
    post ((M_eventCount S) - x2) S
  ) ∧
  (¬ a0 ≤ x3 →
    ∀ x15 : Int32, x15 = (M_ticks S) + (1 : Int32) →
      ∀ S16 : MS, S16 = Ms_ticks S x15 →
        wp_X3_points  S16 (fun S17 =>
          ∃ n, wl_X3_tick_55 a0 post rec n x2 x3 (0 : Int32) S17
        )
  ))
def wl_X3_tick_33 (a0 : Int32) (post : Int32 → MS → Prop) : Nat → Int32 → Int32 → MS → Prop
  | 0 => fun _ _ _ => False
  | n + 1 => wb_X3_tick_33 a0 post (wl_X3_tick_33 a0 post n)
def wp_X3_tick (a0 : Int32) (S : MS) (post : Int32 → MS → Prop) : Prop :=
  ((a0 < (1 : Int32) →
    wp_X3_refuses (1 : Int32) S (fun r20 S19 =>
      ((r20 = 0 →
        ∀ x22 : Int32, x22 = M_eventCount S19 →
          ∃ n, wl_X3_tick_33 a0 post n x22 (0 : Int32) S19
      ) ∧
      (¬ r20 = 0 →
        post (0 : Int32) S19
      ))
    )
  ) ∧
  (¬ a0 < (1 : Int32) →
    ((a0 ≤ (400 : Int32) →
      wp_X3_refuses (0 : Int32) S (fun r25 S24 =>
        ((r25 = 0 →
          ∀ x27 : Int32, x27 = M_eventCount S24 →
            ∃ n, wl_X3_tick_33 a0 post n x27 (0 : Int32) S24
        ) ∧
        (¬ r25 = 0 →
          post (0 : Int32) S24
        ))
      )
    ) ∧
    (¬ a0 ≤ (400 : Int32) →
      wp_X3_refuses (1 : Int32) S (fun r29 S28 =>
        ((r29 = 0 →
          ∀ x31 : Int32, x31 = M_eventCount S28 →
            ∃ n, wl_X3_tick_33 a0 post n x31 (0 : Int32) S28
        ) ∧
        (¬ r29 = 0 →
          post (0 : Int32) S28
        ))
      )
    ))
  ))
set_option maxHeartbeats 4000000 in
set_option maxRecDepth 100000 in
theorem lp_X3_tick_125 {l : Launch} {G : GT} {Z : State} {ws0 : va_W} {b : Nat → Nat} {p : Program} {e : Env} {s : State} {m : MethodId} {args : Array Value} {below : List Frame} {meth : Method} {c : Code} {a0 : Int32} (C : Cx G Z ws0 p s m args meth c RX3 cX3_tick 5 (some .int)) {post : Int32 → MS → Prop} {K33 : Int32 → Int32 → MS → Prop} (k33 : ∀ (z2 : Int32) (z3 : Int32) (SS : MS) (H : Heap) (locs : List Loc) (ls : Array Slot), K33 z2 z3 SS → Hp G ws0 s H locs (wM G b SS) → lv_has ls 5 [(0, .ref (b 0)), (1, .int a0), (2, .int z2), (3, .int z3)] → W p l e (rmz 5 108) s m args below meth c H locs 0 0 (QQ G Z ws0 below s args (PI (wM G b) post) (rmz 5 108)) (F0 m 33 ls [])) : ∀ (n : Nat) (x2 : Int32) (x3 : Int32) (x4 : Int32) (S : MS) (H : Heap) (locs : List Loc) (ls : Array Slot), wl_X3_tick_125 a0 post K33 n x2 x3 x4 S → Hp G ws0 s H locs (wM G b S) → lv_has ls 5 [(0, .ref (b 0)), (1, .int a0), (2, .int x2), (3, .int x3), (4, .int x4)] → W p l e (rmz 5 108) s m args below meth c H locs 0 0 (QQ G Z ws0 below s args (PI (wM G b) post) (rmz 5 108)) (F0 m 125 ls []) := by
  have hx := C.hx
  have hb := C.hb
  have hZ := C.hZ
  intro n
  induction n with
  | zero =>
    intro x2 x3 x4 S H locs ls h
    exact False.elim h
  | succ n ih =>
    intro x2 x3 x4 S H locs ls h hp hl
    have h : wb_X3_tick_125 a0 post K33 (wl_X3_tick_125 a0 post K33 n) x2 x3 x4 S := h
    unfold wb_X3_tick_125 at h
    generalize hrec : wl_X3_tick_125 a0 post K33 n = rec at h ih
    refine lv_iload hx hb dX3_tick_125 (lv_at hl 4 rfl) ?_
    refine lv_aload_n hx hb dX3_tick_127 rfl (lv_at hl 0 rfl) ?_
    refine gM_cuts C hp dX3_tick_128 ?_
    refine lv_icmp_ge (tgt := 157) hx hb dX3_tick_131 (by decide) (fun q1 => ?_) (fun q1 => ?_)
    · have h := h.1 q1
      refine lv_aload_n hx hb dX3_tick_157 rfl (lv_at hl 0 rfl) ?_
      refine r_callV (q0 := 0) (ci := 3) (rest := []) (c_X3_pushes (b := b) C.hZ h) C hp mf_X3_pushes km_X3_195 hl.1 dX3_tick_158 rfl rfl ⟨lb rfl, lb rfl, lb rfl, lb rfl⟩ rfl rfl (lb rfl) (fun v w1 H locs hv hp => ?_)
      obtain ⟨S2, rfl, rfl, h⟩ := hv
      refine W.eq (g2 := F0 m 161 ls []) rfl ?_
      refine lv_iinc (v := x3 + (1)) (lv' := [(3, .int (x3 + (1))), (0, .ref (b 0)), (1, .int a0), (2, .int x2), (4, .int x4)]) hx hb dX3_tick_161 hl (k := 3) rfl rfl (by decide) rfl (fun ls hl => ?_)
      refine lv_goto (tgt := 33) hx hb dX3_tick_164 (by decide) ?_
      exact k33 _ _ _ _ _ _ h hp (lv_sub hl [1, 2, 3, 0] rfl)
    · have h := h.2 q1
      refine lv_aload_n hx hb dX3_tick_134 rfl (lv_at hl 0 rfl) ?_
      refine gM_state C hp dX3_tick_135 ?_
      refine lv_iload hx hb dX3_tick_138 (lv_at hl 4 rfl) ?_
      obtain ⟨g3, h⟩ := h
      refine aM_state C hp dX3_tick_140 g3 ?_
      refine lv_iconst (v := 1) hx hb dX3_tick_141 (by decide) ?_
      refine lv_icmp_ne (tgt := 151) hx hb dX3_tick_142 (by decide) (fun q4 => ?_) (fun q4 => ?_)
      · have h := h.1 q4
        refine lv_iinc (v := x4 + (1)) (lv' := [(4, .int (x4 + (1))), (0, .ref (b 0)), (1, .int a0), (2, .int x2), (3, .int x3)]) hx hb dX3_tick_151 hl (k := 4) rfl rfl (by decide) rfl (fun ls hl => ?_)
        refine lv_goto (tgt := 125) hx hb dX3_tick_154 (by decide) ?_
        exact ih _ _ _ _ _ _ _ h hp (lv_sub hl [1, 2, 3, 4, 0] rfl)
      · have h := h.2 q4
        refine lv_aload_n hx hb dX3_tick_145 rfl (lv_at hl 0 rfl) ?_
        refine lv_iload hx hb dX3_tick_146 (lv_at hl 4 rfl) ?_
        refine r_callV (q0 := 0) (ci := 3) (rest := []) (c_X3_ends (b := b) C.hZ h) C hp mf_X3_ends km_X3_192 hl.1 dX3_tick_148 rfl rfl ⟨lb rfl, lb rfl, lb rfl, lb rfl⟩ rfl rfl (lb rfl) (fun v w1 H locs hv hp => ?_)
        obtain ⟨S5, rfl, rfl, h⟩ := hv
        refine W.eq (g2 := F0 m 151 ls []) rfl ?_
        refine lv_iinc (v := x4 + (1)) (lv' := [(4, .int (x4 + (1))), (0, .ref (b 0)), (1, .int a0), (2, .int x2), (3, .int x3)]) hx hb dX3_tick_151 hl (k := 4) rfl rfl (by decide) rfl (fun ls hl => ?_)
        refine lv_goto (tgt := 125) hx hb dX3_tick_154 (by decide) ?_
        exact ih _ _ _ _ _ _ _ h hp (lv_sub hl [1, 2, 3, 4, 0] rfl)
set_option maxHeartbeats 4000000 in
set_option maxRecDepth 100000 in
theorem lp_X3_tick_90 {l : Launch} {G : GT} {Z : State} {ws0 : va_W} {b : Nat → Nat} {p : Program} {e : Env} {s : State} {m : MethodId} {args : Array Value} {below : List Frame} {meth : Method} {c : Code} {a0 : Int32} (C : Cx G Z ws0 p s m args meth c RX3 cX3_tick 5 (some .int)) {post : Int32 → MS → Prop} {K33 : Int32 → Int32 → MS → Prop} (k33 : ∀ (z2 : Int32) (z3 : Int32) (SS : MS) (H : Heap) (locs : List Loc) (ls : Array Slot), K33 z2 z3 SS → Hp G ws0 s H locs (wM G b SS) → lv_has ls 5 [(0, .ref (b 0)), (1, .int a0), (2, .int z2), (3, .int z3)] → W p l e (rmz 5 108) s m args below meth c H locs 0 0 (QQ G Z ws0 below s args (PI (wM G b) post) (rmz 5 108)) (F0 m 33 ls [])) : ∀ (n : Nat) (x2 : Int32) (x3 : Int32) (x4 : Int32) (S : MS) (H : Heap) (locs : List Loc) (ls : Array Slot), wl_X3_tick_90 a0 post K33 n x2 x3 x4 S → Hp G ws0 s H locs (wM G b S) → lv_has ls 5 [(0, .ref (b 0)), (1, .int a0), (2, .int x2), (3, .int x3), (4, .int x4)] → W p l e (rmz 5 108) s m args below meth c H locs 0 0 (QQ G Z ws0 below s args (PI (wM G b) post) (rmz 5 108)) (F0 m 90 ls []) := by
  have hx := C.hx
  have hb := C.hb
  have hZ := C.hZ
  intro n
  induction n with
  | zero =>
    intro x2 x3 x4 S H locs ls h
    exact False.elim h
  | succ n ih =>
    intro x2 x3 x4 S H locs ls h hp hl
    have h : wb_X3_tick_90 a0 post K33 (wl_X3_tick_90 a0 post K33 n) x2 x3 x4 S := h
    unfold wb_X3_tick_90 at h
    generalize hrec : wl_X3_tick_90 a0 post K33 n = rec at h ih
    refine lv_iload hx hb dX3_tick_90 (lv_at hl 4 rfl) ?_
    refine lv_aload_n hx hb dX3_tick_92 rfl (lv_at hl 0 rfl) ?_
    refine gM_cuts C hp dX3_tick_93 ?_
    refine lv_icmp_ge (tgt := 122) hx hb dX3_tick_96 (by decide) (fun q6 => ?_) (fun q6 => ?_)
    · have h := h.1 q6
      refine lv_iconst (v := 0) hx hb dX3_tick_122 (by decide) ?_
      refine lv_istore (lv' := [(4, .int (0 : Int32)), (0, .ref (b 0)), (1, .int a0), (2, .int x2), (3, .int x3)]) hx hb dX3_tick_123 hl (by decide) rfl (fun ls hl => ?_)
      obtain ⟨n, h⟩ := h
      exact lp_X3_tick_125 C k33 n _ _ _ _ _ _ _ h hp (lv_sub hl [1, 2, 3, 4, 0] rfl)
    · have h := h.2 q6
      refine lv_aload_n hx hb dX3_tick_99 rfl (lv_at hl 0 rfl) ?_
      refine gM_state C hp dX3_tick_100 ?_
      refine lv_iload hx hb dX3_tick_103 (lv_at hl 4 rfl) ?_
      obtain ⟨g7, h⟩ := h
      refine aM_state C hp dX3_tick_105 g7 ?_
      refine lv_iconst (v := 1) hx hb dX3_tick_106 (by decide) ?_
      refine lv_icmp_ne (tgt := 116) hx hb dX3_tick_107 (by decide) (fun q8 => ?_) (fun q8 => ?_)
      · have h := h.1 q8
        refine lv_iinc (v := x4 + (1)) (lv' := [(4, .int (x4 + (1))), (0, .ref (b 0)), (1, .int a0), (2, .int x2), (3, .int x3)]) hx hb dX3_tick_116 hl (k := 4) rfl rfl (by decide) rfl (fun ls hl => ?_)
        refine lv_goto (tgt := 90) hx hb dX3_tick_119 (by decide) ?_
        exact ih _ _ _ _ _ _ _ h hp (lv_sub hl [1, 2, 3, 4, 0] rfl)
      · have h := h.2 q8
        refine lv_aload_n hx hb dX3_tick_110 rfl (lv_at hl 0 rfl) ?_
        refine lv_iload hx hb dX3_tick_111 (lv_at hl 4 rfl) ?_
        refine r_callV (q0 := 0) (ci := 3) (rest := []) (c_X3_catches (b := b) C.hZ h) C hp mf_X3_catches km_X3_189 hl.1 dX3_tick_113 rfl rfl ⟨lb rfl, lb rfl, lb rfl, lb rfl⟩ rfl rfl (lb rfl) (fun v w1 H locs hv hp => ?_)
        obtain ⟨S9, rfl, rfl, h⟩ := hv
        refine W.eq (g2 := F0 m 116 ls []) rfl ?_
        refine lv_iinc (v := x4 + (1)) (lv' := [(4, .int (x4 + (1))), (0, .ref (b 0)), (1, .int a0), (2, .int x2), (3, .int x3)]) hx hb dX3_tick_116 hl (k := 4) rfl rfl (by decide) rfl (fun ls hl => ?_)
        refine lv_goto (tgt := 90) hx hb dX3_tick_119 (by decide) ?_
        exact ih _ _ _ _ _ _ _ h hp (lv_sub hl [1, 2, 3, 4, 0] rfl)
set_option maxHeartbeats 4000000 in
set_option maxRecDepth 100000 in
theorem lp_X3_tick_55 {l : Launch} {G : GT} {Z : State} {ws0 : va_W} {b : Nat → Nat} {p : Program} {e : Env} {s : State} {m : MethodId} {args : Array Value} {below : List Frame} {meth : Method} {c : Code} {a0 : Int32} (C : Cx G Z ws0 p s m args meth c RX3 cX3_tick 5 (some .int)) {post : Int32 → MS → Prop} {K33 : Int32 → Int32 → MS → Prop} (k33 : ∀ (z2 : Int32) (z3 : Int32) (SS : MS) (H : Heap) (locs : List Loc) (ls : Array Slot), K33 z2 z3 SS → Hp G ws0 s H locs (wM G b SS) → lv_has ls 5 [(0, .ref (b 0)), (1, .int a0), (2, .int z2), (3, .int z3)] → W p l e (rmz 5 108) s m args below meth c H locs 0 0 (QQ G Z ws0 below s args (PI (wM G b) post) (rmz 5 108)) (F0 m 33 ls [])) : ∀ (n : Nat) (x2 : Int32) (x3 : Int32) (x4 : Int32) (S : MS) (H : Heap) (locs : List Loc) (ls : Array Slot), wl_X3_tick_55 a0 post K33 n x2 x3 x4 S → Hp G ws0 s H locs (wM G b S) → lv_has ls 5 [(0, .ref (b 0)), (1, .int a0), (2, .int x2), (3, .int x3), (4, .int x4)] → W p l e (rmz 5 108) s m args below meth c H locs 0 0 (QQ G Z ws0 below s args (PI (wM G b) post) (rmz 5 108)) (F0 m 55 ls []) := by
  have hx := C.hx
  have hb := C.hb
  have hZ := C.hZ
  intro n
  induction n with
  | zero =>
    intro x2 x3 x4 S H locs ls h
    exact False.elim h
  | succ n ih =>
    intro x2 x3 x4 S H locs ls h hp hl
    have h : wb_X3_tick_55 a0 post K33 (wl_X3_tick_55 a0 post K33 n) x2 x3 x4 S := h
    unfold wb_X3_tick_55 at h
    generalize hrec : wl_X3_tick_55 a0 post K33 n = rec at h ih
    refine lv_iload hx hb dX3_tick_55 (lv_at hl 4 rfl) ?_
    refine lv_aload_n hx hb dX3_tick_57 rfl (lv_at hl 0 rfl) ?_
    refine gM_cuts C hp dX3_tick_58 ?_
    refine lv_icmp_ge (tgt := 87) hx hb dX3_tick_61 (by decide) (fun q10 => ?_) (fun q10 => ?_)
    · have h := h.1 q10
      refine lv_iconst (v := 0) hx hb dX3_tick_87 (by decide) ?_
      refine lv_istore (lv' := [(4, .int (0 : Int32)), (0, .ref (b 0)), (1, .int a0), (2, .int x2), (3, .int x3)]) hx hb dX3_tick_88 hl (by decide) rfl (fun ls hl => ?_)
      obtain ⟨n, h⟩ := h
      exact lp_X3_tick_90 C k33 n _ _ _ _ _ _ _ h hp (lv_sub hl [1, 2, 3, 4, 0] rfl)
    · have h := h.2 q10
      refine lv_aload_n hx hb dX3_tick_64 rfl (lv_at hl 0 rfl) ?_
      refine gM_state C hp dX3_tick_65 ?_
      refine lv_iload hx hb dX3_tick_68 (lv_at hl 4 rfl) ?_
      obtain ⟨g11, h⟩ := h
      refine aM_state C hp dX3_tick_70 g11 ?_
      refine lv_iconst (v := 1) hx hb dX3_tick_71 (by decide) ?_
      refine lv_icmp_ne (tgt := 81) hx hb dX3_tick_72 (by decide) (fun q12 => ?_) (fun q12 => ?_)
      · have h := h.1 q12
        refine lv_iinc (v := x4 + (1)) (lv' := [(4, .int (x4 + (1))), (0, .ref (b 0)), (1, .int a0), (2, .int x2), (3, .int x3)]) hx hb dX3_tick_81 hl (k := 4) rfl rfl (by decide) rfl (fun ls hl => ?_)
        refine lv_goto (tgt := 55) hx hb dX3_tick_84 (by decide) ?_
        exact ih _ _ _ _ _ _ _ h hp (lv_sub hl [1, 2, 3, 4, 0] rfl)
      · have h := h.2 q12
        refine lv_aload_n hx hb dX3_tick_75 rfl (lv_at hl 0 rfl) ?_
        refine lv_iload hx hb dX3_tick_76 (lv_at hl 4 rfl) ?_
        refine r_callV (q0 := 0) (ci := 3) (rest := []) (c_X3_rolls (b := b) C.hZ h) C hp mf_X3_rolls km_X3_185 hl.1 dX3_tick_78 rfl rfl ⟨lb rfl, lb rfl, lb rfl, lb rfl⟩ rfl rfl (lb rfl) (fun v w1 H locs hv hp => ?_)
        obtain ⟨S13, rfl, rfl, h⟩ := hv
        refine W.eq (g2 := F0 m 81 ls []) rfl ?_
        refine lv_iinc (v := x4 + (1)) (lv' := [(4, .int (x4 + (1))), (0, .ref (b 0)), (1, .int a0), (2, .int x2), (3, .int x3)]) hx hb dX3_tick_81 hl (k := 4) rfl rfl (by decide) rfl (fun ls hl => ?_)
        refine lv_goto (tgt := 55) hx hb dX3_tick_84 (by decide) ?_
        exact ih _ _ _ _ _ _ _ h hp (lv_sub hl [1, 2, 3, 4, 0] rfl)
set_option maxHeartbeats 4000000 in
set_option maxRecDepth 100000 in
theorem lp_X3_tick_33 {l : Launch} {G : GT} {Z : State} {ws0 : va_W} {b : Nat → Nat} {p : Program} {e : Env} {s : State} {m : MethodId} {args : Array Value} {below : List Frame} {meth : Method} {c : Code} {a0 : Int32} (C : Cx G Z ws0 p s m args meth c RX3 cX3_tick 5 (some .int)) {post : Int32 → MS → Prop} : ∀ (n : Nat) (x2 : Int32) (x3 : Int32) (S : MS) (H : Heap) (locs : List Loc) (ls : Array Slot), wl_X3_tick_33 a0 post n x2 x3 S → Hp G ws0 s H locs (wM G b S) → lv_has ls 5 [(0, .ref (b 0)), (1, .int a0), (2, .int x2), (3, .int x3)] → W p l e (rmz 5 108) s m args below meth c H locs 0 0 (QQ G Z ws0 below s args (PI (wM G b) post) (rmz 5 108)) (F0 m 33 ls []) := by
  have hx := C.hx
  have hb := C.hb
  have hZ := C.hZ
  intro n
  induction n with
  | zero =>
    intro x2 x3 S H locs ls h
    exact False.elim h
  | succ n ih =>
    intro x2 x3 S H locs ls h hp hl
    have h : wb_X3_tick_33 a0 post (wl_X3_tick_33 a0 post n) x2 x3 S := h
    unfold wb_X3_tick_33 at h
    generalize hrec : wl_X3_tick_33 a0 post n = rec at h ih
    refine lv_iload_n hx hb dX3_tick_33 rfl (lv_at hl 3 rfl) ?_
    refine lv_iload_n hx hb dX3_tick_34 rfl (lv_at hl 1 rfl) ?_
    refine lv_icmp_ge (tgt := 167) hx hb dX3_tick_35 (by decide) (fun q14 => ?_) (fun q14 => ?_)
    · have h := h.1 q14
      refine lv_aload_n hx hb dX3_tick_167 rfl (lv_at hl 0 rfl) ?_
      refine gM_eventCount C hp dX3_tick_168 ?_
      refine lv_iload_n hx hb dX3_tick_171 rfl (lv_at hl 2 rfl) ?_
      refine lv_isub hx hb dX3_tick_172 ?_
      exact r_iret C hp dX3_tick_173 ⟨_, _, rfl, rfl, h⟩
    · have h := h.2 q14
      refine lv_aload_n hx hb dX3_tick_38 rfl (lv_at hl 0 rfl) ?_
      refine lv_dup hx hb dX3_tick_39 rfl ?_
      refine gM_ticks C hp dX3_tick_40 ?_
      refine lv_iconst (v := 1) hx hb dX3_tick_43 (by decide) ?_
      refine lv_iadd hx hb dX3_tick_44 ?_
      refine lv_topi (fun x15 ex15 => ?_)
      have h := h x15 ex15
      refine pM_ticks C hp dX3_tick_45 (fun H locs hp => ?_)
      obtain ⟨S16, eS16⟩ : ∃ z : MS, z = Ms_ticks S x15 := ⟨_, rfl⟩
      rw [← eS16] at hp
      have h := h S16 eS16
      refine lv_aload_n hx hb dX3_tick_48 rfl (lv_at hl 0 rfl) ?_
      refine r_callV (q0 := 0) (ci := 3) (rest := []) (c_X3_points (b := b) C.hZ h) C hp mf_X3_points km_X3_182 hl.1 dX3_tick_49 rfl rfl ⟨lb rfl, lb rfl, lb rfl, lb rfl⟩ rfl rfl (lb rfl) (fun v w1 H locs hv hp => ?_)
      obtain ⟨S17, rfl, rfl, h⟩ := hv
      refine W.eq (g2 := F0 m 52 ls []) rfl ?_
      refine lv_iconst (v := 0) hx hb dX3_tick_52 (by decide) ?_
      refine lv_istore (lv' := [(4, .int (0 : Int32)), (0, .ref (b 0)), (1, .int a0), (2, .int x2), (3, .int x3)]) hx hb dX3_tick_53 hl (by decide) rfl (fun ls hl => ?_)
      obtain ⟨n, h⟩ := h
      exact lp_X3_tick_55 C (fun z2 z3 SS H locs ls h hp hl => ih z2 z3 SS H locs ls h hp hl) n _ _ _ _ _ _ _ h hp (lv_sub hl [1, 2, 3, 4, 0] rfl)
set_option maxHeartbeats 4000000 in
set_option maxRecDepth 100000 in
theorem c_X3_tick {l : Launch} {G : GT} {Z : State} {b : Nat → Nat} (hZ : ZOK G Z) {a0 : Int32} {S : MS} {post : Int32 → MS → Prop} (h : wp_X3_tick a0 S post) : CM l G Z yX3_tick cX3_tick 5 (some .int) (rmz 5 108) [.ref (b 0), .int a0] (wM G b S) (PI (wM G b) post) := by
  refine CM_ofW hZ (by decide) (lb rfl) (fun p e s m below meth c ls C hp hl hnm => ?_)
  have C : Cx G Z _ p s m _ meth c RX3 cX3_tick 5 (some .int) := C
  have hl : lv_has ls 5 [(0, .ref (b 0)), (1, .int a0)] := hl
  have hx := C.hx
  have hb := C.hb
  unfold wp_X3_tick at h
  refine lv_aload_n hx hb dX3_tick_0 rfl (lv_at hl 0 rfl) ?_
  refine lv_iload_n hx hb dX3_tick_1 rfl (lv_at hl 1 rfl) ?_
  refine lv_iconst (v := 1) hx hb dX3_tick_2 (by decide) ?_
  refine lv_icmp_lt (tgt := 13) hx hb dX3_tick_3 (by decide) (fun q18 => ?_) (fun q18 => ?_)
  · have h := h.1 q18
    refine lv_iconst (v := 1) hx hb dX3_tick_13 (by decide) ?_
    refine lv_goto (tgt := 18) hx hb dX3_tick_14 (by decide) ?_
    refine r_callV (q0 := 0) (ci := 3) (rest := []) (c_X3_refuses (b := b) C.hZ h) C hp mf_X3_refuses km_X3_83 hl.1 dX3_tick_18 rfl rfl ⟨lb rfl, lb rfl, lb rfl, lb rfl⟩ rfl rfl (lb rfl) (fun v w1 H locs hv hp => ?_)
    obtain ⟨r20, S19, rfl, rfl, h⟩ := hv
    refine W.eq (g2 := F0 m 21 ls [.int r20]) rfl ?_
    refine lv_if_eq (tgt := 26) hx hb dX3_tick_21 (by decide) (fun q21 => ?_) (fun q21 => ?_)
    · have h := h.1 q21
      refine lv_aload_n hx hb dX3_tick_26 rfl (lv_at hl 0 rfl) ?_
      refine gM_eventCount C hp dX3_tick_27 ?_
      refine lv_topi (fun x22 ex22 => ?_)
      have h := h x22 ex22
      refine lv_istore_n (lv' := [(2, .int x22), (0, .ref (b 0)), (1, .int a0)]) hx hb dX3_tick_30 rfl hl (by decide) rfl (fun ls hl => ?_)
      refine lv_iconst (v := 0) hx hb dX3_tick_31 (by decide) ?_
      refine lv_istore_n (lv' := [(3, .int (0 : Int32)), (2, .int x22), (0, .ref (b 0)), (1, .int a0)]) hx hb dX3_tick_32 rfl hl (by decide) rfl (fun ls hl => ?_)
      obtain ⟨n, h⟩ := h
      exact lp_X3_tick_33 C n _ _ _ _ _ _ h hp (lv_sub hl [2, 3, 1, 0] rfl)
    · have h := h.2 q21
      refine lv_iconst (v := 0) hx hb dX3_tick_24 (by decide) ?_
      exact r_iret C hp dX3_tick_25 ⟨_, _, rfl, rfl, h⟩
  · have h := h.2 q18
    refine lv_iload_n hx hb dX3_tick_6 rfl (lv_at hl 1 rfl) ?_
    refine lv_sipush (v := 400) hx hb dX3_tick_7 (by decide) ?_
    refine lv_icmp_le (tgt := 17) hx hb dX3_tick_10 (by decide) (fun q23 => ?_) (fun q23 => ?_)
    · have h := h.1 q23
      refine lv_iconst (v := 0) hx hb dX3_tick_17 (by decide) ?_
      refine r_callV (q0 := 0) (ci := 3) (rest := []) (c_X3_refuses (b := b) C.hZ h) C hp mf_X3_refuses km_X3_83 hl.1 dX3_tick_18 rfl rfl ⟨lb rfl, lb rfl, lb rfl, lb rfl⟩ rfl rfl (lb rfl) (fun v w1 H locs hv hp => ?_)
      obtain ⟨r25, S24, rfl, rfl, h⟩ := hv
      refine W.eq (g2 := F0 m 21 ls [.int r25]) rfl ?_
      refine lv_if_eq (tgt := 26) hx hb dX3_tick_21 (by decide) (fun q26 => ?_) (fun q26 => ?_)
      · have h := h.1 q26
        refine lv_aload_n hx hb dX3_tick_26 rfl (lv_at hl 0 rfl) ?_
        refine gM_eventCount C hp dX3_tick_27 ?_
        refine lv_topi (fun x27 ex27 => ?_)
        have h := h x27 ex27
        refine lv_istore_n (lv' := [(2, .int x27), (0, .ref (b 0)), (1, .int a0)]) hx hb dX3_tick_30 rfl hl (by decide) rfl (fun ls hl => ?_)
        refine lv_iconst (v := 0) hx hb dX3_tick_31 (by decide) ?_
        refine lv_istore_n (lv' := [(3, .int (0 : Int32)), (2, .int x27), (0, .ref (b 0)), (1, .int a0)]) hx hb dX3_tick_32 rfl hl (by decide) rfl (fun ls hl => ?_)
        obtain ⟨n, h⟩ := h
        exact lp_X3_tick_33 C n _ _ _ _ _ _ h hp (lv_sub hl [2, 3, 1, 0] rfl)
      · have h := h.2 q26
        refine lv_iconst (v := 0) hx hb dX3_tick_24 (by decide) ?_
        exact r_iret C hp dX3_tick_25 ⟨_, _, rfl, rfl, h⟩
    · have h := h.2 q23
      refine lv_iconst (v := 1) hx hb dX3_tick_13 (by decide) ?_
      refine lv_goto (tgt := 18) hx hb dX3_tick_14 (by decide) ?_
      refine r_callV (q0 := 0) (ci := 3) (rest := []) (c_X3_refuses (b := b) C.hZ h) C hp mf_X3_refuses km_X3_83 hl.1 dX3_tick_18 rfl rfl ⟨lb rfl, lb rfl, lb rfl, lb rfl⟩ rfl rfl (lb rfl) (fun v w1 H locs hv hp => ?_)
      obtain ⟨r29, S28, rfl, rfl, h⟩ := hv
      refine W.eq (g2 := F0 m 21 ls [.int r29]) rfl ?_
      refine lv_if_eq (tgt := 26) hx hb dX3_tick_21 (by decide) (fun q30 => ?_) (fun q30 => ?_)
      · have h := h.1 q30
        refine lv_aload_n hx hb dX3_tick_26 rfl (lv_at hl 0 rfl) ?_
        refine gM_eventCount C hp dX3_tick_27 ?_
        refine lv_topi (fun x31 ex31 => ?_)
        have h := h x31 ex31
        refine lv_istore_n (lv' := [(2, .int x31), (0, .ref (b 0)), (1, .int a0)]) hx hb dX3_tick_30 rfl hl (by decide) rfl (fun ls hl => ?_)
        refine lv_iconst (v := 0) hx hb dX3_tick_31 (by decide) ?_
        refine lv_istore_n (lv' := [(3, .int (0 : Int32)), (2, .int x31), (0, .ref (b 0)), (1, .int a0)]) hx hb dX3_tick_32 rfl hl (by decide) rfl (fun ls hl => ?_)
        obtain ⟨n, h⟩ := h
        exact lp_X3_tick_33 C n _ _ _ _ _ _ h hp (lv_sub hl [2, 3, 1, 0] rfl)
      · have h := h.2 q30
        refine lv_iconst (v := 0) hx hb dX3_tick_24 (by decide) ?_
        exact r_iret C hp dX3_tick_25 ⟨_, _, rfl, rfl, h⟩
theorem mf_X3_tick : MFv yX3_tick cX3_tick 5 (some .int) 1 := ⟨kc_X3_tick, kn_X3_tick, kv_X3_tick, ki_X3, by decide +kernel⟩

/-! X3_place -/
def wp_X3_place (a0 : Int32) (S : MS) (post : UInt64 → MS → Prop) : Prop :=
  wp_X3_isCut S a0 (fun r1 =>
    ((r1 = 0 →
      wp_X3_refuses (1 : Int32) S (fun r4 S3 =>
        ((r4 = 0 →
          (vp_in a0 60) ∧ (
            post (M_place S3 a0.toNatClampNeg) S3
          )
        ) ∧
        (¬ r4 = 0 →
          post FP.dconst0 S3
        ))
      )
    ) ∧
    (¬ r1 = 0 →
      wp_X3_refuses (0 : Int32) S (fun r8 S7 =>
        ((r8 = 0 →
          (vp_in a0 60) ∧ (
            post (M_place S7 a0.toNatClampNeg) S7
          )
        ) ∧
        (¬ r8 = 0 →
          post FP.dconst0 S7
        ))
      )
    ))
  )
set_option maxHeartbeats 4000000 in
set_option maxRecDepth 100000 in
theorem c_X3_place {l : Launch} {G : GT} {Z : State} {b : Nat → Nat} (hZ : ZOK G Z) {a0 : Int32} {S : MS} {post : UInt64 → MS → Prop} (h : wp_X3_place a0 S post) : CM l G Z yX3_place cX3_place 2 (some .double) (rmz 1 21) [.ref (b 0), .int a0] (wM G b S) (PD (wM G b) post) := by
  refine CM_ofW hZ (by decide) (lb rfl) (fun p e s m below meth c ls C hp hl hnm => ?_)
  have C : Cx G Z _ p s m _ meth c RX3 cX3_place 2 (some .double) := C
  have hl : lv_has ls 2 [(0, .ref (b 0)), (1, .int a0)] := hl
  have hx := C.hx
  have hb := C.hb
  unfold wp_X3_place at h
  refine lv_aload_n hx hb dX3_place_0 rfl (lv_at hl 0 rfl) ?_
  refine lv_aload_n hx hb dX3_place_1 rfl (lv_at hl 0 rfl) ?_
  refine lv_iload_n hx hb dX3_place_2 rfl (lv_at hl 1 rfl) ?_
  refine r_callV (q0 := 0) (ci := 3) (rest := [.ref (b 0)]) (c_X3_isCut (b := b) C.hZ h) C hp mf_X3_isCut km_X3_198 hl.1 dX3_place_3 rfl rfl ⟨lb rfl, lb rfl, lb rfl, lb rfl⟩ rfl rfl (lb rfl) (fun v w1 H locs hv hp => ?_)
  obtain ⟨r1, rfl, rfl, h⟩ := hv
  refine W.eq (g2 := F0 m 6 ls [.int r1, .ref (b 0)]) rfl ?_
  refine lv_if_eq (tgt := 13) hx hb dX3_place_6 (by decide) (fun q2 => ?_) (fun q2 => ?_)
  · have h := h.1 q2
    refine lv_iconst (v := 1) hx hb dX3_place_13 (by decide) ?_
    refine r_callV (q0 := 0) (ci := 3) (rest := []) (c_X3_refuses (b := b) C.hZ h) C hp mf_X3_refuses km_X3_83 hl.1 dX3_place_14 rfl rfl ⟨lb rfl, lb rfl, lb rfl, lb rfl⟩ rfl rfl (lb rfl) (fun v w1 H locs hv hp => ?_)
    obtain ⟨r4, S3, rfl, rfl, h⟩ := hv
    refine W.eq (g2 := F0 m 17 ls [.int r4]) rfl ?_
    refine lv_if_eq (tgt := 24) hx hb dX3_place_17 (by decide) (fun q5 => ?_) (fun q5 => ?_)
    · have h := h.1 q5
      refine lv_aload_n hx hb dX3_place_24 rfl (lv_at hl 0 rfl) ?_
      refine gM_place C hp dX3_place_25 ?_
      refine lv_iload_n hx hb dX3_place_28 rfl (lv_at hl 1 rfl) ?_
      obtain ⟨g6, h⟩ := h
      refine aM_place C hp dX3_place_29 g6 ?_
      exact r_dret C hp dX3_place_30 ⟨_, _, rfl, rfl, h⟩
    · have h := h.2 q5
      refine lv_dconst0 hx hb dX3_place_20 ?_
      refine lv_goto (tgt := 30) hx hb dX3_place_21 (by decide) ?_
      exact r_dret C hp dX3_place_30 ⟨_, _, rfl, rfl, h⟩
  · have h := h.2 q2
    refine lv_iconst (v := 0) hx hb dX3_place_9 (by decide) ?_
    refine lv_goto (tgt := 14) hx hb dX3_place_10 (by decide) ?_
    refine r_callV (q0 := 0) (ci := 3) (rest := []) (c_X3_refuses (b := b) C.hZ h) C hp mf_X3_refuses km_X3_83 hl.1 dX3_place_14 rfl rfl ⟨lb rfl, lb rfl, lb rfl, lb rfl⟩ rfl rfl (lb rfl) (fun v w1 H locs hv hp => ?_)
    obtain ⟨r8, S7, rfl, rfl, h⟩ := hv
    refine W.eq (g2 := F0 m 17 ls [.int r8]) rfl ?_
    refine lv_if_eq (tgt := 24) hx hb dX3_place_17 (by decide) (fun q9 => ?_) (fun q9 => ?_)
    · have h := h.1 q9
      refine lv_aload_n hx hb dX3_place_24 rfl (lv_at hl 0 rfl) ?_
      refine gM_place C hp dX3_place_25 ?_
      refine lv_iload_n hx hb dX3_place_28 rfl (lv_at hl 1 rfl) ?_
      obtain ⟨g10, h⟩ := h
      refine aM_place C hp dX3_place_29 g10 ?_
      exact r_dret C hp dX3_place_30 ⟨_, _, rfl, rfl, h⟩
    · have h := h.2 q9
      refine lv_dconst0 hx hb dX3_place_20 ?_
      refine lv_goto (tgt := 30) hx hb dX3_place_21 (by decide) ?_
      exact r_dret C hp dX3_place_30 ⟨_, _, rfl, rfl, h⟩
theorem mf_X3_place : MFv yX3_place cX3_place 2 (some .double) 1 := ⟨kc_X3_place, kn_X3_place, kv_X3_place, ki_X3, by decide +kernel⟩

/-! X3_speed -/
def wp_X3_speed (a0 : Int32) (S : MS) (post : UInt64 → MS → Prop) : Prop :=
  wp_X3_isCut S a0 (fun r1 =>
    ((r1 = 0 →
      wp_X3_refuses (1 : Int32) S (fun r4 S3 =>
        ((r4 = 0 →
          (vp_in a0 60) ∧ (
            post (M_speed S3 a0.toNatClampNeg) S3
          )
        ) ∧
        (¬ r4 = 0 →
          post FP.dconst0 S3
        ))
      )
    ) ∧
    (¬ r1 = 0 →
      wp_X3_refuses (0 : Int32) S (fun r8 S7 =>
        ((r8 = 0 →
          (vp_in a0 60) ∧ (
            post (M_speed S7 a0.toNatClampNeg) S7
          )
        ) ∧
        (¬ r8 = 0 →
          post FP.dconst0 S7
        ))
      )
    ))
  )
set_option maxHeartbeats 4000000 in
set_option maxRecDepth 100000 in
theorem c_X3_speed {l : Launch} {G : GT} {Z : State} {b : Nat → Nat} (hZ : ZOK G Z) {a0 : Int32} {S : MS} {post : UInt64 → MS → Prop} (h : wp_X3_speed a0 S post) : CM l G Z yX3_speed cX3_speed 2 (some .double) (rmz 1 21) [.ref (b 0), .int a0] (wM G b S) (PD (wM G b) post) := by
  refine CM_ofW hZ (by decide) (lb rfl) (fun p e s m below meth c ls C hp hl hnm => ?_)
  have C : Cx G Z _ p s m _ meth c RX3 cX3_speed 2 (some .double) := C
  have hl : lv_has ls 2 [(0, .ref (b 0)), (1, .int a0)] := hl
  have hx := C.hx
  have hb := C.hb
  unfold wp_X3_speed at h
  refine lv_aload_n hx hb dX3_speed_0 rfl (lv_at hl 0 rfl) ?_
  refine lv_aload_n hx hb dX3_speed_1 rfl (lv_at hl 0 rfl) ?_
  refine lv_iload_n hx hb dX3_speed_2 rfl (lv_at hl 1 rfl) ?_
  refine r_callV (q0 := 0) (ci := 3) (rest := [.ref (b 0)]) (c_X3_isCut (b := b) C.hZ h) C hp mf_X3_isCut km_X3_198 hl.1 dX3_speed_3 rfl rfl ⟨lb rfl, lb rfl, lb rfl, lb rfl⟩ rfl rfl (lb rfl) (fun v w1 H locs hv hp => ?_)
  obtain ⟨r1, rfl, rfl, h⟩ := hv
  refine W.eq (g2 := F0 m 6 ls [.int r1, .ref (b 0)]) rfl ?_
  refine lv_if_eq (tgt := 13) hx hb dX3_speed_6 (by decide) (fun q2 => ?_) (fun q2 => ?_)
  · have h := h.1 q2
    refine lv_iconst (v := 1) hx hb dX3_speed_13 (by decide) ?_
    refine r_callV (q0 := 0) (ci := 3) (rest := []) (c_X3_refuses (b := b) C.hZ h) C hp mf_X3_refuses km_X3_83 hl.1 dX3_speed_14 rfl rfl ⟨lb rfl, lb rfl, lb rfl, lb rfl⟩ rfl rfl (lb rfl) (fun v w1 H locs hv hp => ?_)
    obtain ⟨r4, S3, rfl, rfl, h⟩ := hv
    refine W.eq (g2 := F0 m 17 ls [.int r4]) rfl ?_
    refine lv_if_eq (tgt := 24) hx hb dX3_speed_17 (by decide) (fun q5 => ?_) (fun q5 => ?_)
    · have h := h.1 q5
      refine lv_aload_n hx hb dX3_speed_24 rfl (lv_at hl 0 rfl) ?_
      refine gM_speed C hp dX3_speed_25 ?_
      refine lv_iload_n hx hb dX3_speed_28 rfl (lv_at hl 1 rfl) ?_
      obtain ⟨g6, h⟩ := h
      refine aM_speed C hp dX3_speed_29 g6 ?_
      exact r_dret C hp dX3_speed_30 ⟨_, _, rfl, rfl, h⟩
    · have h := h.2 q5
      refine lv_dconst0 hx hb dX3_speed_20 ?_
      refine lv_goto (tgt := 30) hx hb dX3_speed_21 (by decide) ?_
      exact r_dret C hp dX3_speed_30 ⟨_, _, rfl, rfl, h⟩
  · have h := h.2 q2
    refine lv_iconst (v := 0) hx hb dX3_speed_9 (by decide) ?_
    refine lv_goto (tgt := 14) hx hb dX3_speed_10 (by decide) ?_
    refine r_callV (q0 := 0) (ci := 3) (rest := []) (c_X3_refuses (b := b) C.hZ h) C hp mf_X3_refuses km_X3_83 hl.1 dX3_speed_14 rfl rfl ⟨lb rfl, lb rfl, lb rfl, lb rfl⟩ rfl rfl (lb rfl) (fun v w1 H locs hv hp => ?_)
    obtain ⟨r8, S7, rfl, rfl, h⟩ := hv
    refine W.eq (g2 := F0 m 17 ls [.int r8]) rfl ?_
    refine lv_if_eq (tgt := 24) hx hb dX3_speed_17 (by decide) (fun q9 => ?_) (fun q9 => ?_)
    · have h := h.1 q9
      refine lv_aload_n hx hb dX3_speed_24 rfl (lv_at hl 0 rfl) ?_
      refine gM_speed C hp dX3_speed_25 ?_
      refine lv_iload_n hx hb dX3_speed_28 rfl (lv_at hl 1 rfl) ?_
      obtain ⟨g10, h⟩ := h
      refine aM_speed C hp dX3_speed_29 g10 ?_
      exact r_dret C hp dX3_speed_30 ⟨_, _, rfl, rfl, h⟩
    · have h := h.2 q9
      refine lv_dconst0 hx hb dX3_speed_20 ?_
      refine lv_goto (tgt := 30) hx hb dX3_speed_21 (by decide) ?_
      exact r_dret C hp dX3_speed_30 ⟨_, _, rfl, rfl, h⟩
theorem mf_X3_speed : MFv yX3_speed cX3_speed 2 (some .double) 1 := ⟨kc_X3_speed, kn_X3_speed, kv_X3_speed, ki_X3, by decide +kernel⟩

/-! X3_told -/
def wp_X3_told (a0 : Int32) (a1 : Int32) (S : MS) (post : Int32 → MS → Prop) : Prop :=
  wp_X3_isCut S a0 (fun r1 =>
    ((¬ r1 = 0 →
      ((a1 < 0 →
        wp_X3_refuses (2 : Int32) S (fun r5 S4 =>
          ((r5 = 0 →
            ((¬ a1 = 0 →
              ((¬ a1 = (1 : Int32) →
                ((¬ a1 = (2 : Int32) →
                  (vp_in a0 60) ∧ (
                    post (M_caught S4 a0.toNatClampNeg) S4
                  )
                ) ∧
                (a1 = (2 : Int32) →
                  (vp_in a0 60) ∧ (
                    post (M_passed S4 a0.toNatClampNeg) S4
                  )
                ))
              ) ∧
              (a1 = (1 : Int32) →
                (vp_in a0 60) ∧ (
                  ((¬ (M_passed S4 a0.toNatClampNeg) = (3 : Int32) →
                    post (-1 : Int32) S4
                  ) ∧
                  ((M_passed S4 a0.toNatClampNeg) = (3 : Int32) →
                    post (M_sides S4 a0.toNatClampNeg) S4
                  ))
                )
              ))
            ) ∧
            (a1 = 0 →
              (vp_in a0 60) ∧ (
                post (M_state S4 a0.toNatClampNeg) S4
              )
            ))
          ) ∧
          (¬ r5 = 0 →
            post (0 : Int32) S4
          ))
        )
      ) ∧
      (¬ a1 < 0 →
        ((a1 ≤ (3 : Int32) →
          wp_X3_refuses (0 : Int32) S (fun r17 S16 =>
            ((r17 = 0 →
              ((¬ a1 = 0 →
                ((¬ a1 = (1 : Int32) →
                  ((¬ a1 = (2 : Int32) →
                    (vp_in a0 60) ∧ (
                      post (M_caught S16 a0.toNatClampNeg) S16
                    )
                  ) ∧
                  (a1 = (2 : Int32) →
                    (vp_in a0 60) ∧ (
                      post (M_passed S16 a0.toNatClampNeg) S16
                    )
                  ))
                ) ∧
                (a1 = (1 : Int32) →
                  (vp_in a0 60) ∧ (
                    ((¬ (M_passed S16 a0.toNatClampNeg) = (3 : Int32) →
                      post (-1 : Int32) S16
                    ) ∧
                    ((M_passed S16 a0.toNatClampNeg) = (3 : Int32) →
                      post (M_sides S16 a0.toNatClampNeg) S16
                    ))
                  )
                ))
              ) ∧
              (a1 = 0 →
                (vp_in a0 60) ∧ (
                  post (M_state S16 a0.toNatClampNeg) S16
                )
              ))
            ) ∧
            (¬ r17 = 0 →
              post (0 : Int32) S16
            ))
          )
        ) ∧
        (¬ a1 ≤ (3 : Int32) →
          wp_X3_refuses (2 : Int32) S (fun r28 S27 =>
            ((r28 = 0 →
              ((¬ a1 = 0 →
                ((¬ a1 = (1 : Int32) →
                  ((¬ a1 = (2 : Int32) →
                    (vp_in a0 60) ∧ (
                      post (M_caught S27 a0.toNatClampNeg) S27
                    )
                  ) ∧
                  (a1 = (2 : Int32) →
                    (vp_in a0 60) ∧ (
                      post (M_passed S27 a0.toNatClampNeg) S27
                    )
                  ))
                ) ∧
                (a1 = (1 : Int32) →
                  (vp_in a0 60) ∧ (
                    ((¬ (M_passed S27 a0.toNatClampNeg) = (3 : Int32) →
                      post (-1 : Int32) S27
                    ) ∧
                    ((M_passed S27 a0.toNatClampNeg) = (3 : Int32) →
                      post (M_sides S27 a0.toNatClampNeg) S27
                    ))
                  )
                ))
              ) ∧
              (a1 = 0 →
                (vp_in a0 60) ∧ (
                  post (M_state S27 a0.toNatClampNeg) S27
                )
              ))
            ) ∧
            (¬ r28 = 0 →
              post (0 : Int32) S27
            ))
          )
        ))
      ))
    ) ∧
    (r1 = 0 →
      wp_X3_refuses (1 : Int32) S (fun r39 S38 =>
        ((r39 = 0 →
          ((¬ a1 = 0 →
            ((¬ a1 = (1 : Int32) →
              ((¬ a1 = (2 : Int32) →
                (vp_in a0 60) ∧ (
                  post (M_caught S38 a0.toNatClampNeg) S38
                )
              ) ∧
              (a1 = (2 : Int32) →
                (vp_in a0 60) ∧ (
                  post (M_passed S38 a0.toNatClampNeg) S38
                )
              ))
            ) ∧
            (a1 = (1 : Int32) →
              (vp_in a0 60) ∧ (
                ((¬ (M_passed S38 a0.toNatClampNeg) = (3 : Int32) →
                  post (-1 : Int32) S38
                ) ∧
                ((M_passed S38 a0.toNatClampNeg) = (3 : Int32) →
                  post (M_sides S38 a0.toNatClampNeg) S38
                ))
              )
            ))
          ) ∧
          (a1 = 0 →
            (vp_in a0 60) ∧ (
              post (M_state S38 a0.toNatClampNeg) S38
            )
          ))
        ) ∧
        (¬ r39 = 0 →
          post (0 : Int32) S38
        ))
      )
    ))
  )
set_option maxHeartbeats 4000000 in
set_option maxRecDepth 100000 in
theorem c_X3_told {l : Launch} {G : GT} {Z : State} {b : Nat → Nat} (hZ : ZOK G Z) {a0 : Int32} {a1 : Int32} {S : MS} {post : Int32 → MS → Prop} (h : wp_X3_told a0 a1 S post) : CM l G Z yX3_told cX3_told 3 (some .int) (rmz 1 21) [.ref (b 0), .int a0, .int a1] (wM G b S) (PI (wM G b) post) := by
  refine CM_ofW hZ (by decide) (lb rfl) (fun p e s m below meth c ls C hp hl hnm => ?_)
  have C : Cx G Z _ p s m _ meth c RX3 cX3_told 3 (some .int) := C
  have hl : lv_has ls 3 [(0, .ref (b 0)), (1, .int a0), (2, .int a1)] := hl
  have hx := C.hx
  have hb := C.hb
  unfold wp_X3_told at h
  refine lv_aload_n hx hb dX3_told_0 rfl (lv_at hl 0 rfl) ?_
  refine lv_aload_n hx hb dX3_told_1 rfl (lv_at hl 0 rfl) ?_
  refine lv_iload_n hx hb dX3_told_2 rfl (lv_at hl 1 rfl) ?_
  refine r_callV (q0 := 0) (ci := 3) (rest := [.ref (b 0)]) (c_X3_isCut (b := b) C.hZ h) C hp mf_X3_isCut km_X3_198 hl.1 dX3_told_3 rfl rfl ⟨lb rfl, lb rfl, lb rfl, lb rfl⟩ rfl rfl (lb rfl) (fun v w1 H locs hv hp => ?_)
  obtain ⟨r1, rfl, rfl, h⟩ := hv
  refine W.eq (g2 := F0 m 6 ls [.int r1, .ref (b 0)]) rfl ?_
  refine lv_if_ne (tgt := 13) hx hb dX3_told_6 (by decide) (fun q2 => ?_) (fun q2 => ?_)
  · have h := h.1 q2
    refine lv_iload_n hx hb dX3_told_13 rfl (lv_at hl 2 rfl) ?_
    refine lv_if_lt (tgt := 22) hx hb dX3_told_14 (by decide) (fun q3 => ?_) (fun q3 => ?_)
    · have h := h.1 q3
      refine lv_iconst (v := 2) hx hb dX3_told_22 (by decide) ?_
      refine lv_goto (tgt := 27) hx hb dX3_told_23 (by decide) ?_
      refine r_callV (q0 := 0) (ci := 3) (rest := []) (c_X3_refuses (b := b) C.hZ h) C hp mf_X3_refuses km_X3_83 hl.1 dX3_told_27 rfl rfl ⟨lb rfl, lb rfl, lb rfl, lb rfl⟩ rfl rfl (lb rfl) (fun v w1 H locs hv hp => ?_)
      obtain ⟨r5, S4, rfl, rfl, h⟩ := hv
      refine W.eq (g2 := F0 m 30 ls [.int r5]) rfl ?_
      refine lv_if_eq (tgt := 35) hx hb dX3_told_30 (by decide) (fun q6 => ?_) (fun q6 => ?_)
      · have h := h.1 q6
        refine lv_iload_n hx hb dX3_told_35 rfl (lv_at hl 2 rfl) ?_
        refine lv_if_ne (tgt := 48) hx hb dX3_told_36 (by decide) (fun q7 => ?_) (fun q7 => ?_)
        · have h := h.1 q7
          refine lv_iload_n hx hb dX3_told_48 rfl (lv_at hl 2 rfl) ?_
          refine lv_iconst (v := 1) hx hb dX3_told_49 (by decide) ?_
          refine lv_icmp_ne (tgt := 76) hx hb dX3_told_50 (by decide) (fun q8 => ?_) (fun q8 => ?_)
          · have h := h.1 q8
            refine lv_iload_n hx hb dX3_told_76 rfl (lv_at hl 2 rfl) ?_
            refine lv_iconst (v := 2) hx hb dX3_told_77 (by decide) ?_
            refine lv_icmp_ne (tgt := 90) hx hb dX3_told_78 (by decide) (fun q9 => ?_) (fun q9 => ?_)
            · have h := h.1 q9
              refine lv_aload_n hx hb dX3_told_90 rfl (lv_at hl 0 rfl) ?_
              refine gM_caught C hp dX3_told_91 ?_
              refine lv_iload_n hx hb dX3_told_94 rfl (lv_at hl 1 rfl) ?_
              obtain ⟨g10, h⟩ := h
              refine aM_caught C hp dX3_told_95 g10 ?_
              exact r_iret C hp dX3_told_96 ⟨_, _, rfl, rfl, h⟩
            · have h := h.2 q9
              refine lv_aload_n hx hb dX3_told_81 rfl (lv_at hl 0 rfl) ?_
              refine gM_passed C hp dX3_told_82 ?_
              refine lv_iload_n hx hb dX3_told_85 rfl (lv_at hl 1 rfl) ?_
              obtain ⟨g11, h⟩ := h
              refine aM_passed C hp dX3_told_86 g11 ?_
              refine lv_goto (tgt := 96) hx hb dX3_told_87 (by decide) ?_
              exact r_iret C hp dX3_told_96 ⟨_, _, rfl, rfl, h⟩
          · have h := h.2 q8
            refine lv_aload_n hx hb dX3_told_53 rfl (lv_at hl 0 rfl) ?_
            refine gM_passed C hp dX3_told_54 ?_
            refine lv_iload_n hx hb dX3_told_57 rfl (lv_at hl 1 rfl) ?_
            obtain ⟨g12, h⟩ := h
            refine aM_passed C hp dX3_told_58 g12 ?_
            refine lv_iconst (v := 3) hx hb dX3_told_59 (by decide) ?_
            refine lv_icmp_ne (tgt := 72) hx hb dX3_told_60 (by decide) (fun q13 => ?_) (fun q13 => ?_)
            · have h := h.1 q13
              refine lv_iconst (v := -1) hx hb dX3_told_72 (by decide) ?_
              refine lv_goto (tgt := 96) hx hb dX3_told_73 (by decide) ?_
              exact r_iret C hp dX3_told_96 ⟨_, _, rfl, rfl, h⟩
            · have h := h.2 q13
              refine lv_aload_n hx hb dX3_told_63 rfl (lv_at hl 0 rfl) ?_
              refine gM_sides C hp dX3_told_64 ?_
              refine lv_iload_n hx hb dX3_told_67 rfl (lv_at hl 1 rfl) ?_
              refine aM_sides C hp dX3_told_68 g12 ?_
              refine lv_goto (tgt := 96) hx hb dX3_told_69 (by decide) ?_
              exact r_iret C hp dX3_told_96 ⟨_, _, rfl, rfl, h⟩
        · have h := h.2 q7
          refine lv_aload_n hx hb dX3_told_39 rfl (lv_at hl 0 rfl) ?_
          refine gM_state C hp dX3_told_40 ?_
          refine lv_iload_n hx hb dX3_told_43 rfl (lv_at hl 1 rfl) ?_
          obtain ⟨g14, h⟩ := h
          refine aM_state C hp dX3_told_44 g14 ?_
          refine lv_goto (tgt := 96) hx hb dX3_told_45 (by decide) ?_
          exact r_iret C hp dX3_told_96 ⟨_, _, rfl, rfl, h⟩
      · have h := h.2 q6
        refine lv_iconst (v := 0) hx hb dX3_told_33 (by decide) ?_
        exact r_iret C hp dX3_told_34 ⟨_, _, rfl, rfl, h⟩
    · have h := h.2 q3
      refine lv_iload_n hx hb dX3_told_17 rfl (lv_at hl 2 rfl) ?_
      refine lv_iconst (v := 3) hx hb dX3_told_18 (by decide) ?_
      refine lv_icmp_le (tgt := 26) hx hb dX3_told_19 (by decide) (fun q15 => ?_) (fun q15 => ?_)
      · have h := h.1 q15
        refine lv_iconst (v := 0) hx hb dX3_told_26 (by decide) ?_
        refine r_callV (q0 := 0) (ci := 3) (rest := []) (c_X3_refuses (b := b) C.hZ h) C hp mf_X3_refuses km_X3_83 hl.1 dX3_told_27 rfl rfl ⟨lb rfl, lb rfl, lb rfl, lb rfl⟩ rfl rfl (lb rfl) (fun v w1 H locs hv hp => ?_)
        obtain ⟨r17, S16, rfl, rfl, h⟩ := hv
        refine W.eq (g2 := F0 m 30 ls [.int r17]) rfl ?_
        refine lv_if_eq (tgt := 35) hx hb dX3_told_30 (by decide) (fun q18 => ?_) (fun q18 => ?_)
        · have h := h.1 q18
          refine lv_iload_n hx hb dX3_told_35 rfl (lv_at hl 2 rfl) ?_
          refine lv_if_ne (tgt := 48) hx hb dX3_told_36 (by decide) (fun q19 => ?_) (fun q19 => ?_)
          · have h := h.1 q19
            refine lv_iload_n hx hb dX3_told_48 rfl (lv_at hl 2 rfl) ?_
            refine lv_iconst (v := 1) hx hb dX3_told_49 (by decide) ?_
            refine lv_icmp_ne (tgt := 76) hx hb dX3_told_50 (by decide) (fun q20 => ?_) (fun q20 => ?_)
            · have h := h.1 q20
              refine lv_iload_n hx hb dX3_told_76 rfl (lv_at hl 2 rfl) ?_
              refine lv_iconst (v := 2) hx hb dX3_told_77 (by decide) ?_
              refine lv_icmp_ne (tgt := 90) hx hb dX3_told_78 (by decide) (fun q21 => ?_) (fun q21 => ?_)
              · have h := h.1 q21
                refine lv_aload_n hx hb dX3_told_90 rfl (lv_at hl 0 rfl) ?_
                refine gM_caught C hp dX3_told_91 ?_
                refine lv_iload_n hx hb dX3_told_94 rfl (lv_at hl 1 rfl) ?_
                obtain ⟨g22, h⟩ := h
                refine aM_caught C hp dX3_told_95 g22 ?_
                exact r_iret C hp dX3_told_96 ⟨_, _, rfl, rfl, h⟩
              · have h := h.2 q21
                refine lv_aload_n hx hb dX3_told_81 rfl (lv_at hl 0 rfl) ?_
                refine gM_passed C hp dX3_told_82 ?_
                refine lv_iload_n hx hb dX3_told_85 rfl (lv_at hl 1 rfl) ?_
                obtain ⟨g23, h⟩ := h
                refine aM_passed C hp dX3_told_86 g23 ?_
                refine lv_goto (tgt := 96) hx hb dX3_told_87 (by decide) ?_
                exact r_iret C hp dX3_told_96 ⟨_, _, rfl, rfl, h⟩
            · have h := h.2 q20
              refine lv_aload_n hx hb dX3_told_53 rfl (lv_at hl 0 rfl) ?_
              refine gM_passed C hp dX3_told_54 ?_
              refine lv_iload_n hx hb dX3_told_57 rfl (lv_at hl 1 rfl) ?_
              obtain ⟨g24, h⟩ := h
              refine aM_passed C hp dX3_told_58 g24 ?_
              refine lv_iconst (v := 3) hx hb dX3_told_59 (by decide) ?_
              refine lv_icmp_ne (tgt := 72) hx hb dX3_told_60 (by decide) (fun q25 => ?_) (fun q25 => ?_)
              · have h := h.1 q25
                refine lv_iconst (v := -1) hx hb dX3_told_72 (by decide) ?_
                refine lv_goto (tgt := 96) hx hb dX3_told_73 (by decide) ?_
                exact r_iret C hp dX3_told_96 ⟨_, _, rfl, rfl, h⟩
              · have h := h.2 q25
                refine lv_aload_n hx hb dX3_told_63 rfl (lv_at hl 0 rfl) ?_
                refine gM_sides C hp dX3_told_64 ?_
                refine lv_iload_n hx hb dX3_told_67 rfl (lv_at hl 1 rfl) ?_
                refine aM_sides C hp dX3_told_68 g24 ?_
                refine lv_goto (tgt := 96) hx hb dX3_told_69 (by decide) ?_
                exact r_iret C hp dX3_told_96 ⟨_, _, rfl, rfl, h⟩
          · have h := h.2 q19
            refine lv_aload_n hx hb dX3_told_39 rfl (lv_at hl 0 rfl) ?_
            refine gM_state C hp dX3_told_40 ?_
            refine lv_iload_n hx hb dX3_told_43 rfl (lv_at hl 1 rfl) ?_
            obtain ⟨g26, h⟩ := h
            refine aM_state C hp dX3_told_44 g26 ?_
            refine lv_goto (tgt := 96) hx hb dX3_told_45 (by decide) ?_
            exact r_iret C hp dX3_told_96 ⟨_, _, rfl, rfl, h⟩
        · have h := h.2 q18
          refine lv_iconst (v := 0) hx hb dX3_told_33 (by decide) ?_
          exact r_iret C hp dX3_told_34 ⟨_, _, rfl, rfl, h⟩
      · have h := h.2 q15
        refine lv_iconst (v := 2) hx hb dX3_told_22 (by decide) ?_
        refine lv_goto (tgt := 27) hx hb dX3_told_23 (by decide) ?_
        refine r_callV (q0 := 0) (ci := 3) (rest := []) (c_X3_refuses (b := b) C.hZ h) C hp mf_X3_refuses km_X3_83 hl.1 dX3_told_27 rfl rfl ⟨lb rfl, lb rfl, lb rfl, lb rfl⟩ rfl rfl (lb rfl) (fun v w1 H locs hv hp => ?_)
        obtain ⟨r28, S27, rfl, rfl, h⟩ := hv
        refine W.eq (g2 := F0 m 30 ls [.int r28]) rfl ?_
        refine lv_if_eq (tgt := 35) hx hb dX3_told_30 (by decide) (fun q29 => ?_) (fun q29 => ?_)
        · have h := h.1 q29
          refine lv_iload_n hx hb dX3_told_35 rfl (lv_at hl 2 rfl) ?_
          refine lv_if_ne (tgt := 48) hx hb dX3_told_36 (by decide) (fun q30 => ?_) (fun q30 => ?_)
          · have h := h.1 q30
            refine lv_iload_n hx hb dX3_told_48 rfl (lv_at hl 2 rfl) ?_
            refine lv_iconst (v := 1) hx hb dX3_told_49 (by decide) ?_
            refine lv_icmp_ne (tgt := 76) hx hb dX3_told_50 (by decide) (fun q31 => ?_) (fun q31 => ?_)
            · have h := h.1 q31
              refine lv_iload_n hx hb dX3_told_76 rfl (lv_at hl 2 rfl) ?_
              refine lv_iconst (v := 2) hx hb dX3_told_77 (by decide) ?_
              refine lv_icmp_ne (tgt := 90) hx hb dX3_told_78 (by decide) (fun q32 => ?_) (fun q32 => ?_)
              · have h := h.1 q32
                refine lv_aload_n hx hb dX3_told_90 rfl (lv_at hl 0 rfl) ?_
                refine gM_caught C hp dX3_told_91 ?_
                refine lv_iload_n hx hb dX3_told_94 rfl (lv_at hl 1 rfl) ?_
                obtain ⟨g33, h⟩ := h
                refine aM_caught C hp dX3_told_95 g33 ?_
                exact r_iret C hp dX3_told_96 ⟨_, _, rfl, rfl, h⟩
              · have h := h.2 q32
                refine lv_aload_n hx hb dX3_told_81 rfl (lv_at hl 0 rfl) ?_
                refine gM_passed C hp dX3_told_82 ?_
                refine lv_iload_n hx hb dX3_told_85 rfl (lv_at hl 1 rfl) ?_
                obtain ⟨g34, h⟩ := h
                refine aM_passed C hp dX3_told_86 g34 ?_
                refine lv_goto (tgt := 96) hx hb dX3_told_87 (by decide) ?_
                exact r_iret C hp dX3_told_96 ⟨_, _, rfl, rfl, h⟩
            · have h := h.2 q31
              refine lv_aload_n hx hb dX3_told_53 rfl (lv_at hl 0 rfl) ?_
              refine gM_passed C hp dX3_told_54 ?_
              refine lv_iload_n hx hb dX3_told_57 rfl (lv_at hl 1 rfl) ?_
              obtain ⟨g35, h⟩ := h
              refine aM_passed C hp dX3_told_58 g35 ?_
              refine lv_iconst (v := 3) hx hb dX3_told_59 (by decide) ?_
              refine lv_icmp_ne (tgt := 72) hx hb dX3_told_60 (by decide) (fun q36 => ?_) (fun q36 => ?_)
              · have h := h.1 q36
                refine lv_iconst (v := -1) hx hb dX3_told_72 (by decide) ?_
                refine lv_goto (tgt := 96) hx hb dX3_told_73 (by decide) ?_
                exact r_iret C hp dX3_told_96 ⟨_, _, rfl, rfl, h⟩
              · have h := h.2 q36
                refine lv_aload_n hx hb dX3_told_63 rfl (lv_at hl 0 rfl) ?_
                refine gM_sides C hp dX3_told_64 ?_
                refine lv_iload_n hx hb dX3_told_67 rfl (lv_at hl 1 rfl) ?_
                refine aM_sides C hp dX3_told_68 g35 ?_
                refine lv_goto (tgt := 96) hx hb dX3_told_69 (by decide) ?_
                exact r_iret C hp dX3_told_96 ⟨_, _, rfl, rfl, h⟩
          · have h := h.2 q30
            refine lv_aload_n hx hb dX3_told_39 rfl (lv_at hl 0 rfl) ?_
            refine gM_state C hp dX3_told_40 ?_
            refine lv_iload_n hx hb dX3_told_43 rfl (lv_at hl 1 rfl) ?_
            obtain ⟨g37, h⟩ := h
            refine aM_state C hp dX3_told_44 g37 ?_
            refine lv_goto (tgt := 96) hx hb dX3_told_45 (by decide) ?_
            exact r_iret C hp dX3_told_96 ⟨_, _, rfl, rfl, h⟩
        · have h := h.2 q29
          refine lv_iconst (v := 0) hx hb dX3_told_33 (by decide) ?_
          exact r_iret C hp dX3_told_34 ⟨_, _, rfl, rfl, h⟩
  · have h := h.2 q2
    refine lv_iconst (v := 1) hx hb dX3_told_9 (by decide) ?_
    refine lv_goto (tgt := 27) hx hb dX3_told_10 (by decide) ?_
    refine r_callV (q0 := 0) (ci := 3) (rest := []) (c_X3_refuses (b := b) C.hZ h) C hp mf_X3_refuses km_X3_83 hl.1 dX3_told_27 rfl rfl ⟨lb rfl, lb rfl, lb rfl, lb rfl⟩ rfl rfl (lb rfl) (fun v w1 H locs hv hp => ?_)
    obtain ⟨r39, S38, rfl, rfl, h⟩ := hv
    refine W.eq (g2 := F0 m 30 ls [.int r39]) rfl ?_
    refine lv_if_eq (tgt := 35) hx hb dX3_told_30 (by decide) (fun q40 => ?_) (fun q40 => ?_)
    · have h := h.1 q40
      refine lv_iload_n hx hb dX3_told_35 rfl (lv_at hl 2 rfl) ?_
      refine lv_if_ne (tgt := 48) hx hb dX3_told_36 (by decide) (fun q41 => ?_) (fun q41 => ?_)
      · have h := h.1 q41
        refine lv_iload_n hx hb dX3_told_48 rfl (lv_at hl 2 rfl) ?_
        refine lv_iconst (v := 1) hx hb dX3_told_49 (by decide) ?_
        refine lv_icmp_ne (tgt := 76) hx hb dX3_told_50 (by decide) (fun q42 => ?_) (fun q42 => ?_)
        · have h := h.1 q42
          refine lv_iload_n hx hb dX3_told_76 rfl (lv_at hl 2 rfl) ?_
          refine lv_iconst (v := 2) hx hb dX3_told_77 (by decide) ?_
          refine lv_icmp_ne (tgt := 90) hx hb dX3_told_78 (by decide) (fun q43 => ?_) (fun q43 => ?_)
          · have h := h.1 q43
            refine lv_aload_n hx hb dX3_told_90 rfl (lv_at hl 0 rfl) ?_
            refine gM_caught C hp dX3_told_91 ?_
            refine lv_iload_n hx hb dX3_told_94 rfl (lv_at hl 1 rfl) ?_
            obtain ⟨g44, h⟩ := h
            refine aM_caught C hp dX3_told_95 g44 ?_
            exact r_iret C hp dX3_told_96 ⟨_, _, rfl, rfl, h⟩
          · have h := h.2 q43
            refine lv_aload_n hx hb dX3_told_81 rfl (lv_at hl 0 rfl) ?_
            refine gM_passed C hp dX3_told_82 ?_
            refine lv_iload_n hx hb dX3_told_85 rfl (lv_at hl 1 rfl) ?_
            obtain ⟨g45, h⟩ := h
            refine aM_passed C hp dX3_told_86 g45 ?_
            refine lv_goto (tgt := 96) hx hb dX3_told_87 (by decide) ?_
            exact r_iret C hp dX3_told_96 ⟨_, _, rfl, rfl, h⟩
        · have h := h.2 q42
          refine lv_aload_n hx hb dX3_told_53 rfl (lv_at hl 0 rfl) ?_
          refine gM_passed C hp dX3_told_54 ?_
          refine lv_iload_n hx hb dX3_told_57 rfl (lv_at hl 1 rfl) ?_
          obtain ⟨g46, h⟩ := h
          refine aM_passed C hp dX3_told_58 g46 ?_
          refine lv_iconst (v := 3) hx hb dX3_told_59 (by decide) ?_
          refine lv_icmp_ne (tgt := 72) hx hb dX3_told_60 (by decide) (fun q47 => ?_) (fun q47 => ?_)
          · have h := h.1 q47
            refine lv_iconst (v := -1) hx hb dX3_told_72 (by decide) ?_
            refine lv_goto (tgt := 96) hx hb dX3_told_73 (by decide) ?_
            exact r_iret C hp dX3_told_96 ⟨_, _, rfl, rfl, h⟩
          · have h := h.2 q47
            refine lv_aload_n hx hb dX3_told_63 rfl (lv_at hl 0 rfl) ?_
            refine gM_sides C hp dX3_told_64 ?_
            refine lv_iload_n hx hb dX3_told_67 rfl (lv_at hl 1 rfl) ?_
            refine aM_sides C hp dX3_told_68 g46 ?_
            refine lv_goto (tgt := 96) hx hb dX3_told_69 (by decide) ?_
            exact r_iret C hp dX3_told_96 ⟨_, _, rfl, rfl, h⟩
      · have h := h.2 q41
        refine lv_aload_n hx hb dX3_told_39 rfl (lv_at hl 0 rfl) ?_
        refine gM_state C hp dX3_told_40 ?_
        refine lv_iload_n hx hb dX3_told_43 rfl (lv_at hl 1 rfl) ?_
        obtain ⟨g48, h⟩ := h
        refine aM_state C hp dX3_told_44 g48 ?_
        refine lv_goto (tgt := 96) hx hb dX3_told_45 (by decide) ?_
        exact r_iret C hp dX3_told_96 ⟨_, _, rfl, rfl, h⟩
    · have h := h.2 q40
      refine lv_iconst (v := 0) hx hb dX3_told_33 (by decide) ?_
      exact r_iret C hp dX3_told_34 ⟨_, _, rfl, rfl, h⟩
theorem mf_X3_told : MFv yX3_told cX3_told 3 (some .int) 2 := ⟨kc_X3_told, kn_X3_told, kv_X3_told, ki_X3, by decide +kernel⟩

/-! X3_point -/
def wp_X3_point (a0 : Int32) (a1 : Int32) (S : MS) (post : Int32 → MS → Prop) : Prop :=
  ((a0 < 0 →
    wp_X3_refuses (1 : Int32) S (fun r3 S2 =>
      ((r3 = 0 →
        ((¬ a1 = 0 →
          ((¬ a1 = (1 : Int32) →
            wp_X3_isBusy S2 a0 (fun r7 =>
              ((r7 = 0 →
                post (0 : Int32) S2
              ) ∧
              (¬ r7 = 0 →
                post (1 : Int32) S2
              ))
            )
          ) ∧
          (a1 = (1 : Int32) →
            (vp_in a0 7) ∧ (
              post (M_turns S2 a0.toNatClampNeg) S2
            )
          ))
        ) ∧
        (a1 = 0 →
          (vp_in a0 7) ∧ (
            post (M_lies S2 a0.toNatClampNeg) S2
          )
        ))
      ) ∧
      (¬ r3 = 0 →
        post (0 : Int32) S2
      ))
    )
  ) ∧
  (¬ a0 < 0 →
    ((a0 < (7 : Int32) →
      ((a1 < 0 →
        wp_X3_refuses (2 : Int32) S (fun r14 S13 =>
          ((r14 = 0 →
            ((¬ a1 = 0 →
              ((¬ a1 = (1 : Int32) →
                wp_X3_isBusy S13 a0 (fun r18 =>
                  ((r18 = 0 →
                    post (0 : Int32) S13
                  ) ∧
                  (¬ r18 = 0 →
                    post (1 : Int32) S13
                  ))
                )
              ) ∧
              (a1 = (1 : Int32) →
                (vp_in a0 7) ∧ (
                  post (M_turns S13 a0.toNatClampNeg) S13
                )
              ))
            ) ∧
            (a1 = 0 →
              (vp_in a0 7) ∧ (
                post (M_lies S13 a0.toNatClampNeg) S13
              )
            ))
          ) ∧
          (¬ r14 = 0 →
            post (0 : Int32) S13
          ))
        )
      ) ∧
      (¬ a1 < 0 →
        ((a1 ≤ (2 : Int32) →
          wp_X3_refuses (0 : Int32) S (fun r24 S23 =>
            ((r24 = 0 →
              ((¬ a1 = 0 →
                ((¬ a1 = (1 : Int32) →
                  wp_X3_isBusy S23 a0 (fun r28 =>
                    ((r28 = 0 →
                      post (0 : Int32) S23
                    ) ∧
                    (¬ r28 = 0 →
                      post (1 : Int32) S23
                    ))
                  )
                ) ∧
                (a1 = (1 : Int32) →
                  (vp_in a0 7) ∧ (
                    post (M_turns S23 a0.toNatClampNeg) S23
                  )
                ))
              ) ∧
              (a1 = 0 →
                (vp_in a0 7) ∧ (
                  post (M_lies S23 a0.toNatClampNeg) S23
                )
              ))
            ) ∧
            (¬ r24 = 0 →
              post (0 : Int32) S23
            ))
          )
        ) ∧
        (¬ a1 ≤ (2 : Int32) →
          wp_X3_refuses (2 : Int32) S (fun r33 S32 =>
            ((r33 = 0 →
              ((¬ a1 = 0 →
                ((¬ a1 = (1 : Int32) →
                  wp_X3_isBusy S32 a0 (fun r37 =>
                    ((r37 = 0 →
                      post (0 : Int32) S32
                    ) ∧
                    (¬ r37 = 0 →
                      post (1 : Int32) S32
                    ))
                  )
                ) ∧
                (a1 = (1 : Int32) →
                  (vp_in a0 7) ∧ (
                    post (M_turns S32 a0.toNatClampNeg) S32
                  )
                ))
              ) ∧
              (a1 = 0 →
                (vp_in a0 7) ∧ (
                  post (M_lies S32 a0.toNatClampNeg) S32
                )
              ))
            ) ∧
            (¬ r33 = 0 →
              post (0 : Int32) S32
            ))
          )
        ))
      ))
    ) ∧
    (¬ a0 < (7 : Int32) →
      wp_X3_refuses (1 : Int32) S (fun r42 S41 =>
        ((r42 = 0 →
          ((¬ a1 = 0 →
            ((¬ a1 = (1 : Int32) →
              wp_X3_isBusy S41 a0 (fun r46 =>
                ((r46 = 0 →
                  post (0 : Int32) S41
                ) ∧
                (¬ r46 = 0 →
                  post (1 : Int32) S41
                ))
              )
            ) ∧
            (a1 = (1 : Int32) →
              (vp_in a0 7) ∧ (
                post (M_turns S41 a0.toNatClampNeg) S41
              )
            ))
          ) ∧
          (a1 = 0 →
            (vp_in a0 7) ∧ (
              post (M_lies S41 a0.toNatClampNeg) S41
            )
          ))
        ) ∧
        (¬ r42 = 0 →
          post (0 : Int32) S41
        ))
      )
    ))
  ))
set_option maxHeartbeats 4000000 in
set_option maxRecDepth 100000 in
theorem c_X3_point {l : Launch} {G : GT} {Z : State} {b : Nat → Nat} (hZ : ZOK G Z) {a0 : Int32} {a1 : Int32} {S : MS} {post : Int32 → MS → Prop} (h : wp_X3_point a0 a1 S post) : CM l G Z yX3_point cX3_point 3 (some .int) (rmz 4 85) [.ref (b 0), .int a0, .int a1] (wM G b S) (PI (wM G b) post) := by
  refine CM_ofW hZ (by decide) (lb rfl) (fun p e s m below meth c ls C hp hl hnm => ?_)
  have C : Cx G Z _ p s m _ meth c RX3 cX3_point 3 (some .int) := C
  have hl : lv_has ls 3 [(0, .ref (b 0)), (1, .int a0), (2, .int a1)] := hl
  have hx := C.hx
  have hb := C.hb
  unfold wp_X3_point at h
  refine lv_aload_n hx hb dX3_point_0 rfl (lv_at hl 0 rfl) ?_
  refine lv_iload_n hx hb dX3_point_1 rfl (lv_at hl 1 rfl) ?_
  refine lv_if_lt (tgt := 11) hx hb dX3_point_2 (by decide) (fun q1 => ?_) (fun q1 => ?_)
  · have h := h.1 q1
    refine lv_iconst (v := 1) hx hb dX3_point_11 (by decide) ?_
    refine lv_goto (tgt := 29) hx hb dX3_point_12 (by decide) ?_
    refine r_callV (q0 := 0) (ci := 3) (rest := []) (c_X3_refuses (b := b) C.hZ h) C hp mf_X3_refuses km_X3_83 hl.1 dX3_point_29 rfl rfl ⟨lb rfl, lb rfl, lb rfl, lb rfl⟩ rfl rfl (lb rfl) (fun v w1 H locs hv hp => ?_)
    obtain ⟨r3, S2, rfl, rfl, h⟩ := hv
    refine W.eq (g2 := F0 m 32 ls [.int r3]) rfl ?_
    refine lv_if_eq (tgt := 37) hx hb dX3_point_32 (by decide) (fun q4 => ?_) (fun q4 => ?_)
    · have h := h.1 q4
      refine lv_iload_n hx hb dX3_point_37 rfl (lv_at hl 2 rfl) ?_
      refine lv_if_ne (tgt := 50) hx hb dX3_point_38 (by decide) (fun q5 => ?_) (fun q5 => ?_)
      · have h := h.1 q5
        refine lv_iload_n hx hb dX3_point_50 rfl (lv_at hl 2 rfl) ?_
        refine lv_iconst (v := 1) hx hb dX3_point_51 (by decide) ?_
        refine lv_icmp_ne (tgt := 64) hx hb dX3_point_52 (by decide) (fun q6 => ?_) (fun q6 => ?_)
        · have h := h.1 q6
          refine lv_aload_n hx hb dX3_point_64 rfl (lv_at hl 0 rfl) ?_
          refine lv_iload_n hx hb dX3_point_65 rfl (lv_at hl 1 rfl) ?_
          refine r_callV (q0 := 0) (ci := 3) (rest := []) (c_X3_isBusy (b := b) C.hZ h) C hp mf_X3_isBusy km_X3_134 hl.1 dX3_point_66 rfl rfl ⟨lb rfl, lb rfl, lb rfl, lb rfl⟩ rfl rfl (lb rfl) (fun v w1 H locs hv hp => ?_)
          obtain ⟨r7, rfl, rfl, h⟩ := hv
          refine W.eq (g2 := F0 m 69 ls [.int r7]) rfl ?_
          refine lv_if_eq (tgt := 76) hx hb dX3_point_69 (by decide) (fun q8 => ?_) (fun q8 => ?_)
          · have h := h.1 q8
            refine lv_iconst (v := 0) hx hb dX3_point_76 (by decide) ?_
            exact r_iret C hp dX3_point_77 ⟨_, _, rfl, rfl, h⟩
          · have h := h.2 q8
            refine lv_iconst (v := 1) hx hb dX3_point_72 (by decide) ?_
            refine lv_goto (tgt := 77) hx hb dX3_point_73 (by decide) ?_
            exact r_iret C hp dX3_point_77 ⟨_, _, rfl, rfl, h⟩
        · have h := h.2 q6
          refine lv_aload_n hx hb dX3_point_55 rfl (lv_at hl 0 rfl) ?_
          refine gM_turns C hp dX3_point_56 ?_
          refine lv_iload_n hx hb dX3_point_59 rfl (lv_at hl 1 rfl) ?_
          obtain ⟨g9, h⟩ := h
          refine aM_turns C hp dX3_point_60 g9 ?_
          refine lv_goto (tgt := 77) hx hb dX3_point_61 (by decide) ?_
          exact r_iret C hp dX3_point_77 ⟨_, _, rfl, rfl, h⟩
      · have h := h.2 q5
        refine lv_aload_n hx hb dX3_point_41 rfl (lv_at hl 0 rfl) ?_
        refine gM_lies C hp dX3_point_42 ?_
        refine lv_iload_n hx hb dX3_point_45 rfl (lv_at hl 1 rfl) ?_
        obtain ⟨g10, h⟩ := h
        refine aM_lies C hp dX3_point_46 g10 ?_
        refine lv_goto (tgt := 77) hx hb dX3_point_47 (by decide) ?_
        exact r_iret C hp dX3_point_77 ⟨_, _, rfl, rfl, h⟩
    · have h := h.2 q4
      refine lv_iconst (v := 0) hx hb dX3_point_35 (by decide) ?_
      exact r_iret C hp dX3_point_36 ⟨_, _, rfl, rfl, h⟩
  · have h := h.2 q1
    refine lv_iload_n hx hb dX3_point_5 rfl (lv_at hl 1 rfl) ?_
    refine lv_bipush (v := 7) hx hb dX3_point_6 (by decide) ?_
    refine lv_icmp_lt (tgt := 15) hx hb dX3_point_8 (by decide) (fun q11 => ?_) (fun q11 => ?_)
    · have h := h.1 q11
      refine lv_iload_n hx hb dX3_point_15 rfl (lv_at hl 2 rfl) ?_
      refine lv_if_lt (tgt := 24) hx hb dX3_point_16 (by decide) (fun q12 => ?_) (fun q12 => ?_)
      · have h := h.1 q12
        refine lv_iconst (v := 2) hx hb dX3_point_24 (by decide) ?_
        refine lv_goto (tgt := 29) hx hb dX3_point_25 (by decide) ?_
        refine r_callV (q0 := 0) (ci := 3) (rest := []) (c_X3_refuses (b := b) C.hZ h) C hp mf_X3_refuses km_X3_83 hl.1 dX3_point_29 rfl rfl ⟨lb rfl, lb rfl, lb rfl, lb rfl⟩ rfl rfl (lb rfl) (fun v w1 H locs hv hp => ?_)
        obtain ⟨r14, S13, rfl, rfl, h⟩ := hv
        refine W.eq (g2 := F0 m 32 ls [.int r14]) rfl ?_
        refine lv_if_eq (tgt := 37) hx hb dX3_point_32 (by decide) (fun q15 => ?_) (fun q15 => ?_)
        · have h := h.1 q15
          refine lv_iload_n hx hb dX3_point_37 rfl (lv_at hl 2 rfl) ?_
          refine lv_if_ne (tgt := 50) hx hb dX3_point_38 (by decide) (fun q16 => ?_) (fun q16 => ?_)
          · have h := h.1 q16
            refine lv_iload_n hx hb dX3_point_50 rfl (lv_at hl 2 rfl) ?_
            refine lv_iconst (v := 1) hx hb dX3_point_51 (by decide) ?_
            refine lv_icmp_ne (tgt := 64) hx hb dX3_point_52 (by decide) (fun q17 => ?_) (fun q17 => ?_)
            · have h := h.1 q17
              refine lv_aload_n hx hb dX3_point_64 rfl (lv_at hl 0 rfl) ?_
              refine lv_iload_n hx hb dX3_point_65 rfl (lv_at hl 1 rfl) ?_
              refine r_callV (q0 := 0) (ci := 3) (rest := []) (c_X3_isBusy (b := b) C.hZ h) C hp mf_X3_isBusy km_X3_134 hl.1 dX3_point_66 rfl rfl ⟨lb rfl, lb rfl, lb rfl, lb rfl⟩ rfl rfl (lb rfl) (fun v w1 H locs hv hp => ?_)
              obtain ⟨r18, rfl, rfl, h⟩ := hv
              refine W.eq (g2 := F0 m 69 ls [.int r18]) rfl ?_
              refine lv_if_eq (tgt := 76) hx hb dX3_point_69 (by decide) (fun q19 => ?_) (fun q19 => ?_)
              · have h := h.1 q19
                refine lv_iconst (v := 0) hx hb dX3_point_76 (by decide) ?_
                exact r_iret C hp dX3_point_77 ⟨_, _, rfl, rfl, h⟩
              · have h := h.2 q19
                refine lv_iconst (v := 1) hx hb dX3_point_72 (by decide) ?_
                refine lv_goto (tgt := 77) hx hb dX3_point_73 (by decide) ?_
                exact r_iret C hp dX3_point_77 ⟨_, _, rfl, rfl, h⟩
            · have h := h.2 q17
              refine lv_aload_n hx hb dX3_point_55 rfl (lv_at hl 0 rfl) ?_
              refine gM_turns C hp dX3_point_56 ?_
              refine lv_iload_n hx hb dX3_point_59 rfl (lv_at hl 1 rfl) ?_
              obtain ⟨g20, h⟩ := h
              refine aM_turns C hp dX3_point_60 g20 ?_
              refine lv_goto (tgt := 77) hx hb dX3_point_61 (by decide) ?_
              exact r_iret C hp dX3_point_77 ⟨_, _, rfl, rfl, h⟩
          · have h := h.2 q16
            refine lv_aload_n hx hb dX3_point_41 rfl (lv_at hl 0 rfl) ?_
            refine gM_lies C hp dX3_point_42 ?_
            refine lv_iload_n hx hb dX3_point_45 rfl (lv_at hl 1 rfl) ?_
            obtain ⟨g21, h⟩ := h
            refine aM_lies C hp dX3_point_46 g21 ?_
            refine lv_goto (tgt := 77) hx hb dX3_point_47 (by decide) ?_
            exact r_iret C hp dX3_point_77 ⟨_, _, rfl, rfl, h⟩
        · have h := h.2 q15
          refine lv_iconst (v := 0) hx hb dX3_point_35 (by decide) ?_
          exact r_iret C hp dX3_point_36 ⟨_, _, rfl, rfl, h⟩
      · have h := h.2 q12
        refine lv_iload_n hx hb dX3_point_19 rfl (lv_at hl 2 rfl) ?_
        refine lv_iconst (v := 2) hx hb dX3_point_20 (by decide) ?_
        refine lv_icmp_le (tgt := 28) hx hb dX3_point_21 (by decide) (fun q22 => ?_) (fun q22 => ?_)
        · have h := h.1 q22
          refine lv_iconst (v := 0) hx hb dX3_point_28 (by decide) ?_
          refine r_callV (q0 := 0) (ci := 3) (rest := []) (c_X3_refuses (b := b) C.hZ h) C hp mf_X3_refuses km_X3_83 hl.1 dX3_point_29 rfl rfl ⟨lb rfl, lb rfl, lb rfl, lb rfl⟩ rfl rfl (lb rfl) (fun v w1 H locs hv hp => ?_)
          obtain ⟨r24, S23, rfl, rfl, h⟩ := hv
          refine W.eq (g2 := F0 m 32 ls [.int r24]) rfl ?_
          refine lv_if_eq (tgt := 37) hx hb dX3_point_32 (by decide) (fun q25 => ?_) (fun q25 => ?_)
          · have h := h.1 q25
            refine lv_iload_n hx hb dX3_point_37 rfl (lv_at hl 2 rfl) ?_
            refine lv_if_ne (tgt := 50) hx hb dX3_point_38 (by decide) (fun q26 => ?_) (fun q26 => ?_)
            · have h := h.1 q26
              refine lv_iload_n hx hb dX3_point_50 rfl (lv_at hl 2 rfl) ?_
              refine lv_iconst (v := 1) hx hb dX3_point_51 (by decide) ?_
              refine lv_icmp_ne (tgt := 64) hx hb dX3_point_52 (by decide) (fun q27 => ?_) (fun q27 => ?_)
              · have h := h.1 q27
                refine lv_aload_n hx hb dX3_point_64 rfl (lv_at hl 0 rfl) ?_
                refine lv_iload_n hx hb dX3_point_65 rfl (lv_at hl 1 rfl) ?_
                refine r_callV (q0 := 0) (ci := 3) (rest := []) (c_X3_isBusy (b := b) C.hZ h) C hp mf_X3_isBusy km_X3_134 hl.1 dX3_point_66 rfl rfl ⟨lb rfl, lb rfl, lb rfl, lb rfl⟩ rfl rfl (lb rfl) (fun v w1 H locs hv hp => ?_)
                obtain ⟨r28, rfl, rfl, h⟩ := hv
                refine W.eq (g2 := F0 m 69 ls [.int r28]) rfl ?_
                refine lv_if_eq (tgt := 76) hx hb dX3_point_69 (by decide) (fun q29 => ?_) (fun q29 => ?_)
                · have h := h.1 q29
                  refine lv_iconst (v := 0) hx hb dX3_point_76 (by decide) ?_
                  exact r_iret C hp dX3_point_77 ⟨_, _, rfl, rfl, h⟩
                · have h := h.2 q29
                  refine lv_iconst (v := 1) hx hb dX3_point_72 (by decide) ?_
                  refine lv_goto (tgt := 77) hx hb dX3_point_73 (by decide) ?_
                  exact r_iret C hp dX3_point_77 ⟨_, _, rfl, rfl, h⟩
              · have h := h.2 q27
                refine lv_aload_n hx hb dX3_point_55 rfl (lv_at hl 0 rfl) ?_
                refine gM_turns C hp dX3_point_56 ?_
                refine lv_iload_n hx hb dX3_point_59 rfl (lv_at hl 1 rfl) ?_
                obtain ⟨g30, h⟩ := h
                refine aM_turns C hp dX3_point_60 g30 ?_
                refine lv_goto (tgt := 77) hx hb dX3_point_61 (by decide) ?_
                exact r_iret C hp dX3_point_77 ⟨_, _, rfl, rfl, h⟩
            · have h := h.2 q26
              refine lv_aload_n hx hb dX3_point_41 rfl (lv_at hl 0 rfl) ?_
              refine gM_lies C hp dX3_point_42 ?_
              refine lv_iload_n hx hb dX3_point_45 rfl (lv_at hl 1 rfl) ?_
              obtain ⟨g31, h⟩ := h
              refine aM_lies C hp dX3_point_46 g31 ?_
              refine lv_goto (tgt := 77) hx hb dX3_point_47 (by decide) ?_
              exact r_iret C hp dX3_point_77 ⟨_, _, rfl, rfl, h⟩
          · have h := h.2 q25
            refine lv_iconst (v := 0) hx hb dX3_point_35 (by decide) ?_
            exact r_iret C hp dX3_point_36 ⟨_, _, rfl, rfl, h⟩
        · have h := h.2 q22
          refine lv_iconst (v := 2) hx hb dX3_point_24 (by decide) ?_
          refine lv_goto (tgt := 29) hx hb dX3_point_25 (by decide) ?_
          refine r_callV (q0 := 0) (ci := 3) (rest := []) (c_X3_refuses (b := b) C.hZ h) C hp mf_X3_refuses km_X3_83 hl.1 dX3_point_29 rfl rfl ⟨lb rfl, lb rfl, lb rfl, lb rfl⟩ rfl rfl (lb rfl) (fun v w1 H locs hv hp => ?_)
          obtain ⟨r33, S32, rfl, rfl, h⟩ := hv
          refine W.eq (g2 := F0 m 32 ls [.int r33]) rfl ?_
          refine lv_if_eq (tgt := 37) hx hb dX3_point_32 (by decide) (fun q34 => ?_) (fun q34 => ?_)
          · have h := h.1 q34
            refine lv_iload_n hx hb dX3_point_37 rfl (lv_at hl 2 rfl) ?_
            refine lv_if_ne (tgt := 50) hx hb dX3_point_38 (by decide) (fun q35 => ?_) (fun q35 => ?_)
            · have h := h.1 q35
              refine lv_iload_n hx hb dX3_point_50 rfl (lv_at hl 2 rfl) ?_
              refine lv_iconst (v := 1) hx hb dX3_point_51 (by decide) ?_
              refine lv_icmp_ne (tgt := 64) hx hb dX3_point_52 (by decide) (fun q36 => ?_) (fun q36 => ?_)
              · have h := h.1 q36
                refine lv_aload_n hx hb dX3_point_64 rfl (lv_at hl 0 rfl) ?_
                refine lv_iload_n hx hb dX3_point_65 rfl (lv_at hl 1 rfl) ?_
                refine r_callV (q0 := 0) (ci := 3) (rest := []) (c_X3_isBusy (b := b) C.hZ h) C hp mf_X3_isBusy km_X3_134 hl.1 dX3_point_66 rfl rfl ⟨lb rfl, lb rfl, lb rfl, lb rfl⟩ rfl rfl (lb rfl) (fun v w1 H locs hv hp => ?_)
                obtain ⟨r37, rfl, rfl, h⟩ := hv
                refine W.eq (g2 := F0 m 69 ls [.int r37]) rfl ?_
                refine lv_if_eq (tgt := 76) hx hb dX3_point_69 (by decide) (fun q38 => ?_) (fun q38 => ?_)
                · have h := h.1 q38
                  refine lv_iconst (v := 0) hx hb dX3_point_76 (by decide) ?_
                  exact r_iret C hp dX3_point_77 ⟨_, _, rfl, rfl, h⟩
                · have h := h.2 q38
                  refine lv_iconst (v := 1) hx hb dX3_point_72 (by decide) ?_
                  refine lv_goto (tgt := 77) hx hb dX3_point_73 (by decide) ?_
                  exact r_iret C hp dX3_point_77 ⟨_, _, rfl, rfl, h⟩
              · have h := h.2 q36
                refine lv_aload_n hx hb dX3_point_55 rfl (lv_at hl 0 rfl) ?_
                refine gM_turns C hp dX3_point_56 ?_
                refine lv_iload_n hx hb dX3_point_59 rfl (lv_at hl 1 rfl) ?_
                obtain ⟨g39, h⟩ := h
                refine aM_turns C hp dX3_point_60 g39 ?_
                refine lv_goto (tgt := 77) hx hb dX3_point_61 (by decide) ?_
                exact r_iret C hp dX3_point_77 ⟨_, _, rfl, rfl, h⟩
            · have h := h.2 q35
              refine lv_aload_n hx hb dX3_point_41 rfl (lv_at hl 0 rfl) ?_
              refine gM_lies C hp dX3_point_42 ?_
              refine lv_iload_n hx hb dX3_point_45 rfl (lv_at hl 1 rfl) ?_
              obtain ⟨g40, h⟩ := h
              refine aM_lies C hp dX3_point_46 g40 ?_
              refine lv_goto (tgt := 77) hx hb dX3_point_47 (by decide) ?_
              exact r_iret C hp dX3_point_77 ⟨_, _, rfl, rfl, h⟩
          · have h := h.2 q34
            refine lv_iconst (v := 0) hx hb dX3_point_35 (by decide) ?_
            exact r_iret C hp dX3_point_36 ⟨_, _, rfl, rfl, h⟩
    · have h := h.2 q11
      refine lv_iconst (v := 1) hx hb dX3_point_11 (by decide) ?_
      refine lv_goto (tgt := 29) hx hb dX3_point_12 (by decide) ?_
      refine r_callV (q0 := 0) (ci := 3) (rest := []) (c_X3_refuses (b := b) C.hZ h) C hp mf_X3_refuses km_X3_83 hl.1 dX3_point_29 rfl rfl ⟨lb rfl, lb rfl, lb rfl, lb rfl⟩ rfl rfl (lb rfl) (fun v w1 H locs hv hp => ?_)
      obtain ⟨r42, S41, rfl, rfl, h⟩ := hv
      refine W.eq (g2 := F0 m 32 ls [.int r42]) rfl ?_
      refine lv_if_eq (tgt := 37) hx hb dX3_point_32 (by decide) (fun q43 => ?_) (fun q43 => ?_)
      · have h := h.1 q43
        refine lv_iload_n hx hb dX3_point_37 rfl (lv_at hl 2 rfl) ?_
        refine lv_if_ne (tgt := 50) hx hb dX3_point_38 (by decide) (fun q44 => ?_) (fun q44 => ?_)
        · have h := h.1 q44
          refine lv_iload_n hx hb dX3_point_50 rfl (lv_at hl 2 rfl) ?_
          refine lv_iconst (v := 1) hx hb dX3_point_51 (by decide) ?_
          refine lv_icmp_ne (tgt := 64) hx hb dX3_point_52 (by decide) (fun q45 => ?_) (fun q45 => ?_)
          · have h := h.1 q45
            refine lv_aload_n hx hb dX3_point_64 rfl (lv_at hl 0 rfl) ?_
            refine lv_iload_n hx hb dX3_point_65 rfl (lv_at hl 1 rfl) ?_
            refine r_callV (q0 := 0) (ci := 3) (rest := []) (c_X3_isBusy (b := b) C.hZ h) C hp mf_X3_isBusy km_X3_134 hl.1 dX3_point_66 rfl rfl ⟨lb rfl, lb rfl, lb rfl, lb rfl⟩ rfl rfl (lb rfl) (fun v w1 H locs hv hp => ?_)
            obtain ⟨r46, rfl, rfl, h⟩ := hv
            refine W.eq (g2 := F0 m 69 ls [.int r46]) rfl ?_
            refine lv_if_eq (tgt := 76) hx hb dX3_point_69 (by decide) (fun q47 => ?_) (fun q47 => ?_)
            · have h := h.1 q47
              refine lv_iconst (v := 0) hx hb dX3_point_76 (by decide) ?_
              exact r_iret C hp dX3_point_77 ⟨_, _, rfl, rfl, h⟩
            · have h := h.2 q47
              refine lv_iconst (v := 1) hx hb dX3_point_72 (by decide) ?_
              refine lv_goto (tgt := 77) hx hb dX3_point_73 (by decide) ?_
              exact r_iret C hp dX3_point_77 ⟨_, _, rfl, rfl, h⟩
          · have h := h.2 q45
            refine lv_aload_n hx hb dX3_point_55 rfl (lv_at hl 0 rfl) ?_
            refine gM_turns C hp dX3_point_56 ?_
            refine lv_iload_n hx hb dX3_point_59 rfl (lv_at hl 1 rfl) ?_
            obtain ⟨g48, h⟩ := h
            refine aM_turns C hp dX3_point_60 g48 ?_
            refine lv_goto (tgt := 77) hx hb dX3_point_61 (by decide) ?_
            exact r_iret C hp dX3_point_77 ⟨_, _, rfl, rfl, h⟩
        · have h := h.2 q44
          refine lv_aload_n hx hb dX3_point_41 rfl (lv_at hl 0 rfl) ?_
          refine gM_lies C hp dX3_point_42 ?_
          refine lv_iload_n hx hb dX3_point_45 rfl (lv_at hl 1 rfl) ?_
          obtain ⟨g49, h⟩ := h
          refine aM_lies C hp dX3_point_46 g49 ?_
          refine lv_goto (tgt := 77) hx hb dX3_point_47 (by decide) ?_
          exact r_iret C hp dX3_point_77 ⟨_, _, rfl, rfl, h⟩
      · have h := h.2 q43
        refine lv_iconst (v := 0) hx hb dX3_point_35 (by decide) ?_
        exact r_iret C hp dX3_point_36 ⟨_, _, rfl, rfl, h⟩
theorem mf_X3_point : MFv yX3_point cX3_point 3 (some .int) 2 := ⟨kc_X3_point, kn_X3_point, kv_X3_point, ki_X3, by decide +kernel⟩

/-! X3_siding -/
def wp_X3_siding (a0 : Int32) (a1 : Int32) (S : MS) (post : Int32 → MS → Prop) : Prop :=
  ((a0 < 0 →
    wp_X3_refuses (1 : Int32) S (fun r3 S2 =>
      ((r3 = 0 →
        ((a1 < 0 →
          post (-1 : Int32) S2
        ) ∧
        (¬ a1 < 0 →
          (vp_in a0 8) ∧ (
            (((M_sided S2 a0.toNatClampNeg) ≤ a1 →
              post (-1 : Int32) S2
            ) ∧
            (¬ (M_sided S2 a0.toNatClampNeg) ≤ a1 →
              (vp_in (((60 : Int32) * a0) + a1) 480) ∧ (
                post (M_sidings S2 (((60 : Int32) * a0) + a1).toNatClampNeg) S2
              )
            ))
          )
        ))
      ) ∧
      (¬ r3 = 0 →
        post (0 : Int32) S2
      ))
    )
  ) ∧
  (¬ a0 < 0 →
    ((a0 < (8 : Int32) →
      wp_X3_refuses (0 : Int32) S (fun r11 S10 =>
        ((r11 = 0 →
          ((a1 < 0 →
            post (-1 : Int32) S10
          ) ∧
          (¬ a1 < 0 →
            (vp_in a0 8) ∧ (
              (((M_sided S10 a0.toNatClampNeg) ≤ a1 →
                post (-1 : Int32) S10
              ) ∧
              (¬ (M_sided S10 a0.toNatClampNeg) ≤ a1 →
                (vp_in (((60 : Int32) * a0) + a1) 480) ∧ (
                  post (M_sidings S10 (((60 : Int32) * a0) + a1).toNatClampNeg) S10
                )
              ))
            )
          ))
        ) ∧
        (¬ r11 = 0 →
          post (0 : Int32) S10
        ))
      )
    ) ∧
    (¬ a0 < (8 : Int32) →
      wp_X3_refuses (1 : Int32) S (fun r18 S17 =>
        ((r18 = 0 →
          ((a1 < 0 →
            post (-1 : Int32) S17
          ) ∧
          (¬ a1 < 0 →
            (vp_in a0 8) ∧ (
              (((M_sided S17 a0.toNatClampNeg) ≤ a1 →
                post (-1 : Int32) S17
              ) ∧
              (¬ (M_sided S17 a0.toNatClampNeg) ≤ a1 →
                (vp_in (((60 : Int32) * a0) + a1) 480) ∧ (
                  post (M_sidings S17 (((60 : Int32) * a0) + a1).toNatClampNeg) S17
                )
              ))
            )
          ))
        ) ∧
        (¬ r18 = 0 →
          post (0 : Int32) S17
        ))
      )
    ))
  ))
set_option maxHeartbeats 4000000 in
set_option maxRecDepth 100000 in
theorem c_X3_siding {l : Launch} {G : GT} {Z : State} {b : Nat → Nat} (hZ : ZOK G Z) {a0 : Int32} {a1 : Int32} {S : MS} {post : Int32 → MS → Prop} (h : wp_X3_siding a0 a1 S post) : CM l G Z yX3_siding cX3_siding 3 (some .int) (rmz 1 21) [.ref (b 0), .int a0, .int a1] (wM G b S) (PI (wM G b) post) := by
  refine CM_ofW hZ (by decide) (lb rfl) (fun p e s m below meth c ls C hp hl hnm => ?_)
  have C : Cx G Z _ p s m _ meth c RX3 cX3_siding 3 (some .int) := C
  have hl : lv_has ls 3 [(0, .ref (b 0)), (1, .int a0), (2, .int a1)] := hl
  have hx := C.hx
  have hb := C.hb
  unfold wp_X3_siding at h
  refine lv_aload_n hx hb dX3_siding_0 rfl (lv_at hl 0 rfl) ?_
  refine lv_iload_n hx hb dX3_siding_1 rfl (lv_at hl 1 rfl) ?_
  refine lv_if_lt (tgt := 11) hx hb dX3_siding_2 (by decide) (fun q1 => ?_) (fun q1 => ?_)
  · have h := h.1 q1
    refine lv_iconst (v := 1) hx hb dX3_siding_11 (by decide) ?_
    refine lv_goto (tgt := 16) hx hb dX3_siding_12 (by decide) ?_
    refine r_callV (q0 := 0) (ci := 3) (rest := []) (c_X3_refuses (b := b) C.hZ h) C hp mf_X3_refuses km_X3_83 hl.1 dX3_siding_16 rfl rfl ⟨lb rfl, lb rfl, lb rfl, lb rfl⟩ rfl rfl (lb rfl) (fun v w1 H locs hv hp => ?_)
    obtain ⟨r3, S2, rfl, rfl, h⟩ := hv
    refine W.eq (g2 := F0 m 19 ls [.int r3]) rfl ?_
    refine lv_if_eq (tgt := 24) hx hb dX3_siding_19 (by decide) (fun q4 => ?_) (fun q4 => ?_)
    · have h := h.1 q4
      refine lv_iload_n hx hb dX3_siding_24 rfl (lv_at hl 2 rfl) ?_
      refine lv_if_lt (tgt := 52) hx hb dX3_siding_25 (by decide) (fun q5 => ?_) (fun q5 => ?_)
      · have h := h.1 q5
        refine lv_iconst (v := -1) hx hb dX3_siding_52 (by decide) ?_
        exact r_iret C hp dX3_siding_53 ⟨_, _, rfl, rfl, h⟩
      · have h := h.2 q5
        refine lv_iload_n hx hb dX3_siding_28 rfl (lv_at hl 2 rfl) ?_
        refine lv_aload_n hx hb dX3_siding_29 rfl (lv_at hl 0 rfl) ?_
        refine gM_sided C hp dX3_siding_30 ?_
        refine lv_iload_n hx hb dX3_siding_33 rfl (lv_at hl 1 rfl) ?_
        obtain ⟨g6, h⟩ := h
        refine aM_sided C hp dX3_siding_34 g6 ?_
        refine lv_icmp_ge (tgt := 52) hx hb dX3_siding_35 (by decide) (fun q7 => ?_) (fun q7 => ?_)
        · have h := h.1 q7
          refine lv_iconst (v := -1) hx hb dX3_siding_52 (by decide) ?_
          exact r_iret C hp dX3_siding_53 ⟨_, _, rfl, rfl, h⟩
        · have h := h.2 q7
          refine lv_aload_n hx hb dX3_siding_38 rfl (lv_at hl 0 rfl) ?_
          refine gM_sidings C hp dX3_siding_39 ?_
          refine lv_bipush (v := 60) hx hb dX3_siding_42 (by decide) ?_
          refine lv_iload_n hx hb dX3_siding_44 rfl (lv_at hl 1 rfl) ?_
          refine lv_imul hx hb dX3_siding_45 ?_
          refine lv_iload_n hx hb dX3_siding_46 rfl (lv_at hl 2 rfl) ?_
          refine lv_iadd hx hb dX3_siding_47 ?_
          obtain ⟨g8, h⟩ := h
          refine aM_sidings C hp dX3_siding_48 g8 ?_
          refine lv_goto (tgt := 53) hx hb dX3_siding_49 (by decide) ?_
          exact r_iret C hp dX3_siding_53 ⟨_, _, rfl, rfl, h⟩
    · have h := h.2 q4
      refine lv_iconst (v := 0) hx hb dX3_siding_22 (by decide) ?_
      exact r_iret C hp dX3_siding_23 ⟨_, _, rfl, rfl, h⟩
  · have h := h.2 q1
    refine lv_iload_n hx hb dX3_siding_5 rfl (lv_at hl 1 rfl) ?_
    refine lv_bipush (v := 8) hx hb dX3_siding_6 (by decide) ?_
    refine lv_icmp_lt (tgt := 15) hx hb dX3_siding_8 (by decide) (fun q9 => ?_) (fun q9 => ?_)
    · have h := h.1 q9
      refine lv_iconst (v := 0) hx hb dX3_siding_15 (by decide) ?_
      refine r_callV (q0 := 0) (ci := 3) (rest := []) (c_X3_refuses (b := b) C.hZ h) C hp mf_X3_refuses km_X3_83 hl.1 dX3_siding_16 rfl rfl ⟨lb rfl, lb rfl, lb rfl, lb rfl⟩ rfl rfl (lb rfl) (fun v w1 H locs hv hp => ?_)
      obtain ⟨r11, S10, rfl, rfl, h⟩ := hv
      refine W.eq (g2 := F0 m 19 ls [.int r11]) rfl ?_
      refine lv_if_eq (tgt := 24) hx hb dX3_siding_19 (by decide) (fun q12 => ?_) (fun q12 => ?_)
      · have h := h.1 q12
        refine lv_iload_n hx hb dX3_siding_24 rfl (lv_at hl 2 rfl) ?_
        refine lv_if_lt (tgt := 52) hx hb dX3_siding_25 (by decide) (fun q13 => ?_) (fun q13 => ?_)
        · have h := h.1 q13
          refine lv_iconst (v := -1) hx hb dX3_siding_52 (by decide) ?_
          exact r_iret C hp dX3_siding_53 ⟨_, _, rfl, rfl, h⟩
        · have h := h.2 q13
          refine lv_iload_n hx hb dX3_siding_28 rfl (lv_at hl 2 rfl) ?_
          refine lv_aload_n hx hb dX3_siding_29 rfl (lv_at hl 0 rfl) ?_
          refine gM_sided C hp dX3_siding_30 ?_
          refine lv_iload_n hx hb dX3_siding_33 rfl (lv_at hl 1 rfl) ?_
          obtain ⟨g14, h⟩ := h
          refine aM_sided C hp dX3_siding_34 g14 ?_
          refine lv_icmp_ge (tgt := 52) hx hb dX3_siding_35 (by decide) (fun q15 => ?_) (fun q15 => ?_)
          · have h := h.1 q15
            refine lv_iconst (v := -1) hx hb dX3_siding_52 (by decide) ?_
            exact r_iret C hp dX3_siding_53 ⟨_, _, rfl, rfl, h⟩
          · have h := h.2 q15
            refine lv_aload_n hx hb dX3_siding_38 rfl (lv_at hl 0 rfl) ?_
            refine gM_sidings C hp dX3_siding_39 ?_
            refine lv_bipush (v := 60) hx hb dX3_siding_42 (by decide) ?_
            refine lv_iload_n hx hb dX3_siding_44 rfl (lv_at hl 1 rfl) ?_
            refine lv_imul hx hb dX3_siding_45 ?_
            refine lv_iload_n hx hb dX3_siding_46 rfl (lv_at hl 2 rfl) ?_
            refine lv_iadd hx hb dX3_siding_47 ?_
            obtain ⟨g16, h⟩ := h
            refine aM_sidings C hp dX3_siding_48 g16 ?_
            refine lv_goto (tgt := 53) hx hb dX3_siding_49 (by decide) ?_
            exact r_iret C hp dX3_siding_53 ⟨_, _, rfl, rfl, h⟩
      · have h := h.2 q12
        refine lv_iconst (v := 0) hx hb dX3_siding_22 (by decide) ?_
        exact r_iret C hp dX3_siding_23 ⟨_, _, rfl, rfl, h⟩
    · have h := h.2 q9
      refine lv_iconst (v := 1) hx hb dX3_siding_11 (by decide) ?_
      refine lv_goto (tgt := 16) hx hb dX3_siding_12 (by decide) ?_
      refine r_callV (q0 := 0) (ci := 3) (rest := []) (c_X3_refuses (b := b) C.hZ h) C hp mf_X3_refuses km_X3_83 hl.1 dX3_siding_16 rfl rfl ⟨lb rfl, lb rfl, lb rfl, lb rfl⟩ rfl rfl (lb rfl) (fun v w1 H locs hv hp => ?_)
      obtain ⟨r18, S17, rfl, rfl, h⟩ := hv
      refine W.eq (g2 := F0 m 19 ls [.int r18]) rfl ?_
      refine lv_if_eq (tgt := 24) hx hb dX3_siding_19 (by decide) (fun q19 => ?_) (fun q19 => ?_)
      · have h := h.1 q19
        refine lv_iload_n hx hb dX3_siding_24 rfl (lv_at hl 2 rfl) ?_
        refine lv_if_lt (tgt := 52) hx hb dX3_siding_25 (by decide) (fun q20 => ?_) (fun q20 => ?_)
        · have h := h.1 q20
          refine lv_iconst (v := -1) hx hb dX3_siding_52 (by decide) ?_
          exact r_iret C hp dX3_siding_53 ⟨_, _, rfl, rfl, h⟩
        · have h := h.2 q20
          refine lv_iload_n hx hb dX3_siding_28 rfl (lv_at hl 2 rfl) ?_
          refine lv_aload_n hx hb dX3_siding_29 rfl (lv_at hl 0 rfl) ?_
          refine gM_sided C hp dX3_siding_30 ?_
          refine lv_iload_n hx hb dX3_siding_33 rfl (lv_at hl 1 rfl) ?_
          obtain ⟨g21, h⟩ := h
          refine aM_sided C hp dX3_siding_34 g21 ?_
          refine lv_icmp_ge (tgt := 52) hx hb dX3_siding_35 (by decide) (fun q22 => ?_) (fun q22 => ?_)
          · have h := h.1 q22
            refine lv_iconst (v := -1) hx hb dX3_siding_52 (by decide) ?_
            exact r_iret C hp dX3_siding_53 ⟨_, _, rfl, rfl, h⟩
          · have h := h.2 q22
            refine lv_aload_n hx hb dX3_siding_38 rfl (lv_at hl 0 rfl) ?_
            refine gM_sidings C hp dX3_siding_39 ?_
            refine lv_bipush (v := 60) hx hb dX3_siding_42 (by decide) ?_
            refine lv_iload_n hx hb dX3_siding_44 rfl (lv_at hl 1 rfl) ?_
            refine lv_imul hx hb dX3_siding_45 ?_
            refine lv_iload_n hx hb dX3_siding_46 rfl (lv_at hl 2 rfl) ?_
            refine lv_iadd hx hb dX3_siding_47 ?_
            obtain ⟨g23, h⟩ := h
            refine aM_sidings C hp dX3_siding_48 g23 ?_
            refine lv_goto (tgt := 53) hx hb dX3_siding_49 (by decide) ?_
            exact r_iret C hp dX3_siding_53 ⟨_, _, rfl, rfl, h⟩
      · have h := h.2 q19
        refine lv_iconst (v := 0) hx hb dX3_siding_22 (by decide) ?_
        exact r_iret C hp dX3_siding_23 ⟨_, _, rfl, rfl, h⟩
theorem mf_X3_siding : MFv yX3_siding cX3_siding 3 (some .int) 2 := ⟨kc_X3_siding, kn_X3_siding, kv_X3_siding, ki_X3, by decide +kernel⟩

/-! X3_event -/
def wp_X3_event (a0 : Int32) (a1 : Int32) (S : MS) (post : Int32 → MS → Prop) : Prop :=
  ((a0 < 0 →
    wp_X3_refuses (1 : Int32) S (fun r3 S2 =>
      ((r3 = 0 →
        (vp_in (((4 : Int32) * ((((M_eventCount S2) - (1 : Int32)) - a0) - (((M_eventCount S2) - (1 : Int32)) - a0) / (200 : Int32) * (200 : Int32))) + a1) 800) ∧ (
          post (M_events S2 (((4 : Int32) * ((((M_eventCount S2) - (1 : Int32)) - a0) - (((M_eventCount S2) - (1 : Int32)) - a0) / (200 : Int32) * (200 : Int32))) + a1).toNatClampNeg) S2
        )
      ) ∧
      (¬ r3 = 0 →
        post (0 : Int32) S2
      ))
    )
  ) ∧
  (¬ a0 < 0 →
    (((200 : Int32) ≤ a0 →
      wp_X3_refuses (1 : Int32) S (fun r8 S7 =>
        ((r8 = 0 →
          (vp_in (((4 : Int32) * ((((M_eventCount S7) - (1 : Int32)) - a0) - (((M_eventCount S7) - (1 : Int32)) - a0) / (200 : Int32) * (200 : Int32))) + a1) 800) ∧ (
            post (M_events S7 (((4 : Int32) * ((((M_eventCount S7) - (1 : Int32)) - a0) - (((M_eventCount S7) - (1 : Int32)) - a0) / (200 : Int32) * (200 : Int32))) + a1).toNatClampNeg) S7
          )
        ) ∧
        (¬ r8 = 0 →
          post (0 : Int32) S7
        ))
      )
    ) ∧
    (¬ (200 : Int32) ≤ a0 →
      ((a0 < (M_eventCount S) →
        ((a1 < 0 →
          wp_X3_refuses (2 : Int32) S (fun r14 S13 =>
            ((r14 = 0 →
              (vp_in (((4 : Int32) * ((((M_eventCount S13) - (1 : Int32)) - a0) - (((M_eventCount S13) - (1 : Int32)) - a0) / (200 : Int32) * (200 : Int32))) + a1) 800) ∧ (
                post (M_events S13 (((4 : Int32) * ((((M_eventCount S13) - (1 : Int32)) - a0) - (((M_eventCount S13) - (1 : Int32)) - a0) / (200 : Int32) * (200 : Int32))) + a1).toNatClampNeg) S13
              )
            ) ∧
            (¬ r14 = 0 →
              post (0 : Int32) S13
            ))
          )
        ) ∧
        (¬ a1 < 0 →
          ((a1 ≤ (3 : Int32) →
            wp_X3_refuses (0 : Int32) S (fun r19 S18 =>
              ((r19 = 0 →
                (vp_in (((4 : Int32) * ((((M_eventCount S18) - (1 : Int32)) - a0) - (((M_eventCount S18) - (1 : Int32)) - a0) / (200 : Int32) * (200 : Int32))) + a1) 800) ∧ (
                  post (M_events S18 (((4 : Int32) * ((((M_eventCount S18) - (1 : Int32)) - a0) - (((M_eventCount S18) - (1 : Int32)) - a0) / (200 : Int32) * (200 : Int32))) + a1).toNatClampNeg) S18
                )
              ) ∧
              (¬ r19 = 0 →
                post (0 : Int32) S18
              ))
            )
          ) ∧
          (¬ a1 ≤ (3 : Int32) →
            wp_X3_refuses (2 : Int32) S (fun r23 S22 =>
              ((r23 = 0 →
                (vp_in (((4 : Int32) * ((((M_eventCount S22) - (1 : Int32)) - a0) - (((M_eventCount S22) - (1 : Int32)) - a0) / (200 : Int32) * (200 : Int32))) + a1) 800) ∧ (
                  post (M_events S22 (((4 : Int32) * ((((M_eventCount S22) - (1 : Int32)) - a0) - (((M_eventCount S22) - (1 : Int32)) - a0) / (200 : Int32) * (200 : Int32))) + a1).toNatClampNeg) S22
                )
              ) ∧
              (¬ r23 = 0 →
                post (0 : Int32) S22
              ))
            )
          ))
        ))
      ) ∧
      (¬ a0 < (M_eventCount S) →
        wp_X3_refuses (1 : Int32) S (fun r27 S26 =>
          ((r27 = 0 →
            (vp_in (((4 : Int32) * ((((M_eventCount S26) - (1 : Int32)) - a0) - (((M_eventCount S26) - (1 : Int32)) - a0) / (200 : Int32) * (200 : Int32))) + a1) 800) ∧ (
              post (M_events S26 (((4 : Int32) * ((((M_eventCount S26) - (1 : Int32)) - a0) - (((M_eventCount S26) - (1 : Int32)) - a0) / (200 : Int32) * (200 : Int32))) + a1).toNatClampNeg) S26
            )
          ) ∧
          (¬ r27 = 0 →
            post (0 : Int32) S26
          ))
        )
      ))
    ))
  ))
set_option maxHeartbeats 4000000 in
set_option maxRecDepth 100000 in
theorem c_X3_event {l : Launch} {G : GT} {Z : State} {b : Nat → Nat} (hZ : ZOK G Z) {a0 : Int32} {a1 : Int32} {S : MS} {post : Int32 → MS → Prop} (h : wp_X3_event a0 a1 S post) : CM l G Z yX3_event cX3_event 3 (some .int) (rmz 1 21) [.ref (b 0), .int a0, .int a1] (wM G b S) (PI (wM G b) post) := by
  refine CM_ofW hZ (by decide) (lb rfl) (fun p e s m below meth c ls C hp hl hnm => ?_)
  have C : Cx G Z _ p s m _ meth c RX3 cX3_event 3 (some .int) := C
  have hl : lv_has ls 3 [(0, .ref (b 0)), (1, .int a0), (2, .int a1)] := hl
  have hx := C.hx
  have hb := C.hb
  unfold wp_X3_event at h
  refine lv_aload_n hx hb dX3_event_0 rfl (lv_at hl 0 rfl) ?_
  refine lv_iload_n hx hb dX3_event_1 rfl (lv_at hl 1 rfl) ?_
  refine lv_if_lt (tgt := 20) hx hb dX3_event_2 (by decide) (fun q1 => ?_) (fun q1 => ?_)
  · have h := h.1 q1
    refine lv_iconst (v := 1) hx hb dX3_event_20 (by decide) ?_
    refine lv_goto (tgt := 38) hx hb dX3_event_21 (by decide) ?_
    refine r_callV (q0 := 0) (ci := 3) (rest := []) (c_X3_refuses (b := b) C.hZ h) C hp mf_X3_refuses km_X3_83 hl.1 dX3_event_38 rfl rfl ⟨lb rfl, lb rfl, lb rfl, lb rfl⟩ rfl rfl (lb rfl) (fun v w1 H locs hv hp => ?_)
    obtain ⟨r3, S2, rfl, rfl, h⟩ := hv
    refine W.eq (g2 := F0 m 41 ls [.int r3]) rfl ?_
    refine lv_if_eq (tgt := 46) hx hb dX3_event_41 (by decide) (fun q4 => ?_) (fun q4 => ?_)
    · have h := h.1 q4
      refine lv_aload_n hx hb dX3_event_46 rfl (lv_at hl 0 rfl) ?_
      refine gM_events C hp dX3_event_47 ?_
      refine lv_iconst (v := 4) hx hb dX3_event_50 (by decide) ?_
      refine lv_aload_n hx hb dX3_event_51 rfl (lv_at hl 0 rfl) ?_
      refine gM_eventCount C hp dX3_event_52 ?_
      refine lv_iconst (v := 1) hx hb dX3_event_55 (by decide) ?_
      refine lv_isub hx hb dX3_event_56 ?_
      refine lv_iload_n hx hb dX3_event_57 rfl (lv_at hl 1 rfl) ?_
      refine lv_isub hx hb dX3_event_58 ?_
      refine lv_sipush (v := 200) hx hb dX3_event_59 (by decide) ?_
      refine lv_irem hx hb dX3_event_62 (by decide) ?_
      refine lv_imul hx hb dX3_event_63 ?_
      refine lv_iload_n hx hb dX3_event_64 rfl (lv_at hl 2 rfl) ?_
      refine lv_iadd hx hb dX3_event_65 ?_
      obtain ⟨g5, h⟩ := h
      refine aM_events C hp dX3_event_66 g5 ?_
      exact r_iret C hp dX3_event_67 ⟨_, _, rfl, rfl, h⟩
    · have h := h.2 q4
      refine lv_iconst (v := 0) hx hb dX3_event_44 (by decide) ?_
      exact r_iret C hp dX3_event_45 ⟨_, _, rfl, rfl, h⟩
  · have h := h.2 q1
    refine lv_iload_n hx hb dX3_event_5 rfl (lv_at hl 1 rfl) ?_
    refine lv_sipush (v := 200) hx hb dX3_event_6 (by decide) ?_
    refine lv_icmp_ge (tgt := 20) hx hb dX3_event_9 (by decide) (fun q6 => ?_) (fun q6 => ?_)
    · have h := h.1 q6
      refine lv_iconst (v := 1) hx hb dX3_event_20 (by decide) ?_
      refine lv_goto (tgt := 38) hx hb dX3_event_21 (by decide) ?_
      refine r_callV (q0 := 0) (ci := 3) (rest := []) (c_X3_refuses (b := b) C.hZ h) C hp mf_X3_refuses km_X3_83 hl.1 dX3_event_38 rfl rfl ⟨lb rfl, lb rfl, lb rfl, lb rfl⟩ rfl rfl (lb rfl) (fun v w1 H locs hv hp => ?_)
      obtain ⟨r8, S7, rfl, rfl, h⟩ := hv
      refine W.eq (g2 := F0 m 41 ls [.int r8]) rfl ?_
      refine lv_if_eq (tgt := 46) hx hb dX3_event_41 (by decide) (fun q9 => ?_) (fun q9 => ?_)
      · have h := h.1 q9
        refine lv_aload_n hx hb dX3_event_46 rfl (lv_at hl 0 rfl) ?_
        refine gM_events C hp dX3_event_47 ?_
        refine lv_iconst (v := 4) hx hb dX3_event_50 (by decide) ?_
        refine lv_aload_n hx hb dX3_event_51 rfl (lv_at hl 0 rfl) ?_
        refine gM_eventCount C hp dX3_event_52 ?_
        refine lv_iconst (v := 1) hx hb dX3_event_55 (by decide) ?_
        refine lv_isub hx hb dX3_event_56 ?_
        refine lv_iload_n hx hb dX3_event_57 rfl (lv_at hl 1 rfl) ?_
        refine lv_isub hx hb dX3_event_58 ?_
        refine lv_sipush (v := 200) hx hb dX3_event_59 (by decide) ?_
        refine lv_irem hx hb dX3_event_62 (by decide) ?_
        refine lv_imul hx hb dX3_event_63 ?_
        refine lv_iload_n hx hb dX3_event_64 rfl (lv_at hl 2 rfl) ?_
        refine lv_iadd hx hb dX3_event_65 ?_
        obtain ⟨g10, h⟩ := h
        refine aM_events C hp dX3_event_66 g10 ?_
        exact r_iret C hp dX3_event_67 ⟨_, _, rfl, rfl, h⟩
      · have h := h.2 q9
        refine lv_iconst (v := 0) hx hb dX3_event_44 (by decide) ?_
        exact r_iret C hp dX3_event_45 ⟨_, _, rfl, rfl, h⟩
    · have h := h.2 q6
      refine lv_iload_n hx hb dX3_event_12 rfl (lv_at hl 1 rfl) ?_
      refine lv_aload_n hx hb dX3_event_13 rfl (lv_at hl 0 rfl) ?_
      refine gM_eventCount C hp dX3_event_14 ?_
      refine lv_icmp_lt (tgt := 24) hx hb dX3_event_17 (by decide) (fun q11 => ?_) (fun q11 => ?_)
      · have h := h.1 q11
        refine lv_iload_n hx hb dX3_event_24 rfl (lv_at hl 2 rfl) ?_
        refine lv_if_lt (tgt := 33) hx hb dX3_event_25 (by decide) (fun q12 => ?_) (fun q12 => ?_)
        · have h := h.1 q12
          refine lv_iconst (v := 2) hx hb dX3_event_33 (by decide) ?_
          refine lv_goto (tgt := 38) hx hb dX3_event_34 (by decide) ?_
          refine r_callV (q0 := 0) (ci := 3) (rest := []) (c_X3_refuses (b := b) C.hZ h) C hp mf_X3_refuses km_X3_83 hl.1 dX3_event_38 rfl rfl ⟨lb rfl, lb rfl, lb rfl, lb rfl⟩ rfl rfl (lb rfl) (fun v w1 H locs hv hp => ?_)
          obtain ⟨r14, S13, rfl, rfl, h⟩ := hv
          refine W.eq (g2 := F0 m 41 ls [.int r14]) rfl ?_
          refine lv_if_eq (tgt := 46) hx hb dX3_event_41 (by decide) (fun q15 => ?_) (fun q15 => ?_)
          · have h := h.1 q15
            refine lv_aload_n hx hb dX3_event_46 rfl (lv_at hl 0 rfl) ?_
            refine gM_events C hp dX3_event_47 ?_
            refine lv_iconst (v := 4) hx hb dX3_event_50 (by decide) ?_
            refine lv_aload_n hx hb dX3_event_51 rfl (lv_at hl 0 rfl) ?_
            refine gM_eventCount C hp dX3_event_52 ?_
            refine lv_iconst (v := 1) hx hb dX3_event_55 (by decide) ?_
            refine lv_isub hx hb dX3_event_56 ?_
            refine lv_iload_n hx hb dX3_event_57 rfl (lv_at hl 1 rfl) ?_
            refine lv_isub hx hb dX3_event_58 ?_
            refine lv_sipush (v := 200) hx hb dX3_event_59 (by decide) ?_
            refine lv_irem hx hb dX3_event_62 (by decide) ?_
            refine lv_imul hx hb dX3_event_63 ?_
            refine lv_iload_n hx hb dX3_event_64 rfl (lv_at hl 2 rfl) ?_
            refine lv_iadd hx hb dX3_event_65 ?_
            obtain ⟨g16, h⟩ := h
            refine aM_events C hp dX3_event_66 g16 ?_
            exact r_iret C hp dX3_event_67 ⟨_, _, rfl, rfl, h⟩
          · have h := h.2 q15
            refine lv_iconst (v := 0) hx hb dX3_event_44 (by decide) ?_
            exact r_iret C hp dX3_event_45 ⟨_, _, rfl, rfl, h⟩
        · have h := h.2 q12
          refine lv_iload_n hx hb dX3_event_28 rfl (lv_at hl 2 rfl) ?_
          refine lv_iconst (v := 3) hx hb dX3_event_29 (by decide) ?_
          refine lv_icmp_le (tgt := 37) hx hb dX3_event_30 (by decide) (fun q17 => ?_) (fun q17 => ?_)
          · have h := h.1 q17
            refine lv_iconst (v := 0) hx hb dX3_event_37 (by decide) ?_
            refine r_callV (q0 := 0) (ci := 3) (rest := []) (c_X3_refuses (b := b) C.hZ h) C hp mf_X3_refuses km_X3_83 hl.1 dX3_event_38 rfl rfl ⟨lb rfl, lb rfl, lb rfl, lb rfl⟩ rfl rfl (lb rfl) (fun v w1 H locs hv hp => ?_)
            obtain ⟨r19, S18, rfl, rfl, h⟩ := hv
            refine W.eq (g2 := F0 m 41 ls [.int r19]) rfl ?_
            refine lv_if_eq (tgt := 46) hx hb dX3_event_41 (by decide) (fun q20 => ?_) (fun q20 => ?_)
            · have h := h.1 q20
              refine lv_aload_n hx hb dX3_event_46 rfl (lv_at hl 0 rfl) ?_
              refine gM_events C hp dX3_event_47 ?_
              refine lv_iconst (v := 4) hx hb dX3_event_50 (by decide) ?_
              refine lv_aload_n hx hb dX3_event_51 rfl (lv_at hl 0 rfl) ?_
              refine gM_eventCount C hp dX3_event_52 ?_
              refine lv_iconst (v := 1) hx hb dX3_event_55 (by decide) ?_
              refine lv_isub hx hb dX3_event_56 ?_
              refine lv_iload_n hx hb dX3_event_57 rfl (lv_at hl 1 rfl) ?_
              refine lv_isub hx hb dX3_event_58 ?_
              refine lv_sipush (v := 200) hx hb dX3_event_59 (by decide) ?_
              refine lv_irem hx hb dX3_event_62 (by decide) ?_
              refine lv_imul hx hb dX3_event_63 ?_
              refine lv_iload_n hx hb dX3_event_64 rfl (lv_at hl 2 rfl) ?_
              refine lv_iadd hx hb dX3_event_65 ?_
              obtain ⟨g21, h⟩ := h
              refine aM_events C hp dX3_event_66 g21 ?_
              exact r_iret C hp dX3_event_67 ⟨_, _, rfl, rfl, h⟩
            · have h := h.2 q20
              refine lv_iconst (v := 0) hx hb dX3_event_44 (by decide) ?_
              exact r_iret C hp dX3_event_45 ⟨_, _, rfl, rfl, h⟩
          · have h := h.2 q17
            refine lv_iconst (v := 2) hx hb dX3_event_33 (by decide) ?_
            refine lv_goto (tgt := 38) hx hb dX3_event_34 (by decide) ?_
            refine r_callV (q0 := 0) (ci := 3) (rest := []) (c_X3_refuses (b := b) C.hZ h) C hp mf_X3_refuses km_X3_83 hl.1 dX3_event_38 rfl rfl ⟨lb rfl, lb rfl, lb rfl, lb rfl⟩ rfl rfl (lb rfl) (fun v w1 H locs hv hp => ?_)
            obtain ⟨r23, S22, rfl, rfl, h⟩ := hv
            refine W.eq (g2 := F0 m 41 ls [.int r23]) rfl ?_
            refine lv_if_eq (tgt := 46) hx hb dX3_event_41 (by decide) (fun q24 => ?_) (fun q24 => ?_)
            · have h := h.1 q24
              refine lv_aload_n hx hb dX3_event_46 rfl (lv_at hl 0 rfl) ?_
              refine gM_events C hp dX3_event_47 ?_
              refine lv_iconst (v := 4) hx hb dX3_event_50 (by decide) ?_
              refine lv_aload_n hx hb dX3_event_51 rfl (lv_at hl 0 rfl) ?_
              refine gM_eventCount C hp dX3_event_52 ?_
              refine lv_iconst (v := 1) hx hb dX3_event_55 (by decide) ?_
              refine lv_isub hx hb dX3_event_56 ?_
              refine lv_iload_n hx hb dX3_event_57 rfl (lv_at hl 1 rfl) ?_
              refine lv_isub hx hb dX3_event_58 ?_
              refine lv_sipush (v := 200) hx hb dX3_event_59 (by decide) ?_
              refine lv_irem hx hb dX3_event_62 (by decide) ?_
              refine lv_imul hx hb dX3_event_63 ?_
              refine lv_iload_n hx hb dX3_event_64 rfl (lv_at hl 2 rfl) ?_
              refine lv_iadd hx hb dX3_event_65 ?_
              obtain ⟨g25, h⟩ := h
              refine aM_events C hp dX3_event_66 g25 ?_
              exact r_iret C hp dX3_event_67 ⟨_, _, rfl, rfl, h⟩
            · have h := h.2 q24
              refine lv_iconst (v := 0) hx hb dX3_event_44 (by decide) ?_
              exact r_iret C hp dX3_event_45 ⟨_, _, rfl, rfl, h⟩
      · have h := h.2 q11
        refine lv_iconst (v := 1) hx hb dX3_event_20 (by decide) ?_
        refine lv_goto (tgt := 38) hx hb dX3_event_21 (by decide) ?_
        refine r_callV (q0 := 0) (ci := 3) (rest := []) (c_X3_refuses (b := b) C.hZ h) C hp mf_X3_refuses km_X3_83 hl.1 dX3_event_38 rfl rfl ⟨lb rfl, lb rfl, lb rfl, lb rfl⟩ rfl rfl (lb rfl) (fun v w1 H locs hv hp => ?_)
        obtain ⟨r27, S26, rfl, rfl, h⟩ := hv
        refine W.eq (g2 := F0 m 41 ls [.int r27]) rfl ?_
        refine lv_if_eq (tgt := 46) hx hb dX3_event_41 (by decide) (fun q28 => ?_) (fun q28 => ?_)
        · have h := h.1 q28
          refine lv_aload_n hx hb dX3_event_46 rfl (lv_at hl 0 rfl) ?_
          refine gM_events C hp dX3_event_47 ?_
          refine lv_iconst (v := 4) hx hb dX3_event_50 (by decide) ?_
          refine lv_aload_n hx hb dX3_event_51 rfl (lv_at hl 0 rfl) ?_
          refine gM_eventCount C hp dX3_event_52 ?_
          refine lv_iconst (v := 1) hx hb dX3_event_55 (by decide) ?_
          refine lv_isub hx hb dX3_event_56 ?_
          refine lv_iload_n hx hb dX3_event_57 rfl (lv_at hl 1 rfl) ?_
          refine lv_isub hx hb dX3_event_58 ?_
          refine lv_sipush (v := 200) hx hb dX3_event_59 (by decide) ?_
          refine lv_irem hx hb dX3_event_62 (by decide) ?_
          refine lv_imul hx hb dX3_event_63 ?_
          refine lv_iload_n hx hb dX3_event_64 rfl (lv_at hl 2 rfl) ?_
          refine lv_iadd hx hb dX3_event_65 ?_
          obtain ⟨g29, h⟩ := h
          refine aM_events C hp dX3_event_66 g29 ?_
          exact r_iret C hp dX3_event_67 ⟨_, _, rfl, rfl, h⟩
        · have h := h.2 q28
          refine lv_iconst (v := 0) hx hb dX3_event_44 (by decide) ?_
          exact r_iret C hp dX3_event_45 ⟨_, _, rfl, rfl, h⟩
theorem mf_X3_event : MFv yX3_event cX3_event 3 (some .int) 2 := ⟨kc_X3_event, kn_X3_event, kv_X3_event, ki_X3, by decide +kernel⟩

/-! X3_about -/
def wb_X3_about_28 (a0 : Int32) (post : Int32 → MS → Prop) (rec : Int32 → Int32 → MS → Prop) (x2 : Int32) (x3 : Int32) (S : MS) : Prop :=
  (((M_cuts S) ≤ x3 →
    ((¬ a0 = 0 →
      ((¬ a0 = (5 : Int32) →
        ((¬ a0 = (6 : Int32) →
          post x2 S
        ) ∧
        (a0 = (6 : Int32) →
          post (M_ticks S) S
        ))
      ) ∧
      (a0 = (5 : Int32) →
        post (M_eventCount S) S
      ))
    ) ∧
    (a0 = 0 →
      post (M_cuts S) S
    ))
  ) ∧
  (¬ (M_cuts S) ≤ x3 →
    ((a0 ≤ 0 →
      ∀ x6 : Int32, x6 = x2 + (0 : Int32) →
        rec x6 (x3 + (1)) S
    ) ∧
    (¬ a0 ≤ 0 →
      (((5 : Int32) ≤ a0 →
        ∀ x8 : Int32, x8 = x2 + (0 : Int32) →
          rec x8 (x3 + (1)) S
      ) ∧
      (¬ (5 : Int32) ≤ a0 →
        (vp_in x3 60) ∧ (
          ((¬ (M_state S x3.toNatClampNeg) = (a0 - (1 : Int32)) →
            ∀ x11 : Int32, x11 = x2 + (0 : Int32) →
              rec x11 (x3 + (1)) S
          ) ∧
          ((M_state S x3.toNatClampNeg) = (a0 - (1 : Int32)) →
            ∀ x12 : Int32, x12 = x2 + (1 : Int32) →
              rec x12 (x3 + (1)) S
          ))
        )
      ))
    ))
  ))
def wl_X3_about_28 (a0 : Int32) (post : Int32 → MS → Prop) : Nat → Int32 → Int32 → MS → Prop
  | 0 => fun _ _ _ => False
  | n + 1 => wb_X3_about_28 a0 post (wl_X3_about_28 a0 post n)
def wp_X3_about (a0 : Int32) (S : MS) (post : Int32 → MS → Prop) : Prop :=
  ((a0 < 0 →
    wp_X3_refuses (1 : Int32) S (fun r15 S14 =>
      ((r15 = 0 →
        ∃ n, wl_X3_about_28 a0 post n (0 : Int32) (0 : Int32) S14
      ) ∧
      (¬ r15 = 0 →
        post (0 : Int32) S14
      ))
    )
  ) ∧
  (¬ a0 < 0 →
    ((a0 ≤ (6 : Int32) →
      wp_X3_refuses (0 : Int32) S (fun r19 S18 =>
        ((r19 = 0 →
          ∃ n, wl_X3_about_28 a0 post n (0 : Int32) (0 : Int32) S18
        ) ∧
        (¬ r19 = 0 →
          post (0 : Int32) S18
        ))
      )
    ) ∧
    (¬ a0 ≤ (6 : Int32) →
      wp_X3_refuses (1 : Int32) S (fun r22 S21 =>
        ((r22 = 0 →
          ∃ n, wl_X3_about_28 a0 post n (0 : Int32) (0 : Int32) S21
        ) ∧
        (¬ r22 = 0 →
          post (0 : Int32) S21
        ))
      )
    ))
  ))
set_option maxHeartbeats 4000000 in
set_option maxRecDepth 100000 in
theorem lp_X3_about_28 {l : Launch} {G : GT} {Z : State} {ws0 : va_W} {b : Nat → Nat} {p : Program} {e : Env} {s : State} {m : MethodId} {args : Array Value} {below : List Frame} {meth : Method} {c : Code} {a0 : Int32} (C : Cx G Z ws0 p s m args meth c RX3 cX3_about 4 (some .int)) {post : Int32 → MS → Prop} : ∀ (n : Nat) (x2 : Int32) (x3 : Int32) (S : MS) (H : Heap) (locs : List Loc) (ls : Array Slot), wl_X3_about_28 a0 post n x2 x3 S → Hp G ws0 s H locs (wM G b S) → lv_has ls 4 [(0, .ref (b 0)), (1, .int a0), (2, .int x2), (3, .int x3)] → W p l e (rmz 1 21) s m args below meth c H locs 0 0 (QQ G Z ws0 below s args (PI (wM G b) post) (rmz 1 21)) (F0 m 28 ls []) := by
  have hx := C.hx
  have hb := C.hb
  have hZ := C.hZ
  intro n
  induction n with
  | zero =>
    intro x2 x3 S H locs ls h
    exact False.elim h
  | succ n ih =>
    intro x2 x3 S H locs ls h hp hl
    have h : wb_X3_about_28 a0 post (wl_X3_about_28 a0 post n) x2 x3 S := h
    unfold wb_X3_about_28 at h
    generalize hrec : wl_X3_about_28 a0 post n = rec at h ih
    refine lv_iload_n hx hb dX3_about_28 rfl (lv_at hl 3 rfl) ?_
    refine lv_aload_n hx hb dX3_about_29 rfl (lv_at hl 0 rfl) ?_
    refine gM_cuts C hp dX3_about_30 ?_
    refine lv_icmp_ge (tgt := 71) hx hb dX3_about_33 (by decide) (fun q1 => ?_) (fun q1 => ?_)
    · have h := h.1 q1
      refine lv_iload_n hx hb dX3_about_71 rfl (lv_at hl 1 rfl) ?_
      refine lv_if_ne (tgt := 82) hx hb dX3_about_72 (by decide) (fun q2 => ?_) (fun q2 => ?_)
      · have h := h.1 q2
        refine lv_iload_n hx hb dX3_about_82 rfl (lv_at hl 1 rfl) ?_
        refine lv_iconst (v := 5) hx hb dX3_about_83 (by decide) ?_
        refine lv_icmp_ne (tgt := 94) hx hb dX3_about_84 (by decide) (fun q3 => ?_) (fun q3 => ?_)
        · have h := h.1 q3
          refine lv_iload_n hx hb dX3_about_94 rfl (lv_at hl 1 rfl) ?_
          refine lv_bipush (v := 6) hx hb dX3_about_95 (by decide) ?_
          refine lv_icmp_ne (tgt := 107) hx hb dX3_about_97 (by decide) (fun q4 => ?_) (fun q4 => ?_)
          · have h := h.1 q4
            refine lv_iload_n hx hb dX3_about_107 rfl (lv_at hl 2 rfl) ?_
            exact r_iret C hp dX3_about_108 ⟨_, _, rfl, rfl, h⟩
          · have h := h.2 q4
            refine lv_aload_n hx hb dX3_about_100 rfl (lv_at hl 0 rfl) ?_
            refine gM_ticks C hp dX3_about_101 ?_
            refine lv_goto (tgt := 108) hx hb dX3_about_104 (by decide) ?_
            exact r_iret C hp dX3_about_108 ⟨_, _, rfl, rfl, h⟩
        · have h := h.2 q3
          refine lv_aload_n hx hb dX3_about_87 rfl (lv_at hl 0 rfl) ?_
          refine gM_eventCount C hp dX3_about_88 ?_
          refine lv_goto (tgt := 108) hx hb dX3_about_91 (by decide) ?_
          exact r_iret C hp dX3_about_108 ⟨_, _, rfl, rfl, h⟩
      · have h := h.2 q2
        refine lv_aload_n hx hb dX3_about_75 rfl (lv_at hl 0 rfl) ?_
        refine gM_cuts C hp dX3_about_76 ?_
        refine lv_goto (tgt := 108) hx hb dX3_about_79 (by decide) ?_
        exact r_iret C hp dX3_about_108 ⟨_, _, rfl, rfl, h⟩
    · have h := h.2 q1
      refine lv_iload_n hx hb dX3_about_36 rfl (lv_at hl 2 rfl) ?_
      refine lv_iload_n hx hb dX3_about_37 rfl (lv_at hl 1 rfl) ?_
      refine lv_if_le (tgt := 62) hx hb dX3_about_38 (by decide) (fun q5 => ?_) (fun q5 => ?_)
      · have h := h.1 q5
        refine lv_iconst (v := 0) hx hb dX3_about_62 (by decide) ?_
        refine lv_iadd hx hb dX3_about_63 ?_
        refine lv_topi (fun x6 ex6 => ?_)
        have h := h x6 ex6
        refine lv_istore_n (lv' := [(2, .int x6), (0, .ref (b 0)), (1, .int a0), (3, .int x3)]) hx hb dX3_about_64 rfl hl (by decide) rfl (fun ls hl => ?_)
        refine lv_iinc (v := x3 + (1)) (lv' := [(3, .int (x3 + (1))), (2, .int x6), (0, .ref (b 0)), (1, .int a0)]) hx hb dX3_about_65 hl (k := 3) rfl rfl (by decide) rfl (fun ls hl => ?_)
        refine lv_goto (tgt := 28) hx hb dX3_about_68 (by decide) ?_
        exact ih _ _ _ _ _ _ h hp (lv_sub hl [2, 3, 1, 0] rfl)
      · have h := h.2 q5
        refine lv_iload_n hx hb dX3_about_41 rfl (lv_at hl 1 rfl) ?_
        refine lv_iconst (v := 5) hx hb dX3_about_42 (by decide) ?_
        refine lv_icmp_ge (tgt := 62) hx hb dX3_about_43 (by decide) (fun q7 => ?_) (fun q7 => ?_)
        · have h := h.1 q7
          refine lv_iconst (v := 0) hx hb dX3_about_62 (by decide) ?_
          refine lv_iadd hx hb dX3_about_63 ?_
          refine lv_topi (fun x8 ex8 => ?_)
          have h := h x8 ex8
          refine lv_istore_n (lv' := [(2, .int x8), (0, .ref (b 0)), (1, .int a0), (3, .int x3)]) hx hb dX3_about_64 rfl hl (by decide) rfl (fun ls hl => ?_)
          refine lv_iinc (v := x3 + (1)) (lv' := [(3, .int (x3 + (1))), (2, .int x8), (0, .ref (b 0)), (1, .int a0)]) hx hb dX3_about_65 hl (k := 3) rfl rfl (by decide) rfl (fun ls hl => ?_)
          refine lv_goto (tgt := 28) hx hb dX3_about_68 (by decide) ?_
          exact ih _ _ _ _ _ _ h hp (lv_sub hl [2, 3, 1, 0] rfl)
        · have h := h.2 q7
          refine lv_aload_n hx hb dX3_about_46 rfl (lv_at hl 0 rfl) ?_
          refine gM_state C hp dX3_about_47 ?_
          refine lv_iload_n hx hb dX3_about_50 rfl (lv_at hl 3 rfl) ?_
          obtain ⟨g9, h⟩ := h
          refine aM_state C hp dX3_about_51 g9 ?_
          refine lv_iload_n hx hb dX3_about_52 rfl (lv_at hl 1 rfl) ?_
          refine lv_iconst (v := 1) hx hb dX3_about_53 (by decide) ?_
          refine lv_isub hx hb dX3_about_54 ?_
          refine lv_icmp_ne (tgt := 62) hx hb dX3_about_55 (by decide) (fun q10 => ?_) (fun q10 => ?_)
          · have h := h.1 q10
            refine lv_iconst (v := 0) hx hb dX3_about_62 (by decide) ?_
            refine lv_iadd hx hb dX3_about_63 ?_
            refine lv_topi (fun x11 ex11 => ?_)
            have h := h x11 ex11
            refine lv_istore_n (lv' := [(2, .int x11), (0, .ref (b 0)), (1, .int a0), (3, .int x3)]) hx hb dX3_about_64 rfl hl (by decide) rfl (fun ls hl => ?_)
            refine lv_iinc (v := x3 + (1)) (lv' := [(3, .int (x3 + (1))), (2, .int x11), (0, .ref (b 0)), (1, .int a0)]) hx hb dX3_about_65 hl (k := 3) rfl rfl (by decide) rfl (fun ls hl => ?_)
            refine lv_goto (tgt := 28) hx hb dX3_about_68 (by decide) ?_
            exact ih _ _ _ _ _ _ h hp (lv_sub hl [2, 3, 1, 0] rfl)
          · have h := h.2 q10
            refine lv_iconst (v := 1) hx hb dX3_about_58 (by decide) ?_
            refine lv_goto (tgt := 63) hx hb dX3_about_59 (by decide) ?_
            refine lv_iadd hx hb dX3_about_63 ?_
            refine lv_topi (fun x12 ex12 => ?_)
            have h := h x12 ex12
            refine lv_istore_n (lv' := [(2, .int x12), (0, .ref (b 0)), (1, .int a0), (3, .int x3)]) hx hb dX3_about_64 rfl hl (by decide) rfl (fun ls hl => ?_)
            refine lv_iinc (v := x3 + (1)) (lv' := [(3, .int (x3 + (1))), (2, .int x12), (0, .ref (b 0)), (1, .int a0)]) hx hb dX3_about_65 hl (k := 3) rfl rfl (by decide) rfl (fun ls hl => ?_)
            refine lv_goto (tgt := 28) hx hb dX3_about_68 (by decide) ?_
            exact ih _ _ _ _ _ _ h hp (lv_sub hl [2, 3, 1, 0] rfl)
set_option maxHeartbeats 4000000 in
set_option maxRecDepth 100000 in
theorem c_X3_about {l : Launch} {G : GT} {Z : State} {b : Nat → Nat} (hZ : ZOK G Z) {a0 : Int32} {S : MS} {post : Int32 → MS → Prop} (h : wp_X3_about a0 S post) : CM l G Z yX3_about cX3_about 4 (some .int) (rmz 1 21) [.ref (b 0), .int a0] (wM G b S) (PI (wM G b) post) := by
  refine CM_ofW hZ (by decide) (lb rfl) (fun p e s m below meth c ls C hp hl hnm => ?_)
  have C : Cx G Z _ p s m _ meth c RX3 cX3_about 4 (some .int) := C
  have hl : lv_has ls 4 [(0, .ref (b 0)), (1, .int a0)] := hl
  have hx := C.hx
  have hb := C.hb
  unfold wp_X3_about at h
  refine lv_aload_n hx hb dX3_about_0 rfl (lv_at hl 0 rfl) ?_
  refine lv_iload_n hx hb dX3_about_1 rfl (lv_at hl 1 rfl) ?_
  refine lv_if_lt (tgt := 11) hx hb dX3_about_2 (by decide) (fun q13 => ?_) (fun q13 => ?_)
  · have h := h.1 q13
    refine lv_iconst (v := 1) hx hb dX3_about_11 (by decide) ?_
    refine lv_goto (tgt := 16) hx hb dX3_about_12 (by decide) ?_
    refine r_callV (q0 := 0) (ci := 3) (rest := []) (c_X3_refuses (b := b) C.hZ h) C hp mf_X3_refuses km_X3_83 hl.1 dX3_about_16 rfl rfl ⟨lb rfl, lb rfl, lb rfl, lb rfl⟩ rfl rfl (lb rfl) (fun v w1 H locs hv hp => ?_)
    obtain ⟨r15, S14, rfl, rfl, h⟩ := hv
    refine W.eq (g2 := F0 m 19 ls [.int r15]) rfl ?_
    refine lv_if_eq (tgt := 24) hx hb dX3_about_19 (by decide) (fun q16 => ?_) (fun q16 => ?_)
    · have h := h.1 q16
      refine lv_iconst (v := 0) hx hb dX3_about_24 (by decide) ?_
      refine lv_istore_n (lv' := [(2, .int (0 : Int32)), (0, .ref (b 0)), (1, .int a0)]) hx hb dX3_about_25 rfl hl (by decide) rfl (fun ls hl => ?_)
      refine lv_iconst (v := 0) hx hb dX3_about_26 (by decide) ?_
      refine lv_istore_n (lv' := [(3, .int (0 : Int32)), (2, .int (0 : Int32)), (0, .ref (b 0)), (1, .int a0)]) hx hb dX3_about_27 rfl hl (by decide) rfl (fun ls hl => ?_)
      obtain ⟨n, h⟩ := h
      exact lp_X3_about_28 C n _ _ _ _ _ _ h hp (lv_sub hl [2, 3, 1, 0] rfl)
    · have h := h.2 q16
      refine lv_iconst (v := 0) hx hb dX3_about_22 (by decide) ?_
      exact r_iret C hp dX3_about_23 ⟨_, _, rfl, rfl, h⟩
  · have h := h.2 q13
    refine lv_iload_n hx hb dX3_about_5 rfl (lv_at hl 1 rfl) ?_
    refine lv_bipush (v := 6) hx hb dX3_about_6 (by decide) ?_
    refine lv_icmp_le (tgt := 15) hx hb dX3_about_8 (by decide) (fun q17 => ?_) (fun q17 => ?_)
    · have h := h.1 q17
      refine lv_iconst (v := 0) hx hb dX3_about_15 (by decide) ?_
      refine r_callV (q0 := 0) (ci := 3) (rest := []) (c_X3_refuses (b := b) C.hZ h) C hp mf_X3_refuses km_X3_83 hl.1 dX3_about_16 rfl rfl ⟨lb rfl, lb rfl, lb rfl, lb rfl⟩ rfl rfl (lb rfl) (fun v w1 H locs hv hp => ?_)
      obtain ⟨r19, S18, rfl, rfl, h⟩ := hv
      refine W.eq (g2 := F0 m 19 ls [.int r19]) rfl ?_
      refine lv_if_eq (tgt := 24) hx hb dX3_about_19 (by decide) (fun q20 => ?_) (fun q20 => ?_)
      · have h := h.1 q20
        refine lv_iconst (v := 0) hx hb dX3_about_24 (by decide) ?_
        refine lv_istore_n (lv' := [(2, .int (0 : Int32)), (0, .ref (b 0)), (1, .int a0)]) hx hb dX3_about_25 rfl hl (by decide) rfl (fun ls hl => ?_)
        refine lv_iconst (v := 0) hx hb dX3_about_26 (by decide) ?_
        refine lv_istore_n (lv' := [(3, .int (0 : Int32)), (2, .int (0 : Int32)), (0, .ref (b 0)), (1, .int a0)]) hx hb dX3_about_27 rfl hl (by decide) rfl (fun ls hl => ?_)
        obtain ⟨n, h⟩ := h
        exact lp_X3_about_28 C n _ _ _ _ _ _ h hp (lv_sub hl [2, 3, 1, 0] rfl)
      · have h := h.2 q20
        refine lv_iconst (v := 0) hx hb dX3_about_22 (by decide) ?_
        exact r_iret C hp dX3_about_23 ⟨_, _, rfl, rfl, h⟩
    · have h := h.2 q17
      refine lv_iconst (v := 1) hx hb dX3_about_11 (by decide) ?_
      refine lv_goto (tgt := 16) hx hb dX3_about_12 (by decide) ?_
      refine r_callV (q0 := 0) (ci := 3) (rest := []) (c_X3_refuses (b := b) C.hZ h) C hp mf_X3_refuses km_X3_83 hl.1 dX3_about_16 rfl rfl ⟨lb rfl, lb rfl, lb rfl, lb rfl⟩ rfl rfl (lb rfl) (fun v w1 H locs hv hp => ?_)
      obtain ⟨r22, S21, rfl, rfl, h⟩ := hv
      refine W.eq (g2 := F0 m 19 ls [.int r22]) rfl ?_
      refine lv_if_eq (tgt := 24) hx hb dX3_about_19 (by decide) (fun q23 => ?_) (fun q23 => ?_)
      · have h := h.1 q23
        refine lv_iconst (v := 0) hx hb dX3_about_24 (by decide) ?_
        refine lv_istore_n (lv' := [(2, .int (0 : Int32)), (0, .ref (b 0)), (1, .int a0)]) hx hb dX3_about_25 rfl hl (by decide) rfl (fun ls hl => ?_)
        refine lv_iconst (v := 0) hx hb dX3_about_26 (by decide) ?_
        refine lv_istore_n (lv' := [(3, .int (0 : Int32)), (2, .int (0 : Int32)), (0, .ref (b 0)), (1, .int a0)]) hx hb dX3_about_27 rfl hl (by decide) rfl (fun ls hl => ?_)
        obtain ⟨n, h⟩ := h
        exact lp_X3_about_28 C n _ _ _ _ _ _ h hp (lv_sub hl [2, 3, 1, 0] rfl)
      · have h := h.2 q23
        refine lv_iconst (v := 0) hx hb dX3_about_22 (by decide) ?_
        exact r_iret C hp dX3_about_23 ⟨_, _, rfl, rfl, h⟩
theorem mf_X3_about : MFv yX3_about cX3_about 4 (some .int) 1 := ⟨kc_X3_about, kn_X3_about, kv_X3_about, ki_X3, by decide +kernel⟩

/-! X3_fastest -/
def wp_X3_fastest  (S : MS) (post : UInt64 → MS → Prop) : Prop :=
  ∀ S1 : MS, S1 = Ms_code S (0 : Int32) →
    post (M_fastest S1) S1
set_option maxHeartbeats 4000000 in
set_option maxRecDepth 100000 in
theorem c_X3_fastest {l : Launch} {G : GT} {Z : State} {b : Nat → Nat} (hZ : ZOK G Z) {S : MS} {post : UInt64 → MS → Prop} (h : wp_X3_fastest  S post) : CM l G Z yX3_fastest cX3_fastest 1 (some .double) (rmz 0 0) [.ref (b 0)] (wM G b S) (PD (wM G b) post) := by
  refine CM_ofW hZ (by decide) (lb rfl) (fun p e s m below meth c ls C hp hl hnm => ?_)
  have C : Cx G Z _ p s m _ meth c RX3 cX3_fastest 1 (some .double) := C
  have hl : lv_has ls 1 [(0, .ref (b 0))] := hl
  have hx := C.hx
  have hb := C.hb
  unfold wp_X3_fastest at h
  refine lv_aload_n hx hb dX3_fastest_0 rfl (lv_at hl 0 rfl) ?_
  refine lv_iconst (v := 0) hx hb dX3_fastest_1 (by decide) ?_
  refine pM_code C hp dX3_fastest_2 (fun H locs hp => ?_)
  obtain ⟨S1, eS1⟩ : ∃ z : MS, z = Ms_code S (0 : Int32) := ⟨_, rfl⟩
  rw [← eS1] at hp
  have h := h S1 eS1
  refine lv_aload_n hx hb dX3_fastest_5 rfl (lv_at hl 0 rfl) ?_
  refine gM_fastest C hp dX3_fastest_6 ?_
  exact r_dret C hp dX3_fastest_9 ⟨_, _, rfl, rfl, h⟩
theorem mf_X3_fastest : MFv yX3_fastest cX3_fastest 1 (some .double) 0 := ⟨kc_X3_fastest, kn_X3_fastest, kv_X3_fastest, ki_X3, by decide +kernel⟩

