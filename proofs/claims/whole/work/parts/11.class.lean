/-! X2_isWithin -/
def wp_X2_isWithin (a0 : UInt64) (a1 : Int32) (post : Int32 → Prop) : Prop :=
  ((¬ (dG a0 FP.dconst0 ∨ dE a0 FP.dconst0) →
    post (0 : Int32)
  ) ∧
  ((dG a0 FP.dconst0 ∨ dE a0 FP.dconst0) →
    ((¬ (dL a0 (FP.i2d a1) ∨ dE a0 (FP.i2d a1)) →
      post (0 : Int32)
    ) ∧
    ((dL a0 (FP.i2d a1) ∨ dE a0 (FP.i2d a1)) →
      post (1 : Int32)
    ))
  ))
set_option maxHeartbeats 4000000 in
set_option maxRecDepth 100000 in
theorem c_X2_isWithin {l : Launch} {G : GT} {Z : State} {w : va_W} (hZ : ZOK G Z) {a0 : UInt64} {a1 : Int32} {post : Int32 → Prop} (h : wp_X2_isWithin a0 a1 post) : CM l G Z yX2_isWithin cX2_isWithin 3 (some .boolean) (rmz 0 0) [.double a0, .int a1] (w) (SI w post) := by
  refine CM_ofW hZ (by decide +kernel) (lb rfl) (fun p e s m below meth c ls C hp hl hnm => ?_)
  have C : Cx G Z _ p s m _ meth c RX2 cX2_isWithin 3 (some .boolean) := C
  have hl : lv_has ls 3 [(0, .double a0), (2, .int a1)] := hl
  have hx := C.hx
  have hb := C.hb
  unfold wp_X2_isWithin at h
  refine lv_dload_n hx hb dX2_isWithin_0 rfl (lv_at hl 0 rfl) ?_
  refine lv_dconst0 hx hb dX2_isWithin_1 ?_
  refine dcl_lt (tgt := 17) hx hb dX2_isWithin_2 dX2_isWithin_3 (by decide) (fun q1 => ?_) (fun q1 => ?_)
  · have h := h.1 q1
    refine lv_iconst (v := 0) hx hb dX2_isWithin_17 (by decide) ?_
    exact r_zret C hp dX2_isWithin_18 rfl ⟨_, rfl, rfl, h⟩
  · have h := h.2 q1
    refine lv_dload_n hx hb dX2_isWithin_6 rfl (lv_at hl 0 rfl) ?_
    refine lv_iload_n hx hb dX2_isWithin_7 rfl (lv_at hl 1 rfl) ?_
    refine lv_i2d hx hb dX2_isWithin_8 ?_
    refine dcg_gt (tgt := 17) hx hb dX2_isWithin_9 dX2_isWithin_10 (by decide) (fun q2 => ?_) (fun q2 => ?_)
    · have h := h.1 q2
      refine lv_iconst (v := 0) hx hb dX2_isWithin_17 (by decide) ?_
      exact r_zret C hp dX2_isWithin_18 rfl ⟨_, rfl, rfl, h⟩
    · have h := h.2 q2
      refine lv_iconst (v := 1) hx hb dX2_isWithin_13 (by decide) ?_
      refine lv_goto (tgt := 18) hx hb dX2_isWithin_14 (by decide) ?_
      exact r_zret C hp dX2_isWithin_18 rfl ⟨_, rfl, rfl, h⟩
theorem mf_X2_isWithin : MFs yX2_isWithin cX2_isWithin 3 (some .boolean) 2 := ⟨kc_X2_isWithin, ks_X2_isWithin, ki_X2, by decide +kernel⟩

/-! X2_isTrack -/
def wp_X2_isTrack (a0 : Int32) (post : Int32 → Prop) : Prop :=
  ((a0 < 0 →
    post (0 : Int32)
  ) ∧
  (¬ a0 < 0 →
    (((8 : Int32) ≤ a0 →
      post (0 : Int32)
    ) ∧
    (¬ (8 : Int32) ≤ a0 →
      post (1 : Int32)
    ))
  ))
set_option maxHeartbeats 4000000 in
set_option maxRecDepth 100000 in
theorem c_X2_isTrack {l : Launch} {G : GT} {Z : State} {w : va_W} (hZ : ZOK G Z) {a0 : Int32} {post : Int32 → Prop} (h : wp_X2_isTrack a0 post) : CM l G Z yX2_isTrack cX2_isTrack 1 (some .boolean) (rmz 0 0) [.int a0] (w) (SI w post) := by
  refine CM_ofW hZ (by decide +kernel) (lb rfl) (fun p e s m below meth c ls C hp hl hnm => ?_)
  have C : Cx G Z _ p s m _ meth c RX2 cX2_isTrack 1 (some .boolean) := C
  have hl : lv_has ls 1 [(0, .int a0)] := hl
  have hx := C.hx
  have hb := C.hb
  unfold wp_X2_isTrack at h
  refine lv_iload_n hx hb dX2_isTrack_0 rfl (lv_at hl 0 rfl) ?_
  refine lv_if_lt (tgt := 14) hx hb dX2_isTrack_1 (by decide) (fun q1 => ?_) (fun q1 => ?_)
  · have h := h.1 q1
    refine lv_iconst (v := 0) hx hb dX2_isTrack_14 (by decide) ?_
    exact r_zret C hp dX2_isTrack_15 rfl ⟨_, rfl, rfl, h⟩
  · have h := h.2 q1
    refine lv_iload_n hx hb dX2_isTrack_4 rfl (lv_at hl 0 rfl) ?_
    refine lv_bipush (v := 8) hx hb dX2_isTrack_5 (by decide) ?_
    refine lv_icmp_ge (tgt := 14) hx hb dX2_isTrack_7 (by decide) (fun q2 => ?_) (fun q2 => ?_)
    · have h := h.1 q2
      refine lv_iconst (v := 0) hx hb dX2_isTrack_14 (by decide) ?_
      exact r_zret C hp dX2_isTrack_15 rfl ⟨_, rfl, rfl, h⟩
    · have h := h.2 q2
      refine lv_iconst (v := 1) hx hb dX2_isTrack_10 (by decide) ?_
      refine lv_goto (tgt := 15) hx hb dX2_isTrack_11 (by decide) ?_
      exact r_zret C hp dX2_isTrack_15 rfl ⟨_, rfl, rfl, h⟩
theorem mf_X2_isTrack : MFs yX2_isTrack cX2_isTrack 1 (some .boolean) 1 := ⟨kc_X2_isTrack, ks_X2_isTrack, ki_X2, by decide +kernel⟩

/-! X2_isPoint -/
def wp_X2_isPoint (a0 : Int32) (post : Int32 → Prop) : Prop :=
  ((a0 < 0 →
    post (0 : Int32)
  ) ∧
  (¬ a0 < 0 →
    (((7 : Int32) ≤ a0 →
      post (0 : Int32)
    ) ∧
    (¬ (7 : Int32) ≤ a0 →
      post (1 : Int32)
    ))
  ))
set_option maxHeartbeats 4000000 in
set_option maxRecDepth 100000 in
theorem c_X2_isPoint {l : Launch} {G : GT} {Z : State} {w : va_W} (hZ : ZOK G Z) {a0 : Int32} {post : Int32 → Prop} (h : wp_X2_isPoint a0 post) : CM l G Z yX2_isPoint cX2_isPoint 1 (some .boolean) (rmz 0 0) [.int a0] (w) (SI w post) := by
  refine CM_ofW hZ (by decide +kernel) (lb rfl) (fun p e s m below meth c ls C hp hl hnm => ?_)
  have C : Cx G Z _ p s m _ meth c RX2 cX2_isPoint 1 (some .boolean) := C
  have hl : lv_has ls 1 [(0, .int a0)] := hl
  have hx := C.hx
  have hb := C.hb
  unfold wp_X2_isPoint at h
  refine lv_iload_n hx hb dX2_isPoint_0 rfl (lv_at hl 0 rfl) ?_
  refine lv_if_lt (tgt := 14) hx hb dX2_isPoint_1 (by decide) (fun q1 => ?_) (fun q1 => ?_)
  · have h := h.1 q1
    refine lv_iconst (v := 0) hx hb dX2_isPoint_14 (by decide) ?_
    exact r_zret C hp dX2_isPoint_15 rfl ⟨_, rfl, rfl, h⟩
  · have h := h.2 q1
    refine lv_iload_n hx hb dX2_isPoint_4 rfl (lv_at hl 0 rfl) ?_
    refine lv_bipush (v := 7) hx hb dX2_isPoint_5 (by decide) ?_
    refine lv_icmp_ge (tgt := 14) hx hb dX2_isPoint_7 (by decide) (fun q2 => ?_) (fun q2 => ?_)
    · have h := h.1 q2
      refine lv_iconst (v := 0) hx hb dX2_isPoint_14 (by decide) ?_
      exact r_zret C hp dX2_isPoint_15 rfl ⟨_, rfl, rfl, h⟩
    · have h := h.2 q2
      refine lv_iconst (v := 1) hx hb dX2_isPoint_10 (by decide) ?_
      refine lv_goto (tgt := 15) hx hb dX2_isPoint_11 (by decide) ?_
      exact r_zret C hp dX2_isPoint_15 rfl ⟨_, rfl, rfl, h⟩
theorem mf_X2_isPoint : MFs yX2_isPoint cX2_isPoint 1 (some .boolean) 1 := ⟨kc_X2_isPoint, ks_X2_isPoint, ki_X2, by decide +kernel⟩

/-! X2_nodeBehind -/
def wp_X2_nodeBehind (a0 : Int32) (a1 : Int32) (post : Int32 → Prop) : Prop :=
  post ((((2 : Int32) * a0) + (1 : Int32)) + a1)
set_option maxHeartbeats 4000000 in
set_option maxRecDepth 100000 in
theorem c_X2_nodeBehind {l : Launch} {G : GT} {Z : State} {w : va_W} (hZ : ZOK G Z) {a0 : Int32} {a1 : Int32} {post : Int32 → Prop} (h : wp_X2_nodeBehind a0 a1 post) : CM l G Z yX2_nodeBehind cX2_nodeBehind 2 (some .int) (rmz 0 0) [.int a0, .int a1] (w) (SI w post) := by
  refine CM_ofW hZ (by decide +kernel) (lb rfl) (fun p e s m below meth c ls C hp hl hnm => ?_)
  have C : Cx G Z _ p s m _ meth c RX2 cX2_nodeBehind 2 (some .int) := C
  have hl : lv_has ls 2 [(0, .int a0), (1, .int a1)] := hl
  have hx := C.hx
  have hb := C.hb
  unfold wp_X2_nodeBehind at h
  refine lv_iconst (v := 2) hx hb dX2_nodeBehind_0 (by decide) ?_
  refine lv_iload_n hx hb dX2_nodeBehind_1 rfl (lv_at hl 0 rfl) ?_
  refine lv_imul hx hb dX2_nodeBehind_2 ?_
  refine lv_iconst (v := 1) hx hb dX2_nodeBehind_3 (by decide) ?_
  refine lv_iadd hx hb dX2_nodeBehind_4 ?_
  refine lv_iload_n hx hb dX2_nodeBehind_5 rfl (lv_at hl 1 rfl) ?_
  refine lv_iadd hx hb dX2_nodeBehind_6 ?_
  exact r_iret C hp dX2_nodeBehind_7 ⟨_, rfl, rfl, h⟩
theorem mf_X2_nodeBehind : MFs yX2_nodeBehind cX2_nodeBehind 2 (some .int) 2 := ⟨kc_X2_nodeBehind, ks_X2_nodeBehind, ki_X2, by decide +kernel⟩

/-! X2_trackOf -/
def wp_X2_trackOf (a0 : Int32) (post : Int32 → Prop) : Prop :=
  ∀ x1 : Int32, x1 = a0 - (7 : Int32) →
    wp_X2_isTrack x1 (fun r2 =>
      ((r2 = 0 →
        post (-1 : Int32)
      ) ∧
      (¬ r2 = 0 →
        post x1
      ))
    )
set_option maxHeartbeats 4000000 in
set_option maxRecDepth 100000 in
theorem c_X2_trackOf {l : Launch} {G : GT} {Z : State} {w : va_W} (hZ : ZOK G Z) {a0 : Int32} {post : Int32 → Prop} (h : wp_X2_trackOf a0 post) : CM l G Z yX2_trackOf cX2_trackOf 2 (some .int) (rmz 1 20) [.int a0] (w) (SI w post) := by
  refine CM_ofW hZ (by decide +kernel) (lb rfl) (fun p e s m below meth c ls C hp hl hnm => ?_)
  have C : Cx G Z _ p s m _ meth c RX2 cX2_trackOf 2 (some .int) := C
  have hl : lv_has ls 2 [(0, .int a0)] := hl
  have hx := C.hx
  have hb := C.hb
  unfold wp_X2_trackOf at h
  refine lv_iload_n hx hb dX2_trackOf_0 rfl (lv_at hl 0 rfl) ?_
  refine lv_bipush (v := 7) hx hb dX2_trackOf_1 (by decide) ?_
  refine lv_isub hx hb dX2_trackOf_3 ?_
  refine lv_topi (fun x1 ex1 => ?_)
  have h := h x1 ex1
  refine lv_istore_n (lv' := [(1, .int x1), (0, .int a0)]) hx hb dX2_trackOf_4 rfl hl (by decide) rfl (fun ls hl => ?_)
  refine lv_iload_n hx hb dX2_trackOf_5 rfl (lv_at hl 0 rfl) ?_
  refine r_callS (rest := []) (c_X2_isTrack C.hZ h) C hp mf_X2_isTrack km_X2_95 hl.1 dX2_trackOf_6 ⟨lb rfl, lb rfl, lb rfl, lb rfl⟩ rfl rfl (lb rfl) (fun v w1 H locs hv hp => ?_)
  obtain ⟨r2, rfl, rfl, h⟩ := hv
  refine W.eq (g2 := F0 m 9 ls [.int r2]) rfl ?_
  refine lv_if_eq (tgt := 16) hx hb dX2_trackOf_9 (by decide) (fun q3 => ?_) (fun q3 => ?_)
  · have h := h.1 q3
    refine lv_iconst (v := -1) hx hb dX2_trackOf_16 (by decide) ?_
    exact r_iret C hp dX2_trackOf_17 ⟨_, rfl, rfl, h⟩
  · have h := h.2 q3
    refine lv_iload_n hx hb dX2_trackOf_12 rfl (lv_at hl 0 rfl) ?_
    refine lv_goto (tgt := 17) hx hb dX2_trackOf_13 (by decide) ?_
    exact r_iret C hp dX2_trackOf_17 ⟨_, rfl, rfl, h⟩
theorem mf_X2_trackOf : MFs yX2_trackOf cX2_trackOf 2 (some .int) 1 := ⟨kc_X2_trackOf, ks_X2_trackOf, ki_X2, by decide +kernel⟩

/-! X2_levelOf -/
def wp_X2_levelOf (a0 : Int32) (post : Int32 → Prop) : Prop :=
  (((1 : Int32) ≤ a0 →
    (((3 : Int32) ≤ a0 →
      (((7 : Int32) ≤ a0 →
        post (3 : Int32)
      ) ∧
      (¬ (7 : Int32) ≤ a0 →
        post (2 : Int32)
      ))
    ) ∧
    (¬ (3 : Int32) ≤ a0 →
      post (1 : Int32)
    ))
  ) ∧
  (¬ (1 : Int32) ≤ a0 →
    post (0 : Int32)
  ))
set_option maxHeartbeats 4000000 in
set_option maxRecDepth 100000 in
theorem c_X2_levelOf {l : Launch} {G : GT} {Z : State} {w : va_W} (hZ : ZOK G Z) {a0 : Int32} {post : Int32 → Prop} (h : wp_X2_levelOf a0 post) : CM l G Z yX2_levelOf cX2_levelOf 1 (some .int) (rmz 0 0) [.int a0] (w) (SI w post) := by
  refine CM_ofW hZ (by decide +kernel) (lb rfl) (fun p e s m below meth c ls C hp hl hnm => ?_)
  have C : Cx G Z _ p s m _ meth c RX2 cX2_levelOf 1 (some .int) := C
  have hl : lv_has ls 1 [(0, .int a0)] := hl
  have hx := C.hx
  have hb := C.hb
  unfold wp_X2_levelOf at h
  refine lv_iload_n hx hb dX2_levelOf_0 rfl (lv_at hl 0 rfl) ?_
  refine lv_iconst (v := 1) hx hb dX2_levelOf_1 (by decide) ?_
  refine lv_icmp_ge (tgt := 7) hx hb dX2_levelOf_2 (by decide) (fun q1 => ?_) (fun q1 => ?_)
  · have h := h.1 q1
    refine lv_iload_n hx hb dX2_levelOf_7 rfl (lv_at hl 0 rfl) ?_
    refine lv_iconst (v := 3) hx hb dX2_levelOf_8 (by decide) ?_
    refine lv_icmp_ge (tgt := 14) hx hb dX2_levelOf_9 (by decide) (fun q2 => ?_) (fun q2 => ?_)
    · have h := h.1 q2
      refine lv_iload_n hx hb dX2_levelOf_14 rfl (lv_at hl 0 rfl) ?_
      refine lv_bipush (v := 7) hx hb dX2_levelOf_15 (by decide) ?_
      refine lv_icmp_ge (tgt := 24) hx hb dX2_levelOf_17 (by decide) (fun q3 => ?_) (fun q3 => ?_)
      · have h := h.1 q3
        refine lv_iconst (v := 3) hx hb dX2_levelOf_24 (by decide) ?_
        exact r_iret C hp dX2_levelOf_25 ⟨_, rfl, rfl, h⟩
      · have h := h.2 q3
        refine lv_iconst (v := 2) hx hb dX2_levelOf_20 (by decide) ?_
        refine lv_goto (tgt := 25) hx hb dX2_levelOf_21 (by decide) ?_
        exact r_iret C hp dX2_levelOf_25 ⟨_, rfl, rfl, h⟩
    · have h := h.2 q2
      refine lv_iconst (v := 1) hx hb dX2_levelOf_12 (by decide) ?_
      exact r_iret C hp dX2_levelOf_13 ⟨_, rfl, rfl, h⟩
  · have h := h.2 q1
    refine lv_iconst (v := 0) hx hb dX2_levelOf_5 (by decide) ?_
    exact r_iret C hp dX2_levelOf_6 ⟨_, rfl, rfl, h⟩
theorem mf_X2_levelOf : MFs yX2_levelOf cX2_levelOf 1 (some .int) 1 := ⟨kc_X2_levelOf, ks_X2_levelOf, ki_X2, by decide +kernel⟩

/-! X2_pointPlace -/
def wp_X2_pointPlace (a0 : Int32) (post : Int32 → Prop) : Prop :=
  wp_X2_levelOf a0 (fun r1 =>
    post ((80 : Int32) + ((40 : Int32) * r1))
  )
set_option maxHeartbeats 4000000 in
set_option maxRecDepth 100000 in
theorem c_X2_pointPlace {l : Launch} {G : GT} {Z : State} {w : va_W} (hZ : ZOK G Z) {a0 : Int32} {post : Int32 → Prop} (h : wp_X2_pointPlace a0 post) : CM l G Z yX2_pointPlace cX2_pointPlace 1 (some .int) (rmz 1 20) [.int a0] (w) (SI w post) := by
  refine CM_ofW hZ (by decide +kernel) (lb rfl) (fun p e s m below meth c ls C hp hl hnm => ?_)
  have C : Cx G Z _ p s m _ meth c RX2 cX2_pointPlace 1 (some .int) := C
  have hl : lv_has ls 1 [(0, .int a0)] := hl
  have hx := C.hx
  have hb := C.hb
  unfold wp_X2_pointPlace at h
  refine lv_bipush (v := 80) hx hb dX2_pointPlace_0 (by decide) ?_
  refine lv_bipush (v := 40) hx hb dX2_pointPlace_2 (by decide) ?_
  refine lv_iload_n hx hb dX2_pointPlace_4 rfl (lv_at hl 0 rfl) ?_
  refine r_callS (rest := [.int (40 : Int32), .int (80 : Int32)]) (c_X2_levelOf C.hZ h) C hp mf_X2_levelOf km_X2_181 hl.1 dX2_pointPlace_5 ⟨lb rfl, lb rfl, lb rfl, lb rfl⟩ rfl rfl (lb rfl) (fun v w1 H locs hv hp => ?_)
  obtain ⟨r1, rfl, rfl, h⟩ := hv
  refine W.eq (g2 := F0 m 8 ls [.int r1, .int (40 : Int32), .int (80 : Int32)]) rfl ?_
  refine lv_imul hx hb dX2_pointPlace_8 ?_
  refine lv_iadd hx hb dX2_pointPlace_9 ?_
  exact r_iret C hp dX2_pointPlace_10 ⟨_, rfl, rfl, h⟩
theorem mf_X2_pointPlace : MFs yX2_pointPlace cX2_pointPlace 1 (some .int) 1 := ⟨kc_X2_pointPlace, ks_X2_pointPlace, ki_X2, by decide +kernel⟩

/-! X2_leadsTo -/
def wb_X2_leadsTo_4 (a0 : Int32) (a1 : Int32) (post : Int32 → Prop) (rec : Int32 → Int32 → Prop) (x2 : Int32) (x3 : Int32) : Prop :=
  (((3 : Int32) ≤ x3 →
    ((¬ x2 = a0 →
      post (0 : Int32)
    ) ∧
    (x2 = a0 →
      post (1 : Int32)
    ))
  ) ∧
  (¬ (3 : Int32) ≤ x3 →
    ((x2 ≤ a0 →
      ((¬ x2 = a0 →
        post (0 : Int32)
      ) ∧
      (x2 = a0 →
        post (1 : Int32)
      ))
    ) ∧
    (¬ x2 ≤ a0 →
      ∀ x5 : Int32, x5 = (x2 - (1 : Int32)) / (2 : Int32) →
        rec x5 (x3 + (1))
    ))
  ))
def wl_X2_leadsTo_4 (a0 : Int32) (a1 : Int32) (post : Int32 → Prop) : Nat → Int32 → Int32 → Prop
  | 0 => fun _ _ => False
  | n + 1 => wb_X2_leadsTo_4 a0 a1 post (wl_X2_leadsTo_4 a0 a1 post n)
def wp_X2_leadsTo (a0 : Int32) (a1 : Int32) (post : Int32 → Prop) : Prop :=
  ∃ n, wl_X2_leadsTo_4 a0 a1 post n a1 (0 : Int32)
set_option maxHeartbeats 4000000 in
set_option maxRecDepth 100000 in
theorem lp_X2_leadsTo_4 {l : Launch} {G : GT} {Z : State} {ws0 : va_W}  {p : Program} {e : Env} {s : State} {m : MethodId} {args : Array Value} {below : List Frame} {meth : Method} {c : Code} {w : va_W} {a0 : Int32} {a1 : Int32} (C : Cx G Z ws0 p s m args meth c RX2 cX2_leadsTo 4 (some .boolean)) {post : Int32 → Prop} : ∀ (n : Nat) (x2 : Int32) (x3 : Int32) (H : Heap) (locs : List Loc) (ls : Array Slot), wl_X2_leadsTo_4 a0 a1 post n x2 x3 → Hp G ws0 s H locs (w) → lv_has ls 4 [(0, .int a0), (2, .int x2), (3, .int x3)] → W p l e (rmz 0 0) s m args below meth c H locs 0 0 (QQ G Z ws0 below s args (SI w post) (rmz 0 0)) (F0 m 4 ls []) := by
  have hx := C.hx
  have hb := C.hb
  have hZ := C.hZ
  intro n
  induction n with
  | zero =>
    intro x2 x3 H locs ls h
    exact False.elim h
  | succ n ih =>
    intro x2 x3 H locs ls h hp hl
    have h : wb_X2_leadsTo_4 a0 a1 post (wl_X2_leadsTo_4 a0 a1 post n) x2 x3 := h
    unfold wb_X2_leadsTo_4 at h
    generalize hrec : wl_X2_leadsTo_4 a0 a1 post n = rec at h ih
    refine lv_iload_n hx hb dX2_leadsTo_4 rfl (lv_at hl 2 rfl) ?_
    refine lv_iconst (v := 3) hx hb dX2_leadsTo_5 (by decide) ?_
    refine lv_icmp_ge (tgt := 26) hx hb dX2_leadsTo_6 (by decide) (fun q1 => ?_) (fun q1 => ?_)
    · have h := h.1 q1
      refine lv_iload_n hx hb dX2_leadsTo_26 rfl (lv_at hl 1 rfl) ?_
      refine lv_iload_n hx hb dX2_leadsTo_27 rfl (lv_at hl 0 rfl) ?_
      refine lv_icmp_ne (tgt := 35) hx hb dX2_leadsTo_28 (by decide) (fun q2 => ?_) (fun q2 => ?_)
      · have h := h.1 q2
        refine lv_iconst (v := 0) hx hb dX2_leadsTo_35 (by decide) ?_
        exact r_zret C hp dX2_leadsTo_36 rfl ⟨_, rfl, rfl, h⟩
      · have h := h.2 q2
        refine lv_iconst (v := 1) hx hb dX2_leadsTo_31 (by decide) ?_
        refine lv_goto (tgt := 36) hx hb dX2_leadsTo_32 (by decide) ?_
        exact r_zret C hp dX2_leadsTo_36 rfl ⟨_, rfl, rfl, h⟩
    · have h := h.2 q1
      refine lv_iload_n hx hb dX2_leadsTo_9 rfl (lv_at hl 1 rfl) ?_
      refine lv_iload_n hx hb dX2_leadsTo_10 rfl (lv_at hl 0 rfl) ?_
      refine lv_icmp_le (tgt := 26) hx hb dX2_leadsTo_11 (by decide) (fun q3 => ?_) (fun q3 => ?_)
      · have h := h.1 q3
        refine lv_iload_n hx hb dX2_leadsTo_26 rfl (lv_at hl 1 rfl) ?_
        refine lv_iload_n hx hb dX2_leadsTo_27 rfl (lv_at hl 0 rfl) ?_
        refine lv_icmp_ne (tgt := 35) hx hb dX2_leadsTo_28 (by decide) (fun q4 => ?_) (fun q4 => ?_)
        · have h := h.1 q4
          refine lv_iconst (v := 0) hx hb dX2_leadsTo_35 (by decide) ?_
          exact r_zret C hp dX2_leadsTo_36 rfl ⟨_, rfl, rfl, h⟩
        · have h := h.2 q4
          refine lv_iconst (v := 1) hx hb dX2_leadsTo_31 (by decide) ?_
          refine lv_goto (tgt := 36) hx hb dX2_leadsTo_32 (by decide) ?_
          exact r_zret C hp dX2_leadsTo_36 rfl ⟨_, rfl, rfl, h⟩
      · have h := h.2 q3
        refine lv_iload_n hx hb dX2_leadsTo_14 rfl (lv_at hl 1 rfl) ?_
        refine lv_iconst (v := 1) hx hb dX2_leadsTo_15 (by decide) ?_
        refine lv_isub hx hb dX2_leadsTo_16 ?_
        refine lv_iconst (v := 2) hx hb dX2_leadsTo_17 (by decide) ?_
        refine lv_idiv hx hb dX2_leadsTo_18 (by decide) ?_
        refine lv_topi (fun x5 ex5 => ?_)
        have h := h x5 ex5
        refine lv_istore_n (lv' := [(2, .int x5), (0, .int a0), (3, .int x3)]) hx hb dX2_leadsTo_19 rfl hl (by decide) rfl (fun ls hl => ?_)
        refine lv_iinc (v := x3 + (1)) (lv' := [(3, .int (x3 + (1))), (2, .int x5), (0, .int a0)]) hx hb dX2_leadsTo_20 hl (k := 2) rfl rfl (by decide) rfl (fun ls hl => ?_)
        refine lv_goto (tgt := 4) hx hb dX2_leadsTo_23 (by decide) ?_
        exact ih _ _ _ _ _ h hp (lv_sub hl [2, 1, 0] rfl)
set_option maxHeartbeats 4000000 in
set_option maxRecDepth 100000 in
theorem c_X2_leadsTo {l : Launch} {G : GT} {Z : State} {w : va_W} (hZ : ZOK G Z) {a0 : Int32} {a1 : Int32} {post : Int32 → Prop} (h : wp_X2_leadsTo a0 a1 post) : CM l G Z yX2_leadsTo cX2_leadsTo 4 (some .boolean) (rmz 0 0) [.int a0, .int a1] (w) (SI w post) := by
  refine CM_ofW hZ (by decide +kernel) (lb rfl) (fun p e s m below meth c ls C hp hl hnm => ?_)
  have C : Cx G Z _ p s m _ meth c RX2 cX2_leadsTo 4 (some .boolean) := C
  have hl : lv_has ls 4 [(0, .int a0), (1, .int a1)] := hl
  have hx := C.hx
  have hb := C.hb
  unfold wp_X2_leadsTo at h
  refine lv_iload_n hx hb dX2_leadsTo_0 rfl (lv_at hl 1 rfl) ?_
  refine lv_istore_n (lv' := [(2, .int a1), (0, .int a0), (1, .int a1)]) hx hb dX2_leadsTo_1 rfl hl (by decide) rfl (fun ls hl => ?_)
  refine lv_iconst (v := 0) hx hb dX2_leadsTo_2 (by decide) ?_
  refine lv_istore_n (lv' := [(3, .int (0 : Int32)), (2, .int a1), (0, .int a0), (1, .int a1)]) hx hb dX2_leadsTo_3 rfl hl (by decide) rfl (fun ls hl => ?_)
  obtain ⟨n, h⟩ := h
  exact lp_X2_leadsTo_4 C n _ _ _ _ _ h hp (lv_sub hl [2, 1, 0] rfl)
theorem mf_X2_leadsTo : MFs yX2_leadsTo cX2_leadsTo 4 (some .boolean) 2 := ⟨kc_X2_leadsTo, ks_X2_leadsTo, ki_X2, by decide +kernel⟩

/-! X2_isOneWay -/
def wp_X2_isOneWay (a0 : Int32) (a1 : Int32) (post : Int32 → Prop) : Prop :=
  wp_X2_leadsTo a0 a1 (fun r1 =>
    ((¬ r1 = 0 →
      post (1 : Int32)
    ) ∧
    (r1 = 0 →
      wp_X2_leadsTo a1 a0 (fun r3 =>
        ((r3 = 0 →
          post (0 : Int32)
        ) ∧
        (¬ r3 = 0 →
          post (1 : Int32)
        ))
      )
    ))
  )
set_option maxHeartbeats 4000000 in
set_option maxRecDepth 100000 in
theorem c_X2_isOneWay {l : Launch} {G : GT} {Z : State} {w : va_W} (hZ : ZOK G Z) {a0 : Int32} {a1 : Int32} {post : Int32 → Prop} (h : wp_X2_isOneWay a0 a1 post) : CM l G Z yX2_isOneWay cX2_isOneWay 2 (some .boolean) (rmz 1 23) [.int a0, .int a1] (w) (SI w post) := by
  refine CM_ofW hZ (by decide +kernel) (lb rfl) (fun p e s m below meth c ls C hp hl hnm => ?_)
  have C : Cx G Z _ p s m _ meth c RX2 cX2_isOneWay 2 (some .boolean) := C
  have hl : lv_has ls 2 [(0, .int a0), (1, .int a1)] := hl
  have hx := C.hx
  have hb := C.hb
  unfold wp_X2_isOneWay at h
  refine lv_iload_n hx hb dX2_isOneWay_0 rfl (lv_at hl 0 rfl) ?_
  refine lv_iload_n hx hb dX2_isOneWay_1 rfl (lv_at hl 1 rfl) ?_
  refine r_callS (rest := []) (c_X2_leadsTo C.hZ h) C hp mf_X2_leadsTo km_X2_212 hl.1 dX2_isOneWay_2 ⟨lb rfl, lb rfl, lb rfl, lb rfl⟩ rfl rfl (lb rfl) (fun v w1 H locs hv hp => ?_)
  obtain ⟨r1, rfl, rfl, h⟩ := hv
  refine W.eq (g2 := F0 m 5 ls [.int r1]) rfl ?_
  refine lv_if_ne (tgt := 16) hx hb dX2_isOneWay_5 (by decide) (fun q2 => ?_) (fun q2 => ?_)
  · have h := h.1 q2
    refine lv_iconst (v := 1) hx hb dX2_isOneWay_16 (by decide) ?_
    refine lv_goto (tgt := 21) hx hb dX2_isOneWay_17 (by decide) ?_
    exact r_zret C hp dX2_isOneWay_21 rfl ⟨_, rfl, rfl, h⟩
  · have h := h.2 q2
    refine lv_iload_n hx hb dX2_isOneWay_8 rfl (lv_at hl 1 rfl) ?_
    refine lv_iload_n hx hb dX2_isOneWay_9 rfl (lv_at hl 0 rfl) ?_
    refine r_callS (rest := []) (c_X2_leadsTo C.hZ h) C hp mf_X2_leadsTo km_X2_212 hl.1 dX2_isOneWay_10 ⟨lb rfl, lb rfl, lb rfl, lb rfl⟩ rfl rfl (lb rfl) (fun v w1 H locs hv hp => ?_)
    obtain ⟨r3, rfl, rfl, h⟩ := hv
    refine W.eq (g2 := F0 m 13 ls [.int r3]) rfl ?_
    refine lv_if_eq (tgt := 20) hx hb dX2_isOneWay_13 (by decide) (fun q4 => ?_) (fun q4 => ?_)
    · have h := h.1 q4
      refine lv_iconst (v := 0) hx hb dX2_isOneWay_20 (by decide) ?_
      exact r_zret C hp dX2_isOneWay_21 rfl ⟨_, rfl, rfl, h⟩
    · have h := h.2 q4
      refine lv_iconst (v := 1) hx hb dX2_isOneWay_16 (by decide) ?_
      refine lv_goto (tgt := 21) hx hb dX2_isOneWay_17 (by decide) ?_
      exact r_zret C hp dX2_isOneWay_21 rfl ⟨_, rfl, rfl, h⟩
theorem mf_X2_isOneWay : MFs yX2_isOneWay cX2_isOneWay 2 (some .boolean) 2 := ⟨kc_X2_isOneWay, ks_X2_isOneWay, ki_X2, by decide +kernel⟩

/-! X2_grade -/
def wp_X2_grade (a0 : UInt64) (post : UInt64 → Prop) : Prop :=
  ((¬ dL a0 (4633641066610819072 : UInt64) →
    ((¬ dL a0 (4641240890982006784 : UInt64) →
      post (4562254508917369340 : UInt64)
    ) ∧
    (dL a0 (4641240890982006784 : UInt64) →
      post (4578359381184846234 : UInt64)
    ))
  ) ∧
  (dL a0 (4633641066610819072 : UInt64) →
    post (4586916220476850176 : UInt64)
  ))
set_option maxHeartbeats 4000000 in
set_option maxRecDepth 100000 in
theorem c_X2_grade {l : Launch} {G : GT} {Z : State} {w : va_W} (hZ : ZOK G Z) {a0 : UInt64} {post : UInt64 → Prop} (h : wp_X2_grade a0 post) : CM l G Z yX2_grade cX2_grade 2 (some .double) (rmz 0 0) [.double a0] (w) (SD w post) := by
  refine CM_ofW hZ (by decide +kernel) (lb rfl) (fun p e s m below meth c ls C hp hl hnm => ?_)
  have C : Cx G Z _ p s m _ meth c RX2 cX2_grade 2 (some .double) := C
  have hl : lv_has ls 2 [(0, .double a0)] := hl
  have hx := C.hx
  have hb := C.hb
  unfold wp_X2_grade at h
  refine lv_dload_n hx hb dX2_grade_0 rfl (lv_at hl 0 rfl) ?_
  refine lv_ldc2d hx hb C.hown (C.hts _ kd_X2_264) dX2_grade_1 ?_
  refine dcg_ge (tgt := 12) hx hb dX2_grade_4 dX2_grade_5 (by decide) (fun q1 => ?_) (fun q1 => ?_)
  · have h := h.1 q1
    refine lv_dload_n hx hb dX2_grade_12 rfl (lv_at hl 0 rfl) ?_
    refine lv_ldc2d hx hb C.hown (C.hts _ kd_X2_268) dX2_grade_13 ?_
    refine dcg_ge (tgt := 26) hx hb dX2_grade_16 dX2_grade_17 (by decide) (fun q2 => ?_) (fun q2 => ?_)
    · have h := h.1 q2
      refine lv_ldc2d hx hb C.hown (C.hts _ kd_X2_272) dX2_grade_26 ?_
      exact r_dret C hp dX2_grade_29 ⟨_, rfl, rfl, h⟩
    · have h := h.2 q2
      refine lv_ldc2d hx hb C.hown (C.hts _ kd_X2_270) dX2_grade_20 ?_
      refine lv_goto (tgt := 29) hx hb dX2_grade_23 (by decide) ?_
      exact r_dret C hp dX2_grade_29 ⟨_, rfl, rfl, h⟩
  · have h := h.2 q1
    refine lv_ldc2d hx hb C.hown (C.hts _ kd_X2_266) dX2_grade_8 ?_
    exact r_dret C hp dX2_grade_11 ⟨_, rfl, rfl, h⟩
theorem mf_X2_grade : MFs yX2_grade cX2_grade 2 (some .double) 1 := ⟨kc_X2_grade, ks_X2_grade, ki_X2, by decide +kernel⟩

/-! X1_note -/
def wp_X1_note (a0 : Int32) (a1 : Int32) (a2 : Int32) (a3 : Int32) (S : HS) (post : HS → Prop) : Prop :=
  wp_J9_floorMod_7cf53 (H_count S) (200 : Int32) (fun r1 =>
    ∀ x2 : Int32, x2 = r1 * (4 : Int32) →
      (vp_in x2 800) ∧ (
        ∀ S4 : HS, S4 = Hs_rows S (upd (H_rows S) x2.toNatClampNeg a0) →
          (vp_in (x2 + (1 : Int32)) 800) ∧ (
            ∀ S6 : HS, S6 = Hs_rows S4 (upd (H_rows S4) (x2 + (1 : Int32)).toNatClampNeg a1) →
              (vp_in (x2 + (2 : Int32)) 800) ∧ (
                ∀ S8 : HS, S8 = Hs_rows S6 (upd (H_rows S6) (x2 + (2 : Int32)).toNatClampNeg a2) →
                  (vp_in (x2 + (3 : Int32)) 800) ∧ (
                    ∀ S10 : HS, S10 = Hs_rows S8 (upd (H_rows S8) (x2 + (3 : Int32)).toNatClampNeg a3) →
                      ∀ x11 : Int32, x11 = (H_count S10) + (1 : Int32) →
                        ∀ S12 : HS, S12 = Hs_count S10 x11 →
                          post S12
                  )
              )
          )
      )
  )
set_option maxHeartbeats 4000000 in
set_option maxRecDepth 100000 in
theorem c_X1_note {l : Launch} {G : GT} {Z : State} {E0 : Nat} {ad : Nat → Nat} (hZ : ZOK G Z) {a0 : Int32} {a1 : Int32} {a2 : Int32} {a3 : Int32} {S : HS} {post : HS → Prop} (h : wp_X1_note a0 a1 a2 a3 S post) : CM l G Z yX1_note cX1_note 6 none (rmz 1 22) [.ref (ad 3), .int a0, .int a1, .int a2, .int a3] (wH G E0 ad S) (PV (wH G E0 ad) post) := by
  refine CM_ofW hZ (by decide +kernel) (lb rfl) (fun p e s m below meth c ls C hp hl hnm => ?_)
  have C : Cx G Z _ p s m _ meth c RX1 cX1_note 6 none := C
  have hl : lv_has ls 6 [(0, .ref (ad 3)), (1, .int a0), (2, .int a1), (3, .int a2), (4, .int a3)] := hl
  have hx := C.hx
  have hb := C.hb
  unfold wp_X1_note at h
  refine lv_aload_n hx hb dX1_note_0 rfl (lv_at hl 0 rfl) ?_
  refine gE1_count C hp dX1_note_1 ?_
  refine lv_sipush (v := 200) hx hb dX1_note_4 (by decide) ?_
  refine r_callS (rest := []) (c_J9_floorMod_7cf53 C.hZ h) C hp mf_J9_floorMod_7cf53 km_X1_19 hl.1 dX1_note_7 ⟨lb rfl, lb rfl, lb rfl, lb rfl⟩ rfl rfl (lb rfl) (fun v w1 H locs hv hp => ?_)
  obtain ⟨r1, rfl, rfl, h⟩ := hv
  refine W.eq (g2 := F0 m 10 ls [.int r1]) rfl ?_
  refine lv_iconst (v := 4) hx hb dX1_note_10 (by decide) ?_
  refine lv_imul hx hb dX1_note_11 ?_
  refine lv_topi (fun x2 ex2 => ?_)
  have h := h x2 ex2
  refine lv_istore (lv' := [(5, .int x2), (0, .ref (ad 3)), (1, .int a0), (2, .int a1), (3, .int a2), (4, .int a3)]) hx hb dX1_note_12 hl (by decide) rfl (fun ls hl => ?_)
  refine lv_aload_n hx hb dX1_note_14 rfl (lv_at hl 1 rfl) ?_
  refine gE1_rows C hp dX1_note_15 ?_
  refine lv_iload hx hb dX1_note_18 (lv_at hl 0 rfl) ?_
  refine lv_iload_n hx hb dX1_note_20 rfl (lv_at hl 2 rfl) ?_
  obtain ⟨g3, h⟩ := h
  refine uH_rows C hp dX1_note_21 g3 (fun H locs hp => ?_)
  obtain ⟨S4, eS4⟩ : ∃ z : HS, z = Hs_rows S (upd (H_rows S) x2.toNatClampNeg a0) := ⟨_, rfl⟩
  rw [← eS4] at hp
  have h := h S4 eS4
  refine lv_aload_n hx hb dX1_note_22 rfl (lv_at hl 1 rfl) ?_
  refine gE1_rows C hp dX1_note_23 ?_
  refine lv_iload hx hb dX1_note_26 (lv_at hl 0 rfl) ?_
  refine lv_iconst (v := 1) hx hb dX1_note_28 (by decide) ?_
  refine lv_iadd hx hb dX1_note_29 ?_
  refine lv_iload_n hx hb dX1_note_30 rfl (lv_at hl 3 rfl) ?_
  obtain ⟨g5, h⟩ := h
  refine uH_rows C hp dX1_note_31 g5 (fun H locs hp => ?_)
  obtain ⟨S6, eS6⟩ : ∃ z : HS, z = Hs_rows S4 (upd (H_rows S4) (x2 + (1 : Int32)).toNatClampNeg a1) := ⟨_, rfl⟩
  rw [← eS6] at hp
  have h := h S6 eS6
  refine lv_aload_n hx hb dX1_note_32 rfl (lv_at hl 1 rfl) ?_
  refine gE1_rows C hp dX1_note_33 ?_
  refine lv_iload hx hb dX1_note_36 (lv_at hl 0 rfl) ?_
  refine lv_iconst (v := 2) hx hb dX1_note_38 (by decide) ?_
  refine lv_iadd hx hb dX1_note_39 ?_
  refine lv_iload_n hx hb dX1_note_40 rfl (lv_at hl 4 rfl) ?_
  obtain ⟨g7, h⟩ := h
  refine uH_rows C hp dX1_note_41 g7 (fun H locs hp => ?_)
  obtain ⟨S8, eS8⟩ : ∃ z : HS, z = Hs_rows S6 (upd (H_rows S6) (x2 + (2 : Int32)).toNatClampNeg a2) := ⟨_, rfl⟩
  rw [← eS8] at hp
  have h := h S8 eS8
  refine lv_aload_n hx hb dX1_note_42 rfl (lv_at hl 1 rfl) ?_
  refine gE1_rows C hp dX1_note_43 ?_
  refine lv_iload hx hb dX1_note_46 (lv_at hl 0 rfl) ?_
  refine lv_iconst (v := 3) hx hb dX1_note_48 (by decide) ?_
  refine lv_iadd hx hb dX1_note_49 ?_
  refine lv_iload hx hb dX1_note_50 (lv_at hl 5 rfl) ?_
  obtain ⟨g9, h⟩ := h
  refine uH_rows C hp dX1_note_52 g9 (fun H locs hp => ?_)
  obtain ⟨S10, eS10⟩ : ∃ z : HS, z = Hs_rows S8 (upd (H_rows S8) (x2 + (3 : Int32)).toNatClampNeg a3) := ⟨_, rfl⟩
  rw [← eS10] at hp
  have h := h S10 eS10
  refine lv_aload_n hx hb dX1_note_53 rfl (lv_at hl 1 rfl) ?_
  refine lv_dup hx hb dX1_note_54 rfl ?_
  refine gE1_count C hp dX1_note_55 ?_
  refine lv_iconst (v := 1) hx hb dX1_note_58 (by decide) ?_
  refine lv_iadd hx hb dX1_note_59 ?_
  refine lv_topi (fun x11 ex11 => ?_)
  have h := h x11 ex11
  refine pE1_count C hp dX1_note_60 (fun H locs hp => ?_)
  obtain ⟨S12, eS12⟩ : ∃ z : HS, z = Hs_count S10 x11 := ⟨_, rfl⟩
  rw [← eS12] at hp
  have h := h S12 eS12
  exact r_vret C hp dX1_note_63 ⟨_, rfl, rfl, h⟩
theorem mf_X1_note : MFv yX1_note cX1_note 6 none 4 := ⟨kc_X1_note, kn_X1_note, kv_X1_note, ki_X1, by decide +kernel⟩

/-! X1_keeps -/
def wp_X1_keeps (S : HS) (a0 : Int32) (post : Int32 → Prop) : Prop :=
  ((a0 < 0 →
    post (0 : Int32)
  ) ∧
  (¬ a0 < 0 →
    (((200 : Int32) ≤ a0 →
      post (0 : Int32)
    ) ∧
    (¬ (200 : Int32) ≤ a0 →
      (((H_count S) ≤ a0 →
        post (0 : Int32)
      ) ∧
      (¬ (H_count S) ≤ a0 →
        post (1 : Int32)
      ))
    ))
  ))
set_option maxHeartbeats 4000000 in
set_option maxRecDepth 100000 in
theorem c_X1_keeps {l : Launch} {G : GT} {Z : State} {E0 : Nat} {ad : Nat → Nat} (hZ : ZOK G Z) {S : HS} {a0 : Int32} {post : Int32 → Prop} (h : wp_X1_keeps S a0 post) : CM l G Z yX1_keeps cX1_keeps 2 (some .boolean) (rmz 0 0) [.ref (ad 3), .int a0] (wH G E0 ad S) (SI (wH G E0 ad S) post) := by
  refine CM_ofW hZ (by decide +kernel) (lb rfl) (fun p e s m below meth c ls C hp hl hnm => ?_)
  have C : Cx G Z _ p s m _ meth c RX1 cX1_keeps 2 (some .boolean) := C
  have hl : lv_has ls 2 [(0, .ref (ad 3)), (1, .int a0)] := hl
  have hx := C.hx
  have hb := C.hb
  unfold wp_X1_keeps at h
  refine lv_iload_n hx hb dX1_keeps_0 rfl (lv_at hl 1 rfl) ?_
  refine lv_if_lt (tgt := 23) hx hb dX1_keeps_1 (by decide) (fun q1 => ?_) (fun q1 => ?_)
  · have h := h.1 q1
    refine lv_iconst (v := 0) hx hb dX1_keeps_23 (by decide) ?_
    exact r_zret C hp dX1_keeps_24 rfl ⟨_, rfl, rfl, h⟩
  · have h := h.2 q1
    refine lv_iload_n hx hb dX1_keeps_4 rfl (lv_at hl 1 rfl) ?_
    refine lv_sipush (v := 200) hx hb dX1_keeps_5 (by decide) ?_
    refine lv_icmp_ge (tgt := 23) hx hb dX1_keeps_8 (by decide) (fun q2 => ?_) (fun q2 => ?_)
    · have h := h.1 q2
      refine lv_iconst (v := 0) hx hb dX1_keeps_23 (by decide) ?_
      exact r_zret C hp dX1_keeps_24 rfl ⟨_, rfl, rfl, h⟩
    · have h := h.2 q2
      refine lv_iload_n hx hb dX1_keeps_11 rfl (lv_at hl 1 rfl) ?_
      refine lv_aload_n hx hb dX1_keeps_12 rfl (lv_at hl 0 rfl) ?_
      refine gE1_count C hp dX1_keeps_13 ?_
      refine lv_icmp_ge (tgt := 23) hx hb dX1_keeps_16 (by decide) (fun q3 => ?_) (fun q3 => ?_)
      · have h := h.1 q3
        refine lv_iconst (v := 0) hx hb dX1_keeps_23 (by decide) ?_
        exact r_zret C hp dX1_keeps_24 rfl ⟨_, rfl, rfl, h⟩
      · have h := h.2 q3
        refine lv_iconst (v := 1) hx hb dX1_keeps_19 (by decide) ?_
        refine lv_goto (tgt := 24) hx hb dX1_keeps_20 (by decide) ?_
        exact r_zret C hp dX1_keeps_24 rfl ⟨_, rfl, rfl, h⟩
theorem mf_X1_keeps : MFv yX1_keeps cX1_keeps 2 (some .boolean) 1 := ⟨kc_X1_keeps, kn_X1_keeps, kv_X1_keeps, ki_X1, by decide +kernel⟩

/-! X1_number -/
def wp_X1_number (S : HS) (a0 : Int32) (a1 : Int32) (post : Int32 → Prop) : Prop :=
  wp_J9_floorMod_7cf53 (((H_count S) - (1 : Int32)) - a0) (200 : Int32) (fun r1 =>
    (vp_in ((r1 * (4 : Int32)) + a1) 800) ∧ (
      post (H_rows S ((r1 * (4 : Int32)) + a1).toNatClampNeg)
    )
  )
set_option maxHeartbeats 4000000 in
set_option maxRecDepth 100000 in
theorem c_X1_number {l : Launch} {G : GT} {Z : State} {E0 : Nat} {ad : Nat → Nat} (hZ : ZOK G Z) {S : HS} {a0 : Int32} {a1 : Int32} {post : Int32 → Prop} (h : wp_X1_number S a0 a1 post) : CM l G Z yX1_number cX1_number 3 (some .int) (rmz 1 22) [.ref (ad 3), .int a0, .int a1] (wH G E0 ad S) (SI (wH G E0 ad S) post) := by
  refine CM_ofW hZ (by decide +kernel) (lb rfl) (fun p e s m below meth c ls C hp hl hnm => ?_)
  have C : Cx G Z _ p s m _ meth c RX1 cX1_number 3 (some .int) := C
  have hl : lv_has ls 3 [(0, .ref (ad 3)), (1, .int a0), (2, .int a1)] := hl
  have hx := C.hx
  have hb := C.hb
  unfold wp_X1_number at h
  refine lv_aload_n hx hb dX1_number_0 rfl (lv_at hl 0 rfl) ?_
  refine gE1_rows C hp dX1_number_1 ?_
  refine lv_aload_n hx hb dX1_number_4 rfl (lv_at hl 0 rfl) ?_
  refine gE1_count C hp dX1_number_5 ?_
  refine lv_iconst (v := 1) hx hb dX1_number_8 (by decide) ?_
  refine lv_isub hx hb dX1_number_9 ?_
  refine lv_iload_n hx hb dX1_number_10 rfl (lv_at hl 1 rfl) ?_
  refine lv_isub hx hb dX1_number_11 ?_
  refine lv_sipush (v := 200) hx hb dX1_number_12 (by decide) ?_
  refine r_callS (rest := [.ref (ad 11)]) (c_J9_floorMod_7cf53 C.hZ h) C hp mf_J9_floorMod_7cf53 km_X1_19 hl.1 dX1_number_15 ⟨lb rfl, lb rfl, lb rfl, lb rfl⟩ rfl rfl (lb rfl) (fun v w1 H locs hv hp => ?_)
  obtain ⟨r1, rfl, rfl, h⟩ := hv
  refine W.eq (g2 := F0 m 18 ls [.int r1, .ref (ad 11)]) rfl ?_
  refine lv_iconst (v := 4) hx hb dX1_number_18 (by decide) ?_
  refine lv_imul hx hb dX1_number_19 ?_
  refine lv_iload_n hx hb dX1_number_20 rfl (lv_at hl 2 rfl) ?_
  refine lv_iadd hx hb dX1_number_21 ?_
  obtain ⟨g2, h⟩ := h
  refine aH_rows C hp dX1_number_22 g2 ?_
  exact r_iret C hp dX1_number_23 ⟨_, rfl, rfl, h⟩
theorem mf_X1_number : MFv yX1_number cX1_number 3 (some .int) 2 := ⟨kc_X1_number, kn_X1_number, kv_X1_number, ki_X1, by decide +kernel⟩

/-! X0_rear -/
def wp_X0_rear (y0 : Nat) (S : HS) (post : UInt64 → Prop) : Prop :=
  (y0 ∈ H_L S) ∧ (
    (vf_n64 (FP.dsub (H_pl S y0) (H_len S y0))) ∧ (
      ∀ x3 : UInt64, x3 = FP.dsub (H_pl S y0) (H_len S y0) →
        post x3
    )
  )
set_option maxHeartbeats 4000000 in
set_option maxRecDepth 100000 in
theorem c_X0_rear {l : Launch} {G : GT} {Z : State} {E0 : Nat} {ad : Nat → Nat} (hZ : ZOK G Z) {y0 : Nat} {S : HS} {post : UInt64 → Prop} (h : wp_X0_rear y0 S post) : CM l G Z yX0_rear cX0_rear 1 (some .double) (rmz 0 0) [.ref y0] (wH G E0 ad S) (SD (wH G E0 ad S) post) := by
  refine CM_ofW hZ (by decide +kernel) (lb rfl) (fun p e s m below meth c ls C hp hl hnm => ?_)
  have C : Cx G Z _ p s m _ meth c RX0 cX0_rear 1 (some .double) := C
  have hl : lv_has ls 1 [(0, .ref y0)] := hl
  have hx := C.hx
  have hb := C.hb
  unfold wp_X0_rear at h
  refine lv_aload_n hx hb dX0_rear_0 rfl (lv_at hl 0 rfl) ?_
  obtain ⟨g1, h⟩ := h
  refine gC0_place C hp dX0_rear_1 g1 ?_
  refine lv_aload_n hx hb dX0_rear_4 rfl (lv_at hl 0 rfl) ?_
  refine gC0_length C hp dX0_rear_5 g1 ?_
  obtain ⟨g2, h⟩ := h
  refine lv_dsub hx hb dX0_rear_8 g2 ?_
  refine lv_topd (fun x3 ex3 => ?_)
  have h := h x3 ex3
  exact r_dret C hp dX0_rear_9 ⟨_, rfl, rfl, h⟩
theorem mf_X0_rear : MFv yX0_rear cX0_rear 1 (some .double) 0 := ⟨kc_X0_rear, kn_X0_rear, kv_X0_rear, ki_X0, by decide +kernel⟩

/-! X0_isBoundFor -/
def wp_X0_isBoundFor (y0 : Nat) (S : HS) (a0 : Int32) (post : Int32 → Prop) : Prop :=
  (y0 ∈ H_L S) ∧ (
    wp_X2_leadsTo (H_nd S y0) a0 (fun r2 =>
      ((r2 = 0 →
        post (0 : Int32)
      ) ∧
      (¬ r2 = 0 →
        wp_X2_leadsTo a0 (H_wish S y0) (fun r4 =>
          ((r4 = 0 →
            post (0 : Int32)
          ) ∧
          (¬ r4 = 0 →
            post (1 : Int32)
          ))
        )
      ))
    )
  )
set_option maxHeartbeats 4000000 in
set_option maxRecDepth 100000 in
theorem c_X0_isBoundFor {l : Launch} {G : GT} {Z : State} {E0 : Nat} {ad : Nat → Nat} (hZ : ZOK G Z) {y0 : Nat} {S : HS} {a0 : Int32} {post : Int32 → Prop} (h : wp_X0_isBoundFor y0 S a0 post) : CM l G Z yX0_isBoundFor cX0_isBoundFor 2 (some .boolean) (rmz 1 23) [.ref y0, .int a0] (wH G E0 ad S) (SI (wH G E0 ad S) post) := by
  refine CM_ofW hZ (by decide +kernel) (lb rfl) (fun p e s m below meth c ls C hp hl hnm => ?_)
  have C : Cx G Z _ p s m _ meth c RX0 cX0_isBoundFor 2 (some .boolean) := C
  have hl : lv_has ls 2 [(0, .ref y0), (1, .int a0)] := hl
  have hx := C.hx
  have hb := C.hb
  unfold wp_X0_isBoundFor at h
  refine lv_aload_n hx hb dX0_isBoundFor_0 rfl (lv_at hl 0 rfl) ?_
  obtain ⟨g1, h⟩ := h
  refine gC0_node C hp dX0_isBoundFor_1 g1 ?_
  refine lv_iload_n hx hb dX0_isBoundFor_4 rfl (lv_at hl 1 rfl) ?_
  refine r_callSN (rest := []) (c_X2_leadsTo C.hZ h) C hp mf_X2_leadsTo C.hZ.2.2.1 hl.1 dX0_isBoundFor_5 ⟨lb rfl, lb rfl, lb rfl, lb rfl⟩ rfl rfl (lb rfl) (fun v w1 H locs hv hp => ?_)
  obtain ⟨r2, rfl, rfl, h⟩ := hv
  refine W.eq (g2 := F0 m 8 ls [.int r2]) rfl ?_
  refine lv_if_eq (tgt := 26) hx hb dX0_isBoundFor_8 (by decide) (fun q3 => ?_) (fun q3 => ?_)
  · have h := h.1 q3
    refine lv_iconst (v := 0) hx hb dX0_isBoundFor_26 (by decide) ?_
    exact r_zret C hp dX0_isBoundFor_27 rfl ⟨_, rfl, rfl, h⟩
  · have h := h.2 q3
    refine lv_iload_n hx hb dX0_isBoundFor_11 rfl (lv_at hl 1 rfl) ?_
    refine lv_aload_n hx hb dX0_isBoundFor_12 rfl (lv_at hl 0 rfl) ?_
    refine gC0_wishedNode C hp dX0_isBoundFor_13 g1 ?_
    refine r_callSN (rest := []) (c_X2_leadsTo C.hZ h) C hp mf_X2_leadsTo C.hZ.2.2.1 hl.1 dX0_isBoundFor_16 ⟨lb rfl, lb rfl, lb rfl, lb rfl⟩ rfl rfl (lb rfl) (fun v w1 H locs hv hp => ?_)
    obtain ⟨r4, rfl, rfl, h⟩ := hv
    refine W.eq (g2 := F0 m 19 ls [.int r4]) rfl ?_
    refine lv_if_eq (tgt := 26) hx hb dX0_isBoundFor_19 (by decide) (fun q5 => ?_) (fun q5 => ?_)
    · have h := h.1 q5
      refine lv_iconst (v := 0) hx hb dX0_isBoundFor_26 (by decide) ?_
      exact r_zret C hp dX0_isBoundFor_27 rfl ⟨_, rfl, rfl, h⟩
    · have h := h.2 q5
      refine lv_iconst (v := 1) hx hb dX0_isBoundFor_22 (by decide) ?_
      refine lv_goto (tgt := 27) hx hb dX0_isBoundFor_23 (by decide) ?_
      exact r_zret C hp dX0_isBoundFor_27 rfl ⟨_, rfl, rfl, h⟩
theorem mf_X0_isBoundFor : MFv yX0_isBoundFor cX0_isBoundFor 2 (some .boolean) 1 := ⟨kc_X0_isBoundFor, kn_X0_isBoundFor, kv_X0_isBoundFor, ki_X0, by decide +kernel⟩

/-! X0_wishedSide -/
def wp_X0_wishedSide (y0 : Nat) (S : HS) (a0 : Int32) (post : Int32 → Prop) : Prop :=
  wp_X2_nodeBehind a0 (1 : Int32) (fun r1 =>
    (y0 ∈ H_L S) ∧ (
      wp_X2_leadsTo r1 (H_wish S y0) (fun r3 =>
        ((r3 = 0 →
          post (0 : Int32)
        ) ∧
        (¬ r3 = 0 →
          post (1 : Int32)
        ))
      )
    )
  )
set_option maxHeartbeats 4000000 in
set_option maxRecDepth 100000 in
theorem c_X0_wishedSide {l : Launch} {G : GT} {Z : State} {E0 : Nat} {ad : Nat → Nat} (hZ : ZOK G Z) {y0 : Nat} {S : HS} {a0 : Int32} {post : Int32 → Prop} (h : wp_X0_wishedSide y0 S a0 post) : CM l G Z yX0_wishedSide cX0_wishedSide 2 (some .int) (rmz 1 23) [.ref y0, .int a0] (wH G E0 ad S) (SI (wH G E0 ad S) post) := by
  refine CM_ofW hZ (by decide +kernel) (lb rfl) (fun p e s m below meth c ls C hp hl hnm => ?_)
  have C : Cx G Z _ p s m _ meth c RX0 cX0_wishedSide 2 (some .int) := C
  have hl : lv_has ls 2 [(0, .ref y0), (1, .int a0)] := hl
  have hx := C.hx
  have hb := C.hb
  unfold wp_X0_wishedSide at h
  refine lv_iload_n hx hb dX0_wishedSide_0 rfl (lv_at hl 1 rfl) ?_
  refine lv_iconst (v := 1) hx hb dX0_wishedSide_1 (by decide) ?_
  refine r_callSN (rest := []) (c_X2_nodeBehind C.hZ h) C hp mf_X2_nodeBehind C.hZ.2.2.2.1 hl.1 dX0_wishedSide_2 ⟨lb rfl, lb rfl, lb rfl, lb rfl⟩ rfl rfl (lb rfl) (fun v w1 H locs hv hp => ?_)
  obtain ⟨r1, rfl, rfl, h⟩ := hv
  refine W.eq (g2 := F0 m 5 ls [.int r1]) rfl ?_
  refine lv_aload_n hx hb dX0_wishedSide_5 rfl (lv_at hl 0 rfl) ?_
  obtain ⟨g2, h⟩ := h
  refine gC0_wishedNode C hp dX0_wishedSide_6 g2 ?_
  refine r_callSN (rest := []) (c_X2_leadsTo C.hZ h) C hp mf_X2_leadsTo C.hZ.2.2.1 hl.1 dX0_wishedSide_9 ⟨lb rfl, lb rfl, lb rfl, lb rfl⟩ rfl rfl (lb rfl) (fun v w1 H locs hv hp => ?_)
  obtain ⟨r3, rfl, rfl, h⟩ := hv
  refine W.eq (g2 := F0 m 12 ls [.int r3]) rfl ?_
  refine lv_if_eq (tgt := 19) hx hb dX0_wishedSide_12 (by decide) (fun q4 => ?_) (fun q4 => ?_)
  · have h := h.1 q4
    refine lv_iconst (v := 0) hx hb dX0_wishedSide_19 (by decide) ?_
    exact r_iret C hp dX0_wishedSide_20 ⟨_, rfl, rfl, h⟩
  · have h := h.2 q4
    refine lv_iconst (v := 1) hx hb dX0_wishedSide_15 (by decide) ?_
    refine lv_goto (tgt := 20) hx hb dX0_wishedSide_16 (by decide) ?_
    exact r_iret C hp dX0_wishedSide_20 ⟨_, rfl, rfl, h⟩
theorem mf_X0_wishedSide : MFv yX0_wishedSide cX0_wishedSide 2 (some .int) 1 := ⟨kc_X0_wishedSide, kn_X0_wishedSide, kv_X0_wishedSide, ki_X0, by decide +kernel⟩

/-! X2_goOnTurning -/
def wb_X2_goOnTurning_2  (post : HS → Prop) (rec : Int32 → HS → Prop) (x1 : Int32) (S : HS) : Prop :=
  (((7 : Int32) ≤ x1 →
    post S
  ) ∧
  (¬ (7 : Int32) ≤ x1 →
    (vp_in x1 7) ∧ (
      (((H_turning S x1.toNatClampNeg) ≤ 0 →
        rec (x1 + (1)) S
      ) ∧
      (¬ (H_turning S x1.toNatClampNeg) ≤ 0 →
        ((¬ (H_stuck S x1.toNatClampNeg) = 0 →
          rec (x1 + (1)) S
        ) ∧
        ((H_stuck S x1.toNatClampNeg) = 0 →
          ∀ x5 : Int32, x5 = (H_turning S x1.toNatClampNeg) - (1 : Int32) →
            ∀ S6 : HS, S6 = Hs_turning S (upd (H_turning S) x1.toNatClampNeg x5) →
              ((¬ (H_turning S6 x1.toNatClampNeg) = 0 →
                rec (x1 + (1)) S6
              ) ∧
              ((H_turning S6 x1.toNatClampNeg) = 0 →
                ∀ x8 : Int32, x8 = (1 : Int32) - (H_sides S6 x1.toNatClampNeg) →
                  ∀ S9 : HS, S9 = Hs_sides S6 (upd (H_sides S6) x1.toNatClampNeg x8) →
                    rec (x1 + (1)) S9
              ))
        ))
      ))
    )
  ))
def wl_X2_goOnTurning_2  (post : HS → Prop) : Nat → Int32 → HS → Prop
  | 0 => fun _ _ => False
  | n + 1 => wb_X2_goOnTurning_2  post (wl_X2_goOnTurning_2  post n)
def wp_X2_goOnTurning  (S : HS) (post : HS → Prop) : Prop :=
  ∃ n, wl_X2_goOnTurning_2  post n (0 : Int32) S
set_option maxHeartbeats 4000000 in
set_option maxRecDepth 100000 in
theorem lp_X2_goOnTurning_2 {l : Launch} {G : GT} {Z : State} {ws0 : va_W} {E0 : Nat} {ad : Nat → Nat} {p : Program} {e : Env} {s : State} {m : MethodId} {args : Array Value} {below : List Frame} {meth : Method} {c : Code} (C : Cx G Z ws0 p s m args meth c RX2 cX2_goOnTurning 2 none) {post : HS → Prop} : ∀ (n : Nat) (x1 : Int32) (S : HS) (H : Heap) (locs : List Loc) (ls : Array Slot), wl_X2_goOnTurning_2  post n x1 S → Hp G ws0 s H locs (wH G E0 ad S) → lv_has ls 2 [(0, .ref (ad 0)), (1, .int x1)] → W p l e (rmz 0 0) s m args below meth c H locs 0 0 (QQ G Z ws0 below s args (PV (wH G E0 ad) post) (rmz 0 0)) (F0 m 2 ls []) := by
  have hx := C.hx
  have hb := C.hb
  have hZ := C.hZ
  intro n
  induction n with
  | zero =>
    intro x1 S H locs ls h
    exact False.elim h
  | succ n ih =>
    intro x1 S H locs ls h hp hl
    have h : wb_X2_goOnTurning_2  post (wl_X2_goOnTurning_2  post n) x1 S := h
    unfold wb_X2_goOnTurning_2 at h
    generalize hrec : wl_X2_goOnTurning_2  post n = rec at h ih
    refine lv_iload_n hx hb dX2_goOnTurning_2 rfl (lv_at hl 1 rfl) ?_
    refine lv_bipush (v := 7) hx hb dX2_goOnTurning_3 (by decide) ?_
    refine lv_icmp_ge (tgt := 65) hx hb dX2_goOnTurning_5 (by decide) (fun q1 => ?_) (fun q1 => ?_)
    · have h := h.1 q1
      exact r_vret C hp dX2_goOnTurning_65 ⟨_, rfl, rfl, h⟩
    · have h := h.2 q1
      refine lv_aload_n hx hb dX2_goOnTurning_8 rfl (lv_at hl 0 rfl) ?_
      refine gH_turning C hp dX2_goOnTurning_9 ?_
      refine lv_iload_n hx hb dX2_goOnTurning_12 rfl (lv_at hl 1 rfl) ?_
      obtain ⟨g2, h⟩ := h
      refine aH_turning C hp dX2_goOnTurning_13 g2 ?_
      refine lv_if_le (tgt := 59) hx hb dX2_goOnTurning_14 (by decide) (fun q3 => ?_) (fun q3 => ?_)
      · have h := h.1 q3
        refine lv_iinc (v := x1 + (1)) (lv' := [(1, .int (x1 + (1))), (0, .ref (ad 0))]) hx hb dX2_goOnTurning_59 hl (k := 1) rfl rfl (by decide) rfl (fun ls hl => ?_)
        refine lv_goto (tgt := 2) hx hb dX2_goOnTurning_62 (by decide) ?_
        exact ih _ _ _ _ _ h hp (lv_sub hl [1, 0] rfl)
      · have h := h.2 q3
        refine lv_aload_n hx hb dX2_goOnTurning_17 rfl (lv_at hl 0 rfl) ?_
        refine gH_stuckPoints C hp dX2_goOnTurning_18 ?_
        refine lv_iload_n hx hb dX2_goOnTurning_21 rfl (lv_at hl 1 rfl) ?_
        refine aH_stuck C hp dX2_goOnTurning_22 g2 ?_
        refine lv_if_ne (tgt := 59) hx hb dX2_goOnTurning_23 (by decide) (fun q4 => ?_) (fun q4 => ?_)
        · have h := h.1 q4
          refine lv_iinc (v := x1 + (1)) (lv' := [(1, .int (x1 + (1))), (0, .ref (ad 0))]) hx hb dX2_goOnTurning_59 hl (k := 1) rfl rfl (by decide) rfl (fun ls hl => ?_)
          refine lv_goto (tgt := 2) hx hb dX2_goOnTurning_62 (by decide) ?_
          exact ih _ _ _ _ _ h hp (lv_sub hl [1, 0] rfl)
        · have h := h.2 q4
          refine lv_aload_n hx hb dX2_goOnTurning_26 rfl (lv_at hl 0 rfl) ?_
          refine gH_turning C hp dX2_goOnTurning_27 ?_
          refine lv_iload_n hx hb dX2_goOnTurning_30 rfl (lv_at hl 1 rfl) ?_
          refine lv_dup2_11 hx hb dX2_goOnTurning_31 rfl rfl ?_
          refine aH_turning C hp dX2_goOnTurning_32 g2 ?_
          refine lv_iconst (v := 1) hx hb dX2_goOnTurning_33 (by decide) ?_
          refine lv_isub hx hb dX2_goOnTurning_34 ?_
          refine lv_topi (fun x5 ex5 => ?_)
          have h := h x5 ex5
          refine uH_turning C hp dX2_goOnTurning_35 g2 (fun H locs hp => ?_)
          obtain ⟨S6, eS6⟩ : ∃ z : HS, z = Hs_turning S (upd (H_turning S) x1.toNatClampNeg x5) := ⟨_, rfl⟩
          rw [← eS6] at hp
          have h := h S6 eS6
          refine lv_aload_n hx hb dX2_goOnTurning_36 rfl (lv_at hl 0 rfl) ?_
          refine gH_turning C hp dX2_goOnTurning_37 ?_
          refine lv_iload_n hx hb dX2_goOnTurning_40 rfl (lv_at hl 1 rfl) ?_
          refine aH_turning C hp dX2_goOnTurning_41 g2 ?_
          refine lv_if_ne (tgt := 59) hx hb dX2_goOnTurning_42 (by decide) (fun q7 => ?_) (fun q7 => ?_)
          · have h := h.1 q7
            refine lv_iinc (v := x1 + (1)) (lv' := [(1, .int (x1 + (1))), (0, .ref (ad 0))]) hx hb dX2_goOnTurning_59 hl (k := 1) rfl rfl (by decide) rfl (fun ls hl => ?_)
            refine lv_goto (tgt := 2) hx hb dX2_goOnTurning_62 (by decide) ?_
            exact ih _ _ _ _ _ h hp (lv_sub hl [1, 0] rfl)
          · have h := h.2 q7
            refine lv_aload_n hx hb dX2_goOnTurning_45 rfl (lv_at hl 0 rfl) ?_
            refine gH_sides C hp dX2_goOnTurning_46 ?_
            refine lv_iload_n hx hb dX2_goOnTurning_49 rfl (lv_at hl 1 rfl) ?_
            refine lv_iconst (v := 1) hx hb dX2_goOnTurning_50 (by decide) ?_
            refine lv_aload_n hx hb dX2_goOnTurning_51 rfl (lv_at hl 0 rfl) ?_
            refine gH_sides C hp dX2_goOnTurning_52 ?_
            refine lv_iload_n hx hb dX2_goOnTurning_55 rfl (lv_at hl 1 rfl) ?_
            refine aH_sides C hp dX2_goOnTurning_56 g2 ?_
            refine lv_isub hx hb dX2_goOnTurning_57 ?_
            refine lv_topi (fun x8 ex8 => ?_)
            have h := h x8 ex8
            refine uH_sides C hp dX2_goOnTurning_58 g2 (fun H locs hp => ?_)
            obtain ⟨S9, eS9⟩ : ∃ z : HS, z = Hs_sides S6 (upd (H_sides S6) x1.toNatClampNeg x8) := ⟨_, rfl⟩
            rw [← eS9] at hp
            have h := h S9 eS9
            refine lv_iinc (v := x1 + (1)) (lv' := [(1, .int (x1 + (1))), (0, .ref (ad 0))]) hx hb dX2_goOnTurning_59 hl (k := 1) rfl rfl (by decide) rfl (fun ls hl => ?_)
            refine lv_goto (tgt := 2) hx hb dX2_goOnTurning_62 (by decide) ?_
            exact ih _ _ _ _ _ h hp (lv_sub hl [1, 0] rfl)
set_option maxHeartbeats 4000000 in
set_option maxRecDepth 100000 in
theorem c_X2_goOnTurning {l : Launch} {G : GT} {Z : State} {E0 : Nat} {ad : Nat → Nat} (hZ : ZOK G Z) {S : HS} {post : HS → Prop} (h : wp_X2_goOnTurning  S post) : CM l G Z yX2_goOnTurning cX2_goOnTurning 2 none (rmz 0 0) [.ref (ad 0)] (wH G E0 ad S) (PV (wH G E0 ad) post) := by
  refine CM_ofW hZ (by decide +kernel) (lb rfl) (fun p e s m below meth c ls C hp hl hnm => ?_)
  have C : Cx G Z _ p s m _ meth c RX2 cX2_goOnTurning 2 none := C
  have hl : lv_has ls 2 [(0, .ref (ad 0))] := hl
  have hx := C.hx
  have hb := C.hb
  unfold wp_X2_goOnTurning at h
  refine lv_iconst (v := 0) hx hb dX2_goOnTurning_0 (by decide) ?_
  refine lv_istore_n (lv' := [(1, .int (0 : Int32)), (0, .ref (ad 0))]) hx hb dX2_goOnTurning_1 rfl hl (by decide) rfl (fun ls hl => ?_)
  obtain ⟨n, h⟩ := h
  exact lp_X2_goOnTurning_2 C n _ _ _ _ _ h hp (lv_sub hl [1, 0] rfl)
theorem mf_X2_goOnTurning : MFv yX2_goOnTurning cX2_goOnTurning 2 none 0 := ⟨kc_X2_goOnTurning, kn_X2_goOnTurning, kv_X2_goOnTurning, ki_X2, by decide +kernel⟩

/-! X2_isBusy -/
def wb_X2_isBusy_7 (S : HS) (a0 : Int32) (post : Int32 → Prop) (rec : Int32 → Int32 → Prop) (x2 : Int32) (x3 : Int32) : Prop :=
  (((H_rs S) ≤ x3 →
    post (0 : Int32)
  ) ∧
  (¬ (H_rs S) ≤ x3 →
    ∃ y2 : Nat, lget (H_ra S) (H_rs S) x3 y2 ∧ (
      (y2 ∈ H_L S) ∧ (
        ((¬ (dG (H_pl S y2) (FP.i2d (x2 - (15 : Int32))) ∨ dE (H_pl S y2) (FP.i2d (x2 - (15 : Int32)))) →
          rec x2 (x3 + (1))
        ) ∧
        ((dG (H_pl S y2) (FP.i2d (x2 - (15 : Int32))) ∨ dE (H_pl S y2) (FP.i2d (x2 - (15 : Int32)))) →
          wp_X0_rear y2 S (fun r7 =>
            (vf_n64 (FP.dadd (FP.i2d x2) (4612811918334230528 : UInt64))) ∧ (
              ∀ x9 : UInt64, x9 = FP.dadd (FP.i2d x2) (4612811918334230528 : UInt64) →
                ((¬ (dL r7 x9 ∨ dE r7 x9) →
                  rec x2 (x3 + (1))
                ) ∧
                ((dL r7 x9 ∨ dE r7 x9) →
                  wp_X2_isOneWay (H_nd S y2) a0 (fun r11 =>
                    ((r11 = 0 →
                      rec x2 (x3 + (1))
                    ) ∧
                    (¬ r11 = 0 →
                      post (1 : Int32)
                    ))
                  )
                ))
            )
          )
        ))
      )
    )
  ))
def wl_X2_isBusy_7 (S : HS) (a0 : Int32) (post : Int32 → Prop) : Nat → Int32 → Int32 → Prop
  | 0 => fun _ _ => False
  | n + 1 => wb_X2_isBusy_7 S a0 post (wl_X2_isBusy_7 S a0 post n)
def wp_X2_isBusy (S : HS) (a0 : Int32) (post : Int32 → Prop) : Prop :=
  wp_X2_pointPlace a0 (fun r13 =>
    ∃ n, wl_X2_isBusy_7 S a0 post n r13 (0 : Int32)
  )
set_option maxHeartbeats 4000000 in
set_option maxRecDepth 100000 in
theorem lp_X2_isBusy_7 {l : Launch} {G : GT} {Z : State} {ws0 : va_W} {E0 : Nat} {ad : Nat → Nat} {p : Program} {e : Env} {s : State} {m : MethodId} {args : Array Value} {below : List Frame} {meth : Method} {c : Code} {S : HS} {a0 : Int32} (C : Cx G Z ws0 p s m args meth c RX2 cX2_isBusy 5 (some .boolean)) {post : Int32 → Prop} : ∀ (n : Nat) (x2 : Int32) (x3 : Int32) (H : Heap) (locs : List Loc) (ls : Array Slot), wl_X2_isBusy_7 S a0 post n x2 x3 → Hp G ws0 s H locs (wH G E0 ad S) → lv_has ls 5 [(0, .ref (ad 0)), (1, .int a0), (2, .int x2), (3, .int x3)] → W p l e (rmz 3 64) s m args below meth c H locs 0 0 (QQ G Z ws0 below s args (SI (wH G E0 ad S) post) (rmz 3 64)) (F0 m 7 ls []) := by
  have hx := C.hx
  have hb := C.hb
  have hZ := C.hZ
  intro n
  induction n with
  | zero =>
    intro x2 x3 H locs ls h
    exact False.elim h
  | succ n ih =>
    intro x2 x3 H locs ls h hp hl
    have h : wb_X2_isBusy_7 S a0 post (wl_X2_isBusy_7 S a0 post n) x2 x3 := h
    unfold wb_X2_isBusy_7 at h
    generalize hrec : wl_X2_isBusy_7 S a0 post n = rec at h ih
    refine lv_iload_n hx hb dX2_isBusy_7 rfl (lv_at hl 3 rfl) ?_
    refine lv_aload_n hx hb dX2_isBusy_8 rfl (lv_at hl 0 rfl) ?_
    refine gH_rolling C hp dX2_isBusy_9 ?_
    refine r_callV (q0 := 4) (ci := 4) (rest := [.int x3]) (c_al_size (k := 4) C.hZ rfl) C hp mf_Jx4a65c_size_8abf5 km_X2_101 hl.1 dX2_isBusy_12 rfl rfl ⟨lb rfl, lb rfl, lb rfl, lb rfl⟩ rfl rfl (lb rfl) (fun v w1 H locs hv hp => ?_)
    obtain ⟨rfl, rfl⟩ := hv
    refine W.eq (g2 := F0 m 15 ls [.int (H_rs S), .int x3]) rfl ?_
    refine lv_icmp_ge (tgt := 80) hx hb dX2_isBusy_15 (by decide) (fun q1 => ?_) (fun q1 => ?_)
    · have h := h.1 q1
      refine lv_iconst (v := 0) hx hb dX2_isBusy_80 (by decide) ?_
      exact r_zret C hp dX2_isBusy_81 rfl ⟨_, rfl, rfl, h⟩
    · have h := h.2 q1
      refine lv_aload_n hx hb dX2_isBusy_18 rfl (lv_at hl 0 rfl) ?_
      refine gH_rolling C hp dX2_isBusy_19 ?_
      refine lv_iload_n hx hb dX2_isBusy_22 rfl (lv_at hl 3 rfl) ?_
      obtain ⟨y2, g3, h⟩ := h
      refine r_callV (q0 := 4) (ci := 4) (rest := []) (c_getR (ad := ad) (S := S) C.hZ g3) C hp mf_Jx4a65c_get_915e3 km_X2_208 hl.1 dX2_isBusy_23 rfl rfl ⟨lb rfl, lb rfl, lb rfl, lb rfl⟩ rfl rfl (lb rfl) (fun v w1 H locs hv hp => ?_)
      obtain ⟨rfl, rfl⟩ := hv
      refine W.eq (g2 := F0 m 26 ls [.ref y2]) rfl ?_
      obtain ⟨g4, h⟩ := h
      refine cast_cut (index := 0) C hp dX2_isBusy_26 g4 ?_
      refine lv_astore (lv' := [(4, .ref y2), (0, .ref (ad 0)), (1, .int a0), (2, .int x2), (3, .int x3)]) hx hb dX2_isBusy_29 hl (by decide) rfl (fun ls hl => ?_)
      refine lv_aload hx hb dX2_isBusy_31 (lv_at hl 0 rfl) ?_
      refine gC2_place C hp dX2_isBusy_33 g4 ?_
      refine lv_iload_n hx hb dX2_isBusy_36 rfl (lv_at hl 3 rfl) ?_
      refine lv_bipush (v := 15) hx hb dX2_isBusy_37 (by decide) ?_
      refine lv_isub hx hb dX2_isBusy_39 ?_
      refine lv_i2d hx hb dX2_isBusy_40 ?_
      refine dcl_lt (tgt := 74) hx hb dX2_isBusy_41 dX2_isBusy_42 (by decide) (fun q5 => ?_) (fun q5 => ?_)
      · have h := h.1 q5
        refine lv_iinc (v := x3 + (1)) (lv' := [(3, .int (x3 + (1))), (4, .ref y2), (0, .ref (ad 0)), (1, .int a0), (2, .int x2)]) hx hb dX2_isBusy_74 hl (k := 4) rfl rfl (by decide) rfl (fun ls hl => ?_)
        refine lv_goto (tgt := 7) hx hb dX2_isBusy_77 (by decide) ?_
        exact ih _ _ _ _ _ h hp (lv_sub hl [2, 3, 4, 0] rfl)
      · have h := h.2 q5
        refine lv_aload hx hb dX2_isBusy_45 (lv_at hl 0 rfl) ?_
        obtain ⟨k6, hk6⟩ := va_pl_get (X := hX G E0 ad S) (f := cutE S) g4
        refine r_callV (q0 := k6) (ci := 0) (rest := []) (c_X0_rear (E0 := E0) (ad := ad) C.hZ h) C hp mf_X0_rear km_X2_225 hl.1 dX2_isBusy_47 hk6 rfl ⟨lb rfl, lb rfl, lb rfl, lb rfl⟩ rfl rfl (lb rfl) (fun v w1 H locs hv hp => ?_)
        obtain ⟨r7, rfl, rfl, h⟩ := hv
        refine W.eq (g2 := F0 m 50 ls [.double r7]) rfl ?_
        refine lv_iload_n hx hb dX2_isBusy_50 rfl (lv_at hl 3 rfl) ?_
        refine lv_i2d hx hb dX2_isBusy_51 ?_
        refine lv_ldc2d hx hb C.hown (C.hts _ kd_X2_229) dX2_isBusy_52 ?_
        obtain ⟨g8, h⟩ := h
        refine lv_dadd hx hb dX2_isBusy_55 g8 ?_
        refine lv_topd (fun x9 ex9 => ?_)
        have h := h x9 ex9
        refine dcg_gt (tgt := 74) hx hb dX2_isBusy_56 dX2_isBusy_57 (by decide) (fun q10 => ?_) (fun q10 => ?_)
        · have h := h.1 q10
          refine lv_iinc (v := x3 + (1)) (lv' := [(3, .int (x3 + (1))), (4, .ref y2), (0, .ref (ad 0)), (1, .int a0), (2, .int x2)]) hx hb dX2_isBusy_74 hl (k := 4) rfl rfl (by decide) rfl (fun ls hl => ?_)
          refine lv_goto (tgt := 7) hx hb dX2_isBusy_77 (by decide) ?_
          exact ih _ _ _ _ _ h hp (lv_sub hl [2, 3, 4, 0] rfl)
        · have h := h.2 q10
          refine lv_aload hx hb dX2_isBusy_60 (lv_at hl 0 rfl) ?_
          refine gC2_node C hp dX2_isBusy_62 g4 ?_
          refine lv_iload_n hx hb dX2_isBusy_65 rfl (lv_at hl 2 rfl) ?_
          refine r_callS (rest := []) (c_X2_isOneWay C.hZ h) C hp mf_X2_isOneWay km_X2_231 hl.1 dX2_isBusy_66 ⟨lb rfl, lb rfl, lb rfl, lb rfl⟩ rfl rfl (lb rfl) (fun v w1 H locs hv hp => ?_)
          obtain ⟨r11, rfl, rfl, h⟩ := hv
          refine W.eq (g2 := F0 m 69 ls [.int r11]) rfl ?_
          refine lv_if_eq (tgt := 74) hx hb dX2_isBusy_69 (by decide) (fun q12 => ?_) (fun q12 => ?_)
          · have h := h.1 q12
            refine lv_iinc (v := x3 + (1)) (lv' := [(3, .int (x3 + (1))), (4, .ref y2), (0, .ref (ad 0)), (1, .int a0), (2, .int x2)]) hx hb dX2_isBusy_74 hl (k := 4) rfl rfl (by decide) rfl (fun ls hl => ?_)
            refine lv_goto (tgt := 7) hx hb dX2_isBusy_77 (by decide) ?_
            exact ih _ _ _ _ _ h hp (lv_sub hl [2, 3, 4, 0] rfl)
          · have h := h.2 q12
            refine lv_iconst (v := 1) hx hb dX2_isBusy_72 (by decide) ?_
            exact r_zret C hp dX2_isBusy_73 rfl ⟨_, rfl, rfl, h⟩
set_option maxHeartbeats 4000000 in
set_option maxRecDepth 100000 in
theorem c_X2_isBusy {l : Launch} {G : GT} {Z : State} {E0 : Nat} {ad : Nat → Nat} (hZ : ZOK G Z) {S : HS} {a0 : Int32} {post : Int32 → Prop} (h : wp_X2_isBusy S a0 post) : CM l G Z yX2_isBusy cX2_isBusy 5 (some .boolean) (rmz 3 64) [.ref (ad 0), .int a0] (wH G E0 ad S) (SI (wH G E0 ad S) post) := by
  refine CM_ofW hZ (by decide +kernel) (lb rfl) (fun p e s m below meth c ls C hp hl hnm => ?_)
  have C : Cx G Z _ p s m _ meth c RX2 cX2_isBusy 5 (some .boolean) := C
  have hl : lv_has ls 5 [(0, .ref (ad 0)), (1, .int a0)] := hl
  have hx := C.hx
  have hb := C.hb
  unfold wp_X2_isBusy at h
  refine lv_iload_n hx hb dX2_isBusy_0 rfl (lv_at hl 1 rfl) ?_
  refine r_callS (rest := []) (c_X2_pointPlace C.hZ h) C hp mf_X2_pointPlace km_X2_222 hl.1 dX2_isBusy_1 ⟨lb rfl, lb rfl, lb rfl, lb rfl⟩ rfl rfl (lb rfl) (fun v w1 H locs hv hp => ?_)
  obtain ⟨r13, rfl, rfl, h⟩ := hv
  refine W.eq (g2 := F0 m 4 ls [.int r13]) rfl ?_
  refine lv_istore_n (lv' := [(2, .int r13), (0, .ref (ad 0)), (1, .int a0)]) hx hb dX2_isBusy_4 rfl hl (by decide) rfl (fun ls hl => ?_)
  refine lv_iconst (v := 0) hx hb dX2_isBusy_5 (by decide) ?_
  refine lv_istore_n (lv' := [(3, .int (0 : Int32)), (2, .int r13), (0, .ref (ad 0)), (1, .int a0)]) hx hb dX2_isBusy_6 rfl hl (by decide) rfl (fun ls hl => ?_)
  obtain ⟨n, h⟩ := h
  exact lp_X2_isBusy_7 C n _ _ _ _ _ h hp (lv_sub hl [2, 3, 1, 0] rfl)
theorem mf_X2_isBusy : MFv yX2_isBusy cX2_isBusy 5 (some .boolean) 1 := ⟨kc_X2_isBusy, kn_X2_isBusy, kv_X2_isBusy, ki_X2, by decide +kernel⟩

/-! X2_firstBoundFor -/
def wb_X2_firstBoundFor_4 (S : HS) (a0 : Int32) (post : Option Nat → Prop) (rec : Option Nat → Int32 → Prop) (x2 : Option Nat) (x3 : Int32) : Prop :=
  (((H_rs S) ≤ x3 →
    post x2
  ) ∧
  (¬ (H_rs S) ≤ x3 →
    ∃ y2 : Nat, lget (H_ra S) (H_rs S) x3 y2 ∧ (
      (y2 ∈ H_L S) ∧ (
        wp_X0_isBoundFor y2 S a0 (fun r6 =>
          ((r6 = 0 →
            rec x2 (x3 + (1))
          ) ∧
          (¬ r6 = 0 →
            ((x2 = none →
              rec (some y2) (x3 + (1))
            ) ∧
            (∀ u8 : Nat, x2 = some u8 →
              (u8 ∈ H_L S) ∧ (
                ((¬ dG (H_pl S y2) (H_pl S u8) →
                  rec (some u8) (x3 + (1))
                ) ∧
                (dG (H_pl S y2) (H_pl S u8) →
                  rec (some y2) (x3 + (1))
                ))
              )
            ))
          ))
        )
      )
    )
  ))
def wl_X2_firstBoundFor_4 (S : HS) (a0 : Int32) (post : Option Nat → Prop) : Nat → Option Nat → Int32 → Prop
  | 0 => fun _ _ => False
  | n + 1 => wb_X2_firstBoundFor_4 S a0 post (wl_X2_firstBoundFor_4 S a0 post n)
def wp_X2_firstBoundFor (S : HS) (a0 : Int32) (post : Option Nat → Prop) : Prop :=
  ∃ n, wl_X2_firstBoundFor_4 S a0 post n none (0 : Int32)
set_option maxHeartbeats 4000000 in
set_option maxRecDepth 100000 in
theorem lp_X2_firstBoundFor_4 {l : Launch} {G : GT} {Z : State} {ws0 : va_W} {E0 : Nat} {ad : Nat → Nat} {p : Program} {e : Env} {s : State} {m : MethodId} {args : Array Value} {below : List Frame} {meth : Method} {c : Code} {S : HS} {a0 : Int32} (C : Cx G Z ws0 p s m args meth c RX2 cX2_firstBoundFor 5 (some (.object "HumpYard$Cut"))) {post : Option Nat → Prop} : ∀ (n : Nat) (x2 : Option Nat) (x3 : Int32) (H : Heap) (locs : List Loc) (ls : Array Slot), wl_X2_firstBoundFor_4 S a0 post n x2 x3 → Hp G ws0 s H locs (wH G E0 ad S) → lv_has ls 5 [(0, .ref (ad 0)), (1, .int a0), (2, va_rf x2), (3, .int x3)] → W p l e (rmz 3 64) s m args below meth c H locs 0 0 (QQ G Z ws0 below s args (SR (wH G E0 ad S) post) (rmz 3 64)) (F0 m 4 ls []) := by
  have hx := C.hx
  have hb := C.hb
  have hZ := C.hZ
  intro n
  induction n with
  | zero =>
    intro x2 x3 H locs ls h
    exact False.elim h
  | succ n ih =>
    intro x2 x3 H locs ls h hp hl
    have h : wb_X2_firstBoundFor_4 S a0 post (wl_X2_firstBoundFor_4 S a0 post n) x2 x3 := h
    unfold wb_X2_firstBoundFor_4 at h
    generalize hrec : wl_X2_firstBoundFor_4 S a0 post n = rec at h ih
    refine lv_iload_n hx hb dX2_firstBoundFor_4 rfl (lv_at hl 3 rfl) ?_
    refine lv_aload_n hx hb dX2_firstBoundFor_5 rfl (lv_at hl 0 rfl) ?_
    refine gH_rolling C hp dX2_firstBoundFor_6 ?_
    refine r_callV (q0 := 4) (ci := 4) (rest := [.int x3]) (c_al_size (k := 4) C.hZ rfl) C hp mf_Jx4a65c_size_8abf5 km_X2_101 hl.1 dX2_firstBoundFor_9 rfl rfl ⟨lb rfl, lb rfl, lb rfl, lb rfl⟩ rfl rfl (lb rfl) (fun v w1 H locs hv hp => ?_)
    obtain ⟨rfl, rfl⟩ := hv
    refine W.eq (g2 := F0 m 12 ls [.int (H_rs S), .int x3]) rfl ?_
    refine lv_icmp_ge (tgt := 63) hx hb dX2_firstBoundFor_12 (by decide) (fun q1 => ?_) (fun q1 => ?_)
    · have h := h.1 q1
      refine rq_aload_n hx hb dX2_firstBoundFor_63 rfl (lv_at hl 2 rfl) ?_
      exact r_aret C hp (Or.inl ⟨_, rfl⟩) (rf_cases _) dX2_firstBoundFor_64 ⟨_, rfl, rfl, h⟩
    · have h := h.2 q1
      refine lv_aload_n hx hb dX2_firstBoundFor_15 rfl (lv_at hl 0 rfl) ?_
      refine gH_rolling C hp dX2_firstBoundFor_16 ?_
      refine lv_iload_n hx hb dX2_firstBoundFor_19 rfl (lv_at hl 3 rfl) ?_
      obtain ⟨y2, g3, h⟩ := h
      refine r_callV (q0 := 4) (ci := 4) (rest := []) (c_getR (ad := ad) (S := S) C.hZ g3) C hp mf_Jx4a65c_get_915e3 km_X2_208 hl.1 dX2_firstBoundFor_20 rfl rfl ⟨lb rfl, lb rfl, lb rfl, lb rfl⟩ rfl rfl (lb rfl) (fun v w1 H locs hv hp => ?_)
      obtain ⟨rfl, rfl⟩ := hv
      refine W.eq (g2 := F0 m 23 ls [.ref y2]) rfl ?_
      obtain ⟨g4, h⟩ := h
      refine cast_cut (index := 0) C hp dX2_firstBoundFor_23 g4 ?_
      refine lv_astore (lv' := [(4, .ref y2), (0, .ref (ad 0)), (1, .int a0), (2, va_rf x2), (3, .int x3)]) hx hb dX2_firstBoundFor_26 hl (by decide) rfl (fun ls hl => ?_)
      refine lv_aload hx hb dX2_firstBoundFor_28 (lv_at hl 0 rfl) ?_
      refine lv_iload_n hx hb dX2_firstBoundFor_30 rfl (lv_at hl 2 rfl) ?_
      obtain ⟨k5, hk5⟩ := va_pl_get (X := hX G E0 ad S) (f := cutE S) g4
      refine r_callV (q0 := k5) (ci := 0) (rest := []) (c_X0_isBoundFor (E0 := E0) (ad := ad) C.hZ h) C hp mf_X0_isBoundFor km_X2_234 hl.1 dX2_firstBoundFor_31 hk5 rfl ⟨lb rfl, lb rfl, lb rfl, lb rfl⟩ rfl rfl (lb rfl) (fun v w1 H locs hv hp => ?_)
      obtain ⟨r6, rfl, rfl, h⟩ := hv
      refine W.eq (g2 := F0 m 34 ls [.int r6]) rfl ?_
      refine lv_if_eq (tgt := 57) hx hb dX2_firstBoundFor_34 (by decide) (fun q7 => ?_) (fun q7 => ?_)
      · have h := h.1 q7
        refine lv_iinc (v := x3 + (1)) (lv' := [(3, .int (x3 + (1))), (4, .ref y2), (0, .ref (ad 0)), (1, .int a0), (2, va_rf x2)]) hx hb dX2_firstBoundFor_57 hl (k := 4) rfl rfl (by decide) (by cases x2 <;> rfl) (fun ls hl => ?_)
        refine lv_goto (tgt := 4) hx hb dX2_firstBoundFor_60 (by decide) ?_
        exact ih _ _ _ _ _ h hp (lv_sub hl [2, 3, 4, 0] rfl)
      · have h := h.2 q7
        refine rq_aload_n hx hb dX2_firstBoundFor_37 rfl (lv_at hl 3 rfl) ?_
        rcases x2 with _ | u8
        · have h := h.1 rfl
          refine lv_ifnullN (tgt := 54) hx hb dX2_firstBoundFor_38 (by decide) ?_
          refine lv_aload hx hb dX2_firstBoundFor_54 (lv_at hl 0 rfl) ?_
          refine lv_astore_n (lv' := [(2, .ref y2), (4, .ref y2), (0, .ref (ad 0)), (1, .int a0), (3, .int x3)]) hx hb dX2_firstBoundFor_56 rfl hl (by decide) rfl (fun ls hl => ?_)
          refine lv_iinc (v := x3 + (1)) (lv' := [(3, .int (x3 + (1))), (2, .ref y2), (4, .ref y2), (0, .ref (ad 0)), (1, .int a0)]) hx hb dX2_firstBoundFor_57 hl (k := 4) rfl rfl (by decide) rfl (fun ls hl => ?_)
          refine lv_goto (tgt := 4) hx hb dX2_firstBoundFor_60 (by decide) ?_
          exact ih _ _ _ _ _ h hp (lv_sub hl [3, 4, 1, 0] rfl)
        · have h := h.2 u8 rfl
          refine lv_ifnull hx hb dX2_firstBoundFor_38 ?_
          refine lv_aload hx hb dX2_firstBoundFor_41 (lv_at hl 0 rfl) ?_
          refine gC2_place C hp dX2_firstBoundFor_43 g4 ?_
          refine lv_aload_n hx hb dX2_firstBoundFor_46 rfl (lv_at hl 3 rfl) ?_
          obtain ⟨g9, h⟩ := h
          refine gC2_place C hp dX2_firstBoundFor_47 g9 ?_
          refine dcl_le (tgt := 57) hx hb dX2_firstBoundFor_50 dX2_firstBoundFor_51 (by decide) (fun q10 => ?_) (fun q10 => ?_)
          · have h := h.1 q10
            refine lv_iinc (v := x3 + (1)) (lv' := [(3, .int (x3 + (1))), (4, .ref y2), (0, .ref (ad 0)), (1, .int a0), (2, .ref u8)]) hx hb dX2_firstBoundFor_57 hl (k := 4) rfl rfl (by decide) rfl (fun ls hl => ?_)
            refine lv_goto (tgt := 4) hx hb dX2_firstBoundFor_60 (by decide) ?_
            exact ih _ _ _ _ _ h hp (lv_sub hl [2, 3, 4, 0] rfl)
          · have h := h.2 q10
            refine lv_aload hx hb dX2_firstBoundFor_54 (lv_at hl 0 rfl) ?_
            refine lv_astore_n (lv' := [(2, .ref y2), (4, .ref y2), (0, .ref (ad 0)), (1, .int a0), (3, .int x3)]) hx hb dX2_firstBoundFor_56 rfl hl (by decide) rfl (fun ls hl => ?_)
            refine lv_iinc (v := x3 + (1)) (lv' := [(3, .int (x3 + (1))), (2, .ref y2), (4, .ref y2), (0, .ref (ad 0)), (1, .int a0)]) hx hb dX2_firstBoundFor_57 hl (k := 4) rfl rfl (by decide) rfl (fun ls hl => ?_)
            refine lv_goto (tgt := 4) hx hb dX2_firstBoundFor_60 (by decide) ?_
            exact ih _ _ _ _ _ h hp (lv_sub hl [3, 4, 1, 0] rfl)
set_option maxHeartbeats 4000000 in
set_option maxRecDepth 100000 in
theorem c_X2_firstBoundFor {l : Launch} {G : GT} {Z : State} {E0 : Nat} {ad : Nat → Nat} (hZ : ZOK G Z) {S : HS} {a0 : Int32} {post : Option Nat → Prop} (h : wp_X2_firstBoundFor S a0 post) : CM l G Z yX2_firstBoundFor cX2_firstBoundFor 5 (some (.object "HumpYard$Cut")) (rmz 3 64) [.ref (ad 0), .int a0] (wH G E0 ad S) (SR (wH G E0 ad S) post) := by
  refine CM_ofW hZ (by decide +kernel) (lb rfl) (fun p e s m below meth c ls C hp hl hnm => ?_)
  have C : Cx G Z _ p s m _ meth c RX2 cX2_firstBoundFor 5 (some (.object "HumpYard$Cut")) := C
  have hl : lv_has ls 5 [(0, .ref (ad 0)), (1, .int a0)] := hl
  have hx := C.hx
  have hb := C.hb
  unfold wp_X2_firstBoundFor at h
  refine lv_null hx hb dX2_firstBoundFor_0 ?_
  refine lv_astore_nN (lv' := [(2, .null), (0, .ref (ad 0)), (1, .int a0)]) hx hb dX2_firstBoundFor_1 rfl hl (by decide) rfl (fun ls hl => ?_)
  refine lv_iconst (v := 0) hx hb dX2_firstBoundFor_2 (by decide) ?_
  refine lv_istore_n (lv' := [(3, .int (0 : Int32)), (2, .null), (0, .ref (ad 0)), (1, .int a0)]) hx hb dX2_firstBoundFor_3 rfl hl (by decide) rfl (fun ls hl => ?_)
  obtain ⟨n, h⟩ := h
  exact lp_X2_firstBoundFor_4 C n _ _ _ _ _ h hp (lv_sub hl [2, 3, 1, 0] rfl)
theorem mf_X2_firstBoundFor : MFv yX2_firstBoundFor cX2_firstBoundFor 5 (some (.object "HumpYard$Cut")) 1 := ⟨kc_X2_firstBoundFor, kn_X2_firstBoundFor, kv_X2_firstBoundFor, ki_X2, by decide +kernel⟩

/-! X2_beginTurning -/
def wb_X2_beginTurning_2  (post : HS → Prop) (rec : Int32 → HS → Prop) (x1 : Int32) (S : HS) : Prop :=
  (((7 : Int32) ≤ x1 →
    post S
  ) ∧
  (¬ (7 : Int32) ≤ x1 →
    (vp_in x1 7) ∧ (
      ((¬ (H_turning S x1.toNatClampNeg) = 0 →
        rec (x1 + (1)) S
      ) ∧
      ((H_turning S x1.toNatClampNeg) = 0 →
        ((¬ (H_stuck S x1.toNatClampNeg) = 0 →
          rec (x1 + (1)) S
        ) ∧
        ((H_stuck S x1.toNatClampNeg) = 0 →
          wp_X2_isBusy S x1 (fun r5 =>
            ((¬ r5 = 0 →
              rec (x1 + (1)) S
            ) ∧
            (r5 = 0 →
              wp_X2_firstBoundFor S x1 (fun r7 =>
                ((r7 = none →
                  rec (x1 + (1)) S
                ) ∧
                (∀ u8 : Nat, r7 = some u8 →
                  (u8 ∈ H_L S) ∧ (
                    wp_X0_wishedSide u8 S x1 (fun r11 =>
                      ((r11 = (H_sides S x1.toNatClampNeg) →
                        rec (x1 + (1)) S
                      ) ∧
                      (¬ r11 = (H_sides S x1.toNatClampNeg) →
                        ∀ S13 : HS, S13 = Hs_turning S (upd (H_turning S) x1.toNatClampNeg (4 : Int32)) →
                          rec (x1 + (1)) S13
                      ))
                    )
                  )
                ))
              )
            ))
          )
        ))
      ))
    )
  ))
def wl_X2_beginTurning_2  (post : HS → Prop) : Nat → Int32 → HS → Prop
  | 0 => fun _ _ => False
  | n + 1 => wb_X2_beginTurning_2  post (wl_X2_beginTurning_2  post n)
def wp_X2_beginTurning  (S : HS) (post : HS → Prop) : Prop :=
  ∃ n, wl_X2_beginTurning_2  post n (0 : Int32) S
set_option maxHeartbeats 4000000 in
set_option maxRecDepth 100000 in
theorem lp_X2_beginTurning_2 {l : Launch} {G : GT} {Z : State} {ws0 : va_W} {E0 : Nat} {ad : Nat → Nat} {p : Program} {e : Env} {s : State} {m : MethodId} {args : Array Value} {below : List Frame} {meth : Method} {c : Code} (C : Cx G Z ws0 p s m args meth c RX2 cX2_beginTurning 3 none) {post : HS → Prop} : ∀ (n : Nat) (x1 : Int32) (S : HS) (H : Heap) (locs : List Loc) (ls : Array Slot), wl_X2_beginTurning_2  post n x1 S → Hp G ws0 s H locs (wH G E0 ad S) → lv_has ls 3 [(0, .ref (ad 0)), (1, .int x1)] → W p l e (rmz 4 88) s m args below meth c H locs 0 0 (QQ G Z ws0 below s args (PV (wH G E0 ad) post) (rmz 4 88)) (F0 m 2 ls []) := by
  have hx := C.hx
  have hb := C.hb
  have hZ := C.hZ
  intro n
  induction n with
  | zero =>
    intro x1 S H locs ls h
    exact False.elim h
  | succ n ih =>
    intro x1 S H locs ls h hp hl
    have h : wb_X2_beginTurning_2  post (wl_X2_beginTurning_2  post n) x1 S := h
    unfold wb_X2_beginTurning_2 at h
    generalize hrec : wl_X2_beginTurning_2  post n = rec at h ih
    refine lv_iload_n hx hb dX2_beginTurning_2 rfl (lv_at hl 1 rfl) ?_
    refine lv_bipush (v := 7) hx hb dX2_beginTurning_3 (by decide) ?_
    refine lv_icmp_ge (tgt := 71) hx hb dX2_beginTurning_5 (by decide) (fun q1 => ?_) (fun q1 => ?_)
    · have h := h.1 q1
      exact r_vret C hp dX2_beginTurning_71 ⟨_, rfl, rfl, h⟩
    · have h := h.2 q1
      refine lv_aload_n hx hb dX2_beginTurning_8 rfl (lv_at hl 0 rfl) ?_
      refine gH_turning C hp dX2_beginTurning_9 ?_
      refine lv_iload_n hx hb dX2_beginTurning_12 rfl (lv_at hl 1 rfl) ?_
      obtain ⟨g2, h⟩ := h
      refine aH_turning C hp dX2_beginTurning_13 g2 ?_
      refine lv_if_ne (tgt := 65) hx hb dX2_beginTurning_14 (by decide) (fun q3 => ?_) (fun q3 => ?_)
      · have h := h.1 q3
        refine lv_iinc (v := x1 + (1)) (lv' := [(1, .int (x1 + (1))), (0, .ref (ad 0))]) hx hb dX2_beginTurning_65 hl (k := 1) rfl rfl (by decide) rfl (fun ls hl => ?_)
        refine lv_goto (tgt := 2) hx hb dX2_beginTurning_68 (by decide) ?_
        exact ih _ _ _ _ _ h hp (lv_sub hl [1, 0] rfl)
      · have h := h.2 q3
        refine lv_aload_n hx hb dX2_beginTurning_17 rfl (lv_at hl 0 rfl) ?_
        refine gH_stuckPoints C hp dX2_beginTurning_18 ?_
        refine lv_iload_n hx hb dX2_beginTurning_21 rfl (lv_at hl 1 rfl) ?_
        refine aH_stuck C hp dX2_beginTurning_22 g2 ?_
        refine lv_if_ne (tgt := 65) hx hb dX2_beginTurning_23 (by decide) (fun q4 => ?_) (fun q4 => ?_)
        · have h := h.1 q4
          refine lv_iinc (v := x1 + (1)) (lv' := [(1, .int (x1 + (1))), (0, .ref (ad 0))]) hx hb dX2_beginTurning_65 hl (k := 1) rfl rfl (by decide) rfl (fun ls hl => ?_)
          refine lv_goto (tgt := 2) hx hb dX2_beginTurning_68 (by decide) ?_
          exact ih _ _ _ _ _ h hp (lv_sub hl [1, 0] rfl)
        · have h := h.2 q4
          refine lv_aload_n hx hb dX2_beginTurning_26 rfl (lv_at hl 0 rfl) ?_
          refine lv_iload_n hx hb dX2_beginTurning_27 rfl (lv_at hl 1 rfl) ?_
          refine r_callV (q0 := 0) (ci := 2) (rest := []) (c_X2_isBusy (E0 := E0) (ad := ad) C.hZ h) C hp mf_X2_isBusy km_X2_189 hl.1 dX2_beginTurning_28 rfl rfl ⟨lb rfl, lb rfl, lb rfl, lb rfl⟩ rfl rfl (lb rfl) (fun v w1 H locs hv hp => ?_)
          obtain ⟨r5, rfl, rfl, h⟩ := hv
          refine W.eq (g2 := F0 m 31 ls [.int r5]) rfl ?_
          refine lv_if_ne (tgt := 65) hx hb dX2_beginTurning_31 (by decide) (fun q6 => ?_) (fun q6 => ?_)
          · have h := h.1 q6
            refine lv_iinc (v := x1 + (1)) (lv' := [(1, .int (x1 + (1))), (0, .ref (ad 0))]) hx hb dX2_beginTurning_65 hl (k := 1) rfl rfl (by decide) rfl (fun ls hl => ?_)
            refine lv_goto (tgt := 2) hx hb dX2_beginTurning_68 (by decide) ?_
            exact ih _ _ _ _ _ h hp (lv_sub hl [1, 0] rfl)
          · have h := h.2 q6
            refine lv_aload_n hx hb dX2_beginTurning_34 rfl (lv_at hl 0 rfl) ?_
            refine lv_iload_n hx hb dX2_beginTurning_35 rfl (lv_at hl 1 rfl) ?_
            refine r_callV (q0 := 0) (ci := 2) (rest := []) (c_X2_firstBoundFor (E0 := E0) (ad := ad) C.hZ h) C hp mf_X2_firstBoundFor km_X2_216 hl.1 dX2_beginTurning_36 rfl rfl ⟨lb rfl, lb rfl, lb rfl, lb rfl⟩ rfl rfl (lb rfl) (fun v w1 H locs hv hp => ?_)
            obtain ⟨r7, rfl, rfl, h⟩ := hv
            refine W.eq (g2 := F0 m 39 ls [va_rf r7]) rfl ?_
            refine rq_astore_n (lv' := [(2, va_rf r7), (0, .ref (ad 0)), (1, .int x1)]) hx hb dX2_beginTurning_39 rfl hl (by decide) rfl (fun ls hl => ?_)
            refine rq_aload_n hx hb dX2_beginTurning_40 rfl (lv_at hl 0 rfl) ?_
            rcases r7 with _ | u8
            · have h := h.1 rfl
              refine lv_ifnullN (tgt := 65) hx hb dX2_beginTurning_41 (by decide) ?_
              refine lv_iinc (v := x1 + (1)) (lv' := [(1, .int (x1 + (1))), (2, .null), (0, .ref (ad 0))]) hx hb dX2_beginTurning_65 hl (k := 2) rfl rfl (by decide) rfl (fun ls hl => ?_)
              refine lv_goto (tgt := 2) hx hb dX2_beginTurning_68 (by decide) ?_
              exact ih _ _ _ _ _ h hp (lv_sub hl [2, 0] rfl)
            · have h := h.2 u8 rfl
              refine lv_ifnull hx hb dX2_beginTurning_41 ?_
              refine lv_aload_n hx hb dX2_beginTurning_44 rfl (lv_at hl 0 rfl) ?_
              refine lv_iload_n hx hb dX2_beginTurning_45 rfl (lv_at hl 2 rfl) ?_
              obtain ⟨g9, h⟩ := h
              obtain ⟨k10, hk10⟩ := va_pl_get (X := hX G E0 ad S) (f := cutE S) g9
              refine r_callV (q0 := k10) (ci := 0) (rest := []) (c_X0_wishedSide (E0 := E0) (ad := ad) C.hZ h) C hp mf_X0_wishedSide km_X2_219 hl.1 dX2_beginTurning_46 hk10 rfl ⟨lb rfl, lb rfl, lb rfl, lb rfl⟩ rfl rfl (lb rfl) (fun v w1 H locs hv hp => ?_)
              obtain ⟨r11, rfl, rfl, h⟩ := hv
              refine W.eq (g2 := F0 m 49 ls [.int r11]) rfl ?_
              refine lv_aload_n hx hb dX2_beginTurning_49 rfl (lv_at hl 1 rfl) ?_
              refine gH_sides C hp dX2_beginTurning_50 ?_
              refine lv_iload_n hx hb dX2_beginTurning_53 rfl (lv_at hl 2 rfl) ?_
              refine aH_sides C hp dX2_beginTurning_54 g2 ?_
              refine lv_icmp_eq (tgt := 65) hx hb dX2_beginTurning_55 (by decide) (fun q12 => ?_) (fun q12 => ?_)
              · have h := h.1 q12
                refine lv_iinc (v := x1 + (1)) (lv' := [(1, .int (x1 + (1))), (2, .ref u8), (0, .ref (ad 0))]) hx hb dX2_beginTurning_65 hl (k := 2) rfl rfl (by decide) rfl (fun ls hl => ?_)
                refine lv_goto (tgt := 2) hx hb dX2_beginTurning_68 (by decide) ?_
                exact ih _ _ _ _ _ h hp (lv_sub hl [2, 0] rfl)
              · have h := h.2 q12
                refine lv_aload_n hx hb dX2_beginTurning_58 rfl (lv_at hl 1 rfl) ?_
                refine gH_turning C hp dX2_beginTurning_59 ?_
                refine lv_iload_n hx hb dX2_beginTurning_62 rfl (lv_at hl 2 rfl) ?_
                refine lv_iconst (v := 4) hx hb dX2_beginTurning_63 (by decide) ?_
                refine uH_turning C hp dX2_beginTurning_64 g2 (fun H locs hp => ?_)
                obtain ⟨S13, eS13⟩ : ∃ z : HS, z = Hs_turning S (upd (H_turning S) x1.toNatClampNeg (4 : Int32)) := ⟨_, rfl⟩
                rw [← eS13] at hp
                have h := h S13 eS13
                refine lv_iinc (v := x1 + (1)) (lv' := [(1, .int (x1 + (1))), (2, .ref u8), (0, .ref (ad 0))]) hx hb dX2_beginTurning_65 hl (k := 2) rfl rfl (by decide) rfl (fun ls hl => ?_)
                refine lv_goto (tgt := 2) hx hb dX2_beginTurning_68 (by decide) ?_
                exact ih _ _ _ _ _ h hp (lv_sub hl [2, 0] rfl)
set_option maxHeartbeats 4000000 in
set_option maxRecDepth 100000 in
theorem c_X2_beginTurning {l : Launch} {G : GT} {Z : State} {E0 : Nat} {ad : Nat → Nat} (hZ : ZOK G Z) {S : HS} {post : HS → Prop} (h : wp_X2_beginTurning  S post) : CM l G Z yX2_beginTurning cX2_beginTurning 3 none (rmz 4 88) [.ref (ad 0)] (wH G E0 ad S) (PV (wH G E0 ad) post) := by
  refine CM_ofW hZ (by decide +kernel) (lb rfl) (fun p e s m below meth c ls C hp hl hnm => ?_)
  have C : Cx G Z _ p s m _ meth c RX2 cX2_beginTurning 3 none := C
  have hl : lv_has ls 3 [(0, .ref (ad 0))] := hl
  have hx := C.hx
  have hb := C.hb
  unfold wp_X2_beginTurning at h
  refine lv_iconst (v := 0) hx hb dX2_beginTurning_0 (by decide) ?_
  refine lv_istore_n (lv' := [(1, .int (0 : Int32)), (0, .ref (ad 0))]) hx hb dX2_beginTurning_1 rfl hl (by decide) rfl (fun ls hl => ?_)
  obtain ⟨n, h⟩ := h
  exact lp_X2_beginTurning_2 C n _ _ _ _ _ h hp (lv_sub hl [1, 0] rfl)
theorem mf_X2_beginTurning : MFv yX2_beginTurning cX2_beginTurning 3 none 0 := ⟨kc_X2_beginTurning, kn_X2_beginTurning, kv_X2_beginTurning, ki_X2, by decide +kernel⟩

/-! X2_brakeSteps -/
def wp_X2_brakeSteps (S : HS) (a0 : Nat) (a1 : Int32) (a2 : Int32) (post : Int32 → Prop) : Prop :=
  ((a1 < 0 →
    post (0 : Int32)
  ) ∧
  (¬ a1 < 0 →
    ((a1 < (9 : Int32) →
      (vp_in a1 9) ∧ (
        ∀ x4 : UInt64, x4 = H_wishes S a1.toNatClampNeg →
          (a0 ∈ H_L S) ∧ (
            ((¬ (dG (H_pl S a0) (FP.i2d a2) ∨ dE (H_pl S a0) (FP.i2d a2)) →
              post (0 : Int32)
            ) ∧
            ((dG (H_pl S a0) (FP.i2d a2) ∨ dE (H_pl S a0) (FP.i2d a2)) →
              wp_X0_rear a0 S (fun r9 =>
                ((¬ (dL r9 (FP.i2d (a2 + (20 : Int32))) ∨ dE r9 (FP.i2d (a2 + (20 : Int32)))) →
                  post (0 : Int32)
                ) ∧
                ((dL r9 (FP.i2d (a2 + (20 : Int32))) ∨ dE r9 (FP.i2d (a2 + (20 : Int32)))) →
                  ((¬ (dL (H_sp S a0) x4 ∨ dE (H_sp S a0) x4) →
                    (vf_n64 (FP.dsub (H_sp S a0) x4)) ∧ (
                      ∀ x14 : UInt64, x14 = FP.dsub (H_sp S a0) x4 →
                        (vf_n64 (FP.dmul x14 (4620693217682128896 : UInt64))) ∧ (
                          ∀ x16 : UInt64, x16 = FP.dmul x14 (4620693217682128896 : UInt64) →
                            wp_J9_min_7cf53 ((FP.d2i x16) + (1 : Int32)) (15 : Int32) (fun r17 =>
                              post r17
                            )
                        )
                    )
                  ) ∧
                  ((dL (H_sp S a0) x4 ∨ dE (H_sp S a0) x4) →
                    post (0 : Int32)
                  ))
                ))
              )
            ))
          )
      )
    ) ∧
    (¬ a1 < (9 : Int32) →
      post (0 : Int32)
    ))
  ))
set_option maxHeartbeats 4000000 in
set_option maxRecDepth 100000 in
theorem c_X2_brakeSteps {l : Launch} {G : GT} {Z : State} {E0 : Nat} {ad : Nat → Nat} (hZ : ZOK G Z) {S : HS} {a0 : Nat} {a1 : Int32} {a2 : Int32} {post : Int32 → Prop} (h : wp_X2_brakeSteps S a0 a1 a2 post) : CM l G Z yX2_brakeSteps cX2_brakeSteps 7 (some .int) (rmz 1 21) [.ref (ad 0), .ref a0, .int a1, .int a2] (wH G E0 ad S) (SI (wH G E0 ad S) post) := by
  refine CM_ofW hZ (by decide +kernel) (lb rfl) (fun p e s m below meth c ls C hp hl hnm => ?_)
  have C : Cx G Z _ p s m _ meth c RX2 cX2_brakeSteps 7 (some .int) := C
  have hl : lv_has ls 7 [(0, .ref (ad 0)), (1, .ref a0), (2, .int a1), (3, .int a2)] := hl
  have hx := C.hx
  have hb := C.hb
  unfold wp_X2_brakeSteps at h
  refine lv_iload_n hx hb dX2_brakeSteps_0 rfl (lv_at hl 2 rfl) ?_
  refine lv_if_lt (tgt := 10) hx hb dX2_brakeSteps_1 (by decide) (fun q1 => ?_) (fun q1 => ?_)
  · have h := h.1 q1
    refine lv_iconst (v := 0) hx hb dX2_brakeSteps_10 (by decide) ?_
    exact r_iret C hp dX2_brakeSteps_11 ⟨_, rfl, rfl, h⟩
  · have h := h.2 q1
    refine lv_iload_n hx hb dX2_brakeSteps_4 rfl (lv_at hl 2 rfl) ?_
    refine lv_bipush (v := 9) hx hb dX2_brakeSteps_5 (by decide) ?_
    refine lv_icmp_lt (tgt := 12) hx hb dX2_brakeSteps_7 (by decide) (fun q2 => ?_) (fun q2 => ?_)
    · have h := h.1 q2
      refine lv_aload_n hx hb dX2_brakeSteps_12 rfl (lv_at hl 0 rfl) ?_
      refine gH_wishes C hp dX2_brakeSteps_13 ?_
      refine lv_iload_n hx hb dX2_brakeSteps_16 rfl (lv_at hl 2 rfl) ?_
      obtain ⟨g3, h⟩ := h
      refine aH_wishes C hp dX2_brakeSteps_17 g3 ?_
      refine lv_topd (fun x4 ex4 => ?_)
      have h := h x4 ex4
      refine lv_dstore (lv' := [(4, .double x4), (0, .ref (ad 0)), (1, .ref a0), (2, .int a1), (3, .int a2)]) hx hb dX2_brakeSteps_18 hl (by decide) rfl (fun ls hl => ?_)
      refine lv_aload_n hx hb dX2_brakeSteps_20 rfl (lv_at hl 2 rfl) ?_
      obtain ⟨g5, h⟩ := h
      refine gC2_place C hp dX2_brakeSteps_21 g5 ?_
      refine lv_iload_n hx hb dX2_brakeSteps_24 rfl (lv_at hl 4 rfl) ?_
      refine lv_i2d hx hb dX2_brakeSteps_25 ?_
      refine dcl_lt (tgt := 47) hx hb dX2_brakeSteps_26 dX2_brakeSteps_27 (by decide) (fun q6 => ?_) (fun q6 => ?_)
      · have h := h.1 q6
        refine lv_iconst (v := 0) hx hb dX2_brakeSteps_47 (by decide) ?_
        refine lv_istore (lv' := [(6, .int (0 : Int32)), (4, .double x4), (0, .ref (ad 0)), (1, .ref a0), (2, .int a1), (3, .int a2)]) hx hb dX2_brakeSteps_48 hl (by decide) rfl (fun ls hl => ?_)
        refine lv_iload hx hb dX2_brakeSteps_50 (lv_at hl 0 rfl) ?_
        refine lv_if_eq (tgt := 65) hx hb dX2_brakeSteps_52 (by decide) (fun q7 => ?_) (fun q7 => ?_)
        · refine lv_iconst (v := 0) hx hb dX2_brakeSteps_65 (by decide) ?_
          exact r_iret C hp dX2_brakeSteps_66 ⟨_, rfl, rfl, h⟩
        · exact absurd q7 (by decide)
      · have h := h.2 q6
        refine lv_aload_n hx hb dX2_brakeSteps_30 rfl (lv_at hl 2 rfl) ?_
        obtain ⟨k8, hk8⟩ := va_pl_get (X := hX G E0 ad S) (f := cutE S) g5
        refine r_callV (q0 := k8) (ci := 0) (rest := []) (c_X0_rear (E0 := E0) (ad := ad) C.hZ h) C hp mf_X0_rear km_X2_225 hl.1 dX2_brakeSteps_31 hk8 rfl ⟨lb rfl, lb rfl, lb rfl, lb rfl⟩ rfl rfl (lb rfl) (fun v w1 H locs hv hp => ?_)
        obtain ⟨r9, rfl, rfl, h⟩ := hv
        refine W.eq (g2 := F0 m 34 ls [.double r9]) rfl ?_
        refine lv_iload_n hx hb dX2_brakeSteps_34 rfl (lv_at hl 4 rfl) ?_
        refine lv_bipush (v := 20) hx hb dX2_brakeSteps_35 (by decide) ?_
        refine lv_iadd hx hb dX2_brakeSteps_37 ?_
        refine lv_i2d hx hb dX2_brakeSteps_38 ?_
        refine dcg_gt (tgt := 47) hx hb dX2_brakeSteps_39 dX2_brakeSteps_40 (by decide) (fun q10 => ?_) (fun q10 => ?_)
        · have h := h.1 q10
          refine lv_iconst (v := 0) hx hb dX2_brakeSteps_47 (by decide) ?_
          refine lv_istore (lv' := [(6, .int (0 : Int32)), (4, .double x4), (0, .ref (ad 0)), (1, .ref a0), (2, .int a1), (3, .int a2)]) hx hb dX2_brakeSteps_48 hl (by decide) rfl (fun ls hl => ?_)
          refine lv_iload hx hb dX2_brakeSteps_50 (lv_at hl 0 rfl) ?_
          refine lv_if_eq (tgt := 65) hx hb dX2_brakeSteps_52 (by decide) (fun q11 => ?_) (fun q11 => ?_)
          · refine lv_iconst (v := 0) hx hb dX2_brakeSteps_65 (by decide) ?_
            exact r_iret C hp dX2_brakeSteps_66 ⟨_, rfl, rfl, h⟩
          · exact absurd q11 (by decide)
        · have h := h.2 q10
          refine lv_iconst (v := 1) hx hb dX2_brakeSteps_43 (by decide) ?_
          refine lv_goto (tgt := 48) hx hb dX2_brakeSteps_44 (by decide) ?_
          refine lv_istore (lv' := [(6, .int (1 : Int32)), (4, .double x4), (0, .ref (ad 0)), (1, .ref a0), (2, .int a1), (3, .int a2)]) hx hb dX2_brakeSteps_48 hl (by decide) rfl (fun ls hl => ?_)
          refine lv_iload hx hb dX2_brakeSteps_50 (lv_at hl 0 rfl) ?_
          refine lv_if_eq (tgt := 65) hx hb dX2_brakeSteps_52 (by decide) (fun q18 => ?_) (fun q18 => ?_)
          · exact absurd q18 (by decide)
          · refine lv_aload_n hx hb dX2_brakeSteps_55 rfl (lv_at hl 3 rfl) ?_
            refine gC2_speed C hp dX2_brakeSteps_56 g5 ?_
            refine lv_dload hx hb dX2_brakeSteps_59 (lv_at hl 1 rfl) ?_
            refine dcg_gt (tgt := 67) hx hb dX2_brakeSteps_61 dX2_brakeSteps_62 (by decide) (fun q12 => ?_) (fun q12 => ?_)
            · have h := h.1 q12
              refine lv_aload_n hx hb dX2_brakeSteps_67 rfl (lv_at hl 3 rfl) ?_
              refine gC2_speed C hp dX2_brakeSteps_68 g5 ?_
              refine lv_dload hx hb dX2_brakeSteps_71 (lv_at hl 1 rfl) ?_
              obtain ⟨g13, h⟩ := h
              refine lv_dsub hx hb dX2_brakeSteps_73 g13 ?_
              refine lv_topd (fun x14 ex14 => ?_)
              have h := h x14 ex14
              refine lv_ldc2d hx hb C.hown (C.hts _ kd_X2_274) dX2_brakeSteps_74 ?_
              obtain ⟨g15, h⟩ := h
              refine lv_dmul hx hb dX2_brakeSteps_77 g15 ?_
              refine lv_topd (fun x16 ex16 => ?_)
              have h := h x16 ex16
              refine lv_d2i hx hb dX2_brakeSteps_78 ?_
              refine lv_iconst (v := 1) hx hb dX2_brakeSteps_79 (by decide) ?_
              refine lv_iadd hx hb dX2_brakeSteps_80 ?_
              refine lv_bipush (v := 15) hx hb dX2_brakeSteps_81 (by decide) ?_
              refine r_callS (rest := []) (c_J9_min_7cf53 C.hZ h) C hp mf_J9_min_7cf53 km_X2_276 hl.1 dX2_brakeSteps_83 ⟨lb rfl, lb rfl, lb rfl, lb rfl⟩ rfl rfl (lb rfl) (fun v w1 H locs hv hp => ?_)
              obtain ⟨r17, rfl, rfl, h⟩ := hv
              refine W.eq (g2 := F0 m 86 ls [.int r17]) rfl ?_
              exact r_iret C hp dX2_brakeSteps_86 ⟨_, rfl, rfl, h⟩
            · have h := h.2 q12
              refine lv_iconst (v := 0) hx hb dX2_brakeSteps_65 (by decide) ?_
              exact r_iret C hp dX2_brakeSteps_66 ⟨_, rfl, rfl, h⟩
    · have h := h.2 q2
      refine lv_iconst (v := 0) hx hb dX2_brakeSteps_10 (by decide) ?_
      exact r_iret C hp dX2_brakeSteps_11 ⟨_, rfl, rfl, h⟩
theorem mf_X2_brakeSteps : MFv yX2_brakeSteps cX2_brakeSteps 7 (some .int) 3 := ⟨kc_X2_brakeSteps, kn_X2_brakeSteps, kv_X2_brakeSteps, ki_X2, by decide +kernel⟩

/-! X2_acceleration -/
def wp_X2_acceleration (S : HS) (a0 : Nat) (post : UInt64 → Prop) : Prop :=
  (a0 ∈ H_L S) ∧ (
    wp_X2_grade (H_pl S a0) (fun r2 =>
      (vf_n64 (FP.ddiv (H_res S a0) (4652218415073722368 : UInt64))) ∧ (
        ∀ x4 : UInt64, x4 = FP.ddiv (H_res S a0) (4652218415073722368 : UInt64) →
          (vf_n64 (FP.dsub r2 x4)) ∧ (
            ∀ x6 : UInt64, x6 = FP.dsub r2 x4 →
              (vf_n64 (FP.dmul (4621713564472705024 : UInt64) x6)) ∧ (
                ∀ x8 : UInt64, x8 = FP.dmul (4621713564472705024 : UInt64) x6 →
                  wp_X2_brakeSteps S a0 (0 : Int32) (30 : Int32) (fun r9 =>
                    (vf_n64 (FP.dmul (4598175219545276416 : UInt64) (FP.i2d r9))) ∧ (
                      ∀ x11 : UInt64, x11 = FP.dmul (4598175219545276416 : UInt64) (FP.i2d r9) →
                        (vf_n64 (FP.dsub x8 x11)) ∧ (
                          ∀ x13 : UInt64, x13 = FP.dsub x8 x11 →
                            wp_X2_trackOf (H_nd S a0) (fun r14 =>
                              ((r14 = (-1 : Int32) →
                                post x13
                              ) ∧
                              (¬ r14 = (-1 : Int32) →
                                wp_X2_brakeSteps S a0 ((1 : Int32) + r14) (210 : Int32) (fun r16 =>
                                  (vf_n64 (FP.dmul (4598175219545276416 : UInt64) (FP.i2d r16))) ∧ (
                                    ∀ x18 : UInt64, x18 = FP.dmul (4598175219545276416 : UInt64) (FP.i2d r16) →
                                      (vf_n64 (FP.dsub x13 x18)) ∧ (
                                        ∀ x20 : UInt64, x20 = FP.dsub x13 x18 →
                                          post x20
                                      )
                                  )
                                )
                              ))
                            )
                        )
                    )
                  )
              )
          )
      )
    )
  )
set_option maxHeartbeats 4000000 in
set_option maxRecDepth 100000 in
theorem c_X2_acceleration {l : Launch} {G : GT} {Z : State} {E0 : Nat} {ad : Nat → Nat} (hZ : ZOK G Z) {S : HS} {a0 : Nat} {post : UInt64 → Prop} (h : wp_X2_acceleration S a0 post) : CM l G Z yX2_acceleration cX2_acceleration 5 (some .double) (rmz 2 47) [.ref (ad 0), .ref a0] (wH G E0 ad S) (SD (wH G E0 ad S) post) := by
  refine CM_ofW hZ (by decide +kernel) (lb rfl) (fun p e s m below meth c ls C hp hl hnm => ?_)
  have C : Cx G Z _ p s m _ meth c RX2 cX2_acceleration 5 (some .double) := C
  have hl : lv_has ls 5 [(0, .ref (ad 0)), (1, .ref a0)] := hl
  have hx := C.hx
  have hb := C.hb
  unfold wp_X2_acceleration at h
  refine lv_ldc2d hx hb C.hown (C.hts _ kd_X2_247) dX2_acceleration_0 ?_
  refine lv_aload_n hx hb dX2_acceleration_3 rfl (lv_at hl 1 rfl) ?_
  obtain ⟨g1, h⟩ := h
  refine gC2_place C hp dX2_acceleration_4 g1 ?_
  refine r_callS (rest := [.double (4621713564472705024 : UInt64)]) (c_X2_grade C.hZ h) C hp mf_X2_grade km_X2_249 hl.1 dX2_acceleration_7 ⟨lb rfl, lb rfl, lb rfl, lb rfl⟩ rfl rfl (lb rfl) (fun v w1 H locs hv hp => ?_)
  obtain ⟨r2, rfl, rfl, h⟩ := hv
  refine W.eq (g2 := F0 m 10 ls [.double r2, .double (4621713564472705024 : UInt64)]) rfl ?_
  refine lv_aload_n hx hb dX2_acceleration_10 rfl (lv_at hl 1 rfl) ?_
  refine gC2_resistance C hp dX2_acceleration_11 g1 ?_
  refine lv_ldc2d hx hb C.hown (C.hts _ kd_X2_256) dX2_acceleration_14 ?_
  obtain ⟨g3, h⟩ := h
  refine lv_ddiv hx hb dX2_acceleration_17 g3 ?_
  refine lv_topd (fun x4 ex4 => ?_)
  have h := h x4 ex4
  obtain ⟨g5, h⟩ := h
  refine lv_dsub hx hb dX2_acceleration_18 g5 ?_
  refine lv_topd (fun x6 ex6 => ?_)
  have h := h x6 ex6
  obtain ⟨g7, h⟩ := h
  refine lv_dmul hx hb dX2_acceleration_19 g7 ?_
  refine lv_topd (fun x8 ex8 => ?_)
  have h := h x8 ex8
  refine lv_dstore_n (lv' := [(2, .double x8), (0, .ref (ad 0)), (1, .ref a0)]) hx hb dX2_acceleration_20 rfl hl (by decide) rfl (fun ls hl => ?_)
  refine lv_dload_n hx hb dX2_acceleration_21 rfl (lv_at hl 0 rfl) ?_
  refine lv_ldc2d hx hb C.hown (C.hts _ kd_X2_258) dX2_acceleration_22 ?_
  refine lv_aload_n hx hb dX2_acceleration_25 rfl (lv_at hl 1 rfl) ?_
  refine lv_aload_n hx hb dX2_acceleration_26 rfl (lv_at hl 2 rfl) ?_
  refine lv_iconst (v := 0) hx hb dX2_acceleration_27 (by decide) ?_
  refine lv_bipush (v := 30) hx hb dX2_acceleration_28 (by decide) ?_
  refine r_callV (q0 := 0) (ci := 2) (rest := [.double (4598175219545276416 : UInt64), .double x8]) (c_X2_brakeSteps (E0 := E0) (ad := ad) C.hZ h) C hp mf_X2_brakeSteps km_X2_260 hl.1 dX2_acceleration_30 rfl rfl ⟨lb rfl, lb rfl, lb rfl, lb rfl⟩ rfl rfl (lb rfl) (fun v w1 H locs hv hp => ?_)
  obtain ⟨r9, rfl, rfl, h⟩ := hv
  refine W.eq (g2 := F0 m 33 ls [.int r9, .double (4598175219545276416 : UInt64), .double x8]) rfl ?_
  refine lv_i2d hx hb dX2_acceleration_33 ?_
  obtain ⟨g10, h⟩ := h
  refine lv_dmul hx hb dX2_acceleration_34 g10 ?_
  refine lv_topd (fun x11 ex11 => ?_)
  have h := h x11 ex11
  obtain ⟨g12, h⟩ := h
  refine lv_dsub hx hb dX2_acceleration_35 g12 ?_
  refine lv_topd (fun x13 ex13 => ?_)
  have h := h x13 ex13
  refine lv_dstore_n (lv' := [(2, .double x13), (0, .ref (ad 0)), (1, .ref a0)]) hx hb dX2_acceleration_36 rfl hl (by decide) rfl (fun ls hl => ?_)
  refine lv_aload_n hx hb dX2_acceleration_37 rfl (lv_at hl 2 rfl) ?_
  refine gC2_node C hp dX2_acceleration_38 g1 ?_
  refine r_callS (rest := []) (c_X2_trackOf C.hZ h) C hp mf_X2_trackOf km_X2_177 hl.1 dX2_acceleration_41 ⟨lb rfl, lb rfl, lb rfl, lb rfl⟩ rfl rfl (lb rfl) (fun v w1 H locs hv hp => ?_)
  obtain ⟨r14, rfl, rfl, h⟩ := hv
  refine W.eq (g2 := F0 m 44 ls [.int r14]) rfl ?_
  refine lv_istore (lv' := [(4, .int r14), (2, .double x13), (0, .ref (ad 0)), (1, .ref a0)]) hx hb dX2_acceleration_44 hl (by decide) rfl (fun ls hl => ?_)
  refine lv_iload hx hb dX2_acceleration_46 (lv_at hl 0 rfl) ?_
  refine lv_iconst (v := -1) hx hb dX2_acceleration_48 (by decide) ?_
  refine lv_icmp_eq (tgt := 72) hx hb dX2_acceleration_49 (by decide) (fun q15 => ?_) (fun q15 => ?_)
  · have h := h.1 q15
    refine lv_dload_n hx hb dX2_acceleration_72 rfl (lv_at hl 1 rfl) ?_
    exact r_dret C hp dX2_acceleration_73 ⟨_, rfl, rfl, h⟩
  · have h := h.2 q15
    refine lv_dload_n hx hb dX2_acceleration_52 rfl (lv_at hl 1 rfl) ?_
    refine lv_ldc2d hx hb C.hown (C.hts _ kd_X2_258) dX2_acceleration_53 ?_
    refine lv_aload_n hx hb dX2_acceleration_56 rfl (lv_at hl 2 rfl) ?_
    refine lv_aload_n hx hb dX2_acceleration_57 rfl (lv_at hl 3 rfl) ?_
    refine lv_iconst (v := 1) hx hb dX2_acceleration_58 (by decide) ?_
    refine lv_iload hx hb dX2_acceleration_59 (lv_at hl 0 rfl) ?_
    refine lv_iadd hx hb dX2_acceleration_61 ?_
    refine lv_sipush (v := 210) hx hb dX2_acceleration_62 (by decide) ?_
    refine r_callV (q0 := 0) (ci := 2) (rest := [.double (4598175219545276416 : UInt64), .double x13]) (c_X2_brakeSteps (E0 := E0) (ad := ad) C.hZ h) C hp mf_X2_brakeSteps km_X2_260 hl.1 dX2_acceleration_65 rfl rfl ⟨lb rfl, lb rfl, lb rfl, lb rfl⟩ rfl rfl (lb rfl) (fun v w1 H locs hv hp => ?_)
    obtain ⟨r16, rfl, rfl, h⟩ := hv
    refine W.eq (g2 := F0 m 68 ls [.int r16, .double (4598175219545276416 : UInt64), .double x13]) rfl ?_
    refine lv_i2d hx hb dX2_acceleration_68 ?_
    obtain ⟨g17, h⟩ := h
    refine lv_dmul hx hb dX2_acceleration_69 g17 ?_
    refine lv_topd (fun x18 ex18 => ?_)
    have h := h x18 ex18
    obtain ⟨g19, h⟩ := h
    refine lv_dsub hx hb dX2_acceleration_70 g19 ?_
    refine lv_topd (fun x20 ex20 => ?_)
    have h := h x20 ex20
    refine lv_dstore_n (lv' := [(2, .double x20), (4, .int r14), (0, .ref (ad 0)), (1, .ref a0)]) hx hb dX2_acceleration_71 rfl hl (by decide) rfl (fun ls hl => ?_)
    refine lv_dload_n hx hb dX2_acceleration_72 rfl (lv_at hl 0 rfl) ?_
    exact r_dret C hp dX2_acceleration_73 ⟨_, rfl, rfl, h⟩
theorem mf_X2_acceleration : MFv yX2_acceleration cX2_acceleration 5 (some .double) 1 := ⟨kc_X2_acceleration, kn_X2_acceleration, kv_X2_acceleration, ki_X2, by decide +kernel⟩

/-! X2_pass -/
def wp_X2_pass (a0 : Nat) (a1 : Int32) (S : HS) (post : HS → Prop) : Prop :=
  (vp_in a1 7) ∧ (
    ∀ x2 : Int32, x2 = H_sides S a1.toNatClampNeg →
      (a0 ∈ H_L S) ∧ (
        wp_X2_leadsTo a1 (H_wish S a0) (fun r4 =>
          ((r4 = 0 →
            wp_X2_nodeBehind a1 x2 (fun r6 =>
              ∀ S7 : HS, S7 = Hs_nd S (upd (H_nd S) a0 r6) →
                post S7
            )
          ) ∧
          (¬ r4 = 0 →
            wp_X0_wishedSide a0 S a1 (fun r9 =>
              ((r9 = x2 →
                wp_X2_nodeBehind a1 x2 (fun r11 =>
                  ∀ S12 : HS, S12 = Hs_nd S (upd (H_nd S) a0 r11) →
                    post S12
                )
              ) ∧
              (¬ r9 = x2 →
                wp_X1_note (0 : Int32) (H_num S a0) a1 (H_ticks S) S (fun S13 =>
                  wp_X2_nodeBehind a1 x2 (fun r14 =>
                    (a0 ∈ H_L S13) ∧ (
                      ∀ S16 : HS, S16 = Hs_nd S13 (upd (H_nd S13) a0 r14) →
                        post S16
                    )
                  )
                )
              ))
            )
          ))
        )
      )
  )
set_option maxHeartbeats 4000000 in
set_option maxRecDepth 100000 in
theorem c_X2_pass {l : Launch} {G : GT} {Z : State} {E0 : Nat} {ad : Nat → Nat} (hZ : ZOK G Z) {a0 : Nat} {a1 : Int32} {S : HS} {post : HS → Prop} (h : wp_X2_pass a0 a1 S post) : CM l G Z yX2_pass cX2_pass 4 none (rmz 2 47) [.ref (ad 0), .ref a0, .int a1] (wH G E0 ad S) (PV (wH G E0 ad) post) := by
  refine CM_ofW hZ (by decide +kernel) (lb rfl) (fun p e s m below meth c ls C hp hl hnm => ?_)
  have C : Cx G Z _ p s m _ meth c RX2 cX2_pass 4 none := C
  have hl : lv_has ls 4 [(0, .ref (ad 0)), (1, .ref a0), (2, .int a1)] := hl
  have hx := C.hx
  have hb := C.hb
  unfold wp_X2_pass at h
  refine lv_aload_n hx hb dX2_pass_0 rfl (lv_at hl 0 rfl) ?_
  refine gH_sides C hp dX2_pass_1 ?_
  refine lv_iload_n hx hb dX2_pass_4 rfl (lv_at hl 2 rfl) ?_
  obtain ⟨g1, h⟩ := h
  refine aH_sides C hp dX2_pass_5 g1 ?_
  refine lv_topi (fun x2 ex2 => ?_)
  have h := h x2 ex2
  refine lv_istore_n (lv' := [(3, .int x2), (0, .ref (ad 0)), (1, .ref a0), (2, .int a1)]) hx hb dX2_pass_6 rfl hl (by decide) rfl (fun ls hl => ?_)
  refine lv_iload_n hx hb dX2_pass_7 rfl (lv_at hl 3 rfl) ?_
  refine lv_aload_n hx hb dX2_pass_8 rfl (lv_at hl 2 rfl) ?_
  obtain ⟨g3, h⟩ := h
  refine gC2_wishedNode C hp dX2_pass_9 g3 ?_
  refine r_callS (rest := []) (c_X2_leadsTo C.hZ h) C hp mf_X2_leadsTo km_X2_212 hl.1 dX2_pass_12 ⟨lb rfl, lb rfl, lb rfl, lb rfl⟩ rfl rfl (lb rfl) (fun v w1 H locs hv hp => ?_)
  obtain ⟨r4, rfl, rfl, h⟩ := hv
  refine W.eq (g2 := F0 m 15 ls [.int r4]) rfl ?_
  refine lv_if_eq (tgt := 44) hx hb dX2_pass_15 (by decide) (fun q5 => ?_) (fun q5 => ?_)
  · have h := h.1 q5
    refine lv_aload_n hx hb dX2_pass_44 rfl (lv_at hl 2 rfl) ?_
    refine lv_iload_n hx hb dX2_pass_45 rfl (lv_at hl 3 rfl) ?_
    refine lv_iload_n hx hb dX2_pass_46 rfl (lv_at hl 0 rfl) ?_
    refine r_callS (rest := [.ref a0]) (c_X2_nodeBehind C.hZ h) C hp mf_X2_nodeBehind km_X2_292 hl.1 dX2_pass_47 ⟨lb rfl, lb rfl, lb rfl, lb rfl⟩ rfl rfl (lb rfl) (fun v w1 H locs hv hp => ?_)
    obtain ⟨r6, rfl, rfl, h⟩ := hv
    refine W.eq (g2 := F0 m 50 ls [.int r6, .ref a0]) rfl ?_
    refine pC2_node C hp dX2_pass_50 g3 (fun H locs hp => ?_)
    obtain ⟨S7, eS7⟩ : ∃ z : HS, z = Hs_nd S (upd (H_nd S) a0 r6) := ⟨_, rfl⟩
    rw [← eS7] at hp
    have h := h S7 eS7
    exact r_vret C hp dX2_pass_53 ⟨_, rfl, rfl, h⟩
  · have h := h.2 q5
    refine lv_aload_n hx hb dX2_pass_18 rfl (lv_at hl 2 rfl) ?_
    refine lv_iload_n hx hb dX2_pass_19 rfl (lv_at hl 3 rfl) ?_
    obtain ⟨k8, hk8⟩ := va_pl_get (X := hX G E0 ad S) (f := cutE S) g3
    refine r_callV (q0 := k8) (ci := 0) (rest := []) (c_X0_wishedSide (E0 := E0) (ad := ad) C.hZ h) C hp mf_X0_wishedSide km_X2_219 hl.1 dX2_pass_20 hk8 rfl ⟨lb rfl, lb rfl, lb rfl, lb rfl⟩ rfl rfl (lb rfl) (fun v w1 H locs hv hp => ?_)
    obtain ⟨r9, rfl, rfl, h⟩ := hv
    refine W.eq (g2 := F0 m 23 ls [.int r9]) rfl ?_
    refine lv_iload_n hx hb dX2_pass_23 rfl (lv_at hl 0 rfl) ?_
    refine lv_icmp_eq (tgt := 44) hx hb dX2_pass_24 (by decide) (fun q10 => ?_) (fun q10 => ?_)
    · have h := h.1 q10
      refine lv_aload_n hx hb dX2_pass_44 rfl (lv_at hl 2 rfl) ?_
      refine lv_iload_n hx hb dX2_pass_45 rfl (lv_at hl 3 rfl) ?_
      refine lv_iload_n hx hb dX2_pass_46 rfl (lv_at hl 0 rfl) ?_
      refine r_callS (rest := [.ref a0]) (c_X2_nodeBehind C.hZ h) C hp mf_X2_nodeBehind km_X2_292 hl.1 dX2_pass_47 ⟨lb rfl, lb rfl, lb rfl, lb rfl⟩ rfl rfl (lb rfl) (fun v w1 H locs hv hp => ?_)
      obtain ⟨r11, rfl, rfl, h⟩ := hv
      refine W.eq (g2 := F0 m 50 ls [.int r11, .ref a0]) rfl ?_
      refine pC2_node C hp dX2_pass_50 g3 (fun H locs hp => ?_)
      obtain ⟨S12, eS12⟩ : ∃ z : HS, z = Hs_nd S (upd (H_nd S) a0 r11) := ⟨_, rfl⟩
      rw [← eS12] at hp
      have h := h S12 eS12
      exact r_vret C hp dX2_pass_53 ⟨_, rfl, rfl, h⟩
    · have h := h.2 q10
      refine lv_aload_n hx hb dX2_pass_27 rfl (lv_at hl 1 rfl) ?_
      refine gH_events C hp dX2_pass_28 ?_
      refine lv_iconst (v := 0) hx hb dX2_pass_31 (by decide) ?_
      refine lv_aload_n hx hb dX2_pass_32 rfl (lv_at hl 2 rfl) ?_
      refine gC2_number C hp dX2_pass_33 g3 ?_
      refine lv_iload_n hx hb dX2_pass_36 rfl (lv_at hl 3 rfl) ?_
      refine lv_aload_n hx hb dX2_pass_37 rfl (lv_at hl 1 rfl) ?_
      refine gH_ticks C hp dX2_pass_38 ?_
      refine r_callV (q0 := 1) (ci := 1) (rest := []) (c_X1_note (E0 := E0) (ad := ad) C.hZ h) C hp mf_X1_note km_X2_288 hl.1 dX2_pass_41 rfl rfl ⟨lb rfl, lb rfl, lb rfl, lb rfl⟩ rfl rfl (lb rfl) (fun v w1 H locs hv hp => ?_)
      obtain ⟨S13, rfl, rfl, h⟩ := hv
      refine W.eq (g2 := F0 m 44 ls []) rfl ?_
      refine lv_aload_n hx hb dX2_pass_44 rfl (lv_at hl 2 rfl) ?_
      refine lv_iload_n hx hb dX2_pass_45 rfl (lv_at hl 3 rfl) ?_
      refine lv_iload_n hx hb dX2_pass_46 rfl (lv_at hl 0 rfl) ?_
      refine r_callS (rest := [.ref a0]) (c_X2_nodeBehind C.hZ h) C hp mf_X2_nodeBehind km_X2_292 hl.1 dX2_pass_47 ⟨lb rfl, lb rfl, lb rfl, lb rfl⟩ rfl rfl (lb rfl) (fun v w1 H locs hv hp => ?_)
      obtain ⟨r14, rfl, rfl, h⟩ := hv
      refine W.eq (g2 := F0 m 50 ls [.int r14, .ref a0]) rfl ?_
      obtain ⟨g15, h⟩ := h
      refine pC2_node C hp dX2_pass_50 g15 (fun H locs hp => ?_)
      obtain ⟨S16, eS16⟩ : ∃ z : HS, z = Hs_nd S13 (upd (H_nd S13) a0 r14) := ⟨_, rfl⟩
      rw [← eS16] at hp
      have h := h S16 eS16
      exact r_vret C hp dX2_pass_53 ⟨_, rfl, rfl, h⟩
theorem mf_X2_pass : MFv yX2_pass cX2_pass 4 none 2 := ⟨kc_X2_pass, kn_X2_pass, kv_X2_pass, ki_X2, by decide +kernel⟩

/-! X2_passPoints -/
def wb_X2_passPoints_3 (a0 : Nat) (a1 : UInt64) (post : HS → Prop) (rec : Int32 → HS → Prop) (x4 : Int32) (S : HS) : Prop :=
  (((3 : Int32) ≤ x4 →
    post S
  ) ∧
  (¬ (3 : Int32) ≤ x4 →
    (a0 ∈ H_L S) ∧ (
      wp_X2_isPoint (H_nd S a0) (fun r3 =>
        ((r3 = 0 →
          post S
        ) ∧
        (¬ r3 = 0 →
          wp_X2_pointPlace (H_nd S a0) (fun r5 =>
            ((¬ dL a1 (FP.i2d r5) →
              rec (x4 + (1)) S
            ) ∧
            (dL a1 (FP.i2d r5) →
              ((¬ (dG (H_pl S a0) (FP.i2d r5) ∨ dE (H_pl S a0) (FP.i2d r5)) →
                rec (x4 + (1)) S
              ) ∧
              ((dG (H_pl S a0) (FP.i2d r5) ∨ dE (H_pl S a0) (FP.i2d r5)) →
                wp_X2_pass a0 (H_nd S a0) S (fun S8 =>
                  rec (x4 + (1)) S8
                )
              ))
            ))
          )
        ))
      )
    )
  ))
def wl_X2_passPoints_3 (a0 : Nat) (a1 : UInt64) (post : HS → Prop) : Nat → Int32 → HS → Prop
  | 0 => fun _ _ => False
  | n + 1 => wb_X2_passPoints_3 a0 a1 post (wl_X2_passPoints_3 a0 a1 post n)
def wp_X2_passPoints (a0 : Nat) (a1 : UInt64) (S : HS) (post : HS → Prop) : Prop :=
  ∃ n, wl_X2_passPoints_3 a0 a1 post n (0 : Int32) S
set_option maxHeartbeats 4000000 in
set_option maxRecDepth 100000 in
theorem lp_X2_passPoints_3 {l : Launch} {G : GT} {Z : State} {ws0 : va_W} {E0 : Nat} {ad : Nat → Nat} {p : Program} {e : Env} {s : State} {m : MethodId} {args : Array Value} {below : List Frame} {meth : Method} {c : Code} {a0 : Nat} {a1 : UInt64} (C : Cx G Z ws0 p s m args meth c RX2 cX2_passPoints 6 none) {post : HS → Prop} : ∀ (n : Nat) (x4 : Int32) (S : HS) (H : Heap) (locs : List Loc) (ls : Array Slot), wl_X2_passPoints_3 a0 a1 post n x4 S → Hp G ws0 s H locs (wH G E0 ad S) → lv_has ls 6 [(0, .ref (ad 0)), (1, .ref a0), (2, .double a1), (4, .int x4)] → W p l e (rmz 3 70) s m args below meth c H locs 0 0 (QQ G Z ws0 below s args (PV (wH G E0 ad) post) (rmz 3 70)) (F0 m 3 ls []) := by
  have hx := C.hx
  have hb := C.hb
  have hZ := C.hZ
  intro n
  induction n with
  | zero =>
    intro x4 S H locs ls h
    exact False.elim h
  | succ n ih =>
    intro x4 S H locs ls h hp hl
    have h : wb_X2_passPoints_3 a0 a1 post (wl_X2_passPoints_3 a0 a1 post n) x4 S := h
    unfold wb_X2_passPoints_3 at h
    generalize hrec : wl_X2_passPoints_3 a0 a1 post n = rec at h ih
    refine lv_iload hx hb dX2_passPoints_3 (lv_at hl 3 rfl) ?_
    refine lv_iconst (v := 3) hx hb dX2_passPoints_5 (by decide) ?_
    refine lv_icmp_ge (tgt := 62) hx hb dX2_passPoints_6 (by decide) (fun q1 => ?_) (fun q1 => ?_)
    · have h := h.1 q1
      exact r_vret C hp dX2_passPoints_62 ⟨_, rfl, rfl, h⟩
    · have h := h.2 q1
      refine lv_aload_n hx hb dX2_passPoints_9 rfl (lv_at hl 1 rfl) ?_
      obtain ⟨g2, h⟩ := h
      refine gC2_node C hp dX2_passPoints_10 g2 ?_
      refine r_callS (rest := []) (c_X2_isPoint C.hZ h) C hp mf_X2_isPoint km_X2_131 hl.1 dX2_passPoints_13 ⟨lb rfl, lb rfl, lb rfl, lb rfl⟩ rfl rfl (lb rfl) (fun v w1 H locs hv hp => ?_)
      obtain ⟨r3, rfl, rfl, h⟩ := hv
      refine W.eq (g2 := F0 m 16 ls [.int r3]) rfl ?_
      refine lv_if_eq (tgt := 62) hx hb dX2_passPoints_16 (by decide) (fun q4 => ?_) (fun q4 => ?_)
      · have h := h.1 q4
        exact r_vret C hp dX2_passPoints_62 ⟨_, rfl, rfl, h⟩
      · have h := h.2 q4
        refine lv_aload_n hx hb dX2_passPoints_19 rfl (lv_at hl 1 rfl) ?_
        refine gC2_node C hp dX2_passPoints_20 g2 ?_
        refine r_callS (rest := []) (c_X2_pointPlace C.hZ h) C hp mf_X2_pointPlace km_X2_222 hl.1 dX2_passPoints_23 ⟨lb rfl, lb rfl, lb rfl, lb rfl⟩ rfl rfl (lb rfl) (fun v w1 H locs hv hp => ?_)
        obtain ⟨r5, rfl, rfl, h⟩ := hv
        refine W.eq (g2 := F0 m 26 ls [.int r5]) rfl ?_
        refine lv_istore (lv' := [(5, .int r5), (0, .ref (ad 0)), (1, .ref a0), (2, .double a1), (4, .int x4)]) hx hb dX2_passPoints_26 hl (by decide) rfl (fun ls hl => ?_)
        refine lv_dload_n hx hb dX2_passPoints_28 rfl (lv_at hl 3 rfl) ?_
        refine lv_iload hx hb dX2_passPoints_29 (lv_at hl 0 rfl) ?_
        refine lv_i2d hx hb dX2_passPoints_31 ?_
        refine dcg_ge (tgt := 56) hx hb dX2_passPoints_32 dX2_passPoints_33 (by decide) (fun q6 => ?_) (fun q6 => ?_)
        · have h := h.1 q6
          refine lv_iinc (v := x4 + (1)) (lv' := [(4, .int (x4 + (1))), (5, .int r5), (0, .ref (ad 0)), (1, .ref a0), (2, .double a1)]) hx hb dX2_passPoints_56 hl (k := 4) rfl rfl (by decide) rfl (fun ls hl => ?_)
          refine lv_goto (tgt := 3) hx hb dX2_passPoints_59 (by decide) ?_
          exact ih _ _ _ _ _ h hp (lv_sub hl [2, 3, 4, 0] rfl)
        · have h := h.2 q6
          refine lv_aload_n hx hb dX2_passPoints_36 rfl (lv_at hl 2 rfl) ?_
          refine gC2_place C hp dX2_passPoints_37 g2 ?_
          refine lv_iload hx hb dX2_passPoints_40 (lv_at hl 0 rfl) ?_
          refine lv_i2d hx hb dX2_passPoints_42 ?_
          refine dcl_lt (tgt := 56) hx hb dX2_passPoints_43 dX2_passPoints_44 (by decide) (fun q7 => ?_) (fun q7 => ?_)
          · have h := h.1 q7
            refine lv_iinc (v := x4 + (1)) (lv' := [(4, .int (x4 + (1))), (5, .int r5), (0, .ref (ad 0)), (1, .ref a0), (2, .double a1)]) hx hb dX2_passPoints_56 hl (k := 4) rfl rfl (by decide) rfl (fun ls hl => ?_)
            refine lv_goto (tgt := 3) hx hb dX2_passPoints_59 (by decide) ?_
            exact ih _ _ _ _ _ h hp (lv_sub hl [2, 3, 4, 0] rfl)
          · have h := h.2 q7
            refine lv_aload_n hx hb dX2_passPoints_47 rfl (lv_at hl 1 rfl) ?_
            refine lv_aload_n hx hb dX2_passPoints_48 rfl (lv_at hl 2 rfl) ?_
            refine lv_aload_n hx hb dX2_passPoints_49 rfl (lv_at hl 2 rfl) ?_
            refine gC2_node C hp dX2_passPoints_50 g2 ?_
            refine r_callV (q0 := 0) (ci := 2) (rest := []) (c_X2_pass (E0 := E0) (ad := ad) C.hZ h) C hp mf_X2_pass km_X2_281 hl.1 dX2_passPoints_53 rfl rfl ⟨lb rfl, lb rfl, lb rfl, lb rfl⟩ rfl rfl (lb rfl) (fun v w1 H locs hv hp => ?_)
            obtain ⟨S8, rfl, rfl, h⟩ := hv
            refine W.eq (g2 := F0 m 56 ls []) rfl ?_
            refine lv_iinc (v := x4 + (1)) (lv' := [(4, .int (x4 + (1))), (5, .int r5), (0, .ref (ad 0)), (1, .ref a0), (2, .double a1)]) hx hb dX2_passPoints_56 hl (k := 4) rfl rfl (by decide) rfl (fun ls hl => ?_)
            refine lv_goto (tgt := 3) hx hb dX2_passPoints_59 (by decide) ?_
            exact ih _ _ _ _ _ h hp (lv_sub hl [2, 3, 4, 0] rfl)
set_option maxHeartbeats 4000000 in
set_option maxRecDepth 100000 in
theorem c_X2_passPoints {l : Launch} {G : GT} {Z : State} {E0 : Nat} {ad : Nat → Nat} (hZ : ZOK G Z) {a0 : Nat} {a1 : UInt64} {S : HS} {post : HS → Prop} (h : wp_X2_passPoints a0 a1 S post) : CM l G Z yX2_passPoints cX2_passPoints 6 none (rmz 3 70) [.ref (ad 0), .ref a0, .double a1] (wH G E0 ad S) (PV (wH G E0 ad) post) := by
  refine CM_ofW hZ (by decide +kernel) (lb rfl) (fun p e s m below meth c ls C hp hl hnm => ?_)
  have C : Cx G Z _ p s m _ meth c RX2 cX2_passPoints 6 none := C
  have hl : lv_has ls 6 [(0, .ref (ad 0)), (1, .ref a0), (2, .double a1)] := hl
  have hx := C.hx
  have hb := C.hb
  unfold wp_X2_passPoints at h
  refine lv_iconst (v := 0) hx hb dX2_passPoints_0 (by decide) ?_
  refine lv_istore (lv' := [(4, .int (0 : Int32)), (0, .ref (ad 0)), (1, .ref a0), (2, .double a1)]) hx hb dX2_passPoints_1 hl (by decide) rfl (fun ls hl => ?_)
  obtain ⟨n, h⟩ := h
  exact lp_X2_passPoints_3 C n _ _ _ _ _ h hp (lv_sub hl [1, 2, 3, 0] rfl)
theorem mf_X2_passPoints : MFv yX2_passPoints cX2_passPoints 6 none 2 := ⟨kc_X2_passPoints, kn_X2_passPoints, kv_X2_passPoints, ki_X2, by decide +kernel⟩

/-! X2_rollAll -/
def wb_X2_rollAll_2  (post : HS → Prop) (rec : Int32 → HS → Prop) (x1 : Int32) (S : HS) : Prop :=
  (((H_rs S) ≤ x1 →
    post S
  ) ∧
  (¬ (H_rs S) ≤ x1 →
    ∃ y2 : Nat, lget (H_ra S) (H_rs S) x1 y2 ∧ (
      (y2 ∈ H_L S) ∧ (
        ∀ x5 : UInt64, x5 = H_pl S y2 →
          wp_X2_acceleration S y2 (fun r6 =>
            (vf_n64 (FP.dmul r6 (4593671619917905920 : UInt64))) ∧ (
              ∀ x8 : UInt64, x8 = FP.dmul r6 (4593671619917905920 : UInt64) →
                (vf_n64 (FP.dadd (H_sp S y2) x8)) ∧ (
                  ∀ x10 : UInt64, x10 = FP.dadd (H_sp S y2) x8 →
                    ((¬ dL x10 FP.dconst0 →
                      ∀ S12 : HS, S12 = Hs_sp S (vf_upd (H_sp S) y2 x10) →
                        (y2 ∈ H_L S12) ∧ (
                          (vf_n64 (FP.dmul (H_sp S12 y2) (4593671619917905920 : UInt64))) ∧ (
                            ∀ x15 : UInt64, x15 = FP.dmul (H_sp S12 y2) (4593671619917905920 : UInt64) →
                              (vf_n64 (FP.dadd x5 x15)) ∧ (
                                ∀ x17 : UInt64, x17 = FP.dadd x5 x15 →
                                  ∀ S18 : HS, S18 = Hs_pl S12 (vf_upd (H_pl S12) y2 x17) →
                                    wp_X2_passPoints y2 x5 S18 (fun S19 =>
                                      rec (x1 + (1)) S19
                                    )
                              )
                          )
                        )
                    ) ∧
                    (dL x10 FP.dconst0 →
                      ∀ x20 : UInt64, x20 = FP.dconst0 →
                        ∀ S21 : HS, S21 = Hs_sp S (vf_upd (H_sp S) y2 x20) →
                          (y2 ∈ H_L S21) ∧ (
                            (vf_n64 (FP.dmul (H_sp S21 y2) (4593671619917905920 : UInt64))) ∧ (
                              ∀ x24 : UInt64, x24 = FP.dmul (H_sp S21 y2) (4593671619917905920 : UInt64) →
                                (vf_n64 (FP.dadd x5 x24)) ∧ (
                                  ∀ x26 : UInt64, x26 = FP.dadd x5 x24 →
                                    ∀ S27 : HS, S27 = Hs_pl S21 (vf_upd (H_pl S21) y2 x26) →
                                      wp_X2_passPoints y2 x5 S27 (fun S28 =>
                                        rec (x1 + (1)) S28
                                      )
                                )
                            )
                          )
                    ))
                )
            )
          )
      )
    )
  ))
def wl_X2_rollAll_2  (post : HS → Prop) : Nat → Int32 → HS → Prop
  | 0 => fun _ _ => False
  | n + 1 => wb_X2_rollAll_2  post (wl_X2_rollAll_2  post n)
def wp_X2_rollAll  (S : HS) (post : HS → Prop) : Prop :=
  ∃ n, wl_X2_rollAll_2  post n (0 : Int32) S
set_option maxHeartbeats 4000000 in
set_option maxRecDepth 100000 in
theorem lp_X2_rollAll_2 {l : Launch} {G : GT} {Z : State} {ws0 : va_W} {E0 : Nat} {ad : Nat → Nat} {p : Program} {e : Env} {s : State} {m : MethodId} {args : Array Value} {below : List Frame} {meth : Method} {c : Code} (C : Cx G Z ws0 p s m args meth c RX2 cX2_rollAll 7 none) {post : HS → Prop} : ∀ (n : Nat) (x1 : Int32) (S : HS) (H : Heap) (locs : List Loc) (ls : Array Slot), wl_X2_rollAll_2  post n x1 S → Hp G ws0 s H locs (wH G E0 ad S) → lv_has ls 7 [(0, .ref (ad 0)), (1, .int x1)] → W p l e (rmz 4 95) s m args below meth c H locs 0 0 (QQ G Z ws0 below s args (PV (wH G E0 ad) post) (rmz 4 95)) (F0 m 2 ls []) := by
  have hx := C.hx
  have hb := C.hb
  have hZ := C.hZ
  intro n
  induction n with
  | zero =>
    intro x1 S H locs ls h
    exact False.elim h
  | succ n ih =>
    intro x1 S H locs ls h hp hl
    have h : wb_X2_rollAll_2  post (wl_X2_rollAll_2  post n) x1 S := h
    unfold wb_X2_rollAll_2 at h
    generalize hrec : wl_X2_rollAll_2  post n = rec at h ih
    refine lv_iload_n hx hb dX2_rollAll_2 rfl (lv_at hl 1 rfl) ?_
    refine lv_aload_n hx hb dX2_rollAll_3 rfl (lv_at hl 0 rfl) ?_
    refine gH_rolling C hp dX2_rollAll_4 ?_
    refine r_callV (q0 := 4) (ci := 4) (rest := [.int x1]) (c_al_size (k := 4) C.hZ rfl) C hp mf_Jx4a65c_size_8abf5 km_X2_101 hl.1 dX2_rollAll_7 rfl rfl ⟨lb rfl, lb rfl, lb rfl, lb rfl⟩ rfl rfl (lb rfl) (fun v w1 H locs hv hp => ?_)
    obtain ⟨rfl, rfl⟩ := hv
    refine W.eq (g2 := F0 m 10 ls [.int (H_rs S), .int x1]) rfl ?_
    refine lv_icmp_ge (tgt := 89) hx hb dX2_rollAll_10 (by decide) (fun q1 => ?_) (fun q1 => ?_)
    · have h := h.1 q1
      exact r_vret C hp dX2_rollAll_89 ⟨_, rfl, rfl, h⟩
    · have h := h.2 q1
      refine lv_aload_n hx hb dX2_rollAll_13 rfl (lv_at hl 0 rfl) ?_
      refine gH_rolling C hp dX2_rollAll_14 ?_
      refine lv_iload_n hx hb dX2_rollAll_17 rfl (lv_at hl 1 rfl) ?_
      obtain ⟨y2, g3, h⟩ := h
      refine r_callV (q0 := 4) (ci := 4) (rest := []) (c_getR (ad := ad) (S := S) C.hZ g3) C hp mf_Jx4a65c_get_915e3 km_X2_208 hl.1 dX2_rollAll_18 rfl rfl ⟨lb rfl, lb rfl, lb rfl, lb rfl⟩ rfl rfl (lb rfl) (fun v w1 H locs hv hp => ?_)
      obtain ⟨rfl, rfl⟩ := hv
      refine W.eq (g2 := F0 m 21 ls [.ref y2]) rfl ?_
      obtain ⟨g4, h⟩ := h
      refine cast_cut (index := 0) C hp dX2_rollAll_21 g4 ?_
      refine lv_astore_n (lv' := [(2, .ref y2), (0, .ref (ad 0)), (1, .int x1)]) hx hb dX2_rollAll_24 rfl hl (by decide) rfl (fun ls hl => ?_)
      refine lv_aload_n hx hb dX2_rollAll_25 rfl (lv_at hl 0 rfl) ?_
      refine gC2_place C hp dX2_rollAll_26 g4 ?_
      refine lv_topd (fun x5 ex5 => ?_)
      have h := h x5 ex5
      refine lv_dstore_n (lv' := [(3, .double x5), (2, .ref y2), (0, .ref (ad 0)), (1, .int x1)]) hx hb dX2_rollAll_29 rfl hl (by decide) rfl (fun ls hl => ?_)
      refine lv_aload_n hx hb dX2_rollAll_30 rfl (lv_at hl 1 rfl) ?_
      refine gC2_speed C hp dX2_rollAll_31 g4 ?_
      refine lv_aload_n hx hb dX2_rollAll_34 rfl (lv_at hl 2 rfl) ?_
      refine lv_aload_n hx hb dX2_rollAll_35 rfl (lv_at hl 1 rfl) ?_
      refine r_callV (q0 := 0) (ci := 2) (rest := [.double (H_sp S y2)]) (c_X2_acceleration (E0 := E0) (ad := ad) C.hZ h) C hp mf_X2_acceleration km_X2_237 hl.1 dX2_rollAll_36 rfl rfl ⟨lb rfl, lb rfl, lb rfl, lb rfl⟩ rfl rfl (lb rfl) (fun v w1 H locs hv hp => ?_)
      obtain ⟨r6, rfl, rfl, h⟩ := hv
      refine W.eq (g2 := F0 m 39 ls [.double r6, .double (H_sp S y2)]) rfl ?_
      refine lv_ldc2d hx hb C.hown (C.hts _ kd_X2_241) dX2_rollAll_39 ?_
      obtain ⟨g7, h⟩ := h
      refine lv_dmul hx hb dX2_rollAll_42 g7 ?_
      refine lv_topd (fun x8 ex8 => ?_)
      have h := h x8 ex8
      obtain ⟨g9, h⟩ := h
      refine lv_dadd hx hb dX2_rollAll_43 g9 ?_
      refine lv_topd (fun x10 ex10 => ?_)
      have h := h x10 ex10
      refine lv_dstore (lv' := [(5, .double x10), (3, .double x5), (2, .ref y2), (0, .ref (ad 0)), (1, .int x1)]) hx hb dX2_rollAll_44 hl (by decide) rfl (fun ls hl => ?_)
      refine lv_aload_n hx hb dX2_rollAll_46 rfl (lv_at hl 2 rfl) ?_
      refine lv_dload hx hb dX2_rollAll_47 (lv_at hl 0 rfl) ?_
      refine lv_dconst0 hx hb dX2_rollAll_49 ?_
      refine dcg_ge (tgt := 58) hx hb dX2_rollAll_50 dX2_rollAll_51 (by decide) (fun q11 => ?_) (fun q11 => ?_)
      · have h := h.1 q11
        refine lv_dload hx hb dX2_rollAll_58 (lv_at hl 0 rfl) ?_
        refine pC2_speed C hp dX2_rollAll_60 g4 (fun H locs hp => ?_)
        obtain ⟨S12, eS12⟩ : ∃ z : HS, z = Hs_sp S (vf_upd (H_sp S) y2 x10) := ⟨_, rfl⟩
        rw [← eS12] at hp
        have h := h S12 eS12
        refine lv_aload_n hx hb dX2_rollAll_63 rfl (lv_at hl 2 rfl) ?_
        refine lv_dload_n hx hb dX2_rollAll_64 rfl (lv_at hl 1 rfl) ?_
        refine lv_aload_n hx hb dX2_rollAll_65 rfl (lv_at hl 2 rfl) ?_
        obtain ⟨g13, h⟩ := h
        refine gC2_speed C hp dX2_rollAll_66 g13 ?_
        refine lv_ldc2d hx hb C.hown (C.hts _ kd_X2_241) dX2_rollAll_69 ?_
        obtain ⟨g14, h⟩ := h
        refine lv_dmul hx hb dX2_rollAll_72 g14 ?_
        refine lv_topd (fun x15 ex15 => ?_)
        have h := h x15 ex15
        obtain ⟨g16, h⟩ := h
        refine lv_dadd hx hb dX2_rollAll_73 g16 ?_
        refine lv_topd (fun x17 ex17 => ?_)
        have h := h x17 ex17
        refine pC2_place C hp dX2_rollAll_74 g13 (fun H locs hp => ?_)
        obtain ⟨S18, eS18⟩ : ∃ z : HS, z = Hs_pl S12 (vf_upd (H_pl S12) y2 x17) := ⟨_, rfl⟩
        rw [← eS18] at hp
        have h := h S18 eS18
        refine lv_aload_n hx hb dX2_rollAll_77 rfl (lv_at hl 3 rfl) ?_
        refine lv_aload_n hx hb dX2_rollAll_78 rfl (lv_at hl 2 rfl) ?_
        refine lv_dload_n hx hb dX2_rollAll_79 rfl (lv_at hl 1 rfl) ?_
        refine r_callV (q0 := 0) (ci := 2) (rest := []) (c_X2_passPoints (E0 := E0) (ad := ad) C.hZ h) C hp mf_X2_passPoints km_X2_243 hl.1 dX2_rollAll_80 rfl rfl ⟨lb rfl, lb rfl, lb rfl, lb rfl⟩ rfl rfl (lb rfl) (fun v w1 H locs hv hp => ?_)
        obtain ⟨S19, rfl, rfl, h⟩ := hv
        refine W.eq (g2 := F0 m 83 ls []) rfl ?_
        refine lv_iinc (v := x1 + (1)) (lv' := [(1, .int (x1 + (1))), (5, .double x10), (3, .double x5), (2, .ref y2), (0, .ref (ad 0))]) hx hb dX2_rollAll_83 hl (k := 4) rfl rfl (by decide) rfl (fun ls hl => ?_)
        refine lv_goto (tgt := 2) hx hb dX2_rollAll_86 (by decide) ?_
        exact ih _ _ _ _ _ h hp (lv_sub hl [4, 0] rfl)
      · have h := h.2 q11
        refine lv_dconst0 hx hb dX2_rollAll_54 ?_
        refine lv_goto (tgt := 60) hx hb dX2_rollAll_55 (by decide) ?_
        refine lv_topd (fun x20 ex20 => ?_)
        have h := h x20 ex20
        refine pC2_speed C hp dX2_rollAll_60 g4 (fun H locs hp => ?_)
        obtain ⟨S21, eS21⟩ : ∃ z : HS, z = Hs_sp S (vf_upd (H_sp S) y2 x20) := ⟨_, rfl⟩
        rw [← eS21] at hp
        have h := h S21 eS21
        refine lv_aload_n hx hb dX2_rollAll_63 rfl (lv_at hl 2 rfl) ?_
        refine lv_dload_n hx hb dX2_rollAll_64 rfl (lv_at hl 1 rfl) ?_
        refine lv_aload_n hx hb dX2_rollAll_65 rfl (lv_at hl 2 rfl) ?_
        obtain ⟨g22, h⟩ := h
        refine gC2_speed C hp dX2_rollAll_66 g22 ?_
        refine lv_ldc2d hx hb C.hown (C.hts _ kd_X2_241) dX2_rollAll_69 ?_
        obtain ⟨g23, h⟩ := h
        refine lv_dmul hx hb dX2_rollAll_72 g23 ?_
        refine lv_topd (fun x24 ex24 => ?_)
        have h := h x24 ex24
        obtain ⟨g25, h⟩ := h
        refine lv_dadd hx hb dX2_rollAll_73 g25 ?_
        refine lv_topd (fun x26 ex26 => ?_)
        have h := h x26 ex26
        refine pC2_place C hp dX2_rollAll_74 g22 (fun H locs hp => ?_)
        obtain ⟨S27, eS27⟩ : ∃ z : HS, z = Hs_pl S21 (vf_upd (H_pl S21) y2 x26) := ⟨_, rfl⟩
        rw [← eS27] at hp
        have h := h S27 eS27
        refine lv_aload_n hx hb dX2_rollAll_77 rfl (lv_at hl 3 rfl) ?_
        refine lv_aload_n hx hb dX2_rollAll_78 rfl (lv_at hl 2 rfl) ?_
        refine lv_dload_n hx hb dX2_rollAll_79 rfl (lv_at hl 1 rfl) ?_
        refine r_callV (q0 := 0) (ci := 2) (rest := []) (c_X2_passPoints (E0 := E0) (ad := ad) C.hZ h) C hp mf_X2_passPoints km_X2_243 hl.1 dX2_rollAll_80 rfl rfl ⟨lb rfl, lb rfl, lb rfl, lb rfl⟩ rfl rfl (lb rfl) (fun v w1 H locs hv hp => ?_)
        obtain ⟨S28, rfl, rfl, h⟩ := hv
        refine W.eq (g2 := F0 m 83 ls []) rfl ?_
        refine lv_iinc (v := x1 + (1)) (lv' := [(1, .int (x1 + (1))), (5, .double x10), (3, .double x5), (2, .ref y2), (0, .ref (ad 0))]) hx hb dX2_rollAll_83 hl (k := 4) rfl rfl (by decide) rfl (fun ls hl => ?_)
        refine lv_goto (tgt := 2) hx hb dX2_rollAll_86 (by decide) ?_
        exact ih _ _ _ _ _ h hp (lv_sub hl [4, 0] rfl)
set_option maxHeartbeats 4000000 in
set_option maxRecDepth 100000 in
theorem c_X2_rollAll {l : Launch} {G : GT} {Z : State} {E0 : Nat} {ad : Nat → Nat} (hZ : ZOK G Z) {S : HS} {post : HS → Prop} (h : wp_X2_rollAll  S post) : CM l G Z yX2_rollAll cX2_rollAll 7 none (rmz 4 95) [.ref (ad 0)] (wH G E0 ad S) (PV (wH G E0 ad) post) := by
  refine CM_ofW hZ (by decide +kernel) (lb rfl) (fun p e s m below meth c ls C hp hl hnm => ?_)
  have C : Cx G Z _ p s m _ meth c RX2 cX2_rollAll 7 none := C
  have hl : lv_has ls 7 [(0, .ref (ad 0))] := hl
  have hx := C.hx
  have hb := C.hb
  unfold wp_X2_rollAll at h
  refine lv_iconst (v := 0) hx hb dX2_rollAll_0 (by decide) ?_
  refine lv_istore_n (lv' := [(1, .int (0 : Int32)), (0, .ref (ad 0))]) hx hb dX2_rollAll_1 rfl hl (by decide) rfl (fun ls hl => ?_)
  obtain ⟨n, h⟩ := h
  exact lp_X2_rollAll_2 C n _ _ _ _ _ h hp (lv_sub hl [1, 0] rfl)
theorem mf_X2_rollAll : MFv yX2_rollAll cX2_rollAll 7 none 0 := ⟨kc_X2_rollAll, kn_X2_rollAll, kv_X2_rollAll, ki_X2, by decide +kernel⟩

/-! X2_aheadOf -/
def wb_X2_aheadOf_4 (S : HS) (a0 : Int32) (a1 : Nat) (post : Option Nat → Prop) (rec : Int32 → Prop) (x3 : Int32) : Prop :=
  ((x3 < 0 →
    post none
  ) ∧
  (¬ x3 < 0 →
    ∃ y2 : Nat, lget (H_ra S) (H_rs S) x3 y2 ∧ (
      (y2 ∈ H_L S) ∧ (
        (a1 ∈ H_L S) ∧ (
          wp_X2_isOneWay (H_nd S a1) (H_nd S y2) (fun r6 =>
            ((r6 = 0 →
              rec (x3 + (-1))
            ) ∧
            (¬ r6 = 0 →
              post (some y2)
            ))
          )
        )
      )
    )
  ))
def wl_X2_aheadOf_4 (S : HS) (a0 : Int32) (a1 : Nat) (post : Option Nat → Prop) : Nat → Int32 → Prop
  | 0 => fun _ => False
  | n + 1 => wb_X2_aheadOf_4 S a0 a1 post (wl_X2_aheadOf_4 S a0 a1 post n)
def wp_X2_aheadOf (S : HS) (a0 : Int32) (a1 : Nat) (post : Option Nat → Prop) : Prop :=
  ∀ x8 : Int32, x8 = a0 - (1 : Int32) →
    ∃ n, wl_X2_aheadOf_4 S a0 a1 post n x8
set_option maxHeartbeats 4000000 in
set_option maxRecDepth 100000 in
theorem lp_X2_aheadOf_4 {l : Launch} {G : GT} {Z : State} {ws0 : va_W} {E0 : Nat} {ad : Nat → Nat} {p : Program} {e : Env} {s : State} {m : MethodId} {args : Array Value} {below : List Frame} {meth : Method} {c : Code} {S : HS} {a0 : Int32} {a1 : Nat} (C : Cx G Z ws0 p s m args meth c RX2 cX2_aheadOf 5 (some (.object "HumpYard$Cut"))) {post : Option Nat → Prop} : ∀ (n : Nat) (x3 : Int32) (H : Heap) (locs : List Loc) (ls : Array Slot), wl_X2_aheadOf_4 S a0 a1 post n x3 → Hp G ws0 s H locs (wH G E0 ad S) → lv_has ls 5 [(0, .ref (ad 0)), (2, .ref a1), (3, .int x3)] → W p l e (rmz 3 64) s m args below meth c H locs 0 0 (QQ G Z ws0 below s args (SR (wH G E0 ad S) post) (rmz 3 64)) (F0 m 4 ls []) := by
  have hx := C.hx
  have hb := C.hb
  have hZ := C.hZ
  intro n
  induction n with
  | zero =>
    intro x3 H locs ls h
    exact False.elim h
  | succ n ih =>
    intro x3 H locs ls h hp hl
    have h : wb_X2_aheadOf_4 S a0 a1 post (wl_X2_aheadOf_4 S a0 a1 post n) x3 := h
    unfold wb_X2_aheadOf_4 at h
    generalize hrec : wl_X2_aheadOf_4 S a0 a1 post n = rec at h ih
    refine lv_iload_n hx hb dX2_aheadOf_4 rfl (lv_at hl 2 rfl) ?_
    refine lv_if_lt (tgt := 45) hx hb dX2_aheadOf_5 (by decide) (fun q1 => ?_) (fun q1 => ?_)
    · have h := h.1 q1
      refine lv_null hx hb dX2_aheadOf_45 ?_
      exact r_aret C hp (Or.inl ⟨_, rfl⟩) (Or.inl rfl) dX2_aheadOf_46 ⟨none, rfl, rfl, h⟩
    · have h := h.2 q1
      refine lv_aload_n hx hb dX2_aheadOf_8 rfl (lv_at hl 0 rfl) ?_
      refine gH_rolling C hp dX2_aheadOf_9 ?_
      refine lv_iload_n hx hb dX2_aheadOf_12 rfl (lv_at hl 2 rfl) ?_
      obtain ⟨y2, g3, h⟩ := h
      refine r_callV (q0 := 4) (ci := 4) (rest := []) (c_getR (ad := ad) (S := S) C.hZ g3) C hp mf_Jx4a65c_get_915e3 km_X2_208 hl.1 dX2_aheadOf_13 rfl rfl ⟨lb rfl, lb rfl, lb rfl, lb rfl⟩ rfl rfl (lb rfl) (fun v w1 H locs hv hp => ?_)
      obtain ⟨rfl, rfl⟩ := hv
      refine W.eq (g2 := F0 m 16 ls [.ref y2]) rfl ?_
      obtain ⟨g4, h⟩ := h
      refine cast_cut (index := 0) C hp dX2_aheadOf_16 g4 ?_
      refine lv_astore (lv' := [(4, .ref y2), (0, .ref (ad 0)), (2, .ref a1), (3, .int x3)]) hx hb dX2_aheadOf_19 hl (by decide) rfl (fun ls hl => ?_)
      refine lv_aload_n hx hb dX2_aheadOf_21 rfl (lv_at hl 2 rfl) ?_
      obtain ⟨g5, h⟩ := h
      refine gC2_node C hp dX2_aheadOf_22 g5 ?_
      refine lv_aload hx hb dX2_aheadOf_25 (lv_at hl 0 rfl) ?_
      refine gC2_node C hp dX2_aheadOf_27 g4 ?_
      refine r_callS (rest := []) (c_X2_isOneWay C.hZ h) C hp mf_X2_isOneWay km_X2_231 hl.1 dX2_aheadOf_30 ⟨lb rfl, lb rfl, lb rfl, lb rfl⟩ rfl rfl (lb rfl) (fun v w1 H locs hv hp => ?_)
      obtain ⟨r6, rfl, rfl, h⟩ := hv
      refine W.eq (g2 := F0 m 33 ls [.int r6]) rfl ?_
      refine lv_if_eq (tgt := 39) hx hb dX2_aheadOf_33 (by decide) (fun q7 => ?_) (fun q7 => ?_)
      · have h := h.1 q7
        refine lv_iinc (v := x3 + (-1)) (lv' := [(3, .int (x3 + (-1))), (4, .ref y2), (0, .ref (ad 0)), (2, .ref a1)]) hx hb dX2_aheadOf_39 hl (k := 3) rfl rfl (by decide) rfl (fun ls hl => ?_)
        refine lv_goto (tgt := 4) hx hb dX2_aheadOf_42 (by decide) ?_
        exact ih _ _ _ _ h hp (lv_sub hl [2, 3, 0] rfl)
      · have h := h.2 q7
        refine lv_aload hx hb dX2_aheadOf_36 (lv_at hl 0 rfl) ?_
        exact r_aret C hp (Or.inl ⟨_, rfl⟩) (Or.inr ⟨_, rfl⟩) dX2_aheadOf_38 ⟨some y2, rfl, rfl, h⟩
set_option maxHeartbeats 4000000 in
set_option maxRecDepth 100000 in
theorem c_X2_aheadOf {l : Launch} {G : GT} {Z : State} {E0 : Nat} {ad : Nat → Nat} (hZ : ZOK G Z) {S : HS} {a0 : Int32} {a1 : Nat} {post : Option Nat → Prop} (h : wp_X2_aheadOf S a0 a1 post) : CM l G Z yX2_aheadOf cX2_aheadOf 5 (some (.object "HumpYard$Cut")) (rmz 3 64) [.ref (ad 0), .int a0, .ref a1] (wH G E0 ad S) (SR (wH G E0 ad S) post) := by
  refine CM_ofW hZ (by decide +kernel) (lb rfl) (fun p e s m below meth c ls C hp hl hnm => ?_)
  have C : Cx G Z _ p s m _ meth c RX2 cX2_aheadOf 5 (some (.object "HumpYard$Cut")) := C
  have hl : lv_has ls 5 [(0, .ref (ad 0)), (1, .int a0), (2, .ref a1)] := hl
  have hx := C.hx
  have hb := C.hb
  unfold wp_X2_aheadOf at h
  refine lv_iload_n hx hb dX2_aheadOf_0 rfl (lv_at hl 1 rfl) ?_
  refine lv_iconst (v := 1) hx hb dX2_aheadOf_1 (by decide) ?_
  refine lv_isub hx hb dX2_aheadOf_2 ?_
  refine lv_topi (fun x8 ex8 => ?_)
  have h := h x8 ex8
  refine lv_istore_n (lv' := [(3, .int x8), (0, .ref (ad 0)), (1, .int a0), (2, .ref a1)]) hx hb dX2_aheadOf_3 rfl hl (by decide) rfl (fun ls hl => ?_)
  obtain ⟨n, h⟩ := h
  exact lp_X2_aheadOf_4 C n _ _ _ _ h hp (lv_sub hl [1, 3, 0] rfl)
theorem mf_X2_aheadOf : MFv yX2_aheadOf cX2_aheadOf 5 (some (.object "HumpYard$Cut")) 2 := ⟨kc_X2_aheadOf, kn_X2_aheadOf, kv_X2_aheadOf, ki_X2, by decide +kernel⟩

/-! X2_catchUp -/
def wp_X2_catchUp (a0 : Nat) (a1 : Nat) (S : HS) (post : HS → Prop) : Prop :=
  (a0 ∈ H_L S) ∧ (
    (vf_n64 (FP.dmul (H_mass S a0) (H_sp S a0))) ∧ (
      ∀ x3 : UInt64, x3 = FP.dmul (H_mass S a0) (H_sp S a0) →
        (a1 ∈ H_L S) ∧ (
          (vf_n64 (FP.dmul (H_mass S a1) (H_sp S a1))) ∧ (
            ∀ x6 : UInt64, x6 = FP.dmul (H_mass S a1) (H_sp S a1) →
              (vf_n64 (FP.dadd x3 x6)) ∧ (
                ∀ x8 : UInt64, x8 = FP.dadd x3 x6 →
                  (vf_n64 (FP.dadd (H_mass S a0) (H_mass S a1))) ∧ (
                    ∀ x10 : UInt64, x10 = FP.dadd (H_mass S a0) (H_mass S a1) →
                      (vf_n64 (FP.ddiv x8 x10)) ∧ (
                        ∀ x12 : UInt64, x12 = FP.ddiv x8 x10 →
                          wp_X0_rear a1 S (fun r14 =>
                            ∀ S15 : HS, S15 = Hs_pl S (vf_upd (H_pl S) a0 r14) →
                              (a0 ∈ H_L S15) ∧ (
                                ∀ S17 : HS, S17 = Hs_sp S15 (vf_upd (H_sp S15) a0 x12) →
                                  (a1 ∈ H_L S17) ∧ (
                                    ∀ S19 : HS, S19 = Hs_sp S17 (vf_upd (H_sp S17) a1 x12) →
                                      (a0 ∈ H_L S19) ∧ (
                                        (a1 ∈ H_L S19) ∧ (
                                          (((H_cb S19 a0) = (H_num S19 a1) →
                                            post S19
                                          ) ∧
                                          (¬ (H_cb S19 a0) = (H_num S19 a1) →
                                            ∀ x23 : Int32, x23 = H_num S19 a1 →
                                              ∀ S24 : HS, S24 = Hs_cb S19 (upd (H_cb S19) a0 x23) →
                                                (a0 ∈ H_L S24) ∧ (
                                                  (a1 ∈ H_L S24) ∧ (
                                                    wp_X1_note (1 : Int32) (H_num S24 a0) (H_num S24 a1) (H_ticks S24) S24 (fun S27 =>
                                                      post S27
                                                    )
                                                  )
                                                )
                                          ))
                                        )
                                      )
                                  )
                              )
                          )
                      )
                  )
              )
          )
        )
    )
  )
set_option maxHeartbeats 4000000 in
set_option maxRecDepth 100000 in
theorem c_X2_catchUp {l : Launch} {G : GT} {Z : State} {E0 : Nat} {ad : Nat → Nat} (hZ : ZOK G Z) {a0 : Nat} {a1 : Nat} {S : HS} {post : HS → Prop} (h : wp_X2_catchUp a0 a1 S post) : CM l G Z yX2_catchUp cX2_catchUp 5 none (rmz 2 47) [.ref (ad 0), .ref a0, .ref a1] (wH G E0 ad S) (PV (wH G E0 ad) post) := by
  refine CM_ofW hZ (by decide +kernel) (lb rfl) (fun p e s m below meth c ls C hp hl hnm => ?_)
  have C : Cx G Z _ p s m _ meth c RX2 cX2_catchUp 5 none := C
  have hl : lv_has ls 5 [(0, .ref (ad 0)), (1, .ref a0), (2, .ref a1)] := hl
  have hx := C.hx
  have hb := C.hb
  unfold wp_X2_catchUp at h
  refine lv_aload_n hx hb dX2_catchUp_0 rfl (lv_at hl 1 rfl) ?_
  obtain ⟨g1, h⟩ := h
  refine gC2_mass C hp dX2_catchUp_1 g1 ?_
  refine lv_aload_n hx hb dX2_catchUp_4 rfl (lv_at hl 1 rfl) ?_
  refine gC2_speed C hp dX2_catchUp_5 g1 ?_
  obtain ⟨g2, h⟩ := h
  refine lv_dmul hx hb dX2_catchUp_8 g2 ?_
  refine lv_topd (fun x3 ex3 => ?_)
  have h := h x3 ex3
  refine lv_aload_n hx hb dX2_catchUp_9 rfl (lv_at hl 2 rfl) ?_
  obtain ⟨g4, h⟩ := h
  refine gC2_mass C hp dX2_catchUp_10 g4 ?_
  refine lv_aload_n hx hb dX2_catchUp_13 rfl (lv_at hl 2 rfl) ?_
  refine gC2_speed C hp dX2_catchUp_14 g4 ?_
  obtain ⟨g5, h⟩ := h
  refine lv_dmul hx hb dX2_catchUp_17 g5 ?_
  refine lv_topd (fun x6 ex6 => ?_)
  have h := h x6 ex6
  obtain ⟨g7, h⟩ := h
  refine lv_dadd hx hb dX2_catchUp_18 g7 ?_
  refine lv_topd (fun x8 ex8 => ?_)
  have h := h x8 ex8
  refine lv_aload_n hx hb dX2_catchUp_19 rfl (lv_at hl 1 rfl) ?_
  refine gC2_mass C hp dX2_catchUp_20 g1 ?_
  refine lv_aload_n hx hb dX2_catchUp_23 rfl (lv_at hl 2 rfl) ?_
  refine gC2_mass C hp dX2_catchUp_24 g4 ?_
  obtain ⟨g9, h⟩ := h
  refine lv_dadd hx hb dX2_catchUp_27 g9 ?_
  refine lv_topd (fun x10 ex10 => ?_)
  have h := h x10 ex10
  obtain ⟨g11, h⟩ := h
  refine lv_ddiv hx hb dX2_catchUp_28 g11 ?_
  refine lv_topd (fun x12 ex12 => ?_)
  have h := h x12 ex12
  refine lv_dstore_n (lv' := [(3, .double x12), (0, .ref (ad 0)), (1, .ref a0), (2, .ref a1)]) hx hb dX2_catchUp_29 rfl hl (by decide) rfl (fun ls hl => ?_)
  refine lv_aload_n hx hb dX2_catchUp_30 rfl (lv_at hl 2 rfl) ?_
  refine lv_aload_n hx hb dX2_catchUp_31 rfl (lv_at hl 3 rfl) ?_
  obtain ⟨k13, hk13⟩ := va_pl_get (X := hX G E0 ad S) (f := cutE S) g4
  refine r_callV (q0 := k13) (ci := 0) (rest := [.ref a0]) (c_X0_rear (E0 := E0) (ad := ad) C.hZ h) C hp mf_X0_rear km_X2_225 hl.1 dX2_catchUp_32 hk13 rfl ⟨lb rfl, lb rfl, lb rfl, lb rfl⟩ rfl rfl (lb rfl) (fun v w1 H locs hv hp => ?_)
  obtain ⟨r14, rfl, rfl, h⟩ := hv
  refine W.eq (g2 := F0 m 35 ls [.double r14, .ref a0]) rfl ?_
  refine pC2_place C hp dX2_catchUp_35 g1 (fun H locs hp => ?_)
  obtain ⟨S15, eS15⟩ : ∃ z : HS, z = Hs_pl S (vf_upd (H_pl S) a0 r14) := ⟨_, rfl⟩
  rw [← eS15] at hp
  have h := h S15 eS15
  refine lv_aload_n hx hb dX2_catchUp_38 rfl (lv_at hl 2 rfl) ?_
  refine lv_dload_n hx hb dX2_catchUp_39 rfl (lv_at hl 0 rfl) ?_
  obtain ⟨g16, h⟩ := h
  refine pC2_speed C hp dX2_catchUp_40 g16 (fun H locs hp => ?_)
  obtain ⟨S17, eS17⟩ : ∃ z : HS, z = Hs_sp S15 (vf_upd (H_sp S15) a0 x12) := ⟨_, rfl⟩
  rw [← eS17] at hp
  have h := h S17 eS17
  refine lv_aload_n hx hb dX2_catchUp_43 rfl (lv_at hl 3 rfl) ?_
  refine lv_dload_n hx hb dX2_catchUp_44 rfl (lv_at hl 0 rfl) ?_
  obtain ⟨g18, h⟩ := h
  refine pC2_speed C hp dX2_catchUp_45 g18 (fun H locs hp => ?_)
  obtain ⟨S19, eS19⟩ : ∃ z : HS, z = Hs_sp S17 (vf_upd (H_sp S17) a1 x12) := ⟨_, rfl⟩
  rw [← eS19] at hp
  have h := h S19 eS19
  refine lv_aload_n hx hb dX2_catchUp_48 rfl (lv_at hl 2 rfl) ?_
  obtain ⟨g20, h⟩ := h
  refine gC2_caughtBy C hp dX2_catchUp_49 g20 ?_
  refine lv_aload_n hx hb dX2_catchUp_52 rfl (lv_at hl 3 rfl) ?_
  obtain ⟨g21, h⟩ := h
  refine gC2_number C hp dX2_catchUp_53 g21 ?_
  refine lv_icmp_eq (tgt := 87) hx hb dX2_catchUp_56 (by decide) (fun q22 => ?_) (fun q22 => ?_)
  · have h := h.1 q22
    exact r_vret C hp dX2_catchUp_87 ⟨_, rfl, rfl, h⟩
  · have h := h.2 q22
    refine lv_aload_n hx hb dX2_catchUp_59 rfl (lv_at hl 2 rfl) ?_
    refine lv_aload_n hx hb dX2_catchUp_60 rfl (lv_at hl 3 rfl) ?_
    refine gC2_number C hp dX2_catchUp_61 g21 ?_
    refine lv_topi (fun x23 ex23 => ?_)
    have h := h x23 ex23
    refine pC2_caughtBy C hp dX2_catchUp_64 g20 (fun H locs hp => ?_)
    obtain ⟨S24, eS24⟩ : ∃ z : HS, z = Hs_cb S19 (upd (H_cb S19) a0 x23) := ⟨_, rfl⟩
    rw [← eS24] at hp
    have h := h S24 eS24
    refine lv_aload_n hx hb dX2_catchUp_67 rfl (lv_at hl 1 rfl) ?_
    refine gH_events C hp dX2_catchUp_68 ?_
    refine lv_iconst (v := 1) hx hb dX2_catchUp_71 (by decide) ?_
    refine lv_aload_n hx hb dX2_catchUp_72 rfl (lv_at hl 2 rfl) ?_
    obtain ⟨g25, h⟩ := h
    refine gC2_number C hp dX2_catchUp_73 g25 ?_
    refine lv_aload_n hx hb dX2_catchUp_76 rfl (lv_at hl 3 rfl) ?_
    obtain ⟨g26, h⟩ := h
    refine gC2_number C hp dX2_catchUp_77 g26 ?_
    refine lv_aload_n hx hb dX2_catchUp_80 rfl (lv_at hl 1 rfl) ?_
    refine gH_ticks C hp dX2_catchUp_81 ?_
    refine r_callV (q0 := 1) (ci := 1) (rest := []) (c_X1_note (E0 := E0) (ad := ad) C.hZ h) C hp mf_X1_note km_X2_288 hl.1 dX2_catchUp_84 rfl rfl ⟨lb rfl, lb rfl, lb rfl, lb rfl⟩ rfl rfl (lb rfl) (fun v w1 H locs hv hp => ?_)
    obtain ⟨S27, rfl, rfl, h⟩ := hv
    refine W.eq (g2 := F0 m 87 ls []) rfl ?_
    exact r_vret C hp dX2_catchUp_87 ⟨_, rfl, rfl, h⟩
theorem mf_X2_catchUp : MFv yX2_catchUp cX2_catchUp 5 none 2 := ⟨kc_X2_catchUp, kn_X2_catchUp, kv_X2_catchUp, ki_X2, by decide +kernel⟩

/-! X2_catchAll -/
def wb_X2_catchAll_2  (post : HS → Prop) (rec : Int32 → HS → Prop) (x1 : Int32) (S : HS) : Prop :=
  (((H_rs S) ≤ x1 →
    post S
  ) ∧
  (¬ (H_rs S) ≤ x1 →
    ∃ y2 : Nat, lget (H_ra S) (H_rs S) x1 y2 ∧ (
      (y2 ∈ H_L S) ∧ (
        wp_X2_aheadOf S x1 y2 (fun r5 =>
          ((r5 = none →
            rec (x1 + (1)) S
          ) ∧
          (∀ u6 : Nat, r5 = some u6 →
            (u6 ∈ H_L S) ∧ (
              wp_X0_rear u6 S (fun r9 =>
                ((¬ (dG (H_pl S y2) r9 ∨ dE (H_pl S y2) r9) →
                  rec (x1 + (1)) S
                ) ∧
                ((dG (H_pl S y2) r9 ∨ dE (H_pl S y2) r9) →
                  wp_X2_catchUp y2 u6 S (fun S11 =>
                    rec (x1 + (1)) S11
                  )
                ))
              )
            )
          ))
        )
      )
    )
  ))
def wl_X2_catchAll_2  (post : HS → Prop) : Nat → Int32 → HS → Prop
  | 0 => fun _ _ => False
  | n + 1 => wb_X2_catchAll_2  post (wl_X2_catchAll_2  post n)
def wp_X2_catchAll  (S : HS) (post : HS → Prop) : Prop :=
  ∃ n, wl_X2_catchAll_2  post n (0 : Int32) S
set_option maxHeartbeats 4000000 in
set_option maxRecDepth 100000 in
theorem lp_X2_catchAll_2 {l : Launch} {G : GT} {Z : State} {ws0 : va_W} {E0 : Nat} {ad : Nat → Nat} {p : Program} {e : Env} {s : State} {m : MethodId} {args : Array Value} {below : List Frame} {meth : Method} {c : Code} (C : Cx G Z ws0 p s m args meth c RX2 cX2_catchAll 4 none) {post : HS → Prop} : ∀ (n : Nat) (x1 : Int32) (S : HS) (H : Heap) (locs : List Loc) (ls : Array Slot), wl_X2_catchAll_2  post n x1 S → Hp G ws0 s H locs (wH G E0 ad S) → lv_has ls 4 [(0, .ref (ad 0)), (1, .int x1)] → W p l e (rmz 4 88) s m args below meth c H locs 0 0 (QQ G Z ws0 below s args (PV (wH G E0 ad) post) (rmz 4 88)) (F0 m 2 ls []) := by
  have hx := C.hx
  have hb := C.hb
  have hZ := C.hZ
  intro n
  induction n with
  | zero =>
    intro x1 S H locs ls h
    exact False.elim h
  | succ n ih =>
    intro x1 S H locs ls h hp hl
    have h : wb_X2_catchAll_2  post (wl_X2_catchAll_2  post n) x1 S := h
    unfold wb_X2_catchAll_2 at h
    generalize hrec : wl_X2_catchAll_2  post n = rec at h ih
    refine lv_iload_n hx hb dX2_catchAll_2 rfl (lv_at hl 1 rfl) ?_
    refine lv_aload_n hx hb dX2_catchAll_3 rfl (lv_at hl 0 rfl) ?_
    refine gH_rolling C hp dX2_catchAll_4 ?_
    refine r_callV (q0 := 4) (ci := 4) (rest := [.int x1]) (c_al_size (k := 4) C.hZ rfl) C hp mf_Jx4a65c_size_8abf5 km_X2_101 hl.1 dX2_catchAll_7 rfl rfl ⟨lb rfl, lb rfl, lb rfl, lb rfl⟩ rfl rfl (lb rfl) (fun v w1 H locs hv hp => ?_)
    obtain ⟨rfl, rfl⟩ := hv
    refine W.eq (g2 := F0 m 10 ls [.int (H_rs S), .int x1]) rfl ?_
    refine lv_icmp_ge (tgt := 60) hx hb dX2_catchAll_10 (by decide) (fun q1 => ?_) (fun q1 => ?_)
    · have h := h.1 q1
      exact r_vret C hp dX2_catchAll_60 ⟨_, rfl, rfl, h⟩
    · have h := h.2 q1
      refine lv_aload_n hx hb dX2_catchAll_13 rfl (lv_at hl 0 rfl) ?_
      refine gH_rolling C hp dX2_catchAll_14 ?_
      refine lv_iload_n hx hb dX2_catchAll_17 rfl (lv_at hl 1 rfl) ?_
      obtain ⟨y2, g3, h⟩ := h
      refine r_callV (q0 := 4) (ci := 4) (rest := []) (c_getR (ad := ad) (S := S) C.hZ g3) C hp mf_Jx4a65c_get_915e3 km_X2_208 hl.1 dX2_catchAll_18 rfl rfl ⟨lb rfl, lb rfl, lb rfl, lb rfl⟩ rfl rfl (lb rfl) (fun v w1 H locs hv hp => ?_)
      obtain ⟨rfl, rfl⟩ := hv
      refine W.eq (g2 := F0 m 21 ls [.ref y2]) rfl ?_
      obtain ⟨g4, h⟩ := h
      refine cast_cut (index := 0) C hp dX2_catchAll_21 g4 ?_
      refine lv_astore_n (lv' := [(2, .ref y2), (0, .ref (ad 0)), (1, .int x1)]) hx hb dX2_catchAll_24 rfl hl (by decide) rfl (fun ls hl => ?_)
      refine lv_aload_n hx hb dX2_catchAll_25 rfl (lv_at hl 1 rfl) ?_
      refine lv_iload_n hx hb dX2_catchAll_26 rfl (lv_at hl 2 rfl) ?_
      refine lv_aload_n hx hb dX2_catchAll_27 rfl (lv_at hl 0 rfl) ?_
      refine r_callV (q0 := 0) (ci := 2) (rest := []) (c_X2_aheadOf (E0 := E0) (ad := ad) C.hZ h) C hp mf_X2_aheadOf km_X2_295 hl.1 dX2_catchAll_28 rfl rfl ⟨lb rfl, lb rfl, lb rfl, lb rfl⟩ rfl rfl (lb rfl) (fun v w1 H locs hv hp => ?_)
      obtain ⟨r5, rfl, rfl, h⟩ := hv
      refine W.eq (g2 := F0 m 31 ls [va_rf r5]) rfl ?_
      refine rq_astore_n (lv' := [(3, va_rf r5), (2, .ref y2), (0, .ref (ad 0)), (1, .int x1)]) hx hb dX2_catchAll_31 rfl hl (by decide) rfl (fun ls hl => ?_)
      refine rq_aload_n hx hb dX2_catchAll_32 rfl (lv_at hl 0 rfl) ?_
      rcases r5 with _ | u6
      · have h := h.1 rfl
        refine lv_ifnullN (tgt := 54) hx hb dX2_catchAll_33 (by decide) ?_
        refine lv_iinc (v := x1 + (1)) (lv' := [(1, .int (x1 + (1))), (3, .null), (2, .ref y2), (0, .ref (ad 0))]) hx hb dX2_catchAll_54 hl (k := 3) rfl rfl (by decide) rfl (fun ls hl => ?_)
        refine lv_goto (tgt := 2) hx hb dX2_catchAll_57 (by decide) ?_
        exact ih _ _ _ _ _ h hp (lv_sub hl [3, 0] rfl)
      · have h := h.2 u6 rfl
        refine lv_ifnull hx hb dX2_catchAll_33 ?_
        refine lv_aload_n hx hb dX2_catchAll_36 rfl (lv_at hl 1 rfl) ?_
        refine gC2_place C hp dX2_catchAll_37 g4 ?_
        refine lv_aload_n hx hb dX2_catchAll_40 rfl (lv_at hl 0 rfl) ?_
        obtain ⟨g7, h⟩ := h
        obtain ⟨k8, hk8⟩ := va_pl_get (X := hX G E0 ad S) (f := cutE S) g7
        refine r_callV (q0 := k8) (ci := 0) (rest := [.double (H_pl S y2)]) (c_X0_rear (E0 := E0) (ad := ad) C.hZ h) C hp mf_X0_rear km_X2_225 hl.1 dX2_catchAll_41 hk8 rfl ⟨lb rfl, lb rfl, lb rfl, lb rfl⟩ rfl rfl (lb rfl) (fun v w1 H locs hv hp => ?_)
        obtain ⟨r9, rfl, rfl, h⟩ := hv
        refine W.eq (g2 := F0 m 44 ls [.double r9, .double (H_pl S y2)]) rfl ?_
        refine dcl_lt (tgt := 54) hx hb dX2_catchAll_44 dX2_catchAll_45 (by decide) (fun q10 => ?_) (fun q10 => ?_)
        · have h := h.1 q10
          refine lv_iinc (v := x1 + (1)) (lv' := [(1, .int (x1 + (1))), (3, .ref u6), (2, .ref y2), (0, .ref (ad 0))]) hx hb dX2_catchAll_54 hl (k := 3) rfl rfl (by decide) rfl (fun ls hl => ?_)
          refine lv_goto (tgt := 2) hx hb dX2_catchAll_57 (by decide) ?_
          exact ih _ _ _ _ _ h hp (lv_sub hl [3, 0] rfl)
        · have h := h.2 q10
          refine lv_aload_n hx hb dX2_catchAll_48 rfl (lv_at hl 2 rfl) ?_
          refine lv_aload_n hx hb dX2_catchAll_49 rfl (lv_at hl 1 rfl) ?_
          refine lv_aload_n hx hb dX2_catchAll_50 rfl (lv_at hl 0 rfl) ?_
          refine r_callV (q0 := 0) (ci := 2) (rest := []) (c_X2_catchUp (E0 := E0) (ad := ad) C.hZ h) C hp mf_X2_catchUp km_X2_299 hl.1 dX2_catchAll_51 rfl rfl ⟨lb rfl, lb rfl, lb rfl, lb rfl⟩ rfl rfl (lb rfl) (fun v w1 H locs hv hp => ?_)
          obtain ⟨S11, rfl, rfl, h⟩ := hv
          refine W.eq (g2 := F0 m 54 ls []) rfl ?_
          refine lv_iinc (v := x1 + (1)) (lv' := [(1, .int (x1 + (1))), (3, .ref u6), (2, .ref y2), (0, .ref (ad 0))]) hx hb dX2_catchAll_54 hl (k := 3) rfl rfl (by decide) rfl (fun ls hl => ?_)
          refine lv_goto (tgt := 2) hx hb dX2_catchAll_57 (by decide) ?_
          exact ih _ _ _ _ _ h hp (lv_sub hl [3, 0] rfl)
set_option maxHeartbeats 4000000 in
set_option maxRecDepth 100000 in
theorem c_X2_catchAll {l : Launch} {G : GT} {Z : State} {E0 : Nat} {ad : Nat → Nat} (hZ : ZOK G Z) {S : HS} {post : HS → Prop} (h : wp_X2_catchAll  S post) : CM l G Z yX2_catchAll cX2_catchAll 4 none (rmz 4 88) [.ref (ad 0)] (wH G E0 ad S) (PV (wH G E0 ad) post) := by
  refine CM_ofW hZ (by decide +kernel) (lb rfl) (fun p e s m below meth c ls C hp hl hnm => ?_)
  have C : Cx G Z _ p s m _ meth c RX2 cX2_catchAll 4 none := C
  have hl : lv_has ls 4 [(0, .ref (ad 0))] := hl
  have hx := C.hx
  have hb := C.hb
  unfold wp_X2_catchAll at h
  refine lv_iconst (v := 0) hx hb dX2_catchAll_0 (by decide) ?_
  refine lv_istore_n (lv' := [(1, .int (0 : Int32)), (0, .ref (ad 0))]) hx hb dX2_catchAll_1 rfl hl (by decide) rfl (fun ls hl => ?_)
  obtain ⟨n, h⟩ := h
  exact lp_X2_catchAll_2 C n _ _ _ _ _ h hp (lv_sub hl [1, 0] rfl)
theorem mf_X2_catchAll : MFv yX2_catchAll cX2_catchAll 4 none 0 := ⟨kc_X2_catchAll, kn_X2_catchAll, kv_X2_catchAll, ki_X2, by decide +kernel⟩

/-! X2_enterSiding -/
def wp_X2_enterSiding (a0 : Nat) (a1 : Int32) (S : HS) (post : HS → Prop) : Prop :=
  (vp_in a1 8) ∧ (
    ∀ x2 : Int32, x2 = H_ended S a1.toNatClampNeg →
      (((60 : Int32) ≤ x2 →
        post S
      ) ∧
      (¬ (60 : Int32) ≤ x2 →
        (a0 ∈ H_L S) ∧ (
          ∀ x5 : Int32, x5 = H_num S a0 →
            (vp_in ((a1 * (60 : Int32)) + x2) 480) ∧ (
              ∀ S7 : HS, S7 = Hs_sidings S (upd (H_sidings S) ((a1 * (60 : Int32)) + x2).toNatClampNeg x5) →
                ∀ x8 : Int32, x8 = x2 + (1 : Int32) →
                  ∀ S9 : HS, S9 = Hs_ended S7 (upd (H_ended S7) a1.toNatClampNeg x8) →
                    post S9
            )
        )
      ))
  )
set_option maxHeartbeats 4000000 in
set_option maxRecDepth 100000 in
theorem c_X2_enterSiding {l : Launch} {G : GT} {Z : State} {E0 : Nat} {ad : Nat → Nat} (hZ : ZOK G Z) {a0 : Nat} {a1 : Int32} {S : HS} {post : HS → Prop} (h : wp_X2_enterSiding a0 a1 S post) : CM l G Z yX2_enterSiding cX2_enterSiding 4 none (rmz 0 0) [.ref (ad 0), .ref a0, .int a1] (wH G E0 ad S) (PV (wH G E0 ad) post) := by
  refine CM_ofW hZ (by decide +kernel) (lb rfl) (fun p e s m below meth c ls C hp hl hnm => ?_)
  have C : Cx G Z _ p s m _ meth c RX2 cX2_enterSiding 4 none := C
  have hl : lv_has ls 4 [(0, .ref (ad 0)), (1, .ref a0), (2, .int a1)] := hl
  have hx := C.hx
  have hb := C.hb
  unfold wp_X2_enterSiding at h
  refine lv_aload_n hx hb dX2_enterSiding_0 rfl (lv_at hl 0 rfl) ?_
  refine gH_ended C hp dX2_enterSiding_1 ?_
  refine lv_iload_n hx hb dX2_enterSiding_4 rfl (lv_at hl 2 rfl) ?_
  obtain ⟨g1, h⟩ := h
  refine aH_ended C hp dX2_enterSiding_5 g1 ?_
  refine lv_topi (fun x2 ex2 => ?_)
  have h := h x2 ex2
  refine lv_istore_n (lv' := [(3, .int x2), (0, .ref (ad 0)), (1, .ref a0), (2, .int a1)]) hx hb dX2_enterSiding_6 rfl hl (by decide) rfl (fun ls hl => ?_)
  refine lv_iload_n hx hb dX2_enterSiding_7 rfl (lv_at hl 0 rfl) ?_
  refine lv_bipush (v := 60) hx hb dX2_enterSiding_8 (by decide) ?_
  refine lv_icmp_ge (tgt := 37) hx hb dX2_enterSiding_10 (by decide) (fun q3 => ?_) (fun q3 => ?_)
  · have h := h.1 q3
    exact r_vret C hp dX2_enterSiding_37 ⟨_, rfl, rfl, h⟩
  · have h := h.2 q3
    refine lv_aload_n hx hb dX2_enterSiding_13 rfl (lv_at hl 1 rfl) ?_
    refine gH_sidings C hp dX2_enterSiding_14 ?_
    refine lv_iload_n hx hb dX2_enterSiding_17 rfl (lv_at hl 3 rfl) ?_
    refine lv_bipush (v := 60) hx hb dX2_enterSiding_18 (by decide) ?_
    refine lv_imul hx hb dX2_enterSiding_20 ?_
    refine lv_iload_n hx hb dX2_enterSiding_21 rfl (lv_at hl 0 rfl) ?_
    refine lv_iadd hx hb dX2_enterSiding_22 ?_
    refine lv_aload_n hx hb dX2_enterSiding_23 rfl (lv_at hl 2 rfl) ?_
    obtain ⟨g4, h⟩ := h
    refine gC2_number C hp dX2_enterSiding_24 g4 ?_
    refine lv_topi (fun x5 ex5 => ?_)
    have h := h x5 ex5
    obtain ⟨g6, h⟩ := h
    refine uH_sidings C hp dX2_enterSiding_27 g6 (fun H locs hp => ?_)
    obtain ⟨S7, eS7⟩ : ∃ z : HS, z = Hs_sidings S (upd (H_sidings S) ((a1 * (60 : Int32)) + x2).toNatClampNeg x5) := ⟨_, rfl⟩
    rw [← eS7] at hp
    have h := h S7 eS7
    refine lv_aload_n hx hb dX2_enterSiding_28 rfl (lv_at hl 1 rfl) ?_
    refine gH_ended C hp dX2_enterSiding_29 ?_
    refine lv_iload_n hx hb dX2_enterSiding_32 rfl (lv_at hl 3 rfl) ?_
    refine lv_iload_n hx hb dX2_enterSiding_33 rfl (lv_at hl 0 rfl) ?_
    refine lv_iconst (v := 1) hx hb dX2_enterSiding_34 (by decide) ?_
    refine lv_iadd hx hb dX2_enterSiding_35 ?_
    refine lv_topi (fun x8 ex8 => ?_)
    have h := h x8 ex8
    refine uH_ended C hp dX2_enterSiding_36 g1 (fun H locs hp => ?_)
    obtain ⟨S9, eS9⟩ : ∃ z : HS, z = Hs_ended S7 (upd (H_ended S7) a1.toNatClampNeg x8) := ⟨_, rfl⟩
    rw [← eS9] at hp
    have h := h S9 eS9
    exact r_vret C hp dX2_enterSiding_37 ⟨_, rfl, rfl, h⟩
theorem mf_X2_enterSiding : MFv yX2_enterSiding cX2_enterSiding 4 none 2 := ⟨kc_X2_enterSiding, kn_X2_enterSiding, kv_X2_enterSiding, ki_X2, by decide +kernel⟩

/-! X2_land -/
def wp_X2_land (a0 : Nat) (a1 : Int32) (S : HS) (post : HS → Prop) : Prop :=
  (vp_in a1 8) ∧ (
    (a0 ∈ H_L S) ∧ (
      (vf_n64 (FP.dsub (H_free S a1.toNatClampNeg) (H_len S a0))) ∧ (
        ∀ x4 : UInt64, x4 = FP.dsub (H_free S a1.toNatClampNeg) (H_len S a0) →
          ((¬ dL x4 FP.dconst0 →
            ∀ S6 : HS, S6 = Hs_free S (vf_upd (H_free S) a1.toNatClampNeg x4) →
              (a0 ∈ H_L S6) ∧ (
                ((¬ dG (H_sp S6 a0) (H_top S6) →
                  ∀ x9 : UInt64, x9 = H_top S6 →
                    ∀ S10 : HS, S10 = Hs_top S6 x9 →
                      (a0 ∈ H_L S10) ∧ (
                        ∀ S12 : HS, S12 = Hs_st S10 (upd (H_st S10) a0 (2 : Int32)) →
                          ∀ x13 : Int32, x13 = (H_landed S12) + (1 : Int32) →
                            ∀ S14 : HS, S14 = Hs_landed S12 x13 →
                              wp_X2_enterSiding a0 a1 S14 (fun S15 =>
                                (a0 ∈ H_L S15) ∧ (
                                  wp_X1_note (2 : Int32) (H_num S15 a0) a1 (H_ticks S15) S15 (fun S17 =>
                                    post S17
                                  )
                                )
                              )
                      )
                ) ∧
                (dG (H_sp S6 a0) (H_top S6) →
                  ∀ x18 : UInt64, x18 = H_sp S6 a0 →
                    ∀ S19 : HS, S19 = Hs_top S6 x18 →
                      (a0 ∈ H_L S19) ∧ (
                        ∀ S21 : HS, S21 = Hs_st S19 (upd (H_st S19) a0 (2 : Int32)) →
                          ∀ x22 : Int32, x22 = (H_landed S21) + (1 : Int32) →
                            ∀ S23 : HS, S23 = Hs_landed S21 x22 →
                              wp_X2_enterSiding a0 a1 S23 (fun S24 =>
                                (a0 ∈ H_L S24) ∧ (
                                  wp_X1_note (2 : Int32) (H_num S24 a0) a1 (H_ticks S24) S24 (fun S26 =>
                                    post S26
                                  )
                                )
                              )
                      )
                ))
              )
          ) ∧
          (dL x4 FP.dconst0 →
            ∀ x27 : UInt64, x27 = FP.dconst0 →
              ∀ S28 : HS, S28 = Hs_free S (vf_upd (H_free S) a1.toNatClampNeg x27) →
                (a0 ∈ H_L S28) ∧ (
                  ((¬ dG (H_sp S28 a0) (H_top S28) →
                    ∀ x31 : UInt64, x31 = H_top S28 →
                      ∀ S32 : HS, S32 = Hs_top S28 x31 →
                        (a0 ∈ H_L S32) ∧ (
                          ∀ S34 : HS, S34 = Hs_st S32 (upd (H_st S32) a0 (2 : Int32)) →
                            ∀ x35 : Int32, x35 = (H_landed S34) + (1 : Int32) →
                              ∀ S36 : HS, S36 = Hs_landed S34 x35 →
                                wp_X2_enterSiding a0 a1 S36 (fun S37 =>
                                  (a0 ∈ H_L S37) ∧ (
                                    wp_X1_note (2 : Int32) (H_num S37 a0) a1 (H_ticks S37) S37 (fun S39 =>
                                      post S39
                                    )
                                  )
                                )
                        )
                  ) ∧
                  (dG (H_sp S28 a0) (H_top S28) →
                    ∀ x40 : UInt64, x40 = H_sp S28 a0 →
                      ∀ S41 : HS, S41 = Hs_top S28 x40 →
                        (a0 ∈ H_L S41) ∧ (
                          ∀ S43 : HS, S43 = Hs_st S41 (upd (H_st S41) a0 (2 : Int32)) →
                            ∀ x44 : Int32, x44 = (H_landed S43) + (1 : Int32) →
                              ∀ S45 : HS, S45 = Hs_landed S43 x44 →
                                wp_X2_enterSiding a0 a1 S45 (fun S46 =>
                                  (a0 ∈ H_L S46) ∧ (
                                    wp_X1_note (2 : Int32) (H_num S46 a0) a1 (H_ticks S46) S46 (fun S48 =>
                                      post S48
                                    )
                                  )
                                )
                        )
                  ))
                )
          ))
      )
    )
  )
set_option maxHeartbeats 4000000 in
set_option maxRecDepth 100000 in
theorem c_X2_land {l : Launch} {G : GT} {Z : State} {E0 : Nat} {ad : Nat → Nat} (hZ : ZOK G Z) {a0 : Nat} {a1 : Int32} {S : HS} {post : HS → Prop} (h : wp_X2_land a0 a1 S post) : CM l G Z yX2_land cX2_land 5 none (rmz 2 47) [.ref (ad 0), .ref a0, .int a1] (wH G E0 ad S) (PV (wH G E0 ad) post) := by
  refine CM_ofW hZ (by decide +kernel) (lb rfl) (fun p e s m below meth c ls C hp hl hnm => ?_)
  have C : Cx G Z _ p s m _ meth c RX2 cX2_land 5 none := C
  have hl : lv_has ls 5 [(0, .ref (ad 0)), (1, .ref a0), (2, .int a1)] := hl
  have hx := C.hx
  have hb := C.hb
  unfold wp_X2_land at h
  refine lv_aload_n hx hb dX2_land_0 rfl (lv_at hl 0 rfl) ?_
  refine gH_free C hp dX2_land_1 ?_
  refine lv_iload_n hx hb dX2_land_4 rfl (lv_at hl 2 rfl) ?_
  obtain ⟨g1, h⟩ := h
  refine aH_free C hp dX2_land_5 g1 ?_
  refine lv_aload_n hx hb dX2_land_6 rfl (lv_at hl 1 rfl) ?_
  obtain ⟨g2, h⟩ := h
  refine gC2_length C hp dX2_land_7 g2 ?_
  obtain ⟨g3, h⟩ := h
  refine lv_dsub hx hb dX2_land_10 g3 ?_
  refine lv_topd (fun x4 ex4 => ?_)
  have h := h x4 ex4
  refine lv_dstore_n (lv' := [(3, .double x4), (0, .ref (ad 0)), (1, .ref a0), (2, .int a1)]) hx hb dX2_land_11 rfl hl (by decide) rfl (fun ls hl => ?_)
  refine lv_aload_n hx hb dX2_land_12 rfl (lv_at hl 1 rfl) ?_
  refine gH_free C hp dX2_land_13 ?_
  refine lv_iload_n hx hb dX2_land_16 rfl (lv_at hl 3 rfl) ?_
  refine lv_dload_n hx hb dX2_land_17 rfl (lv_at hl 0 rfl) ?_
  refine lv_dconst0 hx hb dX2_land_18 ?_
  refine dcg_ge (tgt := 27) hx hb dX2_land_19 dX2_land_20 (by decide) (fun q5 => ?_) (fun q5 => ?_)
  · have h := h.1 q5
    refine lv_dload_n hx hb dX2_land_27 rfl (lv_at hl 0 rfl) ?_
    refine uH_free C hp dX2_land_28 g1 (fun H locs hp => ?_)
    obtain ⟨S6, eS6⟩ : ∃ z : HS, z = Hs_free S (vf_upd (H_free S) a1.toNatClampNeg x4) := ⟨_, rfl⟩
    rw [← eS6] at hp
    have h := h S6 eS6
    refine lv_aload_n hx hb dX2_land_29 rfl (lv_at hl 1 rfl) ?_
    refine lv_aload_n hx hb dX2_land_30 rfl (lv_at hl 2 rfl) ?_
    obtain ⟨g7, h⟩ := h
    refine gC2_speed C hp dX2_land_31 g7 ?_
    refine lv_aload_n hx hb dX2_land_34 rfl (lv_at hl 1 rfl) ?_
    refine gH_topSpeed C hp dX2_land_35 ?_
    refine dcl_le (tgt := 49) hx hb dX2_land_38 dX2_land_39 (by decide) (fun q8 => ?_) (fun q8 => ?_)
    · have h := h.1 q8
      refine lv_aload_n hx hb dX2_land_49 rfl (lv_at hl 1 rfl) ?_
      refine gH_topSpeed C hp dX2_land_50 ?_
      refine lv_topd (fun x9 ex9 => ?_)
      have h := h x9 ex9
      refine pH_topSpeed C hp dX2_land_53 (fun H locs hp => ?_)
      obtain ⟨S10, eS10⟩ : ∃ z : HS, z = Hs_top S6 x9 := ⟨_, rfl⟩
      rw [← eS10] at hp
      have h := h S10 eS10
      refine lv_aload_n hx hb dX2_land_56 rfl (lv_at hl 2 rfl) ?_
      refine lv_iconst (v := 2) hx hb dX2_land_57 (by decide) ?_
      obtain ⟨g11, h⟩ := h
      refine pC2_state C hp dX2_land_58 g11 (fun H locs hp => ?_)
      obtain ⟨S12, eS12⟩ : ∃ z : HS, z = Hs_st S10 (upd (H_st S10) a0 (2 : Int32)) := ⟨_, rfl⟩
      rw [← eS12] at hp
      have h := h S12 eS12
      refine lv_aload_n hx hb dX2_land_61 rfl (lv_at hl 1 rfl) ?_
      refine lv_dup hx hb dX2_land_62 rfl ?_
      refine gH_landed C hp dX2_land_63 ?_
      refine lv_iconst (v := 1) hx hb dX2_land_66 (by decide) ?_
      refine lv_iadd hx hb dX2_land_67 ?_
      refine lv_topi (fun x13 ex13 => ?_)
      have h := h x13 ex13
      refine pH_landed C hp dX2_land_68 (fun H locs hp => ?_)
      obtain ⟨S14, eS14⟩ : ∃ z : HS, z = Hs_landed S12 x13 := ⟨_, rfl⟩
      rw [← eS14] at hp
      have h := h S14 eS14
      refine lv_aload_n hx hb dX2_land_71 rfl (lv_at hl 1 rfl) ?_
      refine lv_aload_n hx hb dX2_land_72 rfl (lv_at hl 2 rfl) ?_
      refine lv_iload_n hx hb dX2_land_73 rfl (lv_at hl 3 rfl) ?_
      refine r_callV (q0 := 0) (ci := 2) (rest := []) (c_X2_enterSiding (E0 := E0) (ad := ad) C.hZ h) C hp mf_X2_enterSiding km_X2_321 hl.1 dX2_land_74 rfl rfl ⟨lb rfl, lb rfl, lb rfl, lb rfl⟩ rfl rfl (lb rfl) (fun v w1 H locs hv hp => ?_)
      obtain ⟨S15, rfl, rfl, h⟩ := hv
      refine W.eq (g2 := F0 m 77 ls []) rfl ?_
      refine lv_aload_n hx hb dX2_land_77 rfl (lv_at hl 1 rfl) ?_
      refine gH_events C hp dX2_land_78 ?_
      refine lv_iconst (v := 2) hx hb dX2_land_81 (by decide) ?_
      refine lv_aload_n hx hb dX2_land_82 rfl (lv_at hl 2 rfl) ?_
      obtain ⟨g16, h⟩ := h
      refine gC2_number C hp dX2_land_83 g16 ?_
      refine lv_iload_n hx hb dX2_land_86 rfl (lv_at hl 3 rfl) ?_
      refine lv_aload_n hx hb dX2_land_87 rfl (lv_at hl 1 rfl) ?_
      refine gH_ticks C hp dX2_land_88 ?_
      refine r_callV (q0 := 1) (ci := 1) (rest := []) (c_X1_note (E0 := E0) (ad := ad) C.hZ h) C hp mf_X1_note km_X2_288 hl.1 dX2_land_91 rfl rfl ⟨lb rfl, lb rfl, lb rfl, lb rfl⟩ rfl rfl (lb rfl) (fun v w1 H locs hv hp => ?_)
      obtain ⟨S17, rfl, rfl, h⟩ := hv
      refine W.eq (g2 := F0 m 94 ls []) rfl ?_
      exact r_vret C hp dX2_land_94 ⟨_, rfl, rfl, h⟩
    · have h := h.2 q8
      refine lv_aload_n hx hb dX2_land_42 rfl (lv_at hl 2 rfl) ?_
      refine gC2_speed C hp dX2_land_43 g7 ?_
      refine lv_goto (tgt := 53) hx hb dX2_land_46 (by decide) ?_
      refine lv_topd (fun x18 ex18 => ?_)
      have h := h x18 ex18
      refine pH_topSpeed C hp dX2_land_53 (fun H locs hp => ?_)
      obtain ⟨S19, eS19⟩ : ∃ z : HS, z = Hs_top S6 x18 := ⟨_, rfl⟩
      rw [← eS19] at hp
      have h := h S19 eS19
      refine lv_aload_n hx hb dX2_land_56 rfl (lv_at hl 2 rfl) ?_
      refine lv_iconst (v := 2) hx hb dX2_land_57 (by decide) ?_
      obtain ⟨g20, h⟩ := h
      refine pC2_state C hp dX2_land_58 g20 (fun H locs hp => ?_)
      obtain ⟨S21, eS21⟩ : ∃ z : HS, z = Hs_st S19 (upd (H_st S19) a0 (2 : Int32)) := ⟨_, rfl⟩
      rw [← eS21] at hp
      have h := h S21 eS21
      refine lv_aload_n hx hb dX2_land_61 rfl (lv_at hl 1 rfl) ?_
      refine lv_dup hx hb dX2_land_62 rfl ?_
      refine gH_landed C hp dX2_land_63 ?_
      refine lv_iconst (v := 1) hx hb dX2_land_66 (by decide) ?_
      refine lv_iadd hx hb dX2_land_67 ?_
      refine lv_topi (fun x22 ex22 => ?_)
      have h := h x22 ex22
      refine pH_landed C hp dX2_land_68 (fun H locs hp => ?_)
      obtain ⟨S23, eS23⟩ : ∃ z : HS, z = Hs_landed S21 x22 := ⟨_, rfl⟩
      rw [← eS23] at hp
      have h := h S23 eS23
      refine lv_aload_n hx hb dX2_land_71 rfl (lv_at hl 1 rfl) ?_
      refine lv_aload_n hx hb dX2_land_72 rfl (lv_at hl 2 rfl) ?_
      refine lv_iload_n hx hb dX2_land_73 rfl (lv_at hl 3 rfl) ?_
      refine r_callV (q0 := 0) (ci := 2) (rest := []) (c_X2_enterSiding (E0 := E0) (ad := ad) C.hZ h) C hp mf_X2_enterSiding km_X2_321 hl.1 dX2_land_74 rfl rfl ⟨lb rfl, lb rfl, lb rfl, lb rfl⟩ rfl rfl (lb rfl) (fun v w1 H locs hv hp => ?_)
      obtain ⟨S24, rfl, rfl, h⟩ := hv
      refine W.eq (g2 := F0 m 77 ls []) rfl ?_
      refine lv_aload_n hx hb dX2_land_77 rfl (lv_at hl 1 rfl) ?_
      refine gH_events C hp dX2_land_78 ?_
      refine lv_iconst (v := 2) hx hb dX2_land_81 (by decide) ?_
      refine lv_aload_n hx hb dX2_land_82 rfl (lv_at hl 2 rfl) ?_
      obtain ⟨g25, h⟩ := h
      refine gC2_number C hp dX2_land_83 g25 ?_
      refine lv_iload_n hx hb dX2_land_86 rfl (lv_at hl 3 rfl) ?_
      refine lv_aload_n hx hb dX2_land_87 rfl (lv_at hl 1 rfl) ?_
      refine gH_ticks C hp dX2_land_88 ?_
      refine r_callV (q0 := 1) (ci := 1) (rest := []) (c_X1_note (E0 := E0) (ad := ad) C.hZ h) C hp mf_X1_note km_X2_288 hl.1 dX2_land_91 rfl rfl ⟨lb rfl, lb rfl, lb rfl, lb rfl⟩ rfl rfl (lb rfl) (fun v w1 H locs hv hp => ?_)
      obtain ⟨S26, rfl, rfl, h⟩ := hv
      refine W.eq (g2 := F0 m 94 ls []) rfl ?_
      exact r_vret C hp dX2_land_94 ⟨_, rfl, rfl, h⟩
  · have h := h.2 q5
    refine lv_dconst0 hx hb dX2_land_23 ?_
    refine lv_goto (tgt := 28) hx hb dX2_land_24 (by decide) ?_
    refine lv_topd (fun x27 ex27 => ?_)
    have h := h x27 ex27
    refine uH_free C hp dX2_land_28 g1 (fun H locs hp => ?_)
    obtain ⟨S28, eS28⟩ : ∃ z : HS, z = Hs_free S (vf_upd (H_free S) a1.toNatClampNeg x27) := ⟨_, rfl⟩
    rw [← eS28] at hp
    have h := h S28 eS28
    refine lv_aload_n hx hb dX2_land_29 rfl (lv_at hl 1 rfl) ?_
    refine lv_aload_n hx hb dX2_land_30 rfl (lv_at hl 2 rfl) ?_
    obtain ⟨g29, h⟩ := h
    refine gC2_speed C hp dX2_land_31 g29 ?_
    refine lv_aload_n hx hb dX2_land_34 rfl (lv_at hl 1 rfl) ?_
    refine gH_topSpeed C hp dX2_land_35 ?_
    refine dcl_le (tgt := 49) hx hb dX2_land_38 dX2_land_39 (by decide) (fun q30 => ?_) (fun q30 => ?_)
    · have h := h.1 q30
      refine lv_aload_n hx hb dX2_land_49 rfl (lv_at hl 1 rfl) ?_
      refine gH_topSpeed C hp dX2_land_50 ?_
      refine lv_topd (fun x31 ex31 => ?_)
      have h := h x31 ex31
      refine pH_topSpeed C hp dX2_land_53 (fun H locs hp => ?_)
      obtain ⟨S32, eS32⟩ : ∃ z : HS, z = Hs_top S28 x31 := ⟨_, rfl⟩
      rw [← eS32] at hp
      have h := h S32 eS32
      refine lv_aload_n hx hb dX2_land_56 rfl (lv_at hl 2 rfl) ?_
      refine lv_iconst (v := 2) hx hb dX2_land_57 (by decide) ?_
      obtain ⟨g33, h⟩ := h
      refine pC2_state C hp dX2_land_58 g33 (fun H locs hp => ?_)
      obtain ⟨S34, eS34⟩ : ∃ z : HS, z = Hs_st S32 (upd (H_st S32) a0 (2 : Int32)) := ⟨_, rfl⟩
      rw [← eS34] at hp
      have h := h S34 eS34
      refine lv_aload_n hx hb dX2_land_61 rfl (lv_at hl 1 rfl) ?_
      refine lv_dup hx hb dX2_land_62 rfl ?_
      refine gH_landed C hp dX2_land_63 ?_
      refine lv_iconst (v := 1) hx hb dX2_land_66 (by decide) ?_
      refine lv_iadd hx hb dX2_land_67 ?_
      refine lv_topi (fun x35 ex35 => ?_)
      have h := h x35 ex35
      refine pH_landed C hp dX2_land_68 (fun H locs hp => ?_)
      obtain ⟨S36, eS36⟩ : ∃ z : HS, z = Hs_landed S34 x35 := ⟨_, rfl⟩
      rw [← eS36] at hp
      have h := h S36 eS36
      refine lv_aload_n hx hb dX2_land_71 rfl (lv_at hl 1 rfl) ?_
      refine lv_aload_n hx hb dX2_land_72 rfl (lv_at hl 2 rfl) ?_
      refine lv_iload_n hx hb dX2_land_73 rfl (lv_at hl 3 rfl) ?_
      refine r_callV (q0 := 0) (ci := 2) (rest := []) (c_X2_enterSiding (E0 := E0) (ad := ad) C.hZ h) C hp mf_X2_enterSiding km_X2_321 hl.1 dX2_land_74 rfl rfl ⟨lb rfl, lb rfl, lb rfl, lb rfl⟩ rfl rfl (lb rfl) (fun v w1 H locs hv hp => ?_)
      obtain ⟨S37, rfl, rfl, h⟩ := hv
      refine W.eq (g2 := F0 m 77 ls []) rfl ?_
      refine lv_aload_n hx hb dX2_land_77 rfl (lv_at hl 1 rfl) ?_
      refine gH_events C hp dX2_land_78 ?_
      refine lv_iconst (v := 2) hx hb dX2_land_81 (by decide) ?_
      refine lv_aload_n hx hb dX2_land_82 rfl (lv_at hl 2 rfl) ?_
      obtain ⟨g38, h⟩ := h
      refine gC2_number C hp dX2_land_83 g38 ?_
      refine lv_iload_n hx hb dX2_land_86 rfl (lv_at hl 3 rfl) ?_
      refine lv_aload_n hx hb dX2_land_87 rfl (lv_at hl 1 rfl) ?_
      refine gH_ticks C hp dX2_land_88 ?_
      refine r_callV (q0 := 1) (ci := 1) (rest := []) (c_X1_note (E0 := E0) (ad := ad) C.hZ h) C hp mf_X1_note km_X2_288 hl.1 dX2_land_91 rfl rfl ⟨lb rfl, lb rfl, lb rfl, lb rfl⟩ rfl rfl (lb rfl) (fun v w1 H locs hv hp => ?_)
      obtain ⟨S39, rfl, rfl, h⟩ := hv
      refine W.eq (g2 := F0 m 94 ls []) rfl ?_
      exact r_vret C hp dX2_land_94 ⟨_, rfl, rfl, h⟩
    · have h := h.2 q30
      refine lv_aload_n hx hb dX2_land_42 rfl (lv_at hl 2 rfl) ?_
      refine gC2_speed C hp dX2_land_43 g29 ?_
      refine lv_goto (tgt := 53) hx hb dX2_land_46 (by decide) ?_
      refine lv_topd (fun x40 ex40 => ?_)
      have h := h x40 ex40
      refine pH_topSpeed C hp dX2_land_53 (fun H locs hp => ?_)
      obtain ⟨S41, eS41⟩ : ∃ z : HS, z = Hs_top S28 x40 := ⟨_, rfl⟩
      rw [← eS41] at hp
      have h := h S41 eS41
      refine lv_aload_n hx hb dX2_land_56 rfl (lv_at hl 2 rfl) ?_
      refine lv_iconst (v := 2) hx hb dX2_land_57 (by decide) ?_
      obtain ⟨g42, h⟩ := h
      refine pC2_state C hp dX2_land_58 g42 (fun H locs hp => ?_)
      obtain ⟨S43, eS43⟩ : ∃ z : HS, z = Hs_st S41 (upd (H_st S41) a0 (2 : Int32)) := ⟨_, rfl⟩
      rw [← eS43] at hp
      have h := h S43 eS43
      refine lv_aload_n hx hb dX2_land_61 rfl (lv_at hl 1 rfl) ?_
      refine lv_dup hx hb dX2_land_62 rfl ?_
      refine gH_landed C hp dX2_land_63 ?_
      refine lv_iconst (v := 1) hx hb dX2_land_66 (by decide) ?_
      refine lv_iadd hx hb dX2_land_67 ?_
      refine lv_topi (fun x44 ex44 => ?_)
      have h := h x44 ex44
      refine pH_landed C hp dX2_land_68 (fun H locs hp => ?_)
      obtain ⟨S45, eS45⟩ : ∃ z : HS, z = Hs_landed S43 x44 := ⟨_, rfl⟩
      rw [← eS45] at hp
      have h := h S45 eS45
      refine lv_aload_n hx hb dX2_land_71 rfl (lv_at hl 1 rfl) ?_
      refine lv_aload_n hx hb dX2_land_72 rfl (lv_at hl 2 rfl) ?_
      refine lv_iload_n hx hb dX2_land_73 rfl (lv_at hl 3 rfl) ?_
      refine r_callV (q0 := 0) (ci := 2) (rest := []) (c_X2_enterSiding (E0 := E0) (ad := ad) C.hZ h) C hp mf_X2_enterSiding km_X2_321 hl.1 dX2_land_74 rfl rfl ⟨lb rfl, lb rfl, lb rfl, lb rfl⟩ rfl rfl (lb rfl) (fun v w1 H locs hv hp => ?_)
      obtain ⟨S46, rfl, rfl, h⟩ := hv
      refine W.eq (g2 := F0 m 77 ls []) rfl ?_
      refine lv_aload_n hx hb dX2_land_77 rfl (lv_at hl 1 rfl) ?_
      refine gH_events C hp dX2_land_78 ?_
      refine lv_iconst (v := 2) hx hb dX2_land_81 (by decide) ?_
      refine lv_aload_n hx hb dX2_land_82 rfl (lv_at hl 2 rfl) ?_
      obtain ⟨g47, h⟩ := h
      refine gC2_number C hp dX2_land_83 g47 ?_
      refine lv_iload_n hx hb dX2_land_86 rfl (lv_at hl 3 rfl) ?_
      refine lv_aload_n hx hb dX2_land_87 rfl (lv_at hl 1 rfl) ?_
      refine gH_ticks C hp dX2_land_88 ?_
      refine r_callV (q0 := 1) (ci := 1) (rest := []) (c_X1_note (E0 := E0) (ad := ad) C.hZ h) C hp mf_X1_note km_X2_288 hl.1 dX2_land_91 rfl rfl ⟨lb rfl, lb rfl, lb rfl, lb rfl⟩ rfl rfl (lb rfl) (fun v w1 H locs hv hp => ?_)
      obtain ⟨S48, rfl, rfl, h⟩ := hv
      refine W.eq (g2 := F0 m 94 ls []) rfl ?_
      exact r_vret C hp dX2_land_94 ⟨_, rfl, rfl, h⟩
theorem mf_X2_land : MFv yX2_land cX2_land 5 none 2 := ⟨kc_X2_land, kn_X2_land, kv_X2_land, ki_X2, by decide +kernel⟩

/-! X2_stand -/
def wp_X2_stand (a0 : Nat) (a1 : Int32) (S : HS) (post : HS → Prop) : Prop :=
  (a0 ∈ H_L S) ∧ (
    wp_X0_rear a0 S (fun r3 =>
      (vf_n64 (FP.dsub r3 (4641240890982006784 : UInt64))) ∧ (
        ∀ x5 : UInt64, x5 = FP.dsub r3 (4641240890982006784 : UInt64) →
          (vp_in a1 8) ∧ (
            ∀ S7 : HS, S7 = Hs_free S (vf_upd (H_free S) a1.toNatClampNeg x5) →
              (a0 ∈ H_L S7) ∧ (
                ∀ S9 : HS, S9 = Hs_st S7 (upd (H_st S7) a0 (3 : Int32)) →
                  ∀ x10 : Int32, x10 = (H_standing S9) + (1 : Int32) →
                    ∀ S11 : HS, S11 = Hs_standing S9 x10 →
                      wp_X2_enterSiding a0 a1 S11 (fun S12 =>
                        (a0 ∈ H_L S12) ∧ (
                          wp_X1_note (3 : Int32) (H_num S12 a0) a1 (H_ticks S12) S12 (fun S14 =>
                            post S14
                          )
                        )
                      )
              )
          )
      )
    )
  )
set_option maxHeartbeats 4000000 in
set_option maxRecDepth 100000 in
theorem c_X2_stand {l : Launch} {G : GT} {Z : State} {E0 : Nat} {ad : Nat → Nat} (hZ : ZOK G Z) {a0 : Nat} {a1 : Int32} {S : HS} {post : HS → Prop} (h : wp_X2_stand a0 a1 S post) : CM l G Z yX2_stand cX2_stand 3 none (rmz 2 47) [.ref (ad 0), .ref a0, .int a1] (wH G E0 ad S) (PV (wH G E0 ad) post) := by
  refine CM_ofW hZ (by decide +kernel) (lb rfl) (fun p e s m below meth c ls C hp hl hnm => ?_)
  have C : Cx G Z _ p s m _ meth c RX2 cX2_stand 3 none := C
  have hl : lv_has ls 3 [(0, .ref (ad 0)), (1, .ref a0), (2, .int a1)] := hl
  have hx := C.hx
  have hb := C.hb
  unfold wp_X2_stand at h
  refine lv_aload_n hx hb dX2_stand_0 rfl (lv_at hl 0 rfl) ?_
  refine gH_free C hp dX2_stand_1 ?_
  refine lv_iload_n hx hb dX2_stand_4 rfl (lv_at hl 2 rfl) ?_
  refine lv_aload_n hx hb dX2_stand_5 rfl (lv_at hl 1 rfl) ?_
  obtain ⟨g1, h⟩ := h
  obtain ⟨k2, hk2⟩ := va_pl_get (X := hX G E0 ad S) (f := cutE S) g1
  refine r_callV (q0 := k2) (ci := 0) (rest := [.int a1, .ref (ad 8)]) (c_X0_rear (E0 := E0) (ad := ad) C.hZ h) C hp mf_X0_rear km_X2_225 hl.1 dX2_stand_6 hk2 rfl ⟨lb rfl, lb rfl, lb rfl, lb rfl⟩ rfl rfl (lb rfl) (fun v w1 H locs hv hp => ?_)
  obtain ⟨r3, rfl, rfl, h⟩ := hv
  refine W.eq (g2 := F0 m 9 ls [.double r3, .int a1, .ref (ad 8)]) rfl ?_
  refine lv_ldc2d hx hb C.hown (C.hts _ kd_X2_268) dX2_stand_9 ?_
  obtain ⟨g4, h⟩ := h
  refine lv_dsub hx hb dX2_stand_12 g4 ?_
  refine lv_topd (fun x5 ex5 => ?_)
  have h := h x5 ex5
  obtain ⟨g6, h⟩ := h
  refine uH_free C hp dX2_stand_13 g6 (fun H locs hp => ?_)
  obtain ⟨S7, eS7⟩ : ∃ z : HS, z = Hs_free S (vf_upd (H_free S) a1.toNatClampNeg x5) := ⟨_, rfl⟩
  rw [← eS7] at hp
  have h := h S7 eS7
  refine lv_aload_n hx hb dX2_stand_14 rfl (lv_at hl 1 rfl) ?_
  refine lv_iconst (v := 3) hx hb dX2_stand_15 (by decide) ?_
  obtain ⟨g8, h⟩ := h
  refine pC2_state C hp dX2_stand_16 g8 (fun H locs hp => ?_)
  obtain ⟨S9, eS9⟩ : ∃ z : HS, z = Hs_st S7 (upd (H_st S7) a0 (3 : Int32)) := ⟨_, rfl⟩
  rw [← eS9] at hp
  have h := h S9 eS9
  refine lv_aload_n hx hb dX2_stand_19 rfl (lv_at hl 0 rfl) ?_
  refine lv_dup hx hb dX2_stand_20 rfl ?_
  refine gH_standing C hp dX2_stand_21 ?_
  refine lv_iconst (v := 1) hx hb dX2_stand_24 (by decide) ?_
  refine lv_iadd hx hb dX2_stand_25 ?_
  refine lv_topi (fun x10 ex10 => ?_)
  have h := h x10 ex10
  refine pH_standing C hp dX2_stand_26 (fun H locs hp => ?_)
  obtain ⟨S11, eS11⟩ : ∃ z : HS, z = Hs_standing S9 x10 := ⟨_, rfl⟩
  rw [← eS11] at hp
  have h := h S11 eS11
  refine lv_aload_n hx hb dX2_stand_29 rfl (lv_at hl 0 rfl) ?_
  refine lv_aload_n hx hb dX2_stand_30 rfl (lv_at hl 1 rfl) ?_
  refine lv_iload_n hx hb dX2_stand_31 rfl (lv_at hl 2 rfl) ?_
  refine r_callV (q0 := 0) (ci := 2) (rest := []) (c_X2_enterSiding (E0 := E0) (ad := ad) C.hZ h) C hp mf_X2_enterSiding km_X2_321 hl.1 dX2_stand_32 rfl rfl ⟨lb rfl, lb rfl, lb rfl, lb rfl⟩ rfl rfl (lb rfl) (fun v w1 H locs hv hp => ?_)
  obtain ⟨S12, rfl, rfl, h⟩ := hv
  refine W.eq (g2 := F0 m 35 ls []) rfl ?_
  refine lv_aload_n hx hb dX2_stand_35 rfl (lv_at hl 0 rfl) ?_
  refine gH_events C hp dX2_stand_36 ?_
  refine lv_iconst (v := 3) hx hb dX2_stand_39 (by decide) ?_
  refine lv_aload_n hx hb dX2_stand_40 rfl (lv_at hl 1 rfl) ?_
  obtain ⟨g13, h⟩ := h
  refine gC2_number C hp dX2_stand_41 g13 ?_
  refine lv_iload_n hx hb dX2_stand_44 rfl (lv_at hl 2 rfl) ?_
  refine lv_aload_n hx hb dX2_stand_45 rfl (lv_at hl 0 rfl) ?_
  refine gH_ticks C hp dX2_stand_46 ?_
  refine r_callV (q0 := 1) (ci := 1) (rest := []) (c_X1_note (E0 := E0) (ad := ad) C.hZ h) C hp mf_X1_note km_X2_288 hl.1 dX2_stand_49 rfl rfl ⟨lb rfl, lb rfl, lb rfl, lb rfl⟩ rfl rfl (lb rfl) (fun v w1 H locs hv hp => ?_)
  obtain ⟨S14, rfl, rfl, h⟩ := hv
  refine W.eq (g2 := F0 m 52 ls []) rfl ?_
  exact r_vret C hp dX2_stand_52 ⟨_, rfl, rfl, h⟩
theorem mf_X2_stand : MFv yX2_stand cX2_stand 3 none 2 := ⟨kc_X2_stand, kn_X2_stand, kv_X2_stand, ki_X2, by decide +kernel⟩

/-! X2_endOnTrack -/
def wp_X2_endOnTrack (a0 : Nat) (a1 : Int32) (S : HS) (post : HS → Prop) : Prop :=
  (a0 ∈ H_L S) ∧ (
    (vp_in a1 8) ∧ (
      (vf_n64 (FP.dadd (4641240890982006784 : UInt64) (H_free S a1.toNatClampNeg))) ∧ (
        ∀ x4 : UInt64, x4 = FP.dadd (4641240890982006784 : UInt64) (H_free S a1.toNatClampNeg) →
          ((¬ (dG (H_pl S a0) x4 ∨ dE (H_pl S a0) x4) →
            ((¬ dE (H_sp S a0) FP.dconst0 →
              post S
            ) ∧
            (dE (H_sp S a0) FP.dconst0 →
              wp_X0_rear a0 S (fun r8 =>
                ((¬ (dG r8 (4641240890982006784 : UInt64) ∨ dE r8 (4641240890982006784 : UInt64)) →
                  post S
                ) ∧
                ((dG r8 (4641240890982006784 : UInt64) ∨ dE r8 (4641240890982006784 : UInt64)) →
                  wp_X2_stand a0 a1 S (fun S10 =>
                    post S10
                  )
                ))
              )
            ))
          ) ∧
          ((dG (H_pl S a0) x4 ∨ dE (H_pl S a0) x4) →
            wp_X2_land a0 a1 S (fun S11 =>
              post S11
            )
          ))
      )
    )
  )
set_option maxHeartbeats 4000000 in
set_option maxRecDepth 100000 in
theorem c_X2_endOnTrack {l : Launch} {G : GT} {Z : State} {E0 : Nat} {ad : Nat → Nat} (hZ : ZOK G Z) {a0 : Nat} {a1 : Int32} {S : HS} {post : HS → Prop} (h : wp_X2_endOnTrack a0 a1 S post) : CM l G Z yX2_endOnTrack cX2_endOnTrack 3 none (rmz 3 71) [.ref (ad 0), .ref a0, .int a1] (wH G E0 ad S) (PV (wH G E0 ad) post) := by
  refine CM_ofW hZ (by decide +kernel) (lb rfl) (fun p e s m below meth c ls C hp hl hnm => ?_)
  have C : Cx G Z _ p s m _ meth c RX2 cX2_endOnTrack 3 none := C
  have hl : lv_has ls 3 [(0, .ref (ad 0)), (1, .ref a0), (2, .int a1)] := hl
  have hx := C.hx
  have hb := C.hb
  unfold wp_X2_endOnTrack at h
  refine lv_aload_n hx hb dX2_endOnTrack_0 rfl (lv_at hl 1 rfl) ?_
  obtain ⟨g1, h⟩ := h
  refine gC2_place C hp dX2_endOnTrack_1 g1 ?_
  refine lv_ldc2d hx hb C.hown (C.hts _ kd_X2_268) dX2_endOnTrack_4 ?_
  refine lv_aload_n hx hb dX2_endOnTrack_7 rfl (lv_at hl 0 rfl) ?_
  refine gH_free C hp dX2_endOnTrack_8 ?_
  refine lv_iload_n hx hb dX2_endOnTrack_11 rfl (lv_at hl 2 rfl) ?_
  obtain ⟨g2, h⟩ := h
  refine aH_free C hp dX2_endOnTrack_12 g2 ?_
  obtain ⟨g3, h⟩ := h
  refine lv_dadd hx hb dX2_endOnTrack_13 g3 ?_
  refine lv_topd (fun x4 ex4 => ?_)
  have h := h x4 ex4
  refine dcl_lt (tgt := 27) hx hb dX2_endOnTrack_14 dX2_endOnTrack_15 (by decide) (fun q5 => ?_) (fun q5 => ?_)
  · have h := h.1 q5
    refine lv_aload_n hx hb dX2_endOnTrack_27 rfl (lv_at hl 1 rfl) ?_
    refine gC2_speed C hp dX2_endOnTrack_28 g1 ?_
    refine lv_dconst0 hx hb dX2_endOnTrack_31 ?_
    refine dcl_ne (tgt := 53) hx hb dX2_endOnTrack_32 dX2_endOnTrack_33 (by decide) (fun q6 => ?_) (fun q6 => ?_)
    · have h := h.1 q6
      exact r_vret C hp dX2_endOnTrack_53 ⟨_, rfl, rfl, h⟩
    · have h := h.2 q6
      refine lv_aload_n hx hb dX2_endOnTrack_36 rfl (lv_at hl 1 rfl) ?_
      obtain ⟨k7, hk7⟩ := va_pl_get (X := hX G E0 ad S) (f := cutE S) g1
      refine r_callV (q0 := k7) (ci := 0) (rest := []) (c_X0_rear (E0 := E0) (ad := ad) C.hZ h) C hp mf_X0_rear km_X2_225 hl.1 dX2_endOnTrack_37 hk7 rfl ⟨lb rfl, lb rfl, lb rfl, lb rfl⟩ rfl rfl (lb rfl) (fun v w1 H locs hv hp => ?_)
      obtain ⟨r8, rfl, rfl, h⟩ := hv
      refine W.eq (g2 := F0 m 40 ls [.double r8]) rfl ?_
      refine lv_ldc2d hx hb C.hown (C.hts _ kd_X2_268) dX2_endOnTrack_40 ?_
      refine dcl_lt (tgt := 53) hx hb dX2_endOnTrack_43 dX2_endOnTrack_44 (by decide) (fun q9 => ?_) (fun q9 => ?_)
      · have h := h.1 q9
        exact r_vret C hp dX2_endOnTrack_53 ⟨_, rfl, rfl, h⟩
      · have h := h.2 q9
        refine lv_aload_n hx hb dX2_endOnTrack_47 rfl (lv_at hl 0 rfl) ?_
        refine lv_aload_n hx hb dX2_endOnTrack_48 rfl (lv_at hl 1 rfl) ?_
        refine lv_iload_n hx hb dX2_endOnTrack_49 rfl (lv_at hl 2 rfl) ?_
        refine r_callV (q0 := 0) (ci := 2) (rest := []) (c_X2_stand (E0 := E0) (ad := ad) C.hZ h) C hp mf_X2_stand km_X2_315 hl.1 dX2_endOnTrack_50 rfl rfl ⟨lb rfl, lb rfl, lb rfl, lb rfl⟩ rfl rfl (lb rfl) (fun v w1 H locs hv hp => ?_)
        obtain ⟨S10, rfl, rfl, h⟩ := hv
        refine W.eq (g2 := F0 m 53 ls []) rfl ?_
        exact r_vret C hp dX2_endOnTrack_53 ⟨_, rfl, rfl, h⟩
  · have h := h.2 q5
    refine lv_aload_n hx hb dX2_endOnTrack_18 rfl (lv_at hl 0 rfl) ?_
    refine lv_aload_n hx hb dX2_endOnTrack_19 rfl (lv_at hl 1 rfl) ?_
    refine lv_iload_n hx hb dX2_endOnTrack_20 rfl (lv_at hl 2 rfl) ?_
    refine r_callV (q0 := 0) (ci := 2) (rest := []) (c_X2_land (E0 := E0) (ad := ad) C.hZ h) C hp mf_X2_land km_X2_312 hl.1 dX2_endOnTrack_21 rfl rfl ⟨lb rfl, lb rfl, lb rfl, lb rfl⟩ rfl rfl (lb rfl) (fun v w1 H locs hv hp => ?_)
    obtain ⟨S11, rfl, rfl, h⟩ := hv
    refine W.eq (g2 := F0 m 24 ls []) rfl ?_
    refine lv_goto (tgt := 53) hx hb dX2_endOnTrack_24 (by decide) ?_
    exact r_vret C hp dX2_endOnTrack_53 ⟨_, rfl, rfl, h⟩
theorem mf_X2_endOnTrack : MFv yX2_endOnTrack cX2_endOnTrack 3 none 2 := ⟨kc_X2_endOnTrack, kn_X2_endOnTrack, kv_X2_endOnTrack, ki_X2, by decide +kernel⟩

/-! X2_isCrestClear -/
def wb_X2_isCrestClear_2 (S : HS) (post : Int32 → Prop) (rec : Int32 → Prop) (x1 : Int32) : Prop :=
  (((H_rs S) ≤ x1 →
    post (1 : Int32)
  ) ∧
  (¬ (H_rs S) ≤ x1 →
    ∃ y2 : Nat, lget (H_ra S) (H_rs S) x1 y2 ∧ (
      (y2 ∈ H_L S) ∧ (
        wp_X0_rear y2 S (fun r6 =>
          ((¬ dL r6 (4612811918334230528 : UInt64) →
            rec (x1 + (1))
          ) ∧
          (dL r6 (4612811918334230528 : UInt64) →
            post (0 : Int32)
          ))
        )
      )
    )
  ))
def wl_X2_isCrestClear_2 (S : HS) (post : Int32 → Prop) : Nat → Int32 → Prop
  | 0 => fun _ => False
  | n + 1 => wb_X2_isCrestClear_2 S post (wl_X2_isCrestClear_2 S post n)
def wp_X2_isCrestClear (S : HS) (post : Int32 → Prop) : Prop :=
  ∃ n, wl_X2_isCrestClear_2 S post n (0 : Int32)
set_option maxHeartbeats 4000000 in
set_option maxRecDepth 100000 in
theorem lp_X2_isCrestClear_2 {l : Launch} {G : GT} {Z : State} {ws0 : va_W} {E0 : Nat} {ad : Nat → Nat} {p : Program} {e : Env} {s : State} {m : MethodId} {args : Array Value} {below : List Frame} {meth : Method} {c : Code} {S : HS} (C : Cx G Z ws0 p s m args meth c RX2 cX2_isCrestClear 2 (some .boolean)) {post : Int32 → Prop} : ∀ (n : Nat) (x1 : Int32) (H : Heap) (locs : List Loc) (ls : Array Slot), wl_X2_isCrestClear_2 S post n x1 → Hp G ws0 s H locs (wH G E0 ad S) → lv_has ls 2 [(0, .ref (ad 0)), (1, .int x1)] → W p l e (rmz 3 64) s m args below meth c H locs 0 0 (QQ G Z ws0 below s args (SI (wH G E0 ad S) post) (rmz 3 64)) (F0 m 2 ls []) := by
  have hx := C.hx
  have hb := C.hb
  have hZ := C.hZ
  intro n
  induction n with
  | zero =>
    intro x1 H locs ls h
    exact False.elim h
  | succ n ih =>
    intro x1 H locs ls h hp hl
    have h : wb_X2_isCrestClear_2 S post (wl_X2_isCrestClear_2 S post n) x1 := h
    unfold wb_X2_isCrestClear_2 at h
    generalize hrec : wl_X2_isCrestClear_2 S post n = rec at h ih
    refine lv_iload_n hx hb dX2_isCrestClear_2 rfl (lv_at hl 1 rfl) ?_
    refine lv_aload_n hx hb dX2_isCrestClear_3 rfl (lv_at hl 0 rfl) ?_
    refine gH_rolling C hp dX2_isCrestClear_4 ?_
    refine r_callV (q0 := 4) (ci := 4) (rest := [.int x1]) (c_al_size (k := 4) C.hZ rfl) C hp mf_Jx4a65c_size_8abf5 km_X2_101 hl.1 dX2_isCrestClear_7 rfl rfl ⟨lb rfl, lb rfl, lb rfl, lb rfl⟩ rfl rfl (lb rfl) (fun v w1 H locs hv hp => ?_)
    obtain ⟨rfl, rfl⟩ := hv
    refine W.eq (g2 := F0 m 10 ls [.int (H_rs S), .int x1]) rfl ?_
    refine lv_icmp_ge (tgt := 42) hx hb dX2_isCrestClear_10 (by decide) (fun q1 => ?_) (fun q1 => ?_)
    · have h := h.1 q1
      refine lv_iconst (v := 1) hx hb dX2_isCrestClear_42 (by decide) ?_
      exact r_zret C hp dX2_isCrestClear_43 rfl ⟨_, rfl, rfl, h⟩
    · have h := h.2 q1
      refine lv_aload_n hx hb dX2_isCrestClear_13 rfl (lv_at hl 0 rfl) ?_
      refine gH_rolling C hp dX2_isCrestClear_14 ?_
      refine lv_iload_n hx hb dX2_isCrestClear_17 rfl (lv_at hl 1 rfl) ?_
      obtain ⟨y2, g3, h⟩ := h
      refine r_callV (q0 := 4) (ci := 4) (rest := []) (c_getR (ad := ad) (S := S) C.hZ g3) C hp mf_Jx4a65c_get_915e3 km_X2_208 hl.1 dX2_isCrestClear_18 rfl rfl ⟨lb rfl, lb rfl, lb rfl, lb rfl⟩ rfl rfl (lb rfl) (fun v w1 H locs hv hp => ?_)
      obtain ⟨rfl, rfl⟩ := hv
      refine W.eq (g2 := F0 m 21 ls [.ref y2]) rfl ?_
      obtain ⟨g4, h⟩ := h
      refine cast_cut (index := 0) C hp dX2_isCrestClear_21 g4 ?_
      obtain ⟨k5, hk5⟩ := va_pl_get (X := hX G E0 ad S) (f := cutE S) g4
      refine r_callV (q0 := k5) (ci := 0) (rest := []) (c_X0_rear (E0 := E0) (ad := ad) C.hZ h) C hp mf_X0_rear km_X2_225 hl.1 dX2_isCrestClear_24 hk5 rfl ⟨lb rfl, lb rfl, lb rfl, lb rfl⟩ rfl rfl (lb rfl) (fun v w1 H locs hv hp => ?_)
      obtain ⟨r6, rfl, rfl, h⟩ := hv
      refine W.eq (g2 := F0 m 27 ls [.double r6]) rfl ?_
      refine lv_ldc2d hx hb C.hown (C.hts _ kd_X2_229) dX2_isCrestClear_27 ?_
      refine dcg_ge (tgt := 36) hx hb dX2_isCrestClear_30 dX2_isCrestClear_31 (by decide) (fun q7 => ?_) (fun q7 => ?_)
      · have h := h.1 q7
        refine lv_iinc (v := x1 + (1)) (lv' := [(1, .int (x1 + (1))), (0, .ref (ad 0))]) hx hb dX2_isCrestClear_36 hl (k := 1) rfl rfl (by decide) rfl (fun ls hl => ?_)
        refine lv_goto (tgt := 2) hx hb dX2_isCrestClear_39 (by decide) ?_
        exact ih _ _ _ _ h hp (lv_sub hl [1, 0] rfl)
      · have h := h.2 q7
        refine lv_iconst (v := 0) hx hb dX2_isCrestClear_34 (by decide) ?_
        exact r_zret C hp dX2_isCrestClear_35 rfl ⟨_, rfl, rfl, h⟩
set_option maxHeartbeats 4000000 in
set_option maxRecDepth 100000 in
theorem c_X2_isCrestClear {l : Launch} {G : GT} {Z : State} {E0 : Nat} {ad : Nat → Nat} (hZ : ZOK G Z) {S : HS} {post : Int32 → Prop} (h : wp_X2_isCrestClear S post) : CM l G Z yX2_isCrestClear cX2_isCrestClear 2 (some .boolean) (rmz 3 64) [.ref (ad 0)] (wH G E0 ad S) (SI (wH G E0 ad S) post) := by
  refine CM_ofW hZ (by decide +kernel) (lb rfl) (fun p e s m below meth c ls C hp hl hnm => ?_)
  have C : Cx G Z _ p s m _ meth c RX2 cX2_isCrestClear 2 (some .boolean) := C
  have hl : lv_has ls 2 [(0, .ref (ad 0))] := hl
  have hx := C.hx
  have hb := C.hb
  unfold wp_X2_isCrestClear at h
  refine lv_iconst (v := 0) hx hb dX2_isCrestClear_0 (by decide) ?_
  refine lv_istore_n (lv' := [(1, .int (0 : Int32)), (0, .ref (ad 0))]) hx hb dX2_isCrestClear_1 rfl hl (by decide) rfl (fun ls hl => ?_)
  obtain ⟨n, h⟩ := h
  exact lp_X2_isCrestClear_2 C n _ _ _ _ h hp (lv_sub hl [1, 0] rfl)
theorem mf_X2_isCrestClear : MFv yX2_isCrestClear cX2_isCrestClear 2 (some .boolean) 0 := ⟨kc_X2_isCrestClear, kn_X2_isCrestClear, kv_X2_isCrestClear, ki_X2, by decide +kernel⟩

/-! X2_fastest -/
def wp_X2_fastest (S : HS) (post : UInt64 → Prop) : Prop :=
  post (H_top S)
set_option maxHeartbeats 4000000 in
set_option maxRecDepth 100000 in
theorem c_X2_fastest {l : Launch} {G : GT} {Z : State} {E0 : Nat} {ad : Nat → Nat} (hZ : ZOK G Z) {S : HS} {post : UInt64 → Prop} (h : wp_X2_fastest S post) : CM l G Z yX2_fastest cX2_fastest 1 (some .double) (rmz 0 0) [.ref (ad 0)] (wH G E0 ad S) (SD (wH G E0 ad S) post) := by
  refine CM_ofW hZ (by decide +kernel) (lb rfl) (fun p e s m below meth c ls C hp hl hnm => ?_)
  have C : Cx G Z _ p s m _ meth c RX2 cX2_fastest 1 (some .double) := C
  have hl : lv_has ls 1 [(0, .ref (ad 0))] := hl
  have hx := C.hx
  have hb := C.hb
  unfold wp_X2_fastest at h
  refine lv_aload_n hx hb dX2_fastest_0 rfl (lv_at hl 0 rfl) ?_
  refine gH_topSpeed C hp dX2_fastest_1 ?_
  exact r_dret C hp dX2_fastest_4 ⟨_, rfl, rfl, h⟩
theorem mf_X2_fastest : MFv yX2_fastest cX2_fastest 1 (some .double) 0 := ⟨kc_X2_fastest, kn_X2_fastest, kv_X2_fastest, ki_X2, by decide +kernel⟩

