/-! X2_endAll -/
def wb_X2_endAll_71  (post : HS → Prop) (rec : Int32 → HS → Prop) (x1 : Int32) (S : HS) : Prop :=
  ((x1 < 0 →
    post S
  ) ∧
  (¬ x1 < 0 →
    ∃ y2 : Nat, lget (H_ra S) (H_rs S) x1 y2 ∧ (
      (y2 ∈ H_L S) ∧ (
        (((H_st S y2) = (1 : Int32) →
          rec (x1 + (-1)) S
        ) ∧
        (¬ (H_st S y2) = (1 : Int32) →
          ∃ y6 : Nat, lrm (H_ra S) (H_L S) (H_rs S) x1 y6 ∧ (∀ S8 : HS, S8 = Hremove S x1 →
            rec (x1 + (-1)) S8
          )
        ))
      )
    )
  ))
def wl_X2_endAll_71  (post : HS → Prop) : Nat → Int32 → HS → Prop
  | 0 => fun _ _ => False
  | n + 1 => wb_X2_endAll_71  post (wl_X2_endAll_71  post n)
def wb_X2_endAll_2  (post : HS → Prop) (rec : Int32 → HS → Prop) (x1 : Int32) (S : HS) : Prop :=
  (((H_rs S) ≤ x1 →
    ∀ x10 : Int32, x10 = (H_rs S) - (1 : Int32) →
      ∃ n, wl_X2_endAll_71  post n x10 S
  ) ∧
  (¬ (H_rs S) ≤ x1 →
    ∃ y11 : Nat, lget (H_ra S) (H_rs S) x1 y11 ∧ (
      (y11 ∈ H_L S) ∧ (
        wp_X2_trackOf (H_nd S y11) (fun r14 =>
          ((r14 = (-1 : Int32) →
            rec (x1 + (1)) S
          ) ∧
          (¬ r14 = (-1 : Int32) →
            ((¬ (dG (H_pl S y11) (4641240890982006784 : UInt64) ∨ dE (H_pl S y11) (4641240890982006784 : UInt64)) →
              rec (x1 + (1)) S
            ) ∧
            ((dG (H_pl S y11) (4641240890982006784 : UInt64) ∨ dE (H_pl S y11) (4641240890982006784 : UInt64)) →
              wp_X2_endOnTrack y11 r14 S (fun S17 =>
                rec (x1 + (1)) S17
              )
            ))
          ))
        )
      )
    )
  ))
def wl_X2_endAll_2  (post : HS → Prop) : Nat → Int32 → HS → Prop
  | 0 => fun _ _ => False
  | n + 1 => wb_X2_endAll_2  post (wl_X2_endAll_2  post n)
def wp_X2_endAll  (S : HS) (post : HS → Prop) : Prop :=
  ∃ n, wl_X2_endAll_2  post n (0 : Int32) S
set_option maxHeartbeats 4000000 in
set_option maxRecDepth 100000 in
theorem lp_X2_endAll_71 {l : Launch} {G : GT} {Z : State} {ws0 : va_W} {E0 : Nat} {ad : Nat → Nat} {p : Program} {e : Env} {s : State} {m : MethodId} {args : Array Value} {below : List Frame} {meth : Method} {c : Code} (C : Cx G Z ws0 p s m args meth c RX2 cX2_endAll 4 none) (h9 : ZO2 l E0 Z) {post : HS → Prop} : ∀ (n : Nat) (x1 : Int32) (S : HS) (H : Heap) (locs : List Loc) (ls : Array Slot), wl_X2_endAll_71  post n x1 S → Hp G ws0 s H locs (wH G E0 ad S) → lv_has ls 4 [(0, .ref (ad 0)), (1, .int x1)] → W p l e (rmz 4 93) s m args below meth c H locs 0 0 (QQ G Z ws0 below s args (PV (wH G E0 ad) post) (rmz 4 93)) (F0 m 71 ls []) := by
  have hx := C.hx
  have hb := C.hb
  have hZ := C.hZ
  intro n
  induction n with
  | zero =>
    intro x1 S H locs ls h
    exact False.elim h
  | succ n ih =>
    intro x1 S H locs ls h hp hl
    have h : wb_X2_endAll_71  post (wl_X2_endAll_71  post n) x1 S := h
    unfold wb_X2_endAll_71 at h
    generalize hrec : wl_X2_endAll_71  post n = rec at h ih
    refine lv_iload_n hx hb dX2_endAll_71 rfl (lv_at hl 1 rfl) ?_
    refine lv_if_lt (tgt := 108) hx hb dX2_endAll_72 (by decide) (fun q1 => ?_) (fun q1 => ?_)
    · have h := h.1 q1
      exact r_vret C hp dX2_endAll_108 ⟨_, rfl, rfl, h⟩
    · have h := h.2 q1
      refine lv_aload_n hx hb dX2_endAll_75 rfl (lv_at hl 0 rfl) ?_
      refine gH_rolling C hp dX2_endAll_76 ?_
      refine lv_iload_n hx hb dX2_endAll_79 rfl (lv_at hl 1 rfl) ?_
      obtain ⟨y2, g3, h⟩ := h
      refine r_callV (q0 := 4) (ci := 4) (rest := []) (c_getR (ad := ad) (S := S) C.hZ g3) C hp mf_Jx4a65c_get_915e3 km_X2_208 hl.1 dX2_endAll_80 rfl rfl ⟨lb rfl, lb rfl, lb rfl, lb rfl⟩ rfl rfl (lb rfl) (fun v w1 H locs hv hp => ?_)
      obtain ⟨rfl, rfl⟩ := hv
      refine W.eq (g2 := F0 m 83 ls [.ref y2]) rfl ?_
      obtain ⟨g4, h⟩ := h
      refine cast_cut (index := 0) C hp dX2_endAll_83 g4 ?_
      refine gC2_state C hp dX2_endAll_86 g4 ?_
      refine lv_iconst (v := 1) hx hb dX2_endAll_89 (by decide) ?_
      refine lv_icmp_eq (tgt := 102) hx hb dX2_endAll_90 (by decide) (fun q5 => ?_) (fun q5 => ?_)
      · have h := h.1 q5
        refine lv_iinc (v := x1 + (-1)) (lv' := [(1, .int (x1 + (-1))), (0, .ref (ad 0))]) hx hb dX2_endAll_102 hl (k := 1) rfl rfl (by decide) rfl (fun ls hl => ?_)
        refine lv_goto (tgt := 71) hx hb dX2_endAll_105 (by decide) ?_
        exact ih _ _ _ _ _ h hp (lv_sub hl [1, 0] rfl)
      · have h := h.2 q5
        refine lv_aload_n hx hb dX2_endAll_93 rfl (lv_at hl 0 rfl) ?_
        refine gH_rolling C hp dX2_endAll_94 ?_
        refine lv_iload_n hx hb dX2_endAll_97 rfl (lv_at hl 1 rfl) ?_
        obtain ⟨y6, g7, h⟩ := h
        refine r_callV (q0 := 4) (ci := 4) (rest := []) (c_removeR (ad := ad) (S := S) C.hZ h9 g7) C hp mf_Jx4a65c_remove_915e3 km_X2_309 hl.1 dX2_endAll_98 rfl rfl ⟨lb rfl, lb rfl, lb rfl, lb rfl⟩ rfl rfl (lb rfl) (fun v w1 H locs hv hp => ?_)
        obtain ⟨rfl, rfl⟩ := hv
        obtain ⟨S8, eS8⟩ : ∃ z : HS, z = Hremove S x1 := ⟨_, rfl⟩
        rw [← eS8] at hp
        have h := h S8 eS8
        refine W.eq (g2 := F0 m 101 ls [.ref y6]) rfl ?_
        refine lv_pop hx hb dX2_endAll_101 rfl ?_
        refine lv_iinc (v := x1 + (-1)) (lv' := [(1, .int (x1 + (-1))), (0, .ref (ad 0))]) hx hb dX2_endAll_102 hl (k := 1) rfl rfl (by decide) rfl (fun ls hl => ?_)
        refine lv_goto (tgt := 71) hx hb dX2_endAll_105 (by decide) ?_
        exact ih _ _ _ _ _ h hp (lv_sub hl [1, 0] rfl)
set_option maxHeartbeats 4000000 in
set_option maxRecDepth 100000 in
theorem lp_X2_endAll_2 {l : Launch} {G : GT} {Z : State} {ws0 : va_W} {E0 : Nat} {ad : Nat → Nat} {p : Program} {e : Env} {s : State} {m : MethodId} {args : Array Value} {below : List Frame} {meth : Method} {c : Code} (C : Cx G Z ws0 p s m args meth c RX2 cX2_endAll 4 none) (h9 : ZO2 l E0 Z) {post : HS → Prop} : ∀ (n : Nat) (x1 : Int32) (S : HS) (H : Heap) (locs : List Loc) (ls : Array Slot), wl_X2_endAll_2  post n x1 S → Hp G ws0 s H locs (wH G E0 ad S) → lv_has ls 4 [(0, .ref (ad 0)), (1, .int x1)] → W p l e (rmz 4 93) s m args below meth c H locs 0 0 (QQ G Z ws0 below s args (PV (wH G E0 ad) post) (rmz 4 93)) (F0 m 2 ls []) := by
  have hx := C.hx
  have hb := C.hb
  have hZ := C.hZ
  intro n
  induction n with
  | zero =>
    intro x1 S H locs ls h
    exact False.elim h
  | succ n ih =>
    intro x1 S H locs ls h hp hl
    have h : wb_X2_endAll_2  post (wl_X2_endAll_2  post n) x1 S := h
    unfold wb_X2_endAll_2 at h
    generalize hrec : wl_X2_endAll_2  post n = rec at h ih
    refine lv_iload_n hx hb dX2_endAll_2 rfl (lv_at hl 1 rfl) ?_
    refine lv_aload_n hx hb dX2_endAll_3 rfl (lv_at hl 0 rfl) ?_
    refine gH_rolling C hp dX2_endAll_4 ?_
    refine r_callV (q0 := 4) (ci := 4) (rest := [.int x1]) (c_al_size (k := 4) C.hZ rfl) C hp mf_Jx4a65c_size_8abf5 km_X2_101 hl.1 dX2_endAll_7 rfl rfl ⟨lb rfl, lb rfl, lb rfl, lb rfl⟩ rfl rfl (lb rfl) (fun v w1 H locs hv hp => ?_)
    obtain ⟨rfl, rfl⟩ := hv
    refine W.eq (g2 := F0 m 10 ls [.int (H_rs S), .int x1]) rfl ?_
    refine lv_icmp_ge (tgt := 61) hx hb dX2_endAll_10 (by decide) (fun q9 => ?_) (fun q9 => ?_)
    · have h := h.1 q9
      refine lv_aload_n hx hb dX2_endAll_61 rfl (lv_at hl 0 rfl) ?_
      refine gH_rolling C hp dX2_endAll_62 ?_
      refine r_callV (q0 := 4) (ci := 4) (rest := []) (c_al_size (k := 4) C.hZ rfl) C hp mf_Jx4a65c_size_8abf5 km_X2_101 hl.1 dX2_endAll_65 rfl rfl ⟨lb rfl, lb rfl, lb rfl, lb rfl⟩ rfl rfl (lb rfl) (fun v w1 H locs hv hp => ?_)
      obtain ⟨rfl, rfl⟩ := hv
      refine W.eq (g2 := F0 m 68 ls [.int (H_rs S)]) rfl ?_
      refine lv_iconst (v := 1) hx hb dX2_endAll_68 (by decide) ?_
      refine lv_isub hx hb dX2_endAll_69 ?_
      refine lv_topi (fun x10 ex10 => ?_)
      have h := h x10 ex10
      refine lv_istore_n (lv' := [(1, .int x10), (0, .ref (ad 0))]) hx hb dX2_endAll_70 rfl hl (by decide) rfl (fun ls hl => ?_)
      obtain ⟨n, h⟩ := h
      exact lp_X2_endAll_71 C h9 n _ _ _ _ _ h hp (lv_sub hl [1, 0] rfl)
    · have h := h.2 q9
      refine lv_aload_n hx hb dX2_endAll_13 rfl (lv_at hl 0 rfl) ?_
      refine gH_rolling C hp dX2_endAll_14 ?_
      refine lv_iload_n hx hb dX2_endAll_17 rfl (lv_at hl 1 rfl) ?_
      obtain ⟨y11, g12, h⟩ := h
      refine r_callV (q0 := 4) (ci := 4) (rest := []) (c_getR (ad := ad) (S := S) C.hZ g12) C hp mf_Jx4a65c_get_915e3 km_X2_208 hl.1 dX2_endAll_18 rfl rfl ⟨lb rfl, lb rfl, lb rfl, lb rfl⟩ rfl rfl (lb rfl) (fun v w1 H locs hv hp => ?_)
      obtain ⟨rfl, rfl⟩ := hv
      refine W.eq (g2 := F0 m 21 ls [.ref y11]) rfl ?_
      obtain ⟨g13, h⟩ := h
      refine cast_cut (index := 0) C hp dX2_endAll_21 g13 ?_
      refine lv_astore_n (lv' := [(2, .ref y11), (0, .ref (ad 0)), (1, .int x1)]) hx hb dX2_endAll_24 rfl hl (by decide) rfl (fun ls hl => ?_)
      refine lv_aload_n hx hb dX2_endAll_25 rfl (lv_at hl 0 rfl) ?_
      refine gC2_node C hp dX2_endAll_26 g13 ?_
      refine r_callS (rest := []) (c_X2_trackOf C.hZ h) C hp mf_X2_trackOf km_X2_177 hl.1 dX2_endAll_29 ⟨lb rfl, lb rfl, lb rfl, lb rfl⟩ rfl rfl (lb rfl) (fun v w1 H locs hv hp => ?_)
      obtain ⟨r14, rfl, rfl, h⟩ := hv
      refine W.eq (g2 := F0 m 32 ls [.int r14]) rfl ?_
      refine lv_istore_n (lv' := [(3, .int r14), (2, .ref y11), (0, .ref (ad 0)), (1, .int x1)]) hx hb dX2_endAll_32 rfl hl (by decide) rfl (fun ls hl => ?_)
      refine lv_iload_n hx hb dX2_endAll_33 rfl (lv_at hl 0 rfl) ?_
      refine lv_iconst (v := -1) hx hb dX2_endAll_34 (by decide) ?_
      refine lv_icmp_eq (tgt := 55) hx hb dX2_endAll_35 (by decide) (fun q15 => ?_) (fun q15 => ?_)
      · have h := h.1 q15
        refine lv_iinc (v := x1 + (1)) (lv' := [(1, .int (x1 + (1))), (3, .int r14), (2, .ref y11), (0, .ref (ad 0))]) hx hb dX2_endAll_55 hl (k := 3) rfl rfl (by decide) rfl (fun ls hl => ?_)
        refine lv_goto (tgt := 2) hx hb dX2_endAll_58 (by decide) ?_
        exact ih _ _ _ _ _ h hp (lv_sub hl [3, 0] rfl)
      · have h := h.2 q15
        refine lv_aload_n hx hb dX2_endAll_38 rfl (lv_at hl 1 rfl) ?_
        refine gC2_place C hp dX2_endAll_39 g13 ?_
        refine lv_ldc2d hx hb C.hown (C.hts _ kd_X2_268) dX2_endAll_42 ?_
        refine dcl_lt (tgt := 55) hx hb dX2_endAll_45 dX2_endAll_46 (by decide) (fun q16 => ?_) (fun q16 => ?_)
        · have h := h.1 q16
          refine lv_iinc (v := x1 + (1)) (lv' := [(1, .int (x1 + (1))), (3, .int r14), (2, .ref y11), (0, .ref (ad 0))]) hx hb dX2_endAll_55 hl (k := 3) rfl rfl (by decide) rfl (fun ls hl => ?_)
          refine lv_goto (tgt := 2) hx hb dX2_endAll_58 (by decide) ?_
          exact ih _ _ _ _ _ h hp (lv_sub hl [3, 0] rfl)
        · have h := h.2 q16
          refine lv_aload_n hx hb dX2_endAll_49 rfl (lv_at hl 2 rfl) ?_
          refine lv_aload_n hx hb dX2_endAll_50 rfl (lv_at hl 1 rfl) ?_
          refine lv_iload_n hx hb dX2_endAll_51 rfl (lv_at hl 0 rfl) ?_
          refine r_callV (q0 := 0) (ci := 2) (rest := []) (c_X2_endOnTrack (E0 := E0) (ad := ad) C.hZ h) C hp mf_X2_endOnTrack km_X2_306 hl.1 dX2_endAll_52 rfl rfl ⟨lb rfl, lb rfl, lb rfl, lb rfl⟩ rfl rfl (lb rfl) (fun v w1 H locs hv hp => ?_)
          obtain ⟨S17, rfl, rfl, h⟩ := hv
          refine W.eq (g2 := F0 m 55 ls []) rfl ?_
          refine lv_iinc (v := x1 + (1)) (lv' := [(1, .int (x1 + (1))), (3, .int r14), (2, .ref y11), (0, .ref (ad 0))]) hx hb dX2_endAll_55 hl (k := 3) rfl rfl (by decide) rfl (fun ls hl => ?_)
          refine lv_goto (tgt := 2) hx hb dX2_endAll_58 (by decide) ?_
          exact ih _ _ _ _ _ h hp (lv_sub hl [3, 0] rfl)
set_option maxHeartbeats 4000000 in
set_option maxRecDepth 100000 in
theorem c_X2_endAll {l : Launch} {G : GT} {Z : State} {E0 : Nat} {ad : Nat → Nat} (hZ : ZOK G Z) (h9 : ZO2 l E0 Z) {S : HS} {post : HS → Prop} (h : wp_X2_endAll  S post) : CM l G Z yX2_endAll cX2_endAll 4 none (rmz 4 93) [.ref (ad 0)] (wH G E0 ad S) (PV (wH G E0 ad) post) := by
  refine CM_ofW hZ (by decide +kernel) (lb rfl) (fun p e s m below meth c ls C hp hl hnm => ?_)
  have C : Cx G Z _ p s m _ meth c RX2 cX2_endAll 4 none := C
  have hl : lv_has ls 4 [(0, .ref (ad 0))] := hl
  have hx := C.hx
  have hb := C.hb
  unfold wp_X2_endAll at h
  refine lv_iconst (v := 0) hx hb dX2_endAll_0 (by decide) ?_
  refine lv_istore_n (lv' := [(1, .int (0 : Int32)), (0, .ref (ad 0))]) hx hb dX2_endAll_1 rfl hl (by decide) rfl (fun ls hl => ?_)
  obtain ⟨n, h⟩ := h
  exact lp_X2_endAll_2 C h9 n _ _ _ _ _ h hp (lv_sub hl [1, 0] rfl)
theorem mf_X2_endAll : MFv yX2_endAll cX2_endAll 4 none 0 := ⟨kc_X2_endAll, kn_X2_endAll, kv_X2_endAll, ki_X2, by decide +kernel⟩

