/-! X2_pushNext -/
def wp_X2_pushNext (mc : Nat) (ms : Nat) (S : HS) (post : HS → Prop) : Prop :=
  ((¬ dG (H_push S) FP.dconst0 →
    post S
  ) ∧
  (dG (H_push S) FP.dconst0 →
    (((H_cs S) ≤ (H_started S) →
      post S
    ) ∧
    (¬ (H_cs S) ≤ (H_started S) →
      wp_X2_isCrestClear S (fun r3 =>
        ((r3 = 0 →
          post S
        ) ∧
        (¬ r3 = 0 →
          ∃ y5 : Nat, lget (H_ca S) (H_cs S) (H_started S) y5 ∧ (
            (y5 ∈ H_L S) ∧ (
              ∀ x8 : Int32, x8 = (H_started S) + (1 : Int32) →
                ∀ S9 : HS, S9 = Hs_started S x8 →
                  (y5 ∈ H_L S9) ∧ (
                    ∀ S11 : HS, S11 = Hs_st S9 (upd (H_st S9) y5 (1 : Int32)) →
                      ∀ x12 : UInt64, x12 = FP.dconst0 →
                        (y5 ∈ H_L S11) ∧ (
                          ∀ S14 : HS, S14 = Hs_pl S11 (vf_upd (H_pl S11) y5 x12) →
                            ∀ x15 : UInt64, x15 = H_push S14 →
                              (y5 ∈ H_L S14) ∧ (
                                ∀ S17 : HS, S17 = Hs_sp S14 (vf_upd (H_sp S14) y5 x15) →
                                  ladd (H_ra S17) (H_L S17) (H_rs S17) y5 mc ms ∧ (∀ (qa19 : Nat) (S20 : HS), S20 = Haddr S17 y5 qa19 →
                                    post S20
                                  )
                              )
                        )
                  )
            )
          )
        ))
      )
    ))
  ))
set_option maxHeartbeats 4000000 in
set_option maxRecDepth 100000 in
theorem c_X2_pushNext {l : Launch} {G : GT} {Z : State} {E0 : Nat} {ad : Nat → Nat} (hZ : ZOK G Z) (h9 : ZO2 l E0 Z) {mc : Nat} {ms : Nat} {S : HS} {post : HS → Prop} (h : wp_X2_pushNext mc ms S post) : CM l G Z yX2_pushNext cX2_pushNext 2 none (rmB 7 221 mc ms) [.ref (ad 0)] (wH G E0 ad S) (PV (wH G E0 ad) post) := by
  refine CM_ofW hZ (by decide +kernel) (lb rfl) (fun p e s m below meth c ls C hp hl hnm => ?_)
  have C : Cx G Z _ p s m _ meth c RX2 cX2_pushNext 2 none := C
  have hl : lv_has ls 2 [(0, .ref (ad 0))] := hl
  have hx := C.hx
  have hb := C.hb
  unfold wp_X2_pushNext at h
  refine lv_aload_n hx hb dX2_pushNext_0 rfl (lv_at hl 0 rfl) ?_
  refine gH_pushSpeed C hp dX2_pushNext_1 ?_
  refine lv_dconst0 hx hb dX2_pushNext_4 ?_
  refine dcl_le (tgt := 82) hx hb dX2_pushNext_5 dX2_pushNext_6 (by decide) (fun q1 => ?_) (fun q1 => ?_)
  · have h := h.1 q1
    refine W.widen (k := mc) (n := ms) (by omega) (by omega) ?_
    exact r_vret C hp dX2_pushNext_82 ⟨_, rfl, rfl, h⟩
  · have h := h.2 q1
    refine lv_aload_n hx hb dX2_pushNext_9 rfl (lv_at hl 0 rfl) ?_
    refine gH_started C hp dX2_pushNext_10 ?_
    refine lv_aload_n hx hb dX2_pushNext_13 rfl (lv_at hl 0 rfl) ?_
    refine gH_cuts C hp dX2_pushNext_14 ?_
    refine r_callV (q0 := 3) (ci := 4) (rest := [.int (H_started S)]) (c_al_size (k := 3) C.hZ rfl) C hp mf_Jx4a65c_size_8abf5 km_X2_101 hl.1 dX2_pushNext_17 rfl rfl ⟨lb rfl, lb rfl, Nat.zero_le _, Nat.zero_le _⟩ rfl rfl (lb rfl) (fun v w1 H locs hv hp => ?_)
    obtain ⟨rfl, rfl⟩ := hv
    refine W.widen (k := 0) (n := 0) (lb rfl) (lb rfl) ?_
    refine W.eq (g2 := F0 m 20 ls [.int (H_cs S), .int (H_started S)]) rfl ?_
    refine lv_icmp_ge (tgt := 82) hx hb dX2_pushNext_20 (by decide) (fun q2 => ?_) (fun q2 => ?_)
    · have h := h.1 q2
      refine W.widen (k := mc) (n := ms) (by omega) (by omega) ?_
      exact r_vret C hp dX2_pushNext_82 ⟨_, rfl, rfl, h⟩
    · have h := h.2 q2
      refine lv_aload_n hx hb dX2_pushNext_23 rfl (lv_at hl 0 rfl) ?_
      refine r_callV (q0 := 0) (ci := 2) (rest := []) (c_X2_isCrestClear (E0 := E0) (ad := ad) C.hZ h) C hp mf_X2_isCrestClear km_X2_324 hl.1 dX2_pushNext_24 rfl rfl ⟨lb rfl, lb rfl, Nat.zero_le _, Nat.zero_le _⟩ rfl rfl (lb rfl) (fun v w1 H locs hv hp => ?_)
      obtain ⟨r3, rfl, rfl, h⟩ := hv
      refine W.widen (k := 0) (n := 0) (lb rfl) (lb rfl) ?_
      refine W.eq (g2 := F0 m 27 ls [.int r3]) rfl ?_
      refine lv_if_eq (tgt := 82) hx hb dX2_pushNext_27 (by decide) (fun q4 => ?_) (fun q4 => ?_)
      · have h := h.1 q4
        refine W.widen (k := mc) (n := ms) (by omega) (by omega) ?_
        exact r_vret C hp dX2_pushNext_82 ⟨_, rfl, rfl, h⟩
      · have h := h.2 q4
        refine lv_aload_n hx hb dX2_pushNext_30 rfl (lv_at hl 0 rfl) ?_
        refine gH_cuts C hp dX2_pushNext_31 ?_
        refine lv_aload_n hx hb dX2_pushNext_34 rfl (lv_at hl 0 rfl) ?_
        refine gH_started C hp dX2_pushNext_35 ?_
        obtain ⟨y5, g6, h⟩ := h
        refine r_callV (q0 := 3) (ci := 4) (rest := []) (c_getC (ad := ad) (S := S) C.hZ g6) C hp mf_Jx4a65c_get_915e3 km_X2_208 hl.1 dX2_pushNext_38 rfl rfl ⟨lb rfl, lb rfl, Nat.zero_le _, Nat.zero_le _⟩ rfl rfl (lb rfl) (fun v w1 H locs hv hp => ?_)
        obtain ⟨rfl, rfl⟩ := hv
        refine W.widen (k := 0) (n := 0) (lb rfl) (lb rfl) ?_
        refine W.eq (g2 := F0 m 41 ls [.ref y5]) rfl ?_
        obtain ⟨g7, h⟩ := h
        refine cast_cut (index := 0) C hp dX2_pushNext_41 g7 ?_
        refine lv_astore_n (lv' := [(1, .ref y5), (0, .ref (ad 0))]) hx hb dX2_pushNext_44 rfl hl (by decide) rfl (fun ls hl => ?_)
        refine lv_aload_n hx hb dX2_pushNext_45 rfl (lv_at hl 1 rfl) ?_
        refine lv_dup hx hb dX2_pushNext_46 rfl ?_
        refine gH_started C hp dX2_pushNext_47 ?_
        refine lv_iconst (v := 1) hx hb dX2_pushNext_50 (by decide) ?_
        refine lv_iadd hx hb dX2_pushNext_51 ?_
        refine lv_topi (fun x8 ex8 => ?_)
        have h := h x8 ex8
        refine pH_started C hp dX2_pushNext_52 (fun H locs hp => ?_)
        obtain ⟨S9, eS9⟩ : ∃ z : HS, z = Hs_started S x8 := ⟨_, rfl⟩
        rw [← eS9] at hp
        have h := h S9 eS9
        refine lv_aload_n hx hb dX2_pushNext_55 rfl (lv_at hl 0 rfl) ?_
        refine lv_iconst (v := 1) hx hb dX2_pushNext_56 (by decide) ?_
        obtain ⟨g10, h⟩ := h
        refine pC2_state C hp dX2_pushNext_57 g10 (fun H locs hp => ?_)
        obtain ⟨S11, eS11⟩ : ∃ z : HS, z = Hs_st S9 (upd (H_st S9) y5 (1 : Int32)) := ⟨_, rfl⟩
        rw [← eS11] at hp
        have h := h S11 eS11
        refine lv_aload_n hx hb dX2_pushNext_60 rfl (lv_at hl 0 rfl) ?_
        refine lv_dconst0 hx hb dX2_pushNext_61 ?_
        refine lv_topd (fun x12 ex12 => ?_)
        have h := h x12 ex12
        obtain ⟨g13, h⟩ := h
        refine pC2_place C hp dX2_pushNext_62 g13 (fun H locs hp => ?_)
        obtain ⟨S14, eS14⟩ : ∃ z : HS, z = Hs_pl S11 (vf_upd (H_pl S11) y5 x12) := ⟨_, rfl⟩
        rw [← eS14] at hp
        have h := h S14 eS14
        refine lv_aload_n hx hb dX2_pushNext_65 rfl (lv_at hl 0 rfl) ?_
        refine lv_aload_n hx hb dX2_pushNext_66 rfl (lv_at hl 1 rfl) ?_
        refine gH_pushSpeed C hp dX2_pushNext_67 ?_
        refine lv_topd (fun x15 ex15 => ?_)
        have h := h x15 ex15
        obtain ⟨g16, h⟩ := h
        refine pC2_speed C hp dX2_pushNext_70 g16 (fun H locs hp => ?_)
        obtain ⟨S17, eS17⟩ : ∃ z : HS, z = Hs_sp S14 (vf_upd (H_sp S14) y5 x15) := ⟨_, rfl⟩
        rw [← eS17] at hp
        have h := h S17 eS17
        refine lv_aload_n hx hb dX2_pushNext_73 rfl (lv_at hl 1 rfl) ?_
        refine gH_rolling C hp dX2_pushNext_74 ?_
        refine lv_aload_n hx hb dX2_pushNext_77 rfl (lv_at hl 0 rfl) ?_
        obtain ⟨g18, h⟩ := h
        refine r_callV (q0 := 4) (ci := 4) (rest := []) (c_addR (ad := ad) (S := S17) C.hZ h9 g18) C hp mf_Jx4a65c_add_9ea2d km_X2_115 hl.1 dX2_pushNext_78 rfl rfl ⟨lb rfl, lb rfl, (by show 0 + mc ≤ mc; omega), (by show 0 + ms ≤ ms; omega)⟩ rfl rfl (lb rfl) (fun v w1 H locs hv hp => ?_)
        obtain ⟨rfl, qa19, rfl⟩ := hv
        refine W.widen (k := mc) (n := ms) (by show 0 + mc ≤ mc; omega) (by show 0 + ms ≤ ms; omega) ?_
        obtain ⟨S20, eS20⟩ : ∃ z : HS, z = Haddr S17 y5 qa19 := ⟨_, rfl⟩
        rw [← eS20] at hp
        have h := h qa19 S20 eS20
        refine W.eq (g2 := F0 m 81 ls [.int (1 : Int32)]) rfl ?_
        refine lv_pop hx hb dX2_pushNext_81 rfl ?_
        refine W.widen (k := mc) (n := ms) (by omega) (by omega) ?_
        exact r_vret C hp dX2_pushNext_82 ⟨_, rfl, rfl, h⟩
theorem mf_X2_pushNext : MFv yX2_pushNext cX2_pushNext 2 none 0 := ⟨kc_X2_pushNext, kn_X2_pushNext, kv_X2_pushNext, ki_X2, by decide +kernel⟩

/-! X2_tick -/
def wb_X2_tick_32 (a0 : Int32) (post : Int32 → HS → Prop) (rec : Int32 → Int32 → HS → Nat → Nat → Prop) (x2 : Int32) (x3 : Int32) (S : HS) (cu : Nat) (su : Nat) : Prop :=
  (cu ≤ 8 ∧ su ≤ 250) ∧ (
    ((a0 ≤ x3 →
      post ((H_count S) - x2) S
    ) ∧
    (¬ a0 ≤ x3 →
      ∀ x23 : Int32, x23 = (H_ticks S) + (1 : Int32) →
        ∀ S24 : HS, S24 = Hs_ticks S x23 →
          wp_X2_goOnTurning S24 (fun S25 =>
            wp_X2_beginTurning S25 (fun S26 =>
              wp_X2_rollAll S26 (fun S27 =>
                wp_X2_catchAll S27 (fun S28 =>
                  wp_X2_endAll S28 (fun S29 =>
                    ∃ (mc31 ms32 : Nat), (cu + mc31 ≤ 8 ∧ su + ms32 ≤ 250) ∧ wp_X2_pushNext mc31 ms32 S29 (fun S30 =>
                      rec x2 (x3 + (1)) S30 (cu + mc31) (su + ms32)
                    )
                  )
                )
              )
            )
          )
    ))
  )
def wl_X2_tick_32 (a0 : Int32) (post : Int32 → HS → Prop) : Nat → Int32 → Int32 → HS → Nat → Nat → Prop
  | 0 => fun _ _ _ _ _ => False
  | n + 1 => wb_X2_tick_32 a0 post (wl_X2_tick_32 a0 post n)
def wp_X2_tick (a0 : Int32) (S : HS) (post : Int32 → HS → Prop) (px : String → Prop) : Prop :=
  ((a0 < (1 : Int32) →
    px xIAE
  ) ∧
  (¬ a0 < (1 : Int32) →
    ((a0 ≤ (400 : Int32) →
      ∀ x36 : Int32, x36 = H_count S →
        ∃ n, wl_X2_tick_32 a0 post n x36 (0 : Int32) S 0 0
    ) ∧
    (¬ a0 ≤ (400 : Int32) →
      px xIAE
    ))
  ))
set_option maxHeartbeats 4000000 in
set_option maxRecDepth 100000 in
theorem lp_X2_tick_32 {l : Launch} {G : GT} {Z : State} {ws0 : va_W} {E0 : Nat} {ad : Nat → Nat} {p : Program} {e : Env} {s : State} {m : MethodId} {args : Array Value} {below : List Frame} {meth : Method} {c : Code} {a0 : Int32} (C : Cx G Z ws0 p s m args meth c RX2 cX2_tick 4 (some .int)) (h9 : ZO2 l E0 Z) {post : Int32 → HS → Prop} {px : String → Prop} : ∀ (n : Nat) (x2 : Int32) (x3 : Int32) (S : HS) (cu : Nat) (su : Nat) (H : Heap) (locs : List Loc) (ls : Array Slot), wl_X2_tick_32 a0 post n x2 x3 S cu su → Hp G ws0 s H locs (wH G E0 ad S) → lv_has ls 4 [(0, .ref (ad 0)), (1, .int a0), (2, .int x2), (3, .int x3)] → W p l e (rmB 8 242 8 250) s m args below meth c H locs cu su (XQ G Z ws0 below s args (PI (wH G E0 ad) post) px (rmB 8 242 8 250)) (F0 m 32 ls []) := by
  have hx := C.hx
  have hb := C.hb
  have hZ := C.hZ
  intro n
  induction n with
  | zero =>
    intro x2 x3 S cu su H locs ls h
    exact False.elim h
  | succ n ih =>
    intro x2 x3 S cu su H locs ls h hp hl
    have h : wb_X2_tick_32 a0 post (wl_X2_tick_32 a0 post n) x2 x3 S cu su := h
    unfold wb_X2_tick_32 at h
    generalize hrec : wl_X2_tick_32 a0 post n = rec at h ih
    obtain ⟨g21, h⟩ := h
    refine lv_iload_n hx hb dX2_tick_32 rfl (lv_at hl 3 rfl) ?_
    refine lv_iload_n hx hb dX2_tick_33 rfl (lv_at hl 1 rfl) ?_
    refine lv_icmp_ge (tgt := 77) hx hb dX2_tick_34 (by decide) (fun q22 => ?_) (fun q22 => ?_)
    · have h := h.1 q22
      refine lv_aload_n hx hb dX2_tick_77 rfl (lv_at hl 0 rfl) ?_
      refine gH_events C hp dX2_tick_78 ?_
      refine gE2_count C hp dX2_tick_81 ?_
      refine lv_iload_n hx hb dX2_tick_84 rfl (lv_at hl 2 rfl) ?_
      refine lv_isub hx hb dX2_tick_85 ?_
      refine vx_ret (W.widen (k := 8) (n := 250) g21.1 g21.2 ?_)
      exact r_iret C hp dX2_tick_86 ⟨_, _, rfl, rfl, h⟩
    · have h := h.2 q22
      refine lv_aload_n hx hb dX2_tick_37 rfl (lv_at hl 0 rfl) ?_
      refine lv_dup hx hb dX2_tick_38 rfl ?_
      refine gH_ticks C hp dX2_tick_39 ?_
      refine lv_iconst (v := 1) hx hb dX2_tick_42 (by decide) ?_
      refine lv_iadd hx hb dX2_tick_43 ?_
      refine lv_topi (fun x23 ex23 => ?_)
      have h := h x23 ex23
      refine pH_ticks C hp dX2_tick_44 (fun H locs hp => ?_)
      obtain ⟨S24, eS24⟩ : ∃ z : HS, z = Hs_ticks S x23 := ⟨_, rfl⟩
      rw [← eS24] at hp
      have h := h S24 eS24
      refine lv_aload_n hx hb dX2_tick_47 rfl (lv_at hl 0 rfl) ?_
      refine r_callV (q0 := 0) (ci := 2) (rest := []) (c_X2_goOnTurning (E0 := E0) (ad := ad) C.hZ h) C hp mf_X2_goOnTurning km_X2_143 hl.1 dX2_tick_48 rfl rfl ⟨lb rfl, lb rfl, g21.1, g21.2⟩ rfl rfl (lb rfl) (fun v w1 H locs hv hp => ?_)
      obtain ⟨S25, rfl, rfl, h⟩ := hv
      refine W.widen (k := cu) (n := su) (Nat.le_refl _) (Nat.le_refl _) ?_
      refine W.eq (g2 := F0 m 51 ls []) rfl ?_
      refine lv_aload_n hx hb dX2_tick_51 rfl (lv_at hl 0 rfl) ?_
      refine r_callV (q0 := 0) (ci := 2) (rest := []) (c_X2_beginTurning (E0 := E0) (ad := ad) C.hZ h) C hp mf_X2_beginTurning km_X2_146 hl.1 dX2_tick_52 rfl rfl ⟨lb rfl, lb rfl, g21.1, g21.2⟩ rfl rfl (lb rfl) (fun v w1 H locs hv hp => ?_)
      obtain ⟨S26, rfl, rfl, h⟩ := hv
      refine W.widen (k := cu) (n := su) (Nat.le_refl _) (Nat.le_refl _) ?_
      refine W.eq (g2 := F0 m 55 ls []) rfl ?_
      refine lv_aload_n hx hb dX2_tick_55 rfl (lv_at hl 0 rfl) ?_
      refine r_callV (q0 := 0) (ci := 2) (rest := []) (c_X2_rollAll (E0 := E0) (ad := ad) C.hZ h) C hp mf_X2_rollAll km_X2_149 hl.1 dX2_tick_56 rfl rfl ⟨lb rfl, lb rfl, g21.1, g21.2⟩ rfl rfl (lb rfl) (fun v w1 H locs hv hp => ?_)
      obtain ⟨S27, rfl, rfl, h⟩ := hv
      refine W.widen (k := cu) (n := su) (Nat.le_refl _) (Nat.le_refl _) ?_
      refine W.eq (g2 := F0 m 59 ls []) rfl ?_
      refine lv_aload_n hx hb dX2_tick_59 rfl (lv_at hl 0 rfl) ?_
      refine r_callV (q0 := 0) (ci := 2) (rest := []) (c_X2_catchAll (E0 := E0) (ad := ad) C.hZ h) C hp mf_X2_catchAll km_X2_152 hl.1 dX2_tick_60 rfl rfl ⟨lb rfl, lb rfl, g21.1, g21.2⟩ rfl rfl (lb rfl) (fun v w1 H locs hv hp => ?_)
      obtain ⟨S28, rfl, rfl, h⟩ := hv
      refine W.widen (k := cu) (n := su) (Nat.le_refl _) (Nat.le_refl _) ?_
      refine W.eq (g2 := F0 m 63 ls []) rfl ?_
      refine lv_aload_n hx hb dX2_tick_63 rfl (lv_at hl 0 rfl) ?_
      refine r_callV (q0 := 0) (ci := 2) (rest := []) (c_X2_endAll (E0 := E0) (ad := ad) C.hZ h9 h) C hp mf_X2_endAll km_X2_155 hl.1 dX2_tick_64 rfl rfl ⟨lb rfl, lb rfl, g21.1, g21.2⟩ rfl rfl (lb rfl) (fun v w1 H locs hv hp => ?_)
      obtain ⟨S29, rfl, rfl, h⟩ := hv
      refine W.widen (k := cu) (n := su) (Nat.le_refl _) (Nat.le_refl _) ?_
      refine W.eq (g2 := F0 m 67 ls []) rfl ?_
      refine lv_aload_n hx hb dX2_tick_67 rfl (lv_at hl 0 rfl) ?_
      obtain ⟨mc31, ms32, g33, h⟩ := h
      refine r_callV (q0 := 0) (ci := 2) (rest := []) (c_X2_pushNext (E0 := E0) (ad := ad) C.hZ h9 h) C hp mf_X2_pushNext km_X2_158 hl.1 dX2_tick_68 rfl rfl ⟨lb rfl, lb rfl, g33.1, g33.2⟩ rfl rfl (lb rfl) (fun v w1 H locs hv hp => ?_)
      obtain ⟨S30, rfl, rfl, h⟩ := hv
      refine W.widen (k := cu + mc31) (n := su + ms32) (Nat.le_refl _) (Nat.le_refl _) ?_
      refine W.eq (g2 := F0 m 71 ls []) rfl ?_
      refine lv_iinc (v := x3 + (1)) (lv' := [(3, .int (x3 + (1))), (0, .ref (ad 0)), (1, .int a0), (2, .int x2)]) hx hb dX2_tick_71 hl (k := 3) rfl rfl (by decide) rfl (fun ls hl => ?_)
      refine lv_goto (tgt := 32) hx hb dX2_tick_74 (by decide) ?_
      exact ih _ _ _ _ _ _ _ _ h hp (lv_sub hl [1, 2, 3, 0] rfl)
set_option maxHeartbeats 4000000 in
set_option maxRecDepth 100000 in
theorem c_X2_tick {l : Launch} {G : GT} {Z : State} {E0 : Nat} {ad : Nat → Nat} (hZ : ZOK G Z) (h9 : ZO2 l E0 Z) {a0 : Int32} {S : HS} {post : Int32 → HS → Prop} {px : String → Prop} (h : wp_X2_tick a0 S post px) : CMX l G Z yX2_tick cX2_tick 4 (some .int) (rmB 8 242 8 250) [.ref (ad 0), .int a0] (wH G E0 ad S) (PI (wH G E0 ad) post) px := by
  refine CMX_ofW hZ (by decide +kernel) (lb rfl) (fun p e s m below meth c ls C hp hl ht => ?_)
  have C : Cx G Z _ p s m _ meth c RX2 cX2_tick 4 (some .int) := C
  have hl : lv_has ls 4 [(0, .ref (ad 0)), (1, .int a0)] := hl
  have hx := C.hx
  have hb := C.hb
  unfold wp_X2_tick at h
  refine lv_iload_n hx hb dX2_tick_0 rfl (lv_at hl 1 rfl) ?_
  refine lv_iconst (v := 1) hx hb dX2_tick_1 (by decide) ?_
  refine lv_icmp_lt (tgt := 12) hx hb dX2_tick_2 (by decide) (fun q34 => ?_) (fun q34 => ?_)
  · have h := h.1 q34
    exact x_throw (text := "ticks are 1 to 400") C hp h9 xk_IAE h9.2.1.1 (by decide) ht hl.1 dX2_tick_12 dX2_tick_15 dX2_tick_16 dX2_tick_18 dX2_tick_21 ⟨lb rfl, lb rfl, lb rfl, lb rfl, lb rfl, lb rfl⟩ h
  · have h := h.2 q34
    refine lv_iload_n hx hb dX2_tick_5 rfl (lv_at hl 1 rfl) ?_
    refine lv_sipush (v := 400) hx hb dX2_tick_6 (by decide) ?_
    refine lv_icmp_le (tgt := 22) hx hb dX2_tick_9 (by decide) (fun q35 => ?_) (fun q35 => ?_)
    · have h := h.1 q35
      refine lv_aload_n hx hb dX2_tick_22 rfl (lv_at hl 0 rfl) ?_
      refine gH_events C hp dX2_tick_23 ?_
      refine gE2_count C hp dX2_tick_26 ?_
      refine lv_topi (fun x36 ex36 => ?_)
      have h := h x36 ex36
      refine lv_istore_n (lv' := [(2, .int x36), (0, .ref (ad 0)), (1, .int a0)]) hx hb dX2_tick_29 rfl hl (by decide) rfl (fun ls hl => ?_)
      refine lv_iconst (v := 0) hx hb dX2_tick_30 (by decide) ?_
      refine lv_istore_n (lv' := [(3, .int (0 : Int32)), (2, .int x36), (0, .ref (ad 0)), (1, .int a0)]) hx hb dX2_tick_31 rfl hl (by decide) rfl (fun ls hl => ?_)
      obtain ⟨n, h⟩ := h
      exact lp_X2_tick_32 C h9 n _ _ _ _ _ _ _ _ h hp (lv_sub hl [2, 3, 1, 0] rfl)
    · have h := h.2 q35
      exact x_throw (text := "ticks are 1 to 400") C hp h9 xk_IAE h9.2.1.1 (by decide) ht hl.1 dX2_tick_12 dX2_tick_15 dX2_tick_16 dX2_tick_18 dX2_tick_21 ⟨lb rfl, lb rfl, lb rfl, lb rfl, lb rfl, lb rfl⟩ h
theorem mf_X2_tick : MFv yX2_tick cX2_tick 4 (some .int) 1 := ⟨kc_X2_tick, kn_X2_tick, kv_X2_tick, ki_X2, by decide +kernel⟩

