section XFORMS
def SA (w0 : va_W) (post : Nat → Prop) : Option Value → va_W → Prop := fun v w => ∃ r : Nat, v = some (.ref r) ∧ w = w0 ∧ post r
theorem sw_k {x : Int32} {k : Nat} (h : x.toInt = (k : Int)) (hk : k < 2 ^ 31) : x = nI k := by
  refine Int32.toInt.inj ?_
  rw [h, nI_toInt hk]
theorem sw_2 {x : Int32} (h : ¬ (x.toInt < 0 ∨ 2 < x.toInt)) : x = 0 ∨ x = 1 ∨ x = 2 := by
  have : x.toInt = ((0 : Nat) : Int) ∨ x.toInt = ((1 : Nat) : Int) ∨ x.toInt = ((2 : Nat) : Int) := by omega
  rcases this with h | h | h
  · exact Or.inl (sw_k h (by decide))
  · exact Or.inr (Or.inl (sw_k h (by decide)))
  · exact Or.inr (Or.inr (sw_k h (by decide)))
theorem sw_3 {x : Int32} (h : ¬ (x.toInt < 0 ∨ 3 < x.toInt)) : x = 0 ∨ x = 1 ∨ x = 2 ∨ x = 3 := by
  rcases (by omega : ¬ (x.toInt < 0 ∨ 2 < x.toInt) ∨ x.toInt = ((3 : Nat) : Int)) with h | h
  · rcases sw_2 h with h | h | h
    · exact Or.inl h
    · exact Or.inr (Or.inl h)
    · exact Or.inr (Or.inr (Or.inl h))
  · exact Or.inr (Or.inr (Or.inr (sw_k h (by decide))))
theorem sw_6 {x : Int32} (h : ¬ (x.toInt < 0 ∨ 6 < x.toInt)) : x = 0 ∨ x = 1 ∨ x = 2 ∨ x = 3 ∨ x = 4 ∨ x = 5 ∨ x = 6 := by
  rcases (by omega : ¬ (x.toInt < 0 ∨ 3 < x.toInt) ∨ x.toInt = ((4 : Nat) : Int) ∨ x.toInt = ((5 : Nat) : Int) ∨ x.toInt = ((6 : Nat) : Int)) with h | h | h | h
  · rcases sw_3 h with h | h | h | h
    · exact Or.inl h
    · exact Or.inr (Or.inl h)
    · exact Or.inr (Or.inr (Or.inl h))
    · exact Or.inr (Or.inr (Or.inr (Or.inl h)))
  · exact Or.inr (Or.inr (Or.inr (Or.inr (Or.inl (sw_k h (by decide))))))
  · exact Or.inr (Or.inr (Or.inr (Or.inr (Or.inr (Or.inl (sw_k h (by decide)))))))
  · exact Or.inr (Or.inr (Or.inr (Or.inr (Or.inr (Or.inr (sw_k h (by decide)))))))
end XFORMS

/-! X2_cutOf -/
def wp_X2_cutOf (S : HS) (a0 : Int32) (post : Nat → Prop) (px : String → Prop) : Prop :=
  ((a0 < 0 →
    px xIOB
  ) ∧
  (¬ a0 < 0 →
    ((a0 < (H_cs S) →
      ∃ y3 : Nat, lget (H_ca S) (H_cs S) a0 y3 ∧ (
        (y3 ∈ H_L S) ∧ (
          post y3
        )
      )
    ) ∧
    (¬ a0 < (H_cs S) →
      px xIOB
    ))
  ))
set_option maxHeartbeats 4000000 in
set_option maxRecDepth 100000 in
theorem c_X2_cutOf {l : Launch} {G : GT} {Z : State} {E0 : Nat} {ad : Nat → Nat} (hZ : ZOK G Z) (h9 : ZO2 l E0 Z) {S : HS} {a0 : Int32} {post : Nat → Prop} {px : String → Prop} (h : wp_X2_cutOf S a0 post px) : CMX l G Z yX2_cutOf cX2_cutOf 2 (some (.object "HumpYard$Cut")) (rmB 6 90 1 6) [.ref (ad 0), .int a0] (wH G E0 ad S) (SA (wH G E0 ad S) post) px := by
  refine CMX_ofW hZ (by decide +kernel) (lb rfl) (fun p e s m below meth c ls C hp hl ht => ?_)
  have C : Cx G Z _ p s m _ meth c RX2 cX2_cutOf 2 (some (.object "HumpYard$Cut")) := C
  have hl : lv_has ls 2 [(0, .ref (ad 0)), (1, .int a0)] := hl
  have hx := C.hx
  have hb := C.hb
  unfold wp_X2_cutOf at h
  refine lv_iload_n hx hb dX2_cutOf_0 rfl (lv_at hl 1 rfl) ?_
  refine lv_if_lt (tgt := 15) hx hb dX2_cutOf_1 (by decide) (fun q1 => ?_) (fun q1 => ?_)
  · have h := h.1 q1
    exact x_throw (text := "there is no such cut") C hp h9 xk_IOB h9.2.1.2.2.1 (by decide) ht hl.1 dX2_cutOf_15 dX2_cutOf_18 dX2_cutOf_19 dX2_cutOf_21 dX2_cutOf_24 ⟨lb rfl, lb rfl, lb rfl, lb rfl, lb rfl, lb rfl⟩ h
  · have h := h.2 q1
    refine lv_iload_n hx hb dX2_cutOf_4 rfl (lv_at hl 1 rfl) ?_
    refine lv_aload_n hx hb dX2_cutOf_5 rfl (lv_at hl 0 rfl) ?_
    refine gH_cuts C hp dX2_cutOf_6 ?_
    refine r_callV (q0 := 3) (ci := 4) (rest := [.int a0]) (c_al_size (k := 3) C.hZ rfl) C hp mf_Jx4a65c_size_8abf5 km_X2_101 hl.1 dX2_cutOf_9 rfl rfl ⟨lb rfl, lb rfl, lb rfl, lb rfl⟩ rfl rfl (lb rfl) (fun v w1 H locs hv hp => ?_)
    obtain ⟨rfl, rfl⟩ := hv
    refine W.eq (g2 := F0 m 12 ls [.int (H_cs S), .int a0]) rfl ?_
    refine lv_icmp_lt (tgt := 25) hx hb dX2_cutOf_12 (by decide) (fun q2 => ?_) (fun q2 => ?_)
    · have h := h.1 q2
      refine lv_aload_n hx hb dX2_cutOf_25 rfl (lv_at hl 0 rfl) ?_
      refine gH_cuts C hp dX2_cutOf_26 ?_
      refine lv_iload_n hx hb dX2_cutOf_29 rfl (lv_at hl 1 rfl) ?_
      obtain ⟨y3, g4, h⟩ := h
      refine r_callV (q0 := 3) (ci := 4) (rest := []) (c_getC (ad := ad) (S := S) C.hZ g4) C hp mf_Jx4a65c_get_915e3 km_X2_208 hl.1 dX2_cutOf_30 rfl rfl ⟨lb rfl, lb rfl, lb rfl, lb rfl⟩ rfl rfl (lb rfl) (fun v w1 H locs hv hp => ?_)
      obtain ⟨rfl, rfl⟩ := hv
      refine W.eq (g2 := F0 m 33 ls [.ref y3]) rfl ?_
      obtain ⟨g5, h⟩ := h
      refine cast_cut (index := 0) C hp dX2_cutOf_33 g5 ?_
      refine vx_ret (W.widen (k := 1) (n := 6) (lb rfl) (lb rfl) ?_)
      exact r_aret C hp (Or.inl ⟨_, rfl⟩) (Or.inr ⟨_, rfl⟩) dX2_cutOf_36 ⟨_, rfl, rfl, h⟩
    · have h := h.2 q2
      exact x_throw (text := "there is no such cut") C hp h9 xk_IOB h9.2.1.2.2.1 (by decide) ht hl.1 dX2_cutOf_15 dX2_cutOf_18 dX2_cutOf_19 dX2_cutOf_21 dX2_cutOf_24 ⟨lb rfl, lb rfl, lb rfl, lb rfl, lb rfl, lb rfl⟩ h
theorem mf_X2_cutOf : MFv yX2_cutOf cX2_cutOf 2 (some (.object "HumpYard$Cut")) 1 := ⟨kc_X2_cutOf, kn_X2_cutOf, kv_X2_cutOf, ki_X2, by decide +kernel⟩

/-! X2_push -/
def wp_X2_push (a0 : UInt64) (S : HS) (post : UInt64 → HS → Prop) (px : String → Prop) : Prop :=
  wp_X2_isWithin a0 (4 : Int32) (fun r1 =>
    ((¬ r1 = 0 →
      ∀ x3 : UInt64, x3 = H_push S →
        ∀ S4 : HS, S4 = Hs_push S a0 →
          post x3 S4
    ) ∧
    (r1 = 0 →
      px xIAE
    ))
  )
set_option maxHeartbeats 4000000 in
set_option maxRecDepth 100000 in
theorem c_X2_push {l : Launch} {G : GT} {Z : State} {E0 : Nat} {ad : Nat → Nat} (hZ : ZOK G Z) (h9 : ZO2 l E0 Z) {a0 : UInt64} {S : HS} {post : UInt64 → HS → Prop} {px : String → Prop} (h : wp_X2_push a0 S post px) : CMX l G Z yX2_push cX2_push 5 (some .double) (rmB 6 90 1 6) [.ref (ad 0), .double a0] (wH G E0 ad S) (PD (wH G E0 ad) post) px := by
  refine CMX_ofW hZ (by decide +kernel) (lb rfl) (fun p e s m below meth c ls C hp hl ht => ?_)
  have C : Cx G Z _ p s m _ meth c RX2 cX2_push 5 (some .double) := C
  have hl : lv_has ls 5 [(0, .ref (ad 0)), (1, .double a0)] := hl
  have hx := C.hx
  have hb := C.hb
  unfold wp_X2_push at h
  refine lv_dload_n hx hb dX2_push_0 rfl (lv_at hl 1 rfl) ?_
  refine lv_iconst (v := 4) hx hb dX2_push_1 (by decide) ?_
  refine r_callS (rest := []) (c_X2_isWithin C.hZ h) C hp mf_X2_isWithin km_X2_89 hl.1 dX2_push_2 ⟨lb rfl, lb rfl, lb rfl, lb rfl⟩ rfl rfl (lb rfl) (fun v w1 H locs hv hp => ?_)
  obtain ⟨r1, rfl, rfl, h⟩ := hv
  refine W.eq (g2 := F0 m 5 ls [.int r1]) rfl ?_
  refine lv_if_ne (tgt := 18) hx hb dX2_push_5 (by decide) (fun q2 => ?_) (fun q2 => ?_)
  · have h := h.1 q2
    refine lv_aload_n hx hb dX2_push_18 rfl (lv_at hl 0 rfl) ?_
    refine gH_pushSpeed C hp dX2_push_19 ?_
    refine lv_topd (fun x3 ex3 => ?_)
    have h := h x3 ex3
    refine lv_dstore_n (lv' := [(3, .double x3), (0, .ref (ad 0)), (1, .double a0)]) hx hb dX2_push_22 rfl hl (by decide) rfl (fun ls hl => ?_)
    refine lv_aload_n hx hb dX2_push_23 rfl (lv_at hl 1 rfl) ?_
    refine lv_dload_n hx hb dX2_push_24 rfl (lv_at hl 2 rfl) ?_
    refine pH_pushSpeed C hp dX2_push_25 (fun H locs hp => ?_)
    obtain ⟨S4, eS4⟩ : ∃ z : HS, z = Hs_push S a0 := ⟨_, rfl⟩
    rw [← eS4] at hp
    have h := h S4 eS4
    refine lv_dload_n hx hb dX2_push_28 rfl (lv_at hl 0 rfl) ?_
    refine vx_ret (W.widen (k := 1) (n := 6) (lb rfl) (lb rfl) ?_)
    exact r_dret C hp dX2_push_29 ⟨_, _, rfl, rfl, h⟩
  · have h := h.2 q2
    exact x_throw (text := "the push is 0 to 4") C hp h9 xk_IAE h9.2.1.1 (by decide) ht hl.1 dX2_push_8 dX2_push_11 dX2_push_12 dX2_push_14 dX2_push_17 ⟨lb rfl, lb rfl, lb rfl, lb rfl, lb rfl, lb rfl⟩ h
theorem mf_X2_push : MFv yX2_push cX2_push 5 (some .double) 1 := ⟨kc_X2_push, kn_X2_push, kv_X2_push, ki_X2, by decide +kernel⟩

/-! X2_wish -/
def wp_X2_wish (a0 : Int32) (a1 : UInt64) (S : HS) (post : UInt64 → HS → Prop) (px : String → Prop) : Prop :=
  ((a0 < 0 →
    px xIOB
  ) ∧
  (¬ a0 < 0 →
    ((a0 < (9 : Int32) →
      wp_X2_isWithin a1 (20 : Int32) (fun r3 =>
        ((¬ r3 = 0 →
          (vp_in a0 9) ∧ (
            ∀ x6 : UInt64, x6 = H_wishes S a0.toNatClampNeg →
              ∀ S7 : HS, S7 = Hs_wishes S (vf_upd (H_wishes S) a0.toNatClampNeg a1) →
                post x6 S7
          )
        ) ∧
        (r3 = 0 →
          px xIAE
        ))
      )
    ) ∧
    (¬ a0 < (9 : Int32) →
      px xIOB
    ))
  ))
set_option maxHeartbeats 4000000 in
set_option maxRecDepth 100000 in
theorem c_X2_wish {l : Launch} {G : GT} {Z : State} {E0 : Nat} {ad : Nat → Nat} (hZ : ZOK G Z) (h9 : ZO2 l E0 Z) {a0 : Int32} {a1 : UInt64} {S : HS} {post : UInt64 → HS → Prop} {px : String → Prop} (h : wp_X2_wish a0 a1 S post px) : CMX l G Z yX2_wish cX2_wish 6 (some .double) (rmB 6 90 1 6) [.ref (ad 0), .int a0, .double a1] (wH G E0 ad S) (PD (wH G E0 ad) post) px := by
  refine CMX_ofW hZ (by decide +kernel) (lb rfl) (fun p e s m below meth c ls C hp hl ht => ?_)
  have C : Cx G Z _ p s m _ meth c RX2 cX2_wish 6 (some .double) := C
  have hl : lv_has ls 6 [(0, .ref (ad 0)), (1, .int a0), (2, .double a1)] := hl
  have hx := C.hx
  have hb := C.hb
  unfold wp_X2_wish at h
  refine lv_iload_n hx hb dX2_wish_0 rfl (lv_at hl 1 rfl) ?_
  refine lv_if_lt (tgt := 10) hx hb dX2_wish_1 (by decide) (fun q1 => ?_) (fun q1 => ?_)
  · have h := h.1 q1
    exact x_throw (text := "retarders are 0 to 8") C hp h9 xk_IOB h9.2.1.2.2.1 (by decide) ht hl.1 dX2_wish_10 dX2_wish_13 dX2_wish_14 dX2_wish_16 dX2_wish_19 ⟨lb rfl, lb rfl, lb rfl, lb rfl, lb rfl, lb rfl⟩ h
  · have h := h.2 q1
    refine lv_iload_n hx hb dX2_wish_4 rfl (lv_at hl 1 rfl) ?_
    refine lv_bipush (v := 9) hx hb dX2_wish_5 (by decide) ?_
    refine lv_icmp_lt (tgt := 20) hx hb dX2_wish_7 (by decide) (fun q2 => ?_) (fun q2 => ?_)
    · have h := h.1 q2
      refine lv_dload_n hx hb dX2_wish_20 rfl (lv_at hl 2 rfl) ?_
      refine lv_bipush (v := 20) hx hb dX2_wish_21 (by decide) ?_
      refine r_callS (rest := []) (c_X2_isWithin C.hZ h) C hp mf_X2_isWithin km_X2_89 hl.1 dX2_wish_23 ⟨lb rfl, lb rfl, lb rfl, lb rfl⟩ rfl rfl (lb rfl) (fun v w1 H locs hv hp => ?_)
      obtain ⟨r3, rfl, rfl, h⟩ := hv
      refine W.eq (g2 := F0 m 26 ls [.int r3]) rfl ?_
      refine lv_if_ne (tgt := 39) hx hb dX2_wish_26 (by decide) (fun q4 => ?_) (fun q4 => ?_)
      · have h := h.1 q4
        refine lv_aload_n hx hb dX2_wish_39 rfl (lv_at hl 0 rfl) ?_
        refine gH_wishes C hp dX2_wish_40 ?_
        refine lv_iload_n hx hb dX2_wish_43 rfl (lv_at hl 1 rfl) ?_
        obtain ⟨g5, h⟩ := h
        refine aH_wishes C hp dX2_wish_44 g5 ?_
        refine lv_topd (fun x6 ex6 => ?_)
        have h := h x6 ex6
        refine lv_dstore (lv' := [(4, .double x6), (0, .ref (ad 0)), (1, .int a0), (2, .double a1)]) hx hb dX2_wish_45 hl (by decide) rfl (fun ls hl => ?_)
        refine lv_aload_n hx hb dX2_wish_47 rfl (lv_at hl 1 rfl) ?_
        refine gH_wishes C hp dX2_wish_48 ?_
        refine lv_iload_n hx hb dX2_wish_51 rfl (lv_at hl 2 rfl) ?_
        refine lv_dload_n hx hb dX2_wish_52 rfl (lv_at hl 3 rfl) ?_
        refine uH_wishes C hp dX2_wish_53 g5 (fun H locs hp => ?_)
        obtain ⟨S7, eS7⟩ : ∃ z : HS, z = Hs_wishes S (vf_upd (H_wishes S) a0.toNatClampNeg a1) := ⟨_, rfl⟩
        rw [← eS7] at hp
        have h := h S7 eS7
        refine lv_dload hx hb dX2_wish_54 (lv_at hl 0 rfl) ?_
        refine vx_ret (W.widen (k := 1) (n := 6) (lb rfl) (lb rfl) ?_)
        exact r_dret C hp dX2_wish_56 ⟨_, _, rfl, rfl, h⟩
      · have h := h.2 q4
        exact x_throw (text := "a wish is 0 to 20") C hp h9 xk_IAE h9.2.1.1 (by decide) ht hl.1 dX2_wish_29 dX2_wish_32 dX2_wish_33 dX2_wish_35 dX2_wish_38 ⟨lb rfl, lb rfl, lb rfl, lb rfl, lb rfl, lb rfl⟩ h
    · have h := h.2 q2
      exact x_throw (text := "retarders are 0 to 8") C hp h9 xk_IOB h9.2.1.2.2.1 (by decide) ht hl.1 dX2_wish_10 dX2_wish_13 dX2_wish_14 dX2_wish_16 dX2_wish_19 ⟨lb rfl, lb rfl, lb rfl, lb rfl, lb rfl, lb rfl⟩ h
theorem mf_X2_wish : MFv yX2_wish cX2_wish 6 (some .double) 2 := ⟨kc_X2_wish, kn_X2_wish, kv_X2_wish, ki_X2, by decide +kernel⟩

/-! X2_stick -/
def wp_X2_stick (a0 : Int32) (a1 : Int32) (S : HS) (post : Int32 → HS → Prop) (px : String → Prop) : Prop :=
  wp_X2_isPoint a0 (fun r1 =>
    ((¬ r1 = 0 →
      (vp_in a0 7) ∧ (
        ∀ x4 : Int32, x4 = H_stuck S a0.toNatClampNeg →
          ∀ S5 : HS, S5 = Hs_stuck S (upd (H_stuck S) a0.toNatClampNeg (vp_nar .boolean a1)) →
            (narrow .boolean (.int x4) = .int x4) ∧ post x4 S5
      )
    ) ∧
    (r1 = 0 →
      px xIOB
    ))
  )
set_option maxHeartbeats 4000000 in
set_option maxRecDepth 100000 in
theorem c_X2_stick {l : Launch} {G : GT} {Z : State} {E0 : Nat} {ad : Nat → Nat} (hZ : ZOK G Z) (h9 : ZO2 l E0 Z) {a0 : Int32} {a1 : Int32} {S : HS} {post : Int32 → HS → Prop} {px : String → Prop} (h : wp_X2_stick a0 a1 S post px) : CMX l G Z yX2_stick cX2_stick 4 (some .boolean) (rmB 6 90 1 6) [.ref (ad 0), .int a0, .int a1] (wH G E0 ad S) (PI (wH G E0 ad) post) px := by
  refine CMX_ofW hZ (by decide +kernel) (lb rfl) (fun p e s m below meth c ls C hp hl ht => ?_)
  have C : Cx G Z _ p s m _ meth c RX2 cX2_stick 4 (some .boolean) := C
  have hl : lv_has ls 4 [(0, .ref (ad 0)), (1, .int a0), (2, .int a1)] := hl
  have hx := C.hx
  have hb := C.hb
  unfold wp_X2_stick at h
  refine lv_iload_n hx hb dX2_stick_0 rfl (lv_at hl 1 rfl) ?_
  refine r_callS (rest := []) (c_X2_isPoint C.hZ h) C hp mf_X2_isPoint km_X2_131 hl.1 dX2_stick_1 ⟨lb rfl, lb rfl, lb rfl, lb rfl⟩ rfl rfl (lb rfl) (fun v w1 H locs hv hp => ?_)
  obtain ⟨r1, rfl, rfl, h⟩ := hv
  refine W.eq (g2 := F0 m 4 ls [.int r1]) rfl ?_
  refine lv_if_ne (tgt := 17) hx hb dX2_stick_4 (by decide) (fun q2 => ?_) (fun q2 => ?_)
  · have h := h.1 q2
    refine lv_aload_n hx hb dX2_stick_17 rfl (lv_at hl 0 rfl) ?_
    refine gH_stuckPoints C hp dX2_stick_18 ?_
    refine lv_iload_n hx hb dX2_stick_21 rfl (lv_at hl 1 rfl) ?_
    obtain ⟨g3, h⟩ := h
    refine aH_stuck C hp dX2_stick_22 g3 ?_
    refine lv_topi (fun x4 ex4 => ?_)
    have h := h x4 ex4
    refine lv_istore_n (lv' := [(3, .int x4), (0, .ref (ad 0)), (1, .int a0), (2, .int a1)]) hx hb dX2_stick_23 rfl hl (by decide) rfl (fun ls hl => ?_)
    refine lv_aload_n hx hb dX2_stick_24 rfl (lv_at hl 1 rfl) ?_
    refine gH_stuckPoints C hp dX2_stick_25 ?_
    refine lv_iload_n hx hb dX2_stick_28 rfl (lv_at hl 2 rfl) ?_
    refine lv_iload_n hx hb dX2_stick_29 rfl (lv_at hl 3 rfl) ?_
    refine uH_stuck C hp dX2_stick_30 g3 (fun H locs hp => ?_)
    obtain ⟨S5, eS5⟩ : ∃ z : HS, z = Hs_stuck S (upd (H_stuck S) a0.toNatClampNeg (vp_nar .boolean a1)) := ⟨_, rfl⟩
    rw [← eS5] at hp
    have h := h S5 eS5
    refine lv_iload_n hx hb dX2_stick_31 rfl (lv_at hl 0 rfl) ?_
    obtain ⟨gz, h⟩ := h
    refine vx_ret (W.widen (k := 1) (n := 6) (lb rfl) (lb rfl) ?_)
    exact r_zret C hp dX2_stick_32 gz ⟨_, _, rfl, rfl, h⟩
  · have h := h.2 q2
    exact x_throw (text := "points are 0 to 6") C hp h9 xk_IOB h9.2.1.2.2.1 (by decide) ht hl.1 dX2_stick_7 dX2_stick_10 dX2_stick_11 dX2_stick_13 dX2_stick_16 ⟨lb rfl, lb rfl, lb rfl, lb rfl, lb rfl, lb rfl⟩ h
theorem mf_X2_stick : MFv yX2_stick cX2_stick 4 (some .boolean) 2 := ⟨kc_X2_stick, kn_X2_stick, kv_X2_stick, ki_X2, by decide +kernel⟩

/-! X2_fill -/
def wp_X2_fill (a0 : Int32) (a1 : UInt64) (S : HS) (post : UInt64 → HS → Prop) (px : String → Prop) : Prop :=
  wp_X2_isTrack a0 (fun r1 =>
    ((¬ r1 = 0 →
      wp_X2_isWithin a1 (800 : Int32) (fun r3 =>
        ((¬ r3 = 0 →
          (vp_in a0 8) ∧ (
            ∀ x6 : UInt64, x6 = H_free S a0.toNatClampNeg →
              ∀ S7 : HS, S7 = Hs_free S (vf_upd (H_free S) a0.toNatClampNeg a1) →
                post x6 S7
          )
        ) ∧
        (r3 = 0 →
          px xIAE
        ))
      )
    ) ∧
    (r1 = 0 →
      px xIOB
    ))
  )
set_option maxHeartbeats 4000000 in
set_option maxRecDepth 100000 in
theorem c_X2_fill {l : Launch} {G : GT} {Z : State} {E0 : Nat} {ad : Nat → Nat} (hZ : ZOK G Z) (h9 : ZO2 l E0 Z) {a0 : Int32} {a1 : UInt64} {S : HS} {post : UInt64 → HS → Prop} {px : String → Prop} (h : wp_X2_fill a0 a1 S post px) : CMX l G Z yX2_fill cX2_fill 6 (some .double) (rmB 6 90 1 6) [.ref (ad 0), .int a0, .double a1] (wH G E0 ad S) (PD (wH G E0 ad) post) px := by
  refine CMX_ofW hZ (by decide +kernel) (lb rfl) (fun p e s m below meth c ls C hp hl ht => ?_)
  have C : Cx G Z _ p s m _ meth c RX2 cX2_fill 6 (some .double) := C
  have hl : lv_has ls 6 [(0, .ref (ad 0)), (1, .int a0), (2, .double a1)] := hl
  have hx := C.hx
  have hb := C.hb
  unfold wp_X2_fill at h
  refine lv_iload_n hx hb dX2_fill_0 rfl (lv_at hl 1 rfl) ?_
  refine r_callS (rest := []) (c_X2_isTrack C.hZ h) C hp mf_X2_isTrack km_X2_95 hl.1 dX2_fill_1 ⟨lb rfl, lb rfl, lb rfl, lb rfl⟩ rfl rfl (lb rfl) (fun v w1 H locs hv hp => ?_)
  obtain ⟨r1, rfl, rfl, h⟩ := hv
  refine W.eq (g2 := F0 m 4 ls [.int r1]) rfl ?_
  refine lv_if_ne (tgt := 17) hx hb dX2_fill_4 (by decide) (fun q2 => ?_) (fun q2 => ?_)
  · have h := h.1 q2
    refine lv_dload_n hx hb dX2_fill_17 rfl (lv_at hl 2 rfl) ?_
    refine lv_sipush (v := 800) hx hb dX2_fill_18 (by decide) ?_
    refine r_callS (rest := []) (c_X2_isWithin C.hZ h) C hp mf_X2_isWithin km_X2_89 hl.1 dX2_fill_21 ⟨lb rfl, lb rfl, lb rfl, lb rfl⟩ rfl rfl (lb rfl) (fun v w1 H locs hv hp => ?_)
    obtain ⟨r3, rfl, rfl, h⟩ := hv
    refine W.eq (g2 := F0 m 24 ls [.int r3]) rfl ?_
    refine lv_if_ne (tgt := 37) hx hb dX2_fill_24 (by decide) (fun q4 => ?_) (fun q4 => ?_)
    · have h := h.1 q4
      refine lv_aload_n hx hb dX2_fill_37 rfl (lv_at hl 0 rfl) ?_
      refine gH_free C hp dX2_fill_38 ?_
      refine lv_iload_n hx hb dX2_fill_41 rfl (lv_at hl 1 rfl) ?_
      obtain ⟨g5, h⟩ := h
      refine aH_free C hp dX2_fill_42 g5 ?_
      refine lv_topd (fun x6 ex6 => ?_)
      have h := h x6 ex6
      refine lv_dstore (lv' := [(4, .double x6), (0, .ref (ad 0)), (1, .int a0), (2, .double a1)]) hx hb dX2_fill_43 hl (by decide) rfl (fun ls hl => ?_)
      refine lv_aload_n hx hb dX2_fill_45 rfl (lv_at hl 1 rfl) ?_
      refine gH_free C hp dX2_fill_46 ?_
      refine lv_iload_n hx hb dX2_fill_49 rfl (lv_at hl 2 rfl) ?_
      refine lv_dload_n hx hb dX2_fill_50 rfl (lv_at hl 3 rfl) ?_
      refine uH_free C hp dX2_fill_51 g5 (fun H locs hp => ?_)
      obtain ⟨S7, eS7⟩ : ∃ z : HS, z = Hs_free S (vf_upd (H_free S) a0.toNatClampNeg a1) := ⟨_, rfl⟩
      rw [← eS7] at hp
      have h := h S7 eS7
      refine lv_dload hx hb dX2_fill_52 (lv_at hl 0 rfl) ?_
      refine vx_ret (W.widen (k := 1) (n := 6) (lb rfl) (lb rfl) ?_)
      exact r_dret C hp dX2_fill_54 ⟨_, _, rfl, rfl, h⟩
    · have h := h.2 q4
      exact x_throw (text := "free metres are 0 to 800") C hp h9 xk_IAE h9.2.1.1 (by decide) ht hl.1 dX2_fill_27 dX2_fill_30 dX2_fill_31 dX2_fill_33 dX2_fill_36 ⟨lb rfl, lb rfl, lb rfl, lb rfl, lb rfl, lb rfl⟩ h
  · have h := h.2 q2
    exact x_throw (text := "tracks are 0 to 7") C hp h9 xk_IOB h9.2.1.2.2.1 (by decide) ht hl.1 dX2_fill_7 dX2_fill_10 dX2_fill_11 dX2_fill_13 dX2_fill_16 ⟨lb rfl, lb rfl, lb rfl, lb rfl, lb rfl, lb rfl⟩ h
theorem mf_X2_fill : MFv yX2_fill cX2_fill 6 (some .double) 2 := ⟨kc_X2_fill, kn_X2_fill, kv_X2_fill, ki_X2, by decide +kernel⟩

/-! X2_place -/
def wp_X2_place (S : HS) (a0 : Int32) (post : UInt64 → Prop) (px : String → Prop) : Prop :=
  wp_X2_cutOf S a0 (fun y1 =>
    (y1 ∈ H_L S) ∧ (
      post (H_pl S y1)
    )
  ) px
set_option maxHeartbeats 4000000 in
set_option maxRecDepth 100000 in
theorem c_X2_place {l : Launch} {G : GT} {Z : State} {E0 : Nat} {ad : Nat → Nat} (hZ : ZOK G Z) (h9 : ZO2 l E0 Z) {S : HS} {a0 : Int32} {post : UInt64 → Prop} {px : String → Prop} (h : wp_X2_place S a0 post px) : CMX l G Z yX2_place cX2_place 2 (some .double) (rmB 7 111 1 6) [.ref (ad 0), .int a0] (wH G E0 ad S) (SD (wH G E0 ad S) post) px := by
  refine CMX_ofW hZ (by decide +kernel) (lb rfl) (fun p e s m below meth c ls C hp hl ht => ?_)
  have C : Cx G Z _ p s m _ meth c RX2 cX2_place 2 (some .double) := C
  have hl : lv_has ls 2 [(0, .ref (ad 0)), (1, .int a0)] := hl
  have hx := C.hx
  have hb := C.hb
  unfold wp_X2_place at h
  refine lv_aload_n hx hb dX2_place_0 rfl (lv_at hl 0 rfl) ?_
  refine lv_iload_n hx hb dX2_place_1 rfl (lv_at hl 1 rfl) ?_
  refine r_callVX (q0 := 0) (ci := 2) (rest := []) (c_X2_cutOf (E0 := E0) (ad := ad) C.hZ h9 h) C hp mf_X2_cutOf km_X2_161 hl.1 dX2_place_2 rfl rfl ⟨lb rfl, lb rfl, lb rfl, lb rfl⟩ rfl rfl (lb rfl) (fun E ce q H1 locs1 hE hp1 h1 h2 h3 => r_outX C hp1 ht hE h1 h2 h3 (lb rfl) (lb rfl)) (fun v w1 H locs hv hp => ?_)
  obtain ⟨y1, rfl, rfl, h⟩ := hv
  refine W.eq (g2 := F0 m 5 ls [.ref y1]) rfl ?_
  obtain ⟨g2, h⟩ := h
  refine gC2_place C hp dX2_place_5 g2 ?_
  refine vx_ret (W.widen (k := 1) (n := 6) (lb rfl) (lb rfl) ?_)
  exact r_dret C hp dX2_place_8 ⟨_, rfl, rfl, h⟩
theorem mf_X2_place : MFv yX2_place cX2_place 2 (some .double) 1 := ⟨kc_X2_place, kn_X2_place, kv_X2_place, ki_X2, by decide +kernel⟩

/-! X2_speed -/
def wp_X2_speed (S : HS) (a0 : Int32) (post : UInt64 → Prop) (px : String → Prop) : Prop :=
  wp_X2_cutOf S a0 (fun y1 =>
    (y1 ∈ H_L S) ∧ (
      post (H_sp S y1)
    )
  ) px
set_option maxHeartbeats 4000000 in
set_option maxRecDepth 100000 in
theorem c_X2_speed {l : Launch} {G : GT} {Z : State} {E0 : Nat} {ad : Nat → Nat} (hZ : ZOK G Z) (h9 : ZO2 l E0 Z) {S : HS} {a0 : Int32} {post : UInt64 → Prop} {px : String → Prop} (h : wp_X2_speed S a0 post px) : CMX l G Z yX2_speed cX2_speed 2 (some .double) (rmB 7 111 1 6) [.ref (ad 0), .int a0] (wH G E0 ad S) (SD (wH G E0 ad S) post) px := by
  refine CMX_ofW hZ (by decide +kernel) (lb rfl) (fun p e s m below meth c ls C hp hl ht => ?_)
  have C : Cx G Z _ p s m _ meth c RX2 cX2_speed 2 (some .double) := C
  have hl : lv_has ls 2 [(0, .ref (ad 0)), (1, .int a0)] := hl
  have hx := C.hx
  have hb := C.hb
  unfold wp_X2_speed at h
  refine lv_aload_n hx hb dX2_speed_0 rfl (lv_at hl 0 rfl) ?_
  refine lv_iload_n hx hb dX2_speed_1 rfl (lv_at hl 1 rfl) ?_
  refine r_callVX (q0 := 0) (ci := 2) (rest := []) (c_X2_cutOf (E0 := E0) (ad := ad) C.hZ h9 h) C hp mf_X2_cutOf km_X2_161 hl.1 dX2_speed_2 rfl rfl ⟨lb rfl, lb rfl, lb rfl, lb rfl⟩ rfl rfl (lb rfl) (fun E ce q H1 locs1 hE hp1 h1 h2 h3 => r_outX C hp1 ht hE h1 h2 h3 (lb rfl) (lb rfl)) (fun v w1 H locs hv hp => ?_)
  obtain ⟨y1, rfl, rfl, h⟩ := hv
  refine W.eq (g2 := F0 m 5 ls [.ref y1]) rfl ?_
  obtain ⟨g2, h⟩ := h
  refine gC2_speed C hp dX2_speed_5 g2 ?_
  refine vx_ret (W.widen (k := 1) (n := 6) (lb rfl) (lb rfl) ?_)
  exact r_dret C hp dX2_speed_8 ⟨_, rfl, rfl, h⟩
theorem mf_X2_speed : MFv yX2_speed cX2_speed 2 (some .double) 1 := ⟨kc_X2_speed, kn_X2_speed, kv_X2_speed, ki_X2, by decide +kernel⟩

/-! X2_told -/
def wp_X2_told (S : HS) (a0 : Int32) (a1 : Int32) (post : Int32 → Prop) (px : String → Prop) : Prop :=
  wp_X2_cutOf S a0 (fun y1 =>
    (((a1).toInt < 0 ∨ 3 < (a1).toInt →
      px xIAE
    )
    ∧ (a1 = (0 : Int32) →
      (y1 ∈ H_L S) ∧ (
        post (H_st S y1)
      )
    )
    ∧ (a1 = (1 : Int32) →
      (y1 ∈ H_L S) ∧ (
        wp_X2_trackOf (H_nd S y1) (fun r5 =>
          post r5
        )
      )
    )
    ∧ (a1 = (2 : Int32) →
      (y1 ∈ H_L S) ∧ (
        wp_X2_levelOf (H_nd S y1) (fun r7 =>
          post r7
        )
      )
    )
    ∧ (a1 = (3 : Int32) →
      (y1 ∈ H_L S) ∧ (
        post (H_cb S y1)
      )
    ))
  ) px
set_option maxHeartbeats 4000000 in
set_option maxRecDepth 100000 in
theorem c_X2_told {l : Launch} {G : GT} {Z : State} {E0 : Nat} {ad : Nat → Nat} (hZ : ZOK G Z) (h9 : ZO2 l E0 Z) {S : HS} {a0 : Int32} {a1 : Int32} {post : Int32 → Prop} {px : String → Prop} (h : wp_X2_told S a0 a1 post px) : CMX l G Z yX2_told cX2_told 4 (some .int) (rmB 7 111 2 12) [.ref (ad 0), .int a0, .int a1] (wH G E0 ad S) (SI (wH G E0 ad S) post) px := by
  refine CMX_ofW hZ (by decide +kernel) (lb rfl) (fun p e s m below meth c ls C hp hl ht => ?_)
  have C : Cx G Z _ p s m _ meth c RX2 cX2_told 4 (some .int) := C
  have hl : lv_has ls 4 [(0, .ref (ad 0)), (1, .int a0), (2, .int a1)] := hl
  have hx := C.hx
  have hb := C.hb
  unfold wp_X2_told at h
  refine lv_aload_n hx hb dX2_told_0 rfl (lv_at hl 0 rfl) ?_
  refine lv_iload_n hx hb dX2_told_1 rfl (lv_at hl 1 rfl) ?_
  refine r_callVX (q0 := 0) (ci := 2) (rest := []) (c_X2_cutOf (E0 := E0) (ad := ad) C.hZ h9 h) C hp mf_X2_cutOf km_X2_161 hl.1 dX2_told_2 rfl rfl ⟨lb rfl, lb rfl, lb rfl, lb rfl⟩ rfl rfl (lb rfl) (fun E ce q H1 locs1 hE hp1 h1 h2 h3 => r_outX C hp1 ht hE h1 h2 h3 (lb rfl) (lb rfl)) (fun v w1 H locs hv hp => ?_)
  obtain ⟨y1, rfl, rfl, h⟩ := hv
  refine W.eq (g2 := F0 m 5 ls [.ref y1]) rfl ?_
  refine lv_astore_n (lv' := [(3, .ref y1), (0, .ref (ad 0)), (1, .int a0), (2, .int a1)]) hx hb dX2_told_5 rfl hl (by decide) rfl (fun ls hl => ?_)
  refine lv_iload_n hx hb dX2_told_6 rfl (lv_at hl 3 rfl) ?_
  by_cases q2 : (a1).toInt < 0 ∨ 3 < (a1).toInt
  · refine lv_tableOut (tgt := 62) hx hb dX2_told_7 q2 (by decide) ?_
    have h := h.1 q2
    exact x_throw (text := "of a cut 0 to 3 is told") C hp h9 xk_IAE h9.2.1.1 (by decide) ht hl.1 dX2_told_62 dX2_told_65 dX2_told_66 dX2_told_68 dX2_told_71 ⟨lb rfl, lb rfl, lb rfl, lb rfl, lb rfl, lb rfl⟩ h
  · have h := h.2
    rcases sw_3 q2 with q2e | q2e | q2e | q2e
    · have h := h.1 q2e
      refine lv_tableIn (tgt := 36) hx hb dX2_told_7 (by rw [q2e]; decide) (by rw [q2e]; decide) (by rw [q2e]; rfl) (by decide) ?_
      refine lv_aload_n hx hb dX2_told_36 rfl (lv_at hl 0 rfl) ?_
      obtain ⟨g3, h⟩ := h
      refine gC2_state C hp dX2_told_37 g3 ?_
      refine vx_ret (W.widen (k := 2) (n := 12) (lb rfl) (lb rfl) ?_)
      exact r_iret C hp dX2_told_40 ⟨_, rfl, rfl, h⟩
    · have h := h.2.1 q2e
      refine lv_tableIn (tgt := 41) hx hb dX2_told_7 (by rw [q2e]; decide) (by rw [q2e]; decide) (by rw [q2e]; rfl) (by decide) ?_
      refine lv_aload_n hx hb dX2_told_41 rfl (lv_at hl 0 rfl) ?_
      obtain ⟨g4, h⟩ := h
      refine gC2_node C hp dX2_told_42 g4 ?_
      refine r_callS (rest := []) (c_X2_trackOf C.hZ h) C hp mf_X2_trackOf km_X2_177 hl.1 dX2_told_45 ⟨lb rfl, lb rfl, lb rfl, lb rfl⟩ rfl rfl (lb rfl) (fun v w1 H locs hv hp => ?_)
      obtain ⟨r5, rfl, rfl, h⟩ := hv
      refine W.eq (g2 := F0 m 48 ls [.int r5]) rfl ?_
      refine vx_ret (W.widen (k := 2) (n := 12) (lb rfl) (lb rfl) ?_)
      exact r_iret C hp dX2_told_48 ⟨_, rfl, rfl, h⟩
    · have h := h.2.2.1 q2e
      refine lv_tableIn (tgt := 49) hx hb dX2_told_7 (by rw [q2e]; decide) (by rw [q2e]; decide) (by rw [q2e]; rfl) (by decide) ?_
      refine lv_aload_n hx hb dX2_told_49 rfl (lv_at hl 0 rfl) ?_
      obtain ⟨g6, h⟩ := h
      refine gC2_node C hp dX2_told_50 g6 ?_
      refine r_callS (rest := []) (c_X2_levelOf C.hZ h) C hp mf_X2_levelOf km_X2_181 hl.1 dX2_told_53 ⟨lb rfl, lb rfl, lb rfl, lb rfl⟩ rfl rfl (lb rfl) (fun v w1 H locs hv hp => ?_)
      obtain ⟨r7, rfl, rfl, h⟩ := hv
      refine W.eq (g2 := F0 m 56 ls [.int r7]) rfl ?_
      refine vx_ret (W.widen (k := 2) (n := 12) (lb rfl) (lb rfl) ?_)
      exact r_iret C hp dX2_told_56 ⟨_, rfl, rfl, h⟩
    · have h := h.2.2.2 q2e
      refine lv_tableIn (tgt := 57) hx hb dX2_told_7 (by rw [q2e]; decide) (by rw [q2e]; decide) (by rw [q2e]; rfl) (by decide) ?_
      refine lv_aload_n hx hb dX2_told_57 rfl (lv_at hl 0 rfl) ?_
      obtain ⟨g8, h⟩ := h
      refine gC2_caughtBy C hp dX2_told_58 g8 ?_
      refine vx_ret (W.widen (k := 2) (n := 12) (lb rfl) (lb rfl) ?_)
      exact r_iret C hp dX2_told_61 ⟨_, rfl, rfl, h⟩
theorem mf_X2_told : MFv yX2_told cX2_told 4 (some .int) 2 := ⟨kc_X2_told, kn_X2_told, kv_X2_told, ki_X2, by decide +kernel⟩

/-! X2_point -/
def wp_X2_point (S : HS) (a0 : Int32) (a1 : Int32) (post : Int32 → Prop) (px : String → Prop) : Prop :=
  wp_X2_isPoint a0 (fun r1 =>
    ((¬ r1 = 0 →
      (((a1).toInt < 0 ∨ 2 < (a1).toInt →
        px xIAE
      )
      ∧ (a1 = (0 : Int32) →
        (vp_in a0 7) ∧ (
          post (H_sides S a0.toNatClampNeg)
        )
      )
      ∧ (a1 = (1 : Int32) →
        (vp_in a0 7) ∧ (
          post (H_turning S a0.toNatClampNeg)
        )
      )
      ∧ (a1 = (2 : Int32) →
        wp_X2_isBusy S a0 (fun r6 =>
          ((r6 = 0 →
            post (0 : Int32)
          ) ∧
          (¬ r6 = 0 →
            post (1 : Int32)
          ))
        )
      ))
    ) ∧
    (r1 = 0 →
      px xIOB
    ))
  )
set_option maxHeartbeats 4000000 in
set_option maxRecDepth 100000 in
theorem c_X2_point {l : Launch} {G : GT} {Z : State} {E0 : Nat} {ad : Nat → Nat} (hZ : ZOK G Z) (h9 : ZO2 l E0 Z) {S : HS} {a0 : Int32} {a1 : Int32} {post : Int32 → Prop} {px : String → Prop} (h : wp_X2_point S a0 a1 post px) : CMX l G Z yX2_point cX2_point 3 (some .int) (rmB 6 90 1 6) [.ref (ad 0), .int a0, .int a1] (wH G E0 ad S) (SI (wH G E0 ad S) post) px := by
  refine CMX_ofW hZ (by decide +kernel) (lb rfl) (fun p e s m below meth c ls C hp hl ht => ?_)
  have C : Cx G Z _ p s m _ meth c RX2 cX2_point 3 (some .int) := C
  have hl : lv_has ls 3 [(0, .ref (ad 0)), (1, .int a0), (2, .int a1)] := hl
  have hx := C.hx
  have hb := C.hb
  unfold wp_X2_point at h
  refine lv_iload_n hx hb dX2_point_0 rfl (lv_at hl 1 rfl) ?_
  refine r_callS (rest := []) (c_X2_isPoint C.hZ h) C hp mf_X2_isPoint km_X2_131 hl.1 dX2_point_1 ⟨lb rfl, lb rfl, lb rfl, lb rfl⟩ rfl rfl (lb rfl) (fun v w1 H locs hv hp => ?_)
  obtain ⟨r1, rfl, rfl, h⟩ := hv
  refine W.eq (g2 := F0 m 4 ls [.int r1]) rfl ?_
  refine lv_if_ne (tgt := 17) hx hb dX2_point_4 (by decide) (fun q2 => ?_) (fun q2 => ?_)
  · have h := h.1 q2
    refine lv_iload_n hx hb dX2_point_17 rfl (lv_at hl 2 rfl) ?_
    by_cases q3 : (a1).toInt < 0 ∨ 2 < (a1).toInt
    · refine lv_tableOut (tgt := 72) hx hb dX2_point_18 q3 (by decide) ?_
      have h := h.1 q3
      exact x_throw (text := "of a point 0 to 2 is told") C hp h9 xk_IAE h9.2.1.1 (by decide) ht hl.1 dX2_point_72 dX2_point_75 dX2_point_76 dX2_point_78 dX2_point_81 ⟨lb rfl, lb rfl, lb rfl, lb rfl, lb rfl, lb rfl⟩ h
    · have h := h.2
      rcases sw_2 q3 with q3e | q3e | q3e
      · have h := h.1 q3e
        refine lv_tableIn (tgt := 44) hx hb dX2_point_18 (by rw [q3e]; decide) (by rw [q3e]; decide) (by rw [q3e]; rfl) (by decide) ?_
        refine lv_aload_n hx hb dX2_point_44 rfl (lv_at hl 0 rfl) ?_
        refine gH_sides C hp dX2_point_45 ?_
        refine lv_iload_n hx hb dX2_point_48 rfl (lv_at hl 1 rfl) ?_
        obtain ⟨g4, h⟩ := h
        refine aH_sides C hp dX2_point_49 g4 ?_
        refine vx_ret (W.widen (k := 1) (n := 6) (lb rfl) (lb rfl) ?_)
        exact r_iret C hp dX2_point_50 ⟨_, rfl, rfl, h⟩
      · have h := h.2.1 q3e
        refine lv_tableIn (tgt := 51) hx hb dX2_point_18 (by rw [q3e]; decide) (by rw [q3e]; decide) (by rw [q3e]; rfl) (by decide) ?_
        refine lv_aload_n hx hb dX2_point_51 rfl (lv_at hl 0 rfl) ?_
        refine gH_turning C hp dX2_point_52 ?_
        refine lv_iload_n hx hb dX2_point_55 rfl (lv_at hl 1 rfl) ?_
        obtain ⟨g5, h⟩ := h
        refine aH_turning C hp dX2_point_56 g5 ?_
        refine vx_ret (W.widen (k := 1) (n := 6) (lb rfl) (lb rfl) ?_)
        exact r_iret C hp dX2_point_57 ⟨_, rfl, rfl, h⟩
      · have h := h.2.2 q3e
        refine lv_tableIn (tgt := 58) hx hb dX2_point_18 (by rw [q3e]; decide) (by rw [q3e]; decide) (by rw [q3e]; rfl) (by decide) ?_
        refine lv_aload_n hx hb dX2_point_58 rfl (lv_at hl 0 rfl) ?_
        refine lv_iload_n hx hb dX2_point_59 rfl (lv_at hl 1 rfl) ?_
        refine r_callV (q0 := 0) (ci := 2) (rest := []) (c_X2_isBusy (E0 := E0) (ad := ad) C.hZ h) C hp mf_X2_isBusy km_X2_189 hl.1 dX2_point_60 rfl rfl ⟨lb rfl, lb rfl, lb rfl, lb rfl⟩ rfl rfl (lb rfl) (fun v w1 H locs hv hp => ?_)
        obtain ⟨r6, rfl, rfl, h⟩ := hv
        refine W.eq (g2 := F0 m 63 ls [.int r6]) rfl ?_
        refine lv_if_eq (tgt := 70) hx hb dX2_point_63 (by decide) (fun q7 => ?_) (fun q7 => ?_)
        · have h := h.1 q7
          refine lv_iconst (v := 0) hx hb dX2_point_70 (by decide) ?_
          refine vx_ret (W.widen (k := 1) (n := 6) (lb rfl) (lb rfl) ?_)
          exact r_iret C hp dX2_point_71 ⟨_, rfl, rfl, h⟩
        · have h := h.2 q7
          refine lv_iconst (v := 1) hx hb dX2_point_66 (by decide) ?_
          refine lv_goto (tgt := 71) hx hb dX2_point_67 (by decide) ?_
          refine vx_ret (W.widen (k := 1) (n := 6) (lb rfl) (lb rfl) ?_)
          exact r_iret C hp dX2_point_71 ⟨_, rfl, rfl, h⟩
  · have h := h.2 q2
    exact x_throw (text := "points are 0 to 6") C hp h9 xk_IOB h9.2.1.2.2.1 (by decide) ht hl.1 dX2_point_7 dX2_point_10 dX2_point_11 dX2_point_13 dX2_point_16 ⟨lb rfl, lb rfl, lb rfl, lb rfl, lb rfl, lb rfl⟩ h
theorem mf_X2_point : MFv yX2_point cX2_point 3 (some .int) 2 := ⟨kc_X2_point, kn_X2_point, kv_X2_point, ki_X2, by decide +kernel⟩

/-! X2_siding -/
def wp_X2_siding (S : HS) (a0 : Int32) (a1 : Int32) (post : Int32 → Prop) (px : String → Prop) : Prop :=
  wp_X2_isTrack a0 (fun r1 =>
    ((¬ r1 = 0 →
      ((a1 < 0 →
        post (-1 : Int32)
      ) ∧
      (¬ a1 < 0 →
        (vp_in a0 8) ∧ (
          (((H_ended S a0.toNatClampNeg) ≤ a1 →
            post (-1 : Int32)
          ) ∧
          (¬ (H_ended S a0.toNatClampNeg) ≤ a1 →
            (((60 : Int32) ≤ a1 →
              post (-1 : Int32)
            ) ∧
            (¬ (60 : Int32) ≤ a1 →
              (vp_in ((a0 * (60 : Int32)) + a1) 480) ∧ (
                post (H_sidings S ((a0 * (60 : Int32)) + a1).toNatClampNeg)
              )
            ))
          ))
        )
      ))
    ) ∧
    (r1 = 0 →
      px xIOB
    ))
  )
set_option maxHeartbeats 4000000 in
set_option maxRecDepth 100000 in
theorem c_X2_siding {l : Launch} {G : GT} {Z : State} {E0 : Nat} {ad : Nat → Nat} (hZ : ZOK G Z) (h9 : ZO2 l E0 Z) {S : HS} {a0 : Int32} {a1 : Int32} {post : Int32 → Prop} {px : String → Prop} (h : wp_X2_siding S a0 a1 post px) : CMX l G Z yX2_siding cX2_siding 4 (some .int) (rmB 6 90 1 6) [.ref (ad 0), .int a0, .int a1] (wH G E0 ad S) (SI (wH G E0 ad S) post) px := by
  refine CMX_ofW hZ (by decide +kernel) (lb rfl) (fun p e s m below meth c ls C hp hl ht => ?_)
  have C : Cx G Z _ p s m _ meth c RX2 cX2_siding 4 (some .int) := C
  have hl : lv_has ls 4 [(0, .ref (ad 0)), (1, .int a0), (2, .int a1)] := hl
  have hx := C.hx
  have hb := C.hb
  unfold wp_X2_siding at h
  refine lv_iload_n hx hb dX2_siding_0 rfl (lv_at hl 1 rfl) ?_
  refine r_callS (rest := []) (c_X2_isTrack C.hZ h) C hp mf_X2_isTrack km_X2_95 hl.1 dX2_siding_1 ⟨lb rfl, lb rfl, lb rfl, lb rfl⟩ rfl rfl (lb rfl) (fun v w1 H locs hv hp => ?_)
  obtain ⟨r1, rfl, rfl, h⟩ := hv
  refine W.eq (g2 := F0 m 4 ls [.int r1]) rfl ?_
  refine lv_if_ne (tgt := 17) hx hb dX2_siding_4 (by decide) (fun q2 => ?_) (fun q2 => ?_)
  · have h := h.1 q2
    refine lv_iload_n hx hb dX2_siding_17 rfl (lv_at hl 2 rfl) ?_
    refine lv_if_lt (tgt := 41) hx hb dX2_siding_18 (by decide) (fun q3 => ?_) (fun q3 => ?_)
    · have h := h.1 q3
      refine lv_iconst (v := 0) hx hb dX2_siding_41 (by decide) ?_
      refine lv_istore_n (lv' := [(3, .int (0 : Int32)), (0, .ref (ad 0)), (1, .int a0), (2, .int a1)]) hx hb dX2_siding_42 rfl hl (by decide) rfl (fun ls hl => ?_)
      refine lv_iload_n hx hb dX2_siding_43 rfl (lv_at hl 0 rfl) ?_
      refine lv_if_eq (tgt := 61) hx hb dX2_siding_44 (by decide) (fun q4 => ?_) (fun q4 => ?_)
      · refine lv_iconst (v := -1) hx hb dX2_siding_61 (by decide) ?_
        refine vx_ret (W.widen (k := 1) (n := 6) (lb rfl) (lb rfl) ?_)
        exact r_iret C hp dX2_siding_62 ⟨_, rfl, rfl, h⟩
      · exact absurd q4 (by decide)
    · have h := h.2 q3
      refine lv_iload_n hx hb dX2_siding_21 rfl (lv_at hl 2 rfl) ?_
      refine lv_aload_n hx hb dX2_siding_22 rfl (lv_at hl 0 rfl) ?_
      refine gH_ended C hp dX2_siding_23 ?_
      refine lv_iload_n hx hb dX2_siding_26 rfl (lv_at hl 1 rfl) ?_
      obtain ⟨g5, h⟩ := h
      refine aH_ended C hp dX2_siding_27 g5 ?_
      refine lv_icmp_ge (tgt := 41) hx hb dX2_siding_28 (by decide) (fun q6 => ?_) (fun q6 => ?_)
      · have h := h.1 q6
        refine lv_iconst (v := 0) hx hb dX2_siding_41 (by decide) ?_
        refine lv_istore_n (lv' := [(3, .int (0 : Int32)), (0, .ref (ad 0)), (1, .int a0), (2, .int a1)]) hx hb dX2_siding_42 rfl hl (by decide) rfl (fun ls hl => ?_)
        refine lv_iload_n hx hb dX2_siding_43 rfl (lv_at hl 0 rfl) ?_
        refine lv_if_eq (tgt := 61) hx hb dX2_siding_44 (by decide) (fun q7 => ?_) (fun q7 => ?_)
        · refine lv_iconst (v := -1) hx hb dX2_siding_61 (by decide) ?_
          refine vx_ret (W.widen (k := 1) (n := 6) (lb rfl) (lb rfl) ?_)
          exact r_iret C hp dX2_siding_62 ⟨_, rfl, rfl, h⟩
        · exact absurd q7 (by decide)
      · have h := h.2 q6
        refine lv_iload_n hx hb dX2_siding_31 rfl (lv_at hl 2 rfl) ?_
        refine lv_bipush (v := 60) hx hb dX2_siding_32 (by decide) ?_
        refine lv_icmp_ge (tgt := 41) hx hb dX2_siding_34 (by decide) (fun q8 => ?_) (fun q8 => ?_)
        · have h := h.1 q8
          refine lv_iconst (v := 0) hx hb dX2_siding_41 (by decide) ?_
          refine lv_istore_n (lv' := [(3, .int (0 : Int32)), (0, .ref (ad 0)), (1, .int a0), (2, .int a1)]) hx hb dX2_siding_42 rfl hl (by decide) rfl (fun ls hl => ?_)
          refine lv_iload_n hx hb dX2_siding_43 rfl (lv_at hl 0 rfl) ?_
          refine lv_if_eq (tgt := 61) hx hb dX2_siding_44 (by decide) (fun q9 => ?_) (fun q9 => ?_)
          · refine lv_iconst (v := -1) hx hb dX2_siding_61 (by decide) ?_
            refine vx_ret (W.widen (k := 1) (n := 6) (lb rfl) (lb rfl) ?_)
            exact r_iret C hp dX2_siding_62 ⟨_, rfl, rfl, h⟩
          · exact absurd q9 (by decide)
        · have h := h.2 q8
          refine lv_iconst (v := 1) hx hb dX2_siding_37 (by decide) ?_
          refine lv_goto (tgt := 42) hx hb dX2_siding_38 (by decide) ?_
          refine lv_istore_n (lv' := [(3, .int (1 : Int32)), (0, .ref (ad 0)), (1, .int a0), (2, .int a1)]) hx hb dX2_siding_42 rfl hl (by decide) rfl (fun ls hl => ?_)
          refine lv_iload_n hx hb dX2_siding_43 rfl (lv_at hl 0 rfl) ?_
          refine lv_if_eq (tgt := 61) hx hb dX2_siding_44 (by decide) (fun q11 => ?_) (fun q11 => ?_)
          · exact absurd q11 (by decide)
          · refine lv_aload_n hx hb dX2_siding_47 rfl (lv_at hl 1 rfl) ?_
            refine gH_sidings C hp dX2_siding_48 ?_
            refine lv_iload_n hx hb dX2_siding_51 rfl (lv_at hl 2 rfl) ?_
            refine lv_bipush (v := 60) hx hb dX2_siding_52 (by decide) ?_
            refine lv_imul hx hb dX2_siding_54 ?_
            refine lv_iload_n hx hb dX2_siding_55 rfl (lv_at hl 3 rfl) ?_
            refine lv_iadd hx hb dX2_siding_56 ?_
            obtain ⟨g10, h⟩ := h
            refine aH_sidings C hp dX2_siding_57 g10 ?_
            refine lv_goto (tgt := 62) hx hb dX2_siding_58 (by decide) ?_
            refine vx_ret (W.widen (k := 1) (n := 6) (lb rfl) (lb rfl) ?_)
            exact r_iret C hp dX2_siding_62 ⟨_, rfl, rfl, h⟩
  · have h := h.2 q2
    exact x_throw (text := "tracks are 0 to 7") C hp h9 xk_IOB h9.2.1.2.2.1 (by decide) ht hl.1 dX2_siding_7 dX2_siding_10 dX2_siding_11 dX2_siding_13 dX2_siding_16 ⟨lb rfl, lb rfl, lb rfl, lb rfl, lb rfl, lb rfl⟩ h
theorem mf_X2_siding : MFv yX2_siding cX2_siding 4 (some .int) 2 := ⟨kc_X2_siding, kn_X2_siding, kv_X2_siding, ki_X2, by decide +kernel⟩

/-! X2_event -/
def wp_X2_event (S : HS) (a0 : Int32) (a1 : Int32) (post : Int32 → Prop) (px : String → Prop) : Prop :=
  wp_X1_keeps S a0 (fun r1 =>
    ((¬ r1 = 0 →
      ((a1 < 0 →
        px xIAE
      ) ∧
      (¬ a1 < 0 →
        ((a1 < (4 : Int32) →
          wp_X1_number S a0 a1 (fun r5 =>
            post r5
          )
        ) ∧
        (¬ a1 < (4 : Int32) →
          px xIAE
        ))
      ))
    ) ∧
    (r1 = 0 →
      px xIOB
    ))
  )
set_option maxHeartbeats 4000000 in
set_option maxRecDepth 100000 in
theorem c_X2_event {l : Launch} {G : GT} {Z : State} {E0 : Nat} {ad : Nat → Nat} (hZ : ZOK G Z) (h9 : ZO2 l E0 Z) {S : HS} {a0 : Int32} {a1 : Int32} {post : Int32 → Prop} {px : String → Prop} (h : wp_X2_event S a0 a1 post px) : CMX l G Z yX2_event cX2_event 3 (some .int) (rmB 6 90 1 6) [.ref (ad 0), .int a0, .int a1] (wH G E0 ad S) (SI (wH G E0 ad S) post) px := by
  refine CMX_ofW hZ (by decide +kernel) (lb rfl) (fun p e s m below meth c ls C hp hl ht => ?_)
  have C : Cx G Z _ p s m _ meth c RX2 cX2_event 3 (some .int) := C
  have hl : lv_has ls 3 [(0, .ref (ad 0)), (1, .int a0), (2, .int a1)] := hl
  have hx := C.hx
  have hb := C.hb
  unfold wp_X2_event at h
  refine lv_aload_n hx hb dX2_event_0 rfl (lv_at hl 0 rfl) ?_
  refine gH_events C hp dX2_event_1 ?_
  refine lv_iload_n hx hb dX2_event_4 rfl (lv_at hl 1 rfl) ?_
  refine r_callV (q0 := 1) (ci := 1) (rest := []) (c_X1_keeps (E0 := E0) (ad := ad) C.hZ h) C hp mf_X1_keeps km_X2_194 hl.1 dX2_event_5 rfl rfl ⟨lb rfl, lb rfl, lb rfl, lb rfl⟩ rfl rfl (lb rfl) (fun v w1 H locs hv hp => ?_)
  obtain ⟨r1, rfl, rfl, h⟩ := hv
  refine W.eq (g2 := F0 m 8 ls [.int r1]) rfl ?_
  refine lv_if_ne (tgt := 21) hx hb dX2_event_8 (by decide) (fun q2 => ?_) (fun q2 => ?_)
  · have h := h.1 q2
    refine lv_iload_n hx hb dX2_event_21 rfl (lv_at hl 2 rfl) ?_
    refine lv_if_lt (tgt := 30) hx hb dX2_event_22 (by decide) (fun q3 => ?_) (fun q3 => ?_)
    · have h := h.1 q3
      exact x_throw (text := "of an event 0 to 3 is told") C hp h9 xk_IAE h9.2.1.1 (by decide) ht hl.1 dX2_event_30 dX2_event_33 dX2_event_34 dX2_event_36 dX2_event_39 ⟨lb rfl, lb rfl, lb rfl, lb rfl, lb rfl, lb rfl⟩ h
    · have h := h.2 q3
      refine lv_iload_n hx hb dX2_event_25 rfl (lv_at hl 2 rfl) ?_
      refine lv_iconst (v := 4) hx hb dX2_event_26 (by decide) ?_
      refine lv_icmp_lt (tgt := 40) hx hb dX2_event_27 (by decide) (fun q4 => ?_) (fun q4 => ?_)
      · have h := h.1 q4
        refine lv_aload_n hx hb dX2_event_40 rfl (lv_at hl 0 rfl) ?_
        refine gH_events C hp dX2_event_41 ?_
        refine lv_iload_n hx hb dX2_event_44 rfl (lv_at hl 1 rfl) ?_
        refine lv_iload_n hx hb dX2_event_45 rfl (lv_at hl 2 rfl) ?_
        refine r_callV (q0 := 1) (ci := 1) (rest := []) (c_X1_number (E0 := E0) (ad := ad) C.hZ h) C hp mf_X1_number km_X2_201 hl.1 dX2_event_46 rfl rfl ⟨lb rfl, lb rfl, lb rfl, lb rfl⟩ rfl rfl (lb rfl) (fun v w1 H locs hv hp => ?_)
        obtain ⟨r5, rfl, rfl, h⟩ := hv
        refine W.eq (g2 := F0 m 49 ls [.int r5]) rfl ?_
        refine vx_ret (W.widen (k := 1) (n := 6) (lb rfl) (lb rfl) ?_)
        exact r_iret C hp dX2_event_49 ⟨_, rfl, rfl, h⟩
      · have h := h.2 q4
        exact x_throw (text := "of an event 0 to 3 is told") C hp h9 xk_IAE h9.2.1.1 (by decide) ht hl.1 dX2_event_30 dX2_event_33 dX2_event_34 dX2_event_36 dX2_event_39 ⟨lb rfl, lb rfl, lb rfl, lb rfl, lb rfl, lb rfl⟩ h
  · have h := h.2 q2
    exact x_throw (text := "no such event is kept") C hp h9 xk_IOB h9.2.1.2.2.1 (by decide) ht hl.1 dX2_event_11 dX2_event_14 dX2_event_15 dX2_event_17 dX2_event_20 ⟨lb rfl, lb rfl, lb rfl, lb rfl, lb rfl, lb rfl⟩ h
theorem mf_X2_event : MFv yX2_event cX2_event 3 (some .int) 2 := ⟨kc_X2_event, kn_X2_event, kv_X2_event, ki_X2, by decide +kernel⟩

/-! X2_about -/
def wp_X2_about (S : HS) (a0 : Int32) (post : Int32 → Prop) (px : String → Prop) : Prop :=
  (((a0).toInt < 0 ∨ 6 < (a0).toInt →
    px xIAE
  )
  ∧ (a0 = (0 : Int32) →
    post (H_cs S)
  )
  ∧ (a0 = (1 : Int32) →
    post ((H_cs S) - (H_started S))
  )
  ∧ (a0 = (2 : Int32) →
    post (H_rs S)
  )
  ∧ (a0 = (3 : Int32) →
    post (H_landed S)
  )
  ∧ (a0 = (4 : Int32) →
    post (H_standing S)
  )
  ∧ (a0 = (5 : Int32) →
    post (H_count S)
  )
  ∧ (a0 = (6 : Int32) →
    post (H_ticks S)
  ))
set_option maxHeartbeats 4000000 in
set_option maxRecDepth 100000 in
theorem c_X2_about {l : Launch} {G : GT} {Z : State} {E0 : Nat} {ad : Nat → Nat} (hZ : ZOK G Z) (h9 : ZO2 l E0 Z) {S : HS} {a0 : Int32} {post : Int32 → Prop} {px : String → Prop} (h : wp_X2_about S a0 post px) : CMX l G Z yX2_about cX2_about 2 (some .int) (rmB 6 90 1 6) [.ref (ad 0), .int a0] (wH G E0 ad S) (SI (wH G E0 ad S) post) px := by
  refine CMX_ofW hZ (by decide +kernel) (lb rfl) (fun p e s m below meth c ls C hp hl ht => ?_)
  have C : Cx G Z _ p s m _ meth c RX2 cX2_about 2 (some .int) := C
  have hl : lv_has ls 2 [(0, .ref (ad 0)), (1, .int a0)] := hl
  have hx := C.hx
  have hb := C.hb
  unfold wp_X2_about at h
  refine lv_iload_n hx hb dX2_about_0 rfl (lv_at hl 1 rfl) ?_
  by_cases q1 : (a0).toInt < 0 ∨ 6 < (a0).toInt
  · refine lv_tableOut (tgt := 96) hx hb dX2_about_1 q1 (by decide) ?_
    have h := h.1 q1
    exact x_throw (text := "about the yard 0 to 6 is told") C hp h9 xk_IAE h9.2.1.1 (by decide) ht hl.1 dX2_about_96 dX2_about_99 dX2_about_100 dX2_about_102 dX2_about_105 ⟨lb rfl, lb rfl, lb rfl, lb rfl, lb rfl, lb rfl⟩ h
  · have h := h.2
    rcases sw_6 q1 with q1e | q1e | q1e | q1e | q1e | q1e | q1e
    · have h := h.1 q1e
      refine lv_tableIn (tgt := 44) hx hb dX2_about_1 (by rw [q1e]; decide) (by rw [q1e]; decide) (by rw [q1e]; rfl) (by decide) ?_
      refine lv_aload_n hx hb dX2_about_44 rfl (lv_at hl 0 rfl) ?_
      refine gH_cuts C hp dX2_about_45 ?_
      refine r_callV (q0 := 3) (ci := 4) (rest := []) (c_al_size (k := 3) C.hZ rfl) C hp mf_Jx4a65c_size_8abf5 km_X2_101 hl.1 dX2_about_48 rfl rfl ⟨lb rfl, lb rfl, lb rfl, lb rfl⟩ rfl rfl (lb rfl) (fun v w1 H locs hv hp => ?_)
      obtain ⟨rfl, rfl⟩ := hv
      refine W.eq (g2 := F0 m 51 ls [.int (H_cs S)]) rfl ?_
      refine vx_ret (W.widen (k := 1) (n := 6) (lb rfl) (lb rfl) ?_)
      exact r_iret C hp dX2_about_51 ⟨_, rfl, rfl, h⟩
    · have h := h.2.1 q1e
      refine lv_tableIn (tgt := 52) hx hb dX2_about_1 (by rw [q1e]; decide) (by rw [q1e]; decide) (by rw [q1e]; rfl) (by decide) ?_
      refine lv_aload_n hx hb dX2_about_52 rfl (lv_at hl 0 rfl) ?_
      refine gH_cuts C hp dX2_about_53 ?_
      refine r_callV (q0 := 3) (ci := 4) (rest := []) (c_al_size (k := 3) C.hZ rfl) C hp mf_Jx4a65c_size_8abf5 km_X2_101 hl.1 dX2_about_56 rfl rfl ⟨lb rfl, lb rfl, lb rfl, lb rfl⟩ rfl rfl (lb rfl) (fun v w1 H locs hv hp => ?_)
      obtain ⟨rfl, rfl⟩ := hv
      refine W.eq (g2 := F0 m 59 ls [.int (H_cs S)]) rfl ?_
      refine lv_aload_n hx hb dX2_about_59 rfl (lv_at hl 0 rfl) ?_
      refine gH_started C hp dX2_about_60 ?_
      refine lv_isub hx hb dX2_about_63 ?_
      refine vx_ret (W.widen (k := 1) (n := 6) (lb rfl) (lb rfl) ?_)
      exact r_iret C hp dX2_about_64 ⟨_, rfl, rfl, h⟩
    · have h := h.2.2.1 q1e
      refine lv_tableIn (tgt := 65) hx hb dX2_about_1 (by rw [q1e]; decide) (by rw [q1e]; decide) (by rw [q1e]; rfl) (by decide) ?_
      refine lv_aload_n hx hb dX2_about_65 rfl (lv_at hl 0 rfl) ?_
      refine gH_rolling C hp dX2_about_66 ?_
      refine r_callV (q0 := 4) (ci := 4) (rest := []) (c_al_size (k := 4) C.hZ rfl) C hp mf_Jx4a65c_size_8abf5 km_X2_101 hl.1 dX2_about_69 rfl rfl ⟨lb rfl, lb rfl, lb rfl, lb rfl⟩ rfl rfl (lb rfl) (fun v w1 H locs hv hp => ?_)
      obtain ⟨rfl, rfl⟩ := hv
      refine W.eq (g2 := F0 m 72 ls [.int (H_rs S)]) rfl ?_
      refine vx_ret (W.widen (k := 1) (n := 6) (lb rfl) (lb rfl) ?_)
      exact r_iret C hp dX2_about_72 ⟨_, rfl, rfl, h⟩
    · have h := h.2.2.2.1 q1e
      refine lv_tableIn (tgt := 73) hx hb dX2_about_1 (by rw [q1e]; decide) (by rw [q1e]; decide) (by rw [q1e]; rfl) (by decide) ?_
      refine lv_aload_n hx hb dX2_about_73 rfl (lv_at hl 0 rfl) ?_
      refine gH_landed C hp dX2_about_74 ?_
      refine vx_ret (W.widen (k := 1) (n := 6) (lb rfl) (lb rfl) ?_)
      exact r_iret C hp dX2_about_77 ⟨_, rfl, rfl, h⟩
    · have h := h.2.2.2.2.1 q1e
      refine lv_tableIn (tgt := 78) hx hb dX2_about_1 (by rw [q1e]; decide) (by rw [q1e]; decide) (by rw [q1e]; rfl) (by decide) ?_
      refine lv_aload_n hx hb dX2_about_78 rfl (lv_at hl 0 rfl) ?_
      refine gH_standing C hp dX2_about_79 ?_
      refine vx_ret (W.widen (k := 1) (n := 6) (lb rfl) (lb rfl) ?_)
      exact r_iret C hp dX2_about_82 ⟨_, rfl, rfl, h⟩
    · have h := h.2.2.2.2.2.1 q1e
      refine lv_tableIn (tgt := 83) hx hb dX2_about_1 (by rw [q1e]; decide) (by rw [q1e]; decide) (by rw [q1e]; rfl) (by decide) ?_
      refine lv_aload_n hx hb dX2_about_83 rfl (lv_at hl 0 rfl) ?_
      refine gH_events C hp dX2_about_84 ?_
      refine gE2_count C hp dX2_about_87 ?_
      refine vx_ret (W.widen (k := 1) (n := 6) (lb rfl) (lb rfl) ?_)
      exact r_iret C hp dX2_about_90 ⟨_, rfl, rfl, h⟩
    · have h := h.2.2.2.2.2.2 q1e
      refine lv_tableIn (tgt := 91) hx hb dX2_about_1 (by rw [q1e]; decide) (by rw [q1e]; decide) (by rw [q1e]; rfl) (by decide) ?_
      refine lv_aload_n hx hb dX2_about_91 rfl (lv_at hl 0 rfl) ?_
      refine gH_ticks C hp dX2_about_92 ?_
      refine vx_ret (W.widen (k := 1) (n := 6) (lb rfl) (lb rfl) ?_)
      exact r_iret C hp dX2_about_95 ⟨_, rfl, rfl, h⟩
theorem mf_X2_about : MFv yX2_about cX2_about 2 (some .int) 1 := ⟨kc_X2_about, kn_X2_about, kv_X2_about, ki_X2, by decide +kernel⟩

