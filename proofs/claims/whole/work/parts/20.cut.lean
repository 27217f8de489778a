/-! X2_cut -/
def wp_X2_cut (a0 : Int32) (a1 : Int32) (a2 : UInt64) (a3 : Int32) (S : HS) (post : Int32 → HS → Prop) (px : String → Prop) : Prop :=
  ((a0 < (1 : Int32) →
    px xIAE
  ) ∧
  (¬ a0 < (1 : Int32) →
    ((a0 ≤ (20 : Int32) →
      ((a1 < (1 : Int32) →
        px xIAE
      ) ∧
      (¬ a1 < (1 : Int32) →
        ((a1 ≤ (90 : Int32) →
          wp_X2_isWithin a2 (16 : Int32) (fun r5 =>
            ((¬ r5 = 0 →
              wp_X2_isTrack a3 (fun r7 =>
                ((¬ r7 = 0 →
                  (((H_cs S) < (60 : Int32) →
                    ∀ q10 : Nat, q10 ∉ H_L S → ∀ S12 : HS, S12 = Hnew S q10 0 0 0 0 0 0 0 0 0 0 →
                      (vf_n64 (FP.dmul 4623226492472524800 (FP.i2d a0))) ∧ (
                        (∀ S13 : HS, S13 = Hnew S q10 (H_cs S12) (FP.dmul 4623226492472524800 (FP.i2d a0)) (FP.i2d (a0 * a1)) a2 (7 + a3) 0 FP.dconst0 FP.dconst0 0 (-1) →
                          ∃ (mc19 ms20 : Nat), (mc19 ≤ 2 ∧ ms20 ≤ 100) ∧ ladd (H_ca S13) (H_L S13) (H_cs S13) q10 mc19 ms20 ∧ (∀ (qa17 : Nat) (S18 : HS), S18 = Haddc S13 q10 qa17 →
                            (q10 ∈ H_L S18) ∧ (
                              post (H_num S18 q10) S18
                            )
                          )
                        )
                      )
                  ) ∧
                  (¬ (H_cs S) < (60 : Int32) →
                    px xUOE
                  ))
                ) ∧
                (r7 = 0 →
                  px xIAE
                ))
              )
            ) ∧
            (r5 = 0 →
              px xIAE
            ))
          )
        ) ∧
        (¬ a1 ≤ (90 : Int32) →
          px xIAE
        ))
      ))
    ) ∧
    (¬ a0 ≤ (20 : Int32) →
      px xIAE
    ))
  ))
set_option maxHeartbeats 4000000 in
set_option maxRecDepth 100000 in
theorem c_X2_cut {l : Launch} {G : GT} {Z : State} {E0 : Nat} {ad : Nat → Nat} (hZ : ZOK G Z) (h9 : ZO2 l E0 Z) {a0 : Int32} {a1 : Int32} {a2 : UInt64} {a3 : Int32} {S : HS} {post : Int32 → HS → Prop} {px : String → Prop} (h : wp_X2_cut a0 a1 a2 a3 S post px) : CMX l G Z yX2_cut cX2_cut 7 (some .int) (rmB 7 221 4 120) [.ref (ad 0), .int a0, .int a1, .double a2, .int a3] (wH G E0 ad S) (PI (wH G E0 ad) post) px := by
  refine CMX_ofW hZ (by decide +kernel) (lb rfl) (fun p e s m below meth c ls C hp hl ht => ?_)
  have C : Cx G Z _ p s m _ meth c RX2 cX2_cut 7 (some .int) := C
  have hl : lv_has ls 7 [(0, .ref (ad 0)), (1, .int a0), (2, .int a1), (3, .double a2), (5, .int a3)] := hl
  have hx := C.hx
  have hb := C.hb
  unfold wp_X2_cut at h
  refine lv_iload_n hx hb dX2_cut_0 rfl (lv_at hl 1 rfl) ?_
  refine lv_iconst (v := 1) hx hb dX2_cut_1 (by decide) ?_
  refine lv_icmp_lt (tgt := 11) hx hb dX2_cut_2 (by decide) (fun q1 => ?_) (fun q1 => ?_)
  · have h := h.1 q1
    exact x_throw (text := "wagons are 1 to 20") C hp h9 xk_IAE h9.2.1.1 (by decide) ht hl.1 dX2_cut_11 dX2_cut_14 dX2_cut_15 dX2_cut_17 dX2_cut_20 ⟨lb rfl, lb rfl, lb rfl, lb rfl, lb rfl, lb rfl⟩ h
  · have h := h.2 q1
    refine lv_iload_n hx hb dX2_cut_5 rfl (lv_at hl 1 rfl) ?_
    refine lv_bipush (v := 20) hx hb dX2_cut_6 (by decide) ?_
    refine lv_icmp_le (tgt := 21) hx hb dX2_cut_8 (by decide) (fun q2 => ?_) (fun q2 => ?_)
    · have h := h.1 q2
      refine lv_iload_n hx hb dX2_cut_21 rfl (lv_at hl 2 rfl) ?_
      refine lv_iconst (v := 1) hx hb dX2_cut_22 (by decide) ?_
      refine lv_icmp_lt (tgt := 32) hx hb dX2_cut_23 (by decide) (fun q3 => ?_) (fun q3 => ?_)
      · have h := h.1 q3
        exact x_throw (text := "tons are 1 to 90") C hp h9 xk_IAE h9.2.1.1 (by decide) ht hl.1 dX2_cut_32 dX2_cut_35 dX2_cut_36 dX2_cut_38 dX2_cut_41 ⟨lb rfl, lb rfl, lb rfl, lb rfl, lb rfl, lb rfl⟩ h
      · have h := h.2 q3
        refine lv_iload_n hx hb dX2_cut_26 rfl (lv_at hl 2 rfl) ?_
        refine lv_bipush (v := 90) hx hb dX2_cut_27 (by decide) ?_
        refine lv_icmp_le (tgt := 42) hx hb dX2_cut_29 (by decide) (fun q4 => ?_) (fun q4 => ?_)
        · have h := h.1 q4
          refine lv_dload_n hx hb dX2_cut_42 rfl (lv_at hl 3 rfl) ?_
          refine lv_bipush (v := 16) hx hb dX2_cut_43 (by decide) ?_
          refine r_callS (rest := []) (c_X2_isWithin C.hZ h) C hp mf_X2_isWithin km_X2_89 hl.1 dX2_cut_45 ⟨lb rfl, lb rfl, lb rfl, lb rfl⟩ rfl rfl (lb rfl) (fun v w1 H locs hv hp => ?_)
          obtain ⟨r5, rfl, rfl, h⟩ := hv
          refine W.eq (g2 := F0 m 48 ls [.int r5]) rfl ?_
          refine lv_if_ne (tgt := 61) hx hb dX2_cut_48 (by decide) (fun q6 => ?_) (fun q6 => ?_)
          · have h := h.1 q6
            refine lv_iload hx hb dX2_cut_61 (lv_at hl 4 rfl) ?_
            refine r_callS (rest := []) (c_X2_isTrack C.hZ h) C hp mf_X2_isTrack km_X2_95 hl.1 dX2_cut_63 ⟨lb rfl, lb rfl, lb rfl, lb rfl⟩ rfl rfl (lb rfl) (fun v w1 H locs hv hp => ?_)
            obtain ⟨r7, rfl, rfl, h⟩ := hv
            refine W.eq (g2 := F0 m 66 ls [.int r7]) rfl ?_
            refine lv_if_ne (tgt := 79) hx hb dX2_cut_66 (by decide) (fun q8 => ?_) (fun q8 => ?_)
            · have h := h.1 q8
              refine lv_aload_n hx hb dX2_cut_79 rfl (lv_at hl 0 rfl) ?_
              refine gH_cuts C hp dX2_cut_80 ?_
              refine r_callV (q0 := 3) (ci := 4) (rest := []) (c_al_size (k := 3) C.hZ rfl) C hp mf_Jx4a65c_size_8abf5 km_X2_101 hl.1 dX2_cut_83 rfl rfl ⟨lb rfl, lb rfl, lb rfl, lb rfl⟩ rfl rfl (lb rfl) (fun v w1 H locs hv hp => ?_)
              obtain ⟨rfl, rfl⟩ := hv
              refine W.eq (g2 := F0 m 86 ls [.int (H_cs S)]) rfl ?_
              refine lv_bipush (v := 60) hx hb dX2_cut_86 (by decide) ?_
              refine lv_icmp_lt (tgt := 101) hx hb dX2_cut_88 (by decide) (fun q9 => ?_) (fun q9 => ?_)
              · have h := h.1 q9
                refine va_new (ci := 0) (fs := [.int 0, .double 0, .double 0, .double 0, .int 0, .int 0, .double 0, .double 0, .int 0, .int 0]) (C := RX0) (T := TX0) (N := 10) hx hb C.hts inW_X0 tyX0 tyX0_ok C.hown (C.hts _ kl_X2_110) (C.hts _ kt_X0) (C.hts _ ki_X0) C.hK hp.1 hp.2.1 hp.2.2 (fun q h => Or.inr h) rfl (fun j hj => by rcases (show j = 0 ∨ j = 1 ∨ j = 2 ∨ j = 3 ∨ j = 4 ∨ j = 5 ∨ j = 6 ∨ j = 7 ∨ j = 8 ∨ j = 9 by omega) with rfl | rfl | rfl | rfl | rfl | rfl | rfl | rfl | rfl | rfl <;> rfl) (lb rfl) (lb rfl) dX2_cut_101 (fun q10 H b1 b2 b3 => ?_)
                have g11 := fresh_q b2
                rw [wH_push g11] at b1 b2
                obtain ⟨S12, eS12⟩ : ∃ z : HS, z = Hnew S q10 0 0 0 0 0 0 0 0 0 0 := ⟨_, rfl⟩
                have hp : Hp G _ s H _ (wH G E0 ad (Hnew S q10 0 0 0 0 0 0 0 0 0 0)) := ⟨b1, b2, b3⟩
                have hD0 := hp.2.1
                refine W.widen (k := 1) (n := 10) (lb rfl) (lb rfl) ?_
                have h := h q10 g11 S12 eS12
                rw [← eS12] at hp
                refine lv_dup hx hb dX2_cut_104 rfl ?_
                refine lv_aload_n hx hb dX2_cut_105 rfl (lv_at hl 0 rfl) ?_
                refine gH_cuts C hp dX2_cut_106 ?_
                refine r_callV (q0 := 3) (ci := 4) (rest := [.ref q10, .ref q10]) (c_al_size (k := 3) C.hZ rfl) C hp mf_Jx4a65c_size_8abf5 km_X2_101 hl.1 dX2_cut_109 rfl rfl ⟨lb rfl, lb rfl, lb rfl, lb rfl⟩ rfl rfl (lb rfl) (fun v w1 H locs hv hp => ?_)
                obtain ⟨rfl, rfl⟩ := hv
                refine W.widen (k := 1) (n := 10) (lb rfl) (lb rfl) ?_
                refine W.eq (g2 := F0 m 112 ls [.int (H_cs S12), .ref q10, .ref q10]) rfl ?_
                refine lv_iload_n hx hb dX2_cut_112 rfl (lv_at hl 1 rfl) ?_
                refine lv_iload_n hx hb dX2_cut_113 rfl (lv_at hl 2 rfl) ?_
                refine lv_dload_n hx hb dX2_cut_114 rfl (lv_at hl 3 rfl) ?_
                refine lv_iload hx hb dX2_cut_115 (lv_at hl 4 rfl) ?_
                obtain ⟨g15, h⟩ := h
                rw [eS12] at hp
                obtain ⟨k14, hk14⟩ := new_get (G := G) (E0 := E0) (ad := ad) (S := S) (q := q10) (a1 := 0) (x1 := 0) (x2 := 0) (x3 := 0) (a2 := 0) (a3 := 0) (x4 := 0) (x5 := 0) (a4 := 0) (a5 := 0)
                refine r_callI (rest := [.ref q10]) (c_X0_init (k := k14) C.hZ hk14 g15) C hp mf_X0_init km_X2_112 hl.1 dX2_cut_117 ⟨lb rfl, lb rfl, lb rfl, lb rfl⟩ rfl rfl (lb rfl) (fun v w1 H locs hv hp => ?_)
                obtain ⟨rfl, rfl⟩ := hv
                unfold cutNew at hp
                rw [wH_renew hD0 hk14] at hp
                obtain ⟨S13, eS13⟩ : ∃ z : HS, z = Hnew S q10 (H_cs S12) (FP.dmul 4623226492472524800 (FP.i2d a0)) (FP.i2d (a0 * a1)) a2 (7 + a3) 0 FP.dconst0 FP.dconst0 0 (-1) := ⟨_, rfl⟩
                rw [← eS13] at hp
                have h := h S13 eS13
                refine W.widen (k := 1) (n := 10) (lb rfl) (lb rfl) ?_
                refine W.eq (g2 := F0 m 120 ls [.ref q10]) rfl ?_
                refine lv_astore (lv' := [(6, .ref q10), (0, .ref (ad 0)), (1, .int a0), (2, .int a1), (3, .double a2), (5, .int a3)]) hx hb dX2_cut_120 hl (by decide) rfl (fun ls hl => ?_)
                refine lv_aload_n hx hb dX2_cut_122 rfl (lv_at hl 1 rfl) ?_
                refine gH_cuts C hp dX2_cut_123 ?_
                refine lv_aload hx hb dX2_cut_126 (lv_at hl 0 rfl) ?_
                obtain ⟨mc19, ms20, g21, g16, h⟩ := h
                refine r_callV (q0 := 3) (ci := 4) (rest := []) (c_addC (ad := ad) (S := S13) C.hZ h9 g16) C hp mf_Jx4a65c_add_9ea2d km_X2_115 hl.1 dX2_cut_128 rfl rfl ⟨lb rfl, lb rfl, (by show 1 + mc19 ≤ 4; omega), (by show 10 + ms20 ≤ 120; omega)⟩ rfl rfl (lb rfl) (fun v w1 H locs hv hp => ?_)
                obtain ⟨rfl, qa17, rfl⟩ := hv
                refine W.widen (k := 4) (n := 120) (by show 1 + mc19 ≤ 4; omega) (by show 10 + ms20 ≤ 120; omega) ?_
                obtain ⟨S18, eS18⟩ : ∃ z : HS, z = Haddc S13 q10 qa17 := ⟨_, rfl⟩
                rw [← eS18] at hp
                have h := h qa17 S18 eS18
                refine W.eq (g2 := F0 m 131 ls [.int (1 : Int32)]) rfl ?_
                refine lv_pop hx hb dX2_cut_131 rfl ?_
                refine lv_aload hx hb dX2_cut_132 (lv_at hl 0 rfl) ?_
                obtain ⟨g22, h⟩ := h
                refine gC2_number C hp dX2_cut_134 g22 ?_
                refine vx_ret (W.widen (k := 4) (n := 120) (lb rfl) (lb rfl) ?_)
                exact r_iret C hp dX2_cut_137 ⟨_, _, rfl, rfl, h⟩
              · have h := h.2 q9
                exact x_throw (text := "there are 60 cuts") C hp h9 xk_UOE h9.2.1.2.1 (by decide) ht hl.1 dX2_cut_91 dX2_cut_94 dX2_cut_95 dX2_cut_97 dX2_cut_100 ⟨lb rfl, lb rfl, lb rfl, lb rfl, lb rfl, lb rfl⟩ h
            · have h := h.2 q8
              exact x_throw (text := "tracks are 0 to 7") C hp h9 xk_IAE h9.2.1.1 (by decide) ht hl.1 dX2_cut_69 dX2_cut_72 dX2_cut_73 dX2_cut_75 dX2_cut_78 ⟨lb rfl, lb rfl, lb rfl, lb rfl, lb rfl, lb rfl⟩ h
          · have h := h.2 q6
            exact x_throw (text := "resistance is 0 to 16") C hp h9 xk_IAE h9.2.1.1 (by decide) ht hl.1 dX2_cut_51 dX2_cut_54 dX2_cut_55 dX2_cut_57 dX2_cut_60 ⟨lb rfl, lb rfl, lb rfl, lb rfl, lb rfl, lb rfl⟩ h
        · have h := h.2 q4
          exact x_throw (text := "tons are 1 to 90") C hp h9 xk_IAE h9.2.1.1 (by decide) ht hl.1 dX2_cut_32 dX2_cut_35 dX2_cut_36 dX2_cut_38 dX2_cut_41 ⟨lb rfl, lb rfl, lb rfl, lb rfl, lb rfl, lb rfl⟩ h
    · have h := h.2 q2
      exact x_throw (text := "wagons are 1 to 20") C hp h9 xk_IAE h9.2.1.1 (by decide) ht hl.1 dX2_cut_11 dX2_cut_14 dX2_cut_15 dX2_cut_17 dX2_cut_20 ⟨lb rfl, lb rfl, lb rfl, lb rfl, lb rfl, lb rfl⟩ h
theorem mf_X2_cut : MFv yX2_cut cX2_cut 7 (some .int) 4 := ⟨kc_X2_cut, kn_X2_cut, kv_X2_cut, ki_X2, by decide +kernel⟩

