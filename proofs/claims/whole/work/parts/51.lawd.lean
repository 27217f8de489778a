section LAWD
variable {l : Launch} {G : GT} {p : Program} {e : Env} {s : State} {m : MethodId} {below : List Frame} {meth : Method} {c : Code} {H : Heap} {locs : List Loc} {Q : State → Prop} {ls : Array Slot} {E0 b L qj qd j : Nat} {ad bm : Nat → Nat} {xs : Nat → Int32} {i : Int32} {fj : Nat → Int64} {fd : Nat → UInt64} {S : HS} {T : MS}
set_option maxHeartbeats 4000000 in
set_option maxRecDepth 100000 in
theorem law_fill (C : Cx G s [] p s m #[Value.ref b] meth c RL cL_law 10 ret) (h9 : ZO2 l E0 s) (hX : va_X b L xs s s.heap) (hbl : b < s.heap.size) (hN : LN l G p e s m below meth c Q E0 b qj qd j ad bm i) (J : JI j S T) (hj : j < 512) (hp : Hp G [] s H locs (WL G E0 ad bm qj qd fj fd S T)) (hl : lv_has ls 10 (LV b (ad 0) (bm 0) qj qd i)) (g1 : vp_in (i + 1) L) (g2 : vp_in (i + 2) L) (g3 : vp_in (i + 3) L) (g4 : vp_in (i + 4) L) : W p l e room_1 s m #[Value.ref b] below meth c H locs (33 + 8 * j) (3442 + 250 * j) Q (F0 m 495 ls []) := by
  have hx := C.hx
  have hb := C.hb
  have hbA := not_in hbl
  refine lv_aload_n hx hb dL_law_495 rfl (lv_at hl 1 rfl) ?_
  refine lv_aload_n hx hb dL_law_496 rfl (lv_at hl 0 rfl) ?_
  refine lv_iload hx hb dL_law_497 (lv_at hl 5 rfl) ?_
  refine lv_iconst (v := 1) hx hb dL_law_499 (by decide) ?_
  refine lv_iadd hx hb dL_law_500 ?_
  refine va_sld hx hb hX hbl hbA hp.2.2 g1 dL_law_501 ?_
  refine lv_aload_n hx hb dL_law_502 rfl (lv_at hl 0 rfl) ?_
  refine lv_iload hx hb dL_law_503 (lv_at hl 5 rfl) ?_
  refine lv_iconst (v := 2) hx hb dL_law_505 (by decide) ?_
  refine lv_iadd hx hb dL_law_506 ?_
  refine va_sld hx hb hX hbl hbA hp.2.2 g2 dL_law_507 ?_
  refine lv_i2d hx hb dL_law_508 ?_
  refine lv_ldc2d hx hb C.hown (C.hts _ kd_L_65) dL_law_509 ?_
  refine lv_dmul hx hb dL_law_512 (n64_sc _) ?_
  refine lv_aload hx hb dL_law_513 (lv_at hl 4 rfl) ?_
  have hp := Hp_perm hp WL_d
  have ha := ag_fill (a0 := xs (i + 1).toNatClampNeg) (a1 := FP.dmul (FP.i2d (xs (i + 2).toNatClampNeg)) 4593671619917905920) (o := fd 0) J
  have hcc := c_L_fill (l := l) (E0 := E0) (ad := ad) (ao := qd) (fo := fd) (S := S) (post := fun k S1 o => wp_X3_fill (xs (i + 1).toNatClampNeg) (FP.dmul (FP.i2d (xs (i + 2).toNatClampNeg)) 4593671619917905920) T (agD j k S1 o)) C.hZ h9 ha
  refine r_callWF (wr := (oJ G qj fj :: wM G bm T)) (rest := []) hcc C hp mfw_L_fill km_L_89 hl.1 dL_law_515 ⟨lb rfl, lb rfl, (by show 33 + 8 * j + 1 ≤ 601024; omega), (by show 3442 + 250 * j + 6 ≤ 7293034; omega)⟩ rfl rfl (lb rfl) (fun v w1 H locs hv hp => ?_)
  obtain ⟨k, S1, f1, rfl, rfl, h⟩ := hv
  refine W.eq (g2 := F0 m 518 ls [.int k]) rfl ?_
  refine W.widen (k := 33 + 8 * (j + 1)) (n := 3442 + 250 * (j + 1)) (by show 33 + 8 * j + 1 ≤ _; omega) (by show 3442 + 250 * j + 6 ≤ _; omega) ?_
  have hp := Hp_perm hp pd_m
  refine lv_istore (lv' := [(6, .int k), (0, .ref b), (1, .ref (ad 0)), (2, .ref (bm 0)), (3, .ref qj), (4, .ref qd), (5, .int i)]) hx hb dL_law_518 hl (by decide) rfl (fun ls hl => ?_)
  refine lv_aload_n hx hb dL_law_520 rfl (lv_at hl 3 rfl) ?_
  refine lv_aload_n hx hb dL_law_521 rfl (lv_at hl 1 rfl) ?_
  refine lv_iload hx hb dL_law_522 (lv_at hl 6 rfl) ?_
  refine lv_iconst (v := 1) hx hb dL_law_524 (by decide) ?_
  refine lv_iadd hx hb dL_law_525 ?_
  refine va_sld hx hb hX hbl hbA hp.2.2 g1 dL_law_526 ?_
  refine lv_aload_n hx hb dL_law_527 rfl (lv_at hl 1 rfl) ?_
  refine lv_iload hx hb dL_law_528 (lv_at hl 6 rfl) ?_
  refine lv_iconst (v := 2) hx hb dL_law_530 (by decide) ?_
  refine lv_iadd hx hb dL_law_531 ?_
  refine va_sld hx hb hX hbl hbA hp.2.2 g2 dL_law_532 ?_
  refine lv_i2d hx hb dL_law_533 ?_
  refine lv_ldc2d hx hb C.hown (C.hts _ kd_L_65) dL_law_534 ?_
  refine lv_dmul hx hb dL_law_537 (n64_sc _) ?_
  have hcm := c_X3_fill (l := l) (b := bm) (S := T) C.hZ h
  refine r_callVF (wr := (oD G qd f1 :: oJ G qj fj :: wH G E0 ad S1)) (q0 := 0) (ci := 3) (rest := []) hcm C hp mf_X3_fill km_L_91 hl.1 dL_law_538 rfl rfl ⟨lb rfl, lb rfl, (by show 33 + 8 * (j + 1) + 0 ≤ 601024; omega), (by show 3442 + 250 * (j + 1) + 0 ≤ 7293034; omega)⟩ rfl rfl (lb rfl) (fun v w1 H locs hv hp => ?_)
  obtain ⟨r, T1, rfl, rfl, h⟩ := hv
  refine W.eq (g2 := F0 m 541 ls [.double r]) rfl ?_
  refine W.widen (k := 33 + 8 * (j + 1)) (n := 3442 + 250 * (j + 1)) (Nat.le_refl _) (Nat.le_refl _) ?_
  refine lv_dstore (lv' := [(7, .double r), (6, .int k), (0, .ref b), (1, .ref (ad 0)), (2, .ref (bm 0)), (3, .ref qj), (4, .ref qd), (5, .int i)]) hx hb dL_law_541 hl (by decide) rfl (fun ls hl => ?_)
  obtain ⟨hc, ho, hJ⟩ := h
  refine lv_aload_n hx hb dL_law_543 rfl (lv_at hl 4 rfl) ?_
  have hct := c_X3_thrown (l := l) (b := bm) (S := T1) (post := fun r => r = M_code T1) C.hZ (show wp_X3_thrown T1 (fun r => r = M_code T1) from rfl)
  refine r_callVF (wr := (oD G qd f1 :: oJ G qj fj :: wH G E0 ad S1)) (q0 := 0) (ci := 3) (rest := []) hct C hp mf_X3_thrown km_L_73 hl.1 dL_law_544 rfl rfl ⟨lb rfl, lb rfl, (by show 33 + 8 * (j + 1) + 0 ≤ 601024; omega), (by show 3442 + 250 * (j + 1) + 0 ≤ 7293034; omega)⟩ rfl rfl (lb rfl) (fun v w1 H locs hv hp => ?_)
  obtain ⟨r2, rfl, rfl, hr2⟩ := hv
  refine W.eq (g2 := F0 m 547 ls [.int r2]) rfl ?_
  refine W.widen (k := 33 + 8 * (j + 1)) (n := 3442 + 250 * (j + 1)) (Nat.le_refl _) (Nat.le_refl _) ?_
  refine lv_iload hx hb dL_law_547 (lv_at hl 1 rfl) ?_
  refine lv_icmp_eq (tgt := 554) hx hb dL_law_549 (by decide) (fun _ => ?_) (fun q => absurd (hr2.trans hc) q)
  refine lv_iload hx hb dL_law_554 (lv_at hl 1 rfl) ?_
  have go : W p l e room_1 s m #[Value.ref b] below meth c H locs (33 + 8 * (j + 1)) (3442 + 250 * (j + 1)) Q (F0 m 591 ls []) := by
    refine lv_goto (tgt := 1173) hx hb dL_law_591 (by decide) ?_
    exact hN S1 T1 fj f1 H locs ls hJ (Hp_perm hp pm_L) (lv_sub hl [2, 3, 4, 5, 6, 7] rfl)
  refine lv_if_ne (tgt := 591) hx hb dL_law_556 (by decide) (fun _ => go) (fun h0 => ?_)
  have e1 := ho h0
  have e1 : f1 (0 : Int32).toNatClampNeg = r := e1
  refine lv_aload hx hb dL_law_559 (lv_at hl 6 rfl) ?_
  refine lv_iconst (v := 0) hx hb dL_law_561 (by decide) ?_
  refine r_dald (q0 := 0) (n := 1) C hp rfl dL_law_562 vin01 ?_
  refine lv_dload hx hb dL_law_563 (lv_at hl 0 rfl) ?_
  refine dcl_eq (tgt := 591) hx hb dL_law_565 dL_law_566 (by decide) (fun _ => go) (fun q1 => ?_)
  refine lv_aload hx hb dL_law_569 (lv_at hl 6 rfl) ?_
  refine lv_iconst (v := 0) hx hb dL_law_571 (by decide) ?_
  refine r_dald (q0 := 0) (n := 1) C hp rfl dL_law_572 vin01 ?_
  refine lv_aload hx hb dL_law_573 (lv_at hl 6 rfl) ?_
  refine lv_iconst (v := 0) hx hb dL_law_575 (by decide) ?_
  refine r_dald (q0 := 0) (n := 1) C hp rfl dL_law_576 vin01 ?_
  refine dcl_eq (tgt := 589) hx hb dL_law_577 dL_law_578 (by decide) (fun q2 => absurd (by rw [e1] at q2 ⊢; exact q2) q1) (fun q2 => ?_)
  refine lv_dload hx hb dL_law_581 (lv_at hl 0 rfl) ?_
  refine lv_dload hx hb dL_law_583 (lv_at hl 0 rfl) ?_
  exact dcl_ne (tgt := 591) hx hb dL_law_585 dL_law_586 (by decide) (fun _ => go) (fun q3 => absurd (by rw [e1]; exact q3) q1)
set_option maxHeartbeats 4000000 in
set_option maxRecDepth 100000 in
theorem law_tick (C : Cx G s [] p s m #[Value.ref b] meth c RL cL_law 10 ret) (h9 : ZO2 l E0 s) (hX : va_X b L xs s s.heap) (hbl : b < s.heap.size) (hN : LN l G p e s m below meth c Q E0 b qj qd j ad bm i) (J : JI j S T) (hj : j < 512) (hp : Hp G [] s H locs (WL G E0 ad bm qj qd fj fd S T)) (hl : lv_has ls 10 (LV b (ad 0) (bm 0) qj qd i)) (g1 : vp_in (i + 1) L) (g2 : vp_in (i + 2) L) (g3 : vp_in (i + 3) L) (g4 : vp_in (i + 4) L) : W p l e room_1 s m #[Value.ref b] below meth c H locs (33 + 8 * j) (3442 + 250 * j) Q (F0 m 594 ls []) := by
  have hx := C.hx
  have hb := C.hb
  have hbA := not_in hbl
  refine lv_aload_n hx hb dL_law_594 rfl (lv_at hl 1 rfl) ?_
  refine lv_aload_n hx hb dL_law_595 rfl (lv_at hl 0 rfl) ?_
  refine lv_iload hx hb dL_law_596 (lv_at hl 5 rfl) ?_
  refine lv_iconst (v := 1) hx hb dL_law_598 (by decide) ?_
  refine lv_iadd hx hb dL_law_599 ?_
  refine va_sld hx hb hX hbl hbA hp.2.2 g1 dL_law_600 ?_
  refine lv_aload_n hx hb dL_law_601 rfl (lv_at hl 3 rfl) ?_
  have hp := Hp_perm hp WL_j
  have hj2 : j < 2000 := by omega
  have ha := ag_tick (a0 := xs (i + 1).toNatClampNeg) (o := fj 0) J hj2
  have hcc := c_L_tick (l := l) (E0 := E0) (ad := ad) (ao := qj) (fo := fj) (S := S) (post := fun k S1 o => wp_X3_tick (xs (i + 1).toNatClampNeg) T (agI j k S1 o)) C.hZ h9 ha
  refine r_callWF (wr := (oD G qd fd :: wM G bm T)) (rest := []) hcc C hp mfw_L_tick km_L_92 hl.1 dL_law_602 ⟨lb rfl, lb rfl, (by show 33 + 8 * j + 8 ≤ 601024; omega), (by show 3442 + 250 * j + 250 ≤ 7293034; omega)⟩ rfl rfl (lb rfl) (fun v w1 H locs hv hp => ?_)
  obtain ⟨k, S1, f1, rfl, rfl, h⟩ := hv
  refine W.eq (g2 := F0 m 605 ls [.int k]) rfl ?_
  refine W.widen (k := 33 + 8 * (j + 1)) (n := 3442 + 250 * (j + 1)) (by show 33 + 8 * j + 8 ≤ _; omega) (by show 3442 + 250 * j + 250 ≤ _; omega) ?_
  have hp := Hp_perm hp pj_m
  refine lv_istore (lv' := [(6, .int k), (0, .ref b), (1, .ref (ad 0)), (2, .ref (bm 0)), (3, .ref qj), (4, .ref qd), (5, .int i)]) hx hb dL_law_605 hl (by decide) rfl (fun ls hl => ?_)
  refine lv_aload_n hx hb dL_law_607 rfl (lv_at hl 3 rfl) ?_
  refine lv_aload_n hx hb dL_law_608 rfl (lv_at hl 1 rfl) ?_
  refine lv_iload hx hb dL_law_609 (lv_at hl 6 rfl) ?_
  refine lv_iconst (v := 1) hx hb dL_law_611 (by decide) ?_
  refine lv_iadd hx hb dL_law_612 ?_
  refine va_sld hx hb hX hbl hbA hp.2.2 g1 dL_law_613 ?_
  have hcm := c_X3_tick (l := l) (b := bm) (S := T) C.hZ h
  refine r_callVF (wr := (oD G qd fd :: oJ G qj f1 :: wH G E0 ad S1)) (q0 := 0) (ci := 3) (rest := []) hcm C hp mf_X3_tick km_L_95 hl.1 dL_law_614 rfl rfl ⟨lb rfl, lb rfl, (by show 33 + 8 * (j + 1) + 0 ≤ 601024; omega), (by show 3442 + 250 * (j + 1) + 0 ≤ 7293034; omega)⟩ rfl rfl (lb rfl) (fun v w1 H locs hv hp => ?_)
  obtain ⟨r, T1, rfl, rfl, h⟩ := hv
  refine W.eq (g2 := F0 m 617 ls [.int r]) rfl ?_
  refine W.widen (k := 33 + 8 * (j + 1)) (n := 3442 + 250 * (j + 1)) (Nat.le_refl _) (Nat.le_refl _) ?_
  refine lv_istore (lv' := [(7, .int r), (6, .int k), (0, .ref b), (1, .ref (ad 0)), (2, .ref (bm 0)), (3, .ref qj), (4, .ref qd), (5, .int i)]) hx hb dL_law_617 hl (by decide) rfl (fun ls hl => ?_)
  obtain ⟨hc, ho, hJ⟩ := h
  refine lv_aload_n hx hb dL_law_619 rfl (lv_at hl 4 rfl) ?_
  have hct := c_X3_thrown (l := l) (b := bm) (S := T1) (post := fun r => r = M_code T1) C.hZ (show wp_X3_thrown T1 (fun r => r = M_code T1) from rfl)
  refine r_callVF (wr := (oD G qd fd :: oJ G qj f1 :: wH G E0 ad S1)) (q0 := 0) (ci := 3) (rest := []) hct C hp mf_X3_thrown km_L_73 hl.1 dL_law_620 rfl rfl ⟨lb rfl, lb rfl, (by show 33 + 8 * (j + 1) + 0 ≤ 601024; omega), (by show 3442 + 250 * (j + 1) + 0 ≤ 7293034; omega)⟩ rfl rfl (lb rfl) (fun v w1 H locs hv hp => ?_)
  obtain ⟨r2, rfl, rfl, hr2⟩ := hv
  refine W.eq (g2 := F0 m 623 ls [.int r2]) rfl ?_
  refine W.widen (k := 33 + 8 * (j + 1)) (n := 3442 + 250 * (j + 1)) (Nat.le_refl _) (Nat.le_refl _) ?_
  refine lv_iload hx hb dL_law_623 (lv_at hl 1 rfl) ?_
  refine lv_icmp_eq (tgt := 630) hx hb dL_law_625 (by decide) (fun _ => ?_) (fun q => absurd (hr2.trans hc) q)
  refine lv_iload hx hb dL_law_630 (lv_at hl 1 rfl) ?_
  have go : W p l e room_1 s m #[Value.ref b] below meth c H locs (33 + 8 * (j + 1)) (3442 + 250 * (j + 1)) Q (F0 m 647 ls []) := by
    refine lv_goto (tgt := 1173) hx hb dL_law_647 (by decide) ?_
    exact hN S1 T1 f1 fd H locs ls hJ (Hp_perm hp pm_L) (lv_sub hl [2, 3, 4, 5, 6, 7] rfl)
  refine lv_if_ne (tgt := 647) hx hb dL_law_632 (by decide) (fun _ => go) (fun h0 => ?_)
  have e1 := ho h0
  refine lv_aload_n hx hb dL_law_635 rfl (lv_at hl 5 rfl) ?_
  refine lv_iconst (v := 0) hx hb dL_law_636 (by decide) ?_
  refine r_lald (q0 := 1) (n := 1) C hp rfl dL_law_637 vin01 ?_
  refine lv_iload hx hb dL_law_638 (lv_at hl 0 rfl) ?_
  refine lv_i2l hx hb dL_law_640 rfl ?_
  refine W.lcmp hx hb dL_law_641 ?_
  exact lv_if_eq (tgt := 647) hx hb dL_law_642 (by decide) (fun _ => go) (fun q => absurd (lcmp0 e1) q)
set_option maxHeartbeats 4000000 in
set_option maxRecDepth 100000 in
theorem law_place (C : Cx G s [] p s m #[Value.ref b] meth c RL cL_law 10 ret) (h9 : ZO2 l E0 s) (hX : va_X b L xs s s.heap) (hbl : b < s.heap.size) (hN : LN l G p e s m below meth c Q E0 b qj qd j ad bm i) (J : JI j S T) (hj : j < 512) (hp : Hp G [] s H locs (WL G E0 ad bm qj qd fj fd S T)) (hl : lv_has ls 10 (LV b (ad 0) (bm 0) qj qd i)) (g1 : vp_in (i + 1) L) (g2 : vp_in (i + 2) L) (g3 : vp_in (i + 3) L) (g4 : vp_in (i + 4) L) : W p l e room_1 s m #[Value.ref b] below meth c H locs (33 + 8 * j) (3442 + 250 * j) Q (F0 m 650 ls []) := by
  have hx := C.hx
  have hb := C.hb
  have hbA := not_in hbl
  refine lv_aload_n hx hb dL_law_650 rfl (lv_at hl 1 rfl) ?_
  refine lv_aload_n hx hb dL_law_651 rfl (lv_at hl 0 rfl) ?_
  refine lv_iload hx hb dL_law_652 (lv_at hl 5 rfl) ?_
  refine lv_iconst (v := 1) hx hb dL_law_654 (by decide) ?_
  refine lv_iadd hx hb dL_law_655 ?_
  refine va_sld hx hb hX hbl hbA hp.2.2 g1 dL_law_656 ?_
  refine lv_aload hx hb dL_law_657 (lv_at hl 4 rfl) ?_
  have hp := Hp_perm hp WL_d
  have ha := ag_place (a0 := xs (i + 1).toNatClampNeg) (o := fd 0) J
  have hcc := c_L_place (l := l) (E0 := E0) (ad := ad) (ao := qd) (fo := fd) (S := S) (post := fun k S1 o => wp_X3_place (xs (i + 1).toNatClampNeg) T (agD j k S1 o)) C.hZ h9 ha
  refine r_callWF (wr := (oJ G qj fj :: wM G bm T)) (rest := []) hcc C hp mfw_L_place km_L_96 hl.1 dL_law_659 ⟨lb rfl, lb rfl, (by show 33 + 8 * j + 1 ≤ 601024; omega), (by show 3442 + 250 * j + 6 ≤ 7293034; omega)⟩ rfl rfl (lb rfl) (fun v w1 H locs hv hp => ?_)
  obtain ⟨k, S1, f1, rfl, rfl, h⟩ := hv
  refine W.eq (g2 := F0 m 662 ls [.int k]) rfl ?_
  refine W.widen (k := 33 + 8 * (j + 1)) (n := 3442 + 250 * (j + 1)) (by show 33 + 8 * j + 1 ≤ _; omega) (by show 3442 + 250 * j + 6 ≤ _; omega) ?_
  have hp := Hp_perm hp pd_m
  refine lv_istore (lv' := [(6, .int k), (0, .ref b), (1, .ref (ad 0)), (2, .ref (bm 0)), (3, .ref qj), (4, .ref qd), (5, .int i)]) hx hb dL_law_662 hl (by decide) rfl (fun ls hl => ?_)
  refine lv_aload_n hx hb dL_law_664 rfl (lv_at hl 3 rfl) ?_
  refine lv_aload_n hx hb dL_law_665 rfl (lv_at hl 1 rfl) ?_
  refine lv_iload hx hb dL_law_666 (lv_at hl 6 rfl) ?_
  refine lv_iconst (v := 1) hx hb dL_law_668 (by decide) ?_
  refine lv_iadd hx hb dL_law_669 ?_
  refine va_sld hx hb hX hbl hbA hp.2.2 g1 dL_law_670 ?_
  have hcm := c_X3_place (l := l) (b := bm) (S := T) C.hZ h
  refine r_callVF (wr := (oD G qd f1 :: oJ G qj fj :: wH G E0 ad S1)) (q0 := 0) (ci := 3) (rest := []) hcm C hp mf_X3_place km_L_99 hl.1 dL_law_671 rfl rfl ⟨lb rfl, lb rfl, (by show 33 + 8 * (j + 1) + 0 ≤ 601024; omega), (by show 3442 + 250 * (j + 1) + 0 ≤ 7293034; omega)⟩ rfl rfl (lb rfl) (fun v w1 H locs hv hp => ?_)
  obtain ⟨r, T1, rfl, rfl, h⟩ := hv
  refine W.eq (g2 := F0 m 674 ls [.double r]) rfl ?_
  refine W.widen (k := 33 + 8 * (j + 1)) (n := 3442 + 250 * (j + 1)) (Nat.le_refl _) (Nat.le_refl _) ?_
  refine lv_dstore (lv' := [(7, .double r), (6, .int k), (0, .ref b), (1, .ref (ad 0)), (2, .ref (bm 0)), (3, .ref qj), (4, .ref qd), (5, .int i)]) hx hb dL_law_674 hl (by decide) rfl (fun ls hl => ?_)
  obtain ⟨hc, ho, hJ⟩ := h
  refine lv_aload_n hx hb dL_law_676 rfl (lv_at hl 4 rfl) ?_
  have hct := c_X3_thrown (l := l) (b := bm) (S := T1) (post := fun r => r = M_code T1) C.hZ (show wp_X3_thrown T1 (fun r => r = M_code T1) from rfl)
  refine r_callVF (wr := (oD G qd f1 :: oJ G qj fj :: wH G E0 ad S1)) (q0 := 0) (ci := 3) (rest := []) hct C hp mf_X3_thrown km_L_73 hl.1 dL_law_677 rfl rfl ⟨lb rfl, lb rfl, (by show 33 + 8 * (j + 1) + 0 ≤ 601024; omega), (by show 3442 + 250 * (j + 1) + 0 ≤ 7293034; omega)⟩ rfl rfl (lb rfl) (fun v w1 H locs hv hp => ?_)
  obtain ⟨r2, rfl, rfl, hr2⟩ := hv
  refine W.eq (g2 := F0 m 680 ls [.int r2]) rfl ?_
  refine W.widen (k := 33 + 8 * (j + 1)) (n := 3442 + 250 * (j + 1)) (Nat.le_refl _) (Nat.le_refl _) ?_
  refine lv_iload hx hb dL_law_680 (lv_at hl 1 rfl) ?_
  refine lv_icmp_eq (tgt := 687) hx hb dL_law_682 (by decide) (fun _ => ?_) (fun q => absurd (hr2.trans hc) q)
  refine lv_iload hx hb dL_law_687 (lv_at hl 1 rfl) ?_
  have go : W p l e room_1 s m #[Value.ref b] below meth c H locs (33 + 8 * (j + 1)) (3442 + 250 * (j + 1)) Q (F0 m 724 ls []) := by
    refine lv_goto (tgt := 1173) hx hb dL_law_724 (by decide) ?_
    exact hN S1 T1 fj f1 H locs ls hJ (Hp_perm hp pm_L) (lv_sub hl [2, 3, 4, 5, 6, 7] rfl)
  refine lv_if_ne (tgt := 724) hx hb dL_law_689 (by decide) (fun _ => go) (fun h0 => ?_)
  have e1 := ho h0
  have e1 : f1 (0 : Int32).toNatClampNeg = r := e1
  refine lv_aload hx hb dL_law_692 (lv_at hl 6 rfl) ?_
  refine lv_iconst (v := 0) hx hb dL_law_694 (by decide) ?_
  refine r_dald (q0 := 0) (n := 1) C hp rfl dL_law_695 vin01 ?_
  refine lv_dload hx hb dL_law_696 (lv_at hl 0 rfl) ?_
  refine dcl_eq (tgt := 724) hx hb dL_law_698 dL_law_699 (by decide) (fun _ => go) (fun q1 => ?_)
  refine lv_aload hx hb dL_law_702 (lv_at hl 6 rfl) ?_
  refine lv_iconst (v := 0) hx hb dL_law_704 (by decide) ?_
  refine r_dald (q0 := 0) (n := 1) C hp rfl dL_law_705 vin01 ?_
  refine lv_aload hx hb dL_law_706 (lv_at hl 6 rfl) ?_
  refine lv_iconst (v := 0) hx hb dL_law_708 (by decide) ?_
  refine r_dald (q0 := 0) (n := 1) C hp rfl dL_law_709 vin01 ?_
  refine dcl_eq (tgt := 722) hx hb dL_law_710 dL_law_711 (by decide) (fun q2 => absurd (by rw [e1] at q2 ⊢; exact q2) q1) (fun q2 => ?_)
  refine lv_dload hx hb dL_law_714 (lv_at hl 0 rfl) ?_
  refine lv_dload hx hb dL_law_716 (lv_at hl 0 rfl) ?_
  exact dcl_ne (tgt := 724) hx hb dL_law_718 dL_law_719 (by decide) (fun _ => go) (fun q3 => absurd (by rw [e1]; exact q3) q1)
set_option maxHeartbeats 4000000 in
set_option maxRecDepth 100000 in
theorem law_speed (C : Cx G s [] p s m #[Value.ref b] meth c RL cL_law 10 ret) (h9 : ZO2 l E0 s) (hX : va_X b L xs s s.heap) (hbl : b < s.heap.size) (hN : LN l G p e s m below meth c Q E0 b qj qd j ad bm i) (J : JI j S T) (hj : j < 512) (hp : Hp G [] s H locs (WL G E0 ad bm qj qd fj fd S T)) (hl : lv_has ls 10 (LV b (ad 0) (bm 0) qj qd i)) (g1 : vp_in (i + 1) L) (g2 : vp_in (i + 2) L) (g3 : vp_in (i + 3) L) (g4 : vp_in (i + 4) L) : W p l e room_1 s m #[Value.ref b] below meth c H locs (33 + 8 * j) (3442 + 250 * j) Q (F0 m 727 ls []) := by
  have hx := C.hx
  have hb := C.hb
  have hbA := not_in hbl
  refine lv_aload_n hx hb dL_law_727 rfl (lv_at hl 1 rfl) ?_
  refine lv_aload_n hx hb dL_law_728 rfl (lv_at hl 0 rfl) ?_
  refine lv_iload hx hb dL_law_729 (lv_at hl 5 rfl) ?_
  refine lv_iconst (v := 1) hx hb dL_law_731 (by decide) ?_
  refine lv_iadd hx hb dL_law_732 ?_
  refine va_sld hx hb hX hbl hbA hp.2.2 g1 dL_law_733 ?_
  refine lv_aload hx hb dL_law_734 (lv_at hl 4 rfl) ?_
  have hp := Hp_perm hp WL_d
  have ha := ag_speed (a0 := xs (i + 1).toNatClampNeg) (o := fd 0) J
  have hcc := c_L_speed (l := l) (E0 := E0) (ad := ad) (ao := qd) (fo := fd) (S := S) (post := fun k S1 o => wp_X3_speed (xs (i + 1).toNatClampNeg) T (agD j k S1 o)) C.hZ h9 ha
  refine r_callWF (wr := (oJ G qj fj :: wM G bm T)) (rest := []) hcc C hp mfw_L_speed km_L_100 hl.1 dL_law_736 ⟨lb rfl, lb rfl, (by show 33 + 8 * j + 1 ≤ 601024; omega), (by show 3442 + 250 * j + 6 ≤ 7293034; omega)⟩ rfl rfl (lb rfl) (fun v w1 H locs hv hp => ?_)
  obtain ⟨k, S1, f1, rfl, rfl, h⟩ := hv
  refine W.eq (g2 := F0 m 739 ls [.int k]) rfl ?_
  refine W.widen (k := 33 + 8 * (j + 1)) (n := 3442 + 250 * (j + 1)) (by show 33 + 8 * j + 1 ≤ _; omega) (by show 3442 + 250 * j + 6 ≤ _; omega) ?_
  have hp := Hp_perm hp pd_m
  refine lv_istore (lv' := [(6, .int k), (0, .ref b), (1, .ref (ad 0)), (2, .ref (bm 0)), (3, .ref qj), (4, .ref qd), (5, .int i)]) hx hb dL_law_739 hl (by decide) rfl (fun ls hl => ?_)
  refine lv_aload_n hx hb dL_law_741 rfl (lv_at hl 3 rfl) ?_
  refine lv_aload_n hx hb dL_law_742 rfl (lv_at hl 1 rfl) ?_
  refine lv_iload hx hb dL_law_743 (lv_at hl 6 rfl) ?_
  refine lv_iconst (v := 1) hx hb dL_law_745 (by decide) ?_
  refine lv_iadd hx hb dL_law_746 ?_
  refine va_sld hx hb hX hbl hbA hp.2.2 g1 dL_law_747 ?_
  have hcm := c_X3_speed (l := l) (b := bm) (S := T) C.hZ h
  refine r_callVF (wr := (oD G qd f1 :: oJ G qj fj :: wH G E0 ad S1)) (q0 := 0) (ci := 3) (rest := []) hcm C hp mf_X3_speed km_L_102 hl.1 dL_law_748 rfl rfl ⟨lb rfl, lb rfl, (by show 33 + 8 * (j + 1) + 0 ≤ 601024; omega), (by show 3442 + 250 * (j + 1) + 0 ≤ 7293034; omega)⟩ rfl rfl (lb rfl) (fun v w1 H locs hv hp => ?_)
  obtain ⟨r, T1, rfl, rfl, h⟩ := hv
  refine W.eq (g2 := F0 m 751 ls [.double r]) rfl ?_
  refine W.widen (k := 33 + 8 * (j + 1)) (n := 3442 + 250 * (j + 1)) (Nat.le_refl _) (Nat.le_refl _) ?_
  refine lv_dstore (lv' := [(7, .double r), (6, .int k), (0, .ref b), (1, .ref (ad 0)), (2, .ref (bm 0)), (3, .ref qj), (4, .ref qd), (5, .int i)]) hx hb dL_law_751 hl (by decide) rfl (fun ls hl => ?_)
  obtain ⟨hc, ho, hJ⟩ := h
  refine lv_aload_n hx hb dL_law_753 rfl (lv_at hl 4 rfl) ?_
  have hct := c_X3_thrown (l := l) (b := bm) (S := T1) (post := fun r => r = M_code T1) C.hZ (show wp_X3_thrown T1 (fun r => r = M_code T1) from rfl)
  refine r_callVF (wr := (oD G qd f1 :: oJ G qj fj :: wH G E0 ad S1)) (q0 := 0) (ci := 3) (rest := []) hct C hp mf_X3_thrown km_L_73 hl.1 dL_law_754 rfl rfl ⟨lb rfl, lb rfl, (by show 33 + 8 * (j + 1) + 0 ≤ 601024; omega), (by show 3442 + 250 * (j + 1) + 0 ≤ 7293034; omega)⟩ rfl rfl (lb rfl) (fun v w1 H locs hv hp => ?_)
  obtain ⟨r2, rfl, rfl, hr2⟩ := hv
  refine W.eq (g2 := F0 m 757 ls [.int r2]) rfl ?_
  refine W.widen (k := 33 + 8 * (j + 1)) (n := 3442 + 250 * (j + 1)) (Nat.le_refl _) (Nat.le_refl _) ?_
  refine lv_iload hx hb dL_law_757 (lv_at hl 1 rfl) ?_
  refine lv_icmp_eq (tgt := 764) hx hb dL_law_759 (by decide) (fun _ => ?_) (fun q => absurd (hr2.trans hc) q)
  refine lv_iload hx hb dL_law_764 (lv_at hl 1 rfl) ?_
  have go : W p l e room_1 s m #[Value.ref b] below meth c H locs (33 + 8 * (j + 1)) (3442 + 250 * (j + 1)) Q (F0 m 801 ls []) := by
    refine lv_goto (tgt := 1173) hx hb dL_law_801 (by decide) ?_
    exact hN S1 T1 fj f1 H locs ls hJ (Hp_perm hp pm_L) (lv_sub hl [2, 3, 4, 5, 6, 7] rfl)
  refine lv_if_ne (tgt := 801) hx hb dL_law_766 (by decide) (fun _ => go) (fun h0 => ?_)
  have e1 := ho h0
  have e1 : f1 (0 : Int32).toNatClampNeg = r := e1
  refine lv_aload hx hb dL_law_769 (lv_at hl 6 rfl) ?_
  refine lv_iconst (v := 0) hx hb dL_law_771 (by decide) ?_
  refine r_dald (q0 := 0) (n := 1) C hp rfl dL_law_772 vin01 ?_
  refine lv_dload hx hb dL_law_773 (lv_at hl 0 rfl) ?_
  refine dcl_eq (tgt := 801) hx hb dL_law_775 dL_law_776 (by decide) (fun _ => go) (fun q1 => ?_)
  refine lv_aload hx hb dL_law_779 (lv_at hl 6 rfl) ?_
  refine lv_iconst (v := 0) hx hb dL_law_781 (by decide) ?_
  refine r_dald (q0 := 0) (n := 1) C hp rfl dL_law_782 vin01 ?_
  refine lv_aload hx hb dL_law_783 (lv_at hl 6 rfl) ?_
  refine lv_iconst (v := 0) hx hb dL_law_785 (by decide) ?_
  refine r_dald (q0 := 0) (n := 1) C hp rfl dL_law_786 vin01 ?_
  refine dcl_eq (tgt := 799) hx hb dL_law_787 dL_law_788 (by decide) (fun q2 => absurd (by rw [e1] at q2 ⊢; exact q2) q1) (fun q2 => ?_)
  refine lv_dload hx hb dL_law_791 (lv_at hl 0 rfl) ?_
  refine lv_dload hx hb dL_law_793 (lv_at hl 0 rfl) ?_
  exact dcl_ne (tgt := 801) hx hb dL_law_795 dL_law_796 (by decide) (fun _ => go) (fun q3 => absurd (by rw [e1]; exact q3) q1)
set_option maxHeartbeats 4000000 in
set_option maxRecDepth 100000 in
theorem law_told (C : Cx G s [] p s m #[Value.ref b] meth c RL cL_law 10 ret) (h9 : ZO2 l E0 s) (hX : va_X b L xs s s.heap) (hbl : b < s.heap.size) (hN : LN l G p e s m below meth c Q E0 b qj qd j ad bm i) (J : JI j S T) (hj : j < 512) (hp : Hp G [] s H locs (WL G E0 ad bm qj qd fj fd S T)) (hl : lv_has ls 10 (LV b (ad 0) (bm 0) qj qd i)) (g1 : vp_in (i + 1) L) (g2 : vp_in (i + 2) L) (g3 : vp_in (i + 3) L) (g4 : vp_in (i + 4) L) : W p l e room_1 s m #[Value.ref b] below meth c H locs (33 + 8 * j) (3442 + 250 * j) Q (F0 m 804 ls []) := by
  have hx := C.hx
  have hb := C.hb
  have hbA := not_in hbl
  refine lv_aload_n hx hb dL_law_804 rfl (lv_at hl 1 rfl) ?_
  refine lv_aload_n hx hb dL_law_805 rfl (lv_at hl 0 rfl) ?_
  refine lv_iload hx hb dL_law_806 (lv_at hl 5 rfl) ?_
  refine lv_iconst (v := 1) hx hb dL_law_808 (by decide) ?_
  refine lv_iadd hx hb dL_law_809 ?_
  refine va_sld hx hb hX hbl hbA hp.2.2 g1 dL_law_810 ?_
  refine lv_aload_n hx hb dL_law_811 rfl (lv_at hl 0 rfl) ?_
  refine lv_iload hx hb dL_law_812 (lv_at hl 5 rfl) ?_
  refine lv_iconst (v := 2) hx hb dL_law_814 (by decide) ?_
  refine lv_iadd hx hb dL_law_815 ?_
  refine va_sld hx hb hX hbl hbA hp.2.2 g2 dL_law_816 ?_
  refine lv_aload_n hx hb dL_law_817 rfl (lv_at hl 3 rfl) ?_
  have hp := Hp_perm hp WL_j
  have ha := ag_told (a0 := xs (i + 1).toNatClampNeg) (a1 := xs (i + 2).toNatClampNeg) (o := fj 0) J
  have hcc := c_L_told (l := l) (E0 := E0) (ad := ad) (ao := qj) (fo := fj) (S := S) (post := fun k S1 o => wp_X3_told (xs (i + 1).toNatClampNeg) (xs (i + 2).toNatClampNeg) T (agI j k S1 o)) C.hZ h9 ha
  refine r_callWF (wr := (oD G qd fd :: wM G bm T)) (rest := []) hcc C hp mfw_L_told km_L_103 hl.1 dL_law_818 ⟨lb rfl, lb rfl, (by show 33 + 8 * j + 2 ≤ 601024; omega), (by show 3442 + 250 * j + 12 ≤ 7293034; omega)⟩ rfl rfl (lb rfl) (fun v w1 H locs hv hp => ?_)
  obtain ⟨k, S1, f1, rfl, rfl, h⟩ := hv
  refine W.eq (g2 := F0 m 821 ls [.int k]) rfl ?_
  refine W.widen (k := 33 + 8 * (j + 1)) (n := 3442 + 250 * (j + 1)) (by show 33 + 8 * j + 2 ≤ _; omega) (by show 3442 + 250 * j + 12 ≤ _; omega) ?_
  have hp := Hp_perm hp pj_m
  refine lv_istore (lv' := [(6, .int k), (0, .ref b), (1, .ref (ad 0)), (2, .ref (bm 0)), (3, .ref qj), (4, .ref qd), (5, .int i)]) hx hb dL_law_821 hl (by decide) rfl (fun ls hl => ?_)
  refine lv_aload_n hx hb dL_law_823 rfl (lv_at hl 3 rfl) ?_
  refine lv_aload_n hx hb dL_law_824 rfl (lv_at hl 1 rfl) ?_
  refine lv_iload hx hb dL_law_825 (lv_at hl 6 rfl) ?_
  refine lv_iconst (v := 1) hx hb dL_law_827 (by decide) ?_
  refine lv_iadd hx hb dL_law_828 ?_
  refine va_sld hx hb hX hbl hbA hp.2.2 g1 dL_law_829 ?_
  refine lv_aload_n hx hb dL_law_830 rfl (lv_at hl 1 rfl) ?_
  refine lv_iload hx hb dL_law_831 (lv_at hl 6 rfl) ?_
  refine lv_iconst (v := 2) hx hb dL_law_833 (by decide) ?_
  refine lv_iadd hx hb dL_law_834 ?_
  refine va_sld hx hb hX hbl hbA hp.2.2 g2 dL_law_835 ?_
  have hcm := c_X3_told (l := l) (b := bm) (S := T) C.hZ h
  refine r_callVF (wr := (oD G qd fd :: oJ G qj f1 :: wH G E0 ad S1)) (q0 := 0) (ci := 3) (rest := []) hcm C hp mf_X3_told km_L_106 hl.1 dL_law_836 rfl rfl ⟨lb rfl, lb rfl, (by show 33 + 8 * (j + 1) + 0 ≤ 601024; omega), (by show 3442 + 250 * (j + 1) + 0 ≤ 7293034; omega)⟩ rfl rfl (lb rfl) (fun v w1 H locs hv hp => ?_)
  obtain ⟨r, T1, rfl, rfl, h⟩ := hv
  refine W.eq (g2 := F0 m 839 ls [.int r]) rfl ?_
  refine W.widen (k := 33 + 8 * (j + 1)) (n := 3442 + 250 * (j + 1)) (Nat.le_refl _) (Nat.le_refl _) ?_
  refine lv_istore (lv' := [(7, .int r), (6, .int k), (0, .ref b), (1, .ref (ad 0)), (2, .ref (bm 0)), (3, .ref qj), (4, .ref qd), (5, .int i)]) hx hb dL_law_839 hl (by decide) rfl (fun ls hl => ?_)
  obtain ⟨hc, ho, hJ⟩ := h
  refine lv_aload_n hx hb dL_law_841 rfl (lv_at hl 4 rfl) ?_
  have hct := c_X3_thrown (l := l) (b := bm) (S := T1) (post := fun r => r = M_code T1) C.hZ (show wp_X3_thrown T1 (fun r => r = M_code T1) from rfl)
  refine r_callVF (wr := (oD G qd fd :: oJ G qj f1 :: wH G E0 ad S1)) (q0 := 0) (ci := 3) (rest := []) hct C hp mf_X3_thrown km_L_73 hl.1 dL_law_842 rfl rfl ⟨lb rfl, lb rfl, (by show 33 + 8 * (j + 1) + 0 ≤ 601024; omega), (by show 3442 + 250 * (j + 1) + 0 ≤ 7293034; omega)⟩ rfl rfl (lb rfl) (fun v w1 H locs hv hp => ?_)
  obtain ⟨r2, rfl, rfl, hr2⟩ := hv
  refine W.eq (g2 := F0 m 845 ls [.int r2]) rfl ?_
  refine W.widen (k := 33 + 8 * (j + 1)) (n := 3442 + 250 * (j + 1)) (Nat.le_refl _) (Nat.le_refl _) ?_
  refine lv_iload hx hb dL_law_845 (lv_at hl 1 rfl) ?_
  refine lv_icmp_eq (tgt := 852) hx hb dL_law_847 (by decide) (fun _ => ?_) (fun q => absurd (hr2.trans hc) q)
  refine lv_iload hx hb dL_law_852 (lv_at hl 1 rfl) ?_
  have go : W p l e room_1 s m #[Value.ref b] below meth c H locs (33 + 8 * (j + 1)) (3442 + 250 * (j + 1)) Q (F0 m 869 ls []) := by
    refine lv_goto (tgt := 1173) hx hb dL_law_869 (by decide) ?_
    exact hN S1 T1 f1 fd H locs ls hJ (Hp_perm hp pm_L) (lv_sub hl [2, 3, 4, 5, 6, 7] rfl)
  refine lv_if_ne (tgt := 869) hx hb dL_law_854 (by decide) (fun _ => go) (fun h0 => ?_)
  have e1 := ho h0
  refine lv_aload_n hx hb dL_law_857 rfl (lv_at hl 5 rfl) ?_
  refine lv_iconst (v := 0) hx hb dL_law_858 (by decide) ?_
  refine r_lald (q0 := 1) (n := 1) C hp rfl dL_law_859 vin01 ?_
  refine lv_iload hx hb dL_law_860 (lv_at hl 0 rfl) ?_
  refine lv_i2l hx hb dL_law_862 rfl ?_
  refine W.lcmp hx hb dL_law_863 ?_
  exact lv_if_eq (tgt := 869) hx hb dL_law_864 (by decide) (fun _ => go) (fun q => absurd (lcmp0 e1) q)
end LAWD
