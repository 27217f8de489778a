section LAWK
variable {l : Launch} {G : GT} {p : Program} {e : Env} {s : State} {m : MethodId} {below : List Frame} {meth : Method} {c : Code} {H : Heap} {locs : List Loc} {Q : State → Prop} {ls : Array Slot} {E0 b L qj qd j : Nat} {ad bm : Nat → Nat} {xs : Nat → Int32} {i : Int32} {fj : Nat → Int64} {fd : Nat → UInt64} {S : HS} {T : MS}
set_option maxHeartbeats 4000000 in
set_option maxRecDepth 100000 in
theorem law_point (C : Cx G s [] p s m #[Value.ref b] meth c RL cL_law 10 ret) (h9 : ZO2 l E0 s) (hX : va_X b L xs s s.heap) (hbl : b < s.heap.size) (hN : LN l G p e s m below meth c Q E0 b qj qd j ad bm i) (J : JI j S T) (hj : j < 512) (hp : Hp G [] s H locs (WL G E0 ad bm qj qd fj fd S T)) (hl : lv_has ls 10 (LV b (ad 0) (bm 0) qj qd i)) (g1 : vp_in (i + 1) L) (g2 : vp_in (i + 2) L) (g3 : vp_in (i + 3) L) (g4 : vp_in (i + 4) L) : W p l e room_1 s m #[Value.ref b] below meth c H locs (33 + 8 * j) (3442 + 250 * j) Q (F0 m 872 ls []) := by
  have hx := C.hx
  have hb := C.hb
  have hbA := not_in hbl
  refine lv_aload_n hx hb dL_law_872 rfl (lv_at hl 1 rfl) ?_
  refine lv_aload_n hx hb dL_law_873 rfl (lv_at hl 0 rfl) ?_
  refine lv_iload hx hb dL_law_874 (lv_at hl 5 rfl) ?_
  refine lv_iconst (v := 1) hx hb dL_law_876 (by decide) ?_
  refine lv_iadd hx hb dL_law_877 ?_
  refine va_sld hx hb hX hbl hbA hp.2.2 g1 dL_law_878 ?_
  refine lv_aload_n hx hb dL_law_879 rfl (lv_at hl 0 rfl) ?_
  refine lv_iload hx hb dL_law_880 (lv_at hl 5 rfl) ?_
  refine lv_iconst (v := 2) hx hb dL_law_882 (by decide) ?_
  refine lv_iadd hx hb dL_law_883 ?_
  refine va_sld hx hb hX hbl hbA hp.2.2 g2 dL_law_884 ?_
  refine lv_aload_n hx hb dL_law_885 rfl (lv_at hl 3 rfl) ?_
  have hp := Hp_perm hp WL_j
  have ha := ag_point (a0 := xs (i + 1).toNatClampNeg) (a1 := xs (i + 2).toNatClampNeg) (o := fj 0) J
  have hcc := c_L_point (l := l) (E0 := E0) (ad := ad) (ao := qj) (fo := fj) (S := S) (post := fun k S1 o => wp_X3_point (xs (i + 1).toNatClampNeg) (xs (i + 2).toNatClampNeg) T (agI j k S1 o)) C.hZ h9 ha
  refine r_callWF (wr := (oD G qd fd :: wM G bm T)) (rest := []) hcc C hp mfw_L_point km_L_107 hl.1 dL_law_886 ⟨lb rfl, lb rfl, (by show 33 + 8 * j + 1 ≤ 601024; omega), (by show 3442 + 250 * j + 6 ≤ 7293034; omega)⟩ rfl rfl (lb rfl) (fun v w1 H locs hv hp => ?_)
  obtain ⟨k, S1, f1, rfl, rfl, h⟩ := hv
  refine W.eq (g2 := F0 m 889 ls [.int k]) rfl ?_
  refine W.widen (k := 33 + 8 * (j + 1)) (n := 3442 + 250 * (j + 1)) (by show 33 + 8 * j + 1 ≤ _; omega) (by show 3442 + 250 * j + 6 ≤ _; omega) ?_
  have hp := Hp_perm hp pj_m
  refine lv_istore (lv' := [(6, .int k), (0, .ref b), (1, .ref (ad 0)), (2, .ref (bm 0)), (3, .ref qj), (4, .ref qd), (5, .int i)]) hx hb dL_law_889 hl (by decide) rfl (fun ls hl => ?_)
  refine lv_aload_n hx hb dL_law_891 rfl (lv_at hl 3 rfl) ?_
  refine lv_aload_n hx hb dL_law_892 rfl (lv_at hl 1 rfl) ?_
  refine lv_iload hx hb dL_law_893 (lv_at hl 6 rfl) ?_
  refine lv_iconst (v := 1) hx hb dL_law_895 (by decide) ?_
  refine lv_iadd hx hb dL_law_896 ?_
  refine va_sld hx hb hX hbl hbA hp.2.2 g1 dL_law_897 ?_
  refine lv_aload_n hx hb dL_law_898 rfl (lv_at hl 1 rfl) ?_
  refine lv_iload hx hb dL_law_899 (lv_at hl 6 rfl) ?_
  refine lv_iconst (v := 2) hx hb dL_law_901 (by decide) ?_
  refine lv_iadd hx hb dL_law_902 ?_
  refine va_sld hx hb hX hbl hbA hp.2.2 g2 dL_law_903 ?_
  have hcm := c_X3_point (l := l) (b := bm) (S := T) C.hZ h
  refine r_callVF (wr := (oD G qd fd :: oJ G qj f1 :: wH G E0 ad S1)) (q0 := 0) (ci := 3) (rest := []) hcm C hp mf_X3_point km_L_109 hl.1 dL_law_904 rfl rfl ⟨lb rfl, lb rfl, (by show 33 + 8 * (j + 1) + 0 ≤ 601024; omega), (by show 3442 + 250 * (j + 1) + 0 ≤ 7293034; omega)⟩ rfl rfl (lb rfl) (fun v w1 H locs hv hp => ?_)
  obtain ⟨r, T1, rfl, rfl, h⟩ := hv
  refine W.eq (g2 := F0 m 907 ls [.int r]) rfl ?_
  refine W.widen (k := 33 + 8 * (j + 1)) (n := 3442 + 250 * (j + 1)) (Nat.le_refl _) (Nat.le_refl _) ?_
  refine lv_istore (lv' := [(7, .int r), (6, .int k), (0, .ref b), (1, .ref (ad 0)), (2, .ref (bm 0)), (3, .ref qj), (4, .ref qd), (5, .int i)]) hx hb dL_law_907 hl (by decide) rfl (fun ls hl => ?_)
  obtain ⟨hc, ho, hJ⟩ := h
  refine lv_aload_n hx hb dL_law_909 rfl (lv_at hl 4 rfl) ?_
  have hct := c_X3_thrown (l := l) (b := bm) (S := T1) (post := fun r => r = M_code T1) C.hZ (show wp_X3_thrown T1 (fun r => r = M_code T1) from rfl)
  refine r_callVF (wr := (oD G qd fd :: oJ G qj f1 :: wH G E0 ad S1)) (q0 := 0) (ci := 3) (rest := []) hct C hp mf_X3_thrown km_L_73 hl.1 dL_law_910 rfl rfl ⟨lb rfl, lb rfl, (by show 33 + 8 * (j + 1) + 0 ≤ 601024; omega), (by show 3442 + 250 * (j + 1) + 0 ≤ 7293034; omega)⟩ rfl rfl (lb rfl) (fun v w1 H locs hv hp => ?_)
  obtain ⟨r2, rfl, rfl, hr2⟩ := hv
  refine W.eq (g2 := F0 m 913 ls [.int r2]) rfl ?_
  refine W.widen (k := 33 + 8 * (j + 1)) (n := 3442 + 250 * (j + 1)) (Nat.le_refl _) (Nat.le_refl _) ?_
  refine lv_iload hx hb dL_law_913 (lv_at hl 1 rfl) ?_
  refine lv_icmp_eq (tgt := 920) hx hb dL_law_915 (by decide) (fun _ => ?_) (fun q => absurd (hr2.trans hc) q)
  refine lv_iload hx hb dL_law_920 (lv_at hl 1 rfl) ?_
  have go : W p l e room_1 s m #[Value.ref b] below meth c H locs (33 + 8 * (j + 1)) (3442 + 250 * (j + 1)) Q (F0 m 937 ls []) := by
    refine lv_goto (tgt := 1173) hx hb dL_law_937 (by decide) ?_
    exact hN S1 T1 f1 fd H locs ls hJ (Hp_perm hp pm_L) (lv_sub hl [2, 3, 4, 5, 6, 7] rfl)
  refine lv_if_ne (tgt := 937) hx hb dL_law_922 (by decide) (fun _ => go) (fun h0 => ?_)
  have e1 := ho h0
  refine lv_aload_n hx hb dL_law_925 rfl (lv_at hl 5 rfl) ?_
  refine lv_iconst (v := 0) hx hb dL_law_926 (by decide) ?_
  refine r_lald (q0 := 1) (n := 1) C hp rfl dL_law_927 vin01 ?_
  refine lv_iload hx hb dL_law_928 (lv_at hl 0 rfl) ?_
  refine lv_i2l hx hb dL_law_930 rfl ?_
  refine W.lcmp hx hb dL_law_931 ?_
  exact lv_if_eq (tgt := 937) hx hb dL_law_932 (by decide) (fun _ => go) (fun q => absurd (lcmp0 e1) q)
set_option maxHeartbeats 4000000 in
set_option maxRecDepth 100000 in
theorem law_siding (C : Cx G s [] p s m #[Value.ref b] meth c RL cL_law 10 ret) (h9 : ZO2 l E0 s) (hX : va_X b L xs s s.heap) (hbl : b < s.heap.size) (hN : LN l G p e s m below meth c Q E0 b qj qd j ad bm i) (J : JI j S T) (hj : j < 512) (hp : Hp G [] s H locs (WL G E0 ad bm qj qd fj fd S T)) (hl : lv_has ls 10 (LV b (ad 0) (bm 0) qj qd i)) (g1 : vp_in (i + 1) L) (g2 : vp_in (i + 2) L) (g3 : vp_in (i + 3) L) (g4 : vp_in (i + 4) L) : W p l e room_1 s m #[Value.ref b] below meth c H locs (33 + 8 * j) (3442 + 250 * j) Q (F0 m 940 ls []) := by
  have hx := C.hx
  have hb := C.hb
  have hbA := not_in hbl
  refine lv_aload_n hx hb dL_law_940 rfl (lv_at hl 1 rfl) ?_
  refine lv_aload_n hx hb dL_law_941 rfl (lv_at hl 0 rfl) ?_
  refine lv_iload hx hb dL_law_942 (lv_at hl 5 rfl) ?_
  refine lv_iconst (v := 1) hx hb dL_law_944 (by decide) ?_
  refine lv_iadd hx hb dL_law_945 ?_
  refine va_sld hx hb hX hbl hbA hp.2.2 g1 dL_law_946 ?_
  refine lv_aload_n hx hb dL_law_947 rfl (lv_at hl 0 rfl) ?_
  refine lv_iload hx hb dL_law_948 (lv_at hl 5 rfl) ?_
  refine lv_iconst (v := 2) hx hb dL_law_950 (by decide) ?_
  refine lv_iadd hx hb dL_law_951 ?_
  refine va_sld hx hb hX hbl hbA hp.2.2 g2 dL_law_952 ?_
  refine lv_aload_n hx hb dL_law_953 rfl (lv_at hl 3 rfl) ?_
  have hp := Hp_perm hp WL_j
  have ha := ag_siding (a0 := xs (i + 1).toNatClampNeg) (a1 := xs (i + 2).toNatClampNeg) (o := fj 0) J
  have hcc := c_L_siding (l := l) (E0 := E0) (ad := ad) (ao := qj) (fo := fj) (S := S) (post := fun k S1 o => wp_X3_siding (xs (i + 1).toNatClampNeg) (xs (i + 2).toNatClampNeg) T (agI j k S1 o)) C.hZ h9 ha
  refine r_callWF (wr := (oD G qd fd :: wM G bm T)) (rest := []) hcc C hp mfw_L_siding km_L_110 hl.1 dL_law_954 ⟨lb rfl, lb rfl, (by show 33 + 8 * j + 1 ≤ 601024; omega), (by show 3442 + 250 * j + 6 ≤ 7293034; omega)⟩ rfl rfl (lb rfl) (fun v w1 H locs hv hp => ?_)
  obtain ⟨k, S1, f1, rfl, rfl, h⟩ := hv
  refine W.eq (g2 := F0 m 957 ls [.int k]) rfl ?_
  refine W.widen (k := 33 + 8 * (j + 1)) (n := 3442 + 250 * (j + 1)) (by show 33 + 8 * j + 1 ≤ _; omega) (by show 3442 + 250 * j + 6 ≤ _; omega) ?_
  have hp := Hp_perm hp pj_m
  refine lv_istore (lv' := [(6, .int k), (0, .ref b), (1, .ref (ad 0)), (2, .ref (bm 0)), (3, .ref qj), (4, .ref qd), (5, .int i)]) hx hb dL_law_957 hl (by decide) rfl (fun ls hl => ?_)
  refine lv_aload_n hx hb dL_law_959 rfl (lv_at hl 3 rfl) ?_
  refine lv_aload_n hx hb dL_law_960 rfl (lv_at hl 1 rfl) ?_
  refine lv_iload hx hb dL_law_961 (lv_at hl 6 rfl) ?_
  refine lv_iconst (v := 1) hx hb dL_law_963 (by decide) ?_
  refine lv_iadd hx hb dL_law_964 ?_
  refine va_sld hx hb hX hbl hbA hp.2.2 g1 dL_law_965 ?_
  refine lv_aload_n hx hb dL_law_966 rfl (lv_at hl 1 rfl) ?_
  refine lv_iload hx hb dL_law_967 (lv_at hl 6 rfl) ?_
  refine lv_iconst (v := 2) hx hb dL_law_969 (by decide) ?_
  refine lv_iadd hx hb dL_law_970 ?_
  refine va_sld hx hb hX hbl hbA hp.2.2 g2 dL_law_971 ?_
  have hcm := c_X3_siding (l := l) (b := bm) (S := T) C.hZ h
  refine r_callVF (wr := (oD G qd fd :: oJ G qj f1 :: wH G E0 ad S1)) (q0 := 0) (ci := 3) (rest := []) hcm C hp mf_X3_siding km_L_112 hl.1 dL_law_972 rfl rfl ⟨lb rfl, lb rfl, (by show 33 + 8 * (j + 1) + 0 ≤ 601024; omega), (by show 3442 + 250 * (j + 1) + 0 ≤ 7293034; omega)⟩ rfl rfl (lb rfl) (fun v w1 H locs hv hp => ?_)
  obtain ⟨r, T1, rfl, rfl, h⟩ := hv
  refine W.eq (g2 := F0 m 975 ls [.int r]) rfl ?_
  refine W.widen (k := 33 + 8 * (j + 1)) (n := 3442 + 250 * (j + 1)) (Nat.le_refl _) (Nat.le_refl _) ?_
  refine lv_istore (lv' := [(7, .int r), (6, .int k), (0, .ref b), (1, .ref (ad 0)), (2, .ref (bm 0)), (3, .ref qj), (4, .ref qd), (5, .int i)]) hx hb dL_law_975 hl (by decide) rfl (fun ls hl => ?_)
  obtain ⟨hc, ho, hJ⟩ := h
  refine lv_aload_n hx hb dL_law_977 rfl (lv_at hl 4 rfl) ?_
  have hct := c_X3_thrown (l := l) (b := bm) (S := T1) (post := fun r => r = M_code T1) C.hZ (show wp_X3_thrown T1 (fun r => r = M_code T1) from rfl)
  refine r_callVF (wr := (oD G qd fd :: oJ G qj f1 :: wH G E0 ad S1)) (q0 := 0) (ci := 3) (rest := []) hct C hp mf_X3_thrown km_L_73 hl.1 dL_law_978 rfl rfl ⟨lb rfl, lb rfl, (by show 33 + 8 * (j + 1) + 0 ≤ 601024; omega), (by show 3442 + 250 * (j + 1) + 0 ≤ 7293034; omega)⟩ rfl rfl (lb rfl) (fun v w1 H locs hv hp => ?_)
  obtain ⟨r2, rfl, rfl, hr2⟩ := hv
  refine W.eq (g2 := F0 m 981 ls [.int r2]) rfl ?_
  refine W.widen (k := 33 + 8 * (j + 1)) (n := 3442 + 250 * (j + 1)) (Nat.le_refl _) (Nat.le_refl _) ?_
  refine lv_iload hx hb dL_law_981 (lv_at hl 1 rfl) ?_
  refine lv_icmp_eq (tgt := 988) hx hb dL_law_983 (by decide) (fun _ => ?_) (fun q => absurd (hr2.trans hc) q)
  refine lv_iload hx hb dL_law_988 (lv_at hl 1 rfl) ?_
  have go : W p l e room_1 s m #[Value.ref b] below meth c H locs (33 + 8 * (j + 1)) (3442 + 250 * (j + 1)) Q (F0 m 1005 ls []) := by
    refine lv_goto (tgt := 1173) hx hb dL_law_1005 (by decide) ?_
    exact hN S1 T1 f1 fd H locs ls hJ (Hp_perm hp pm_L) (lv_sub hl [2, 3, 4, 5, 6, 7] rfl)
  refine lv_if_ne (tgt := 1005) hx hb dL_law_990 (by decide) (fun _ => go) (fun h0 => ?_)
  have e1 := ho h0
  refine lv_aload_n hx hb dL_law_993 rfl (lv_at hl 5 rfl) ?_
  refine lv_iconst (v := 0) hx hb dL_law_994 (by decide) ?_
  refine r_lald (q0 := 1) (n := 1) C hp rfl dL_law_995 vin01 ?_
  refine lv_iload hx hb dL_law_996 (lv_at hl 0 rfl) ?_
  refine lv_i2l hx hb dL_law_998 rfl ?_
  refine W.lcmp hx hb dL_law_999 ?_
  exact lv_if_eq (tgt := 1005) hx hb dL_law_1000 (by decide) (fun _ => go) (fun q => absurd (lcmp0 e1) q)
set_option maxHeartbeats 4000000 in
set_option maxRecDepth 100000 in
theorem law_event (C : Cx G s [] p s m #[Value.ref b] meth c RL cL_law 10 ret) (h9 : ZO2 l E0 s) (hX : va_X b L xs s s.heap) (hbl : b < s.heap.size) (hN : LN l G p e s m below meth c Q E0 b qj qd j ad bm i) (J : JI j S T) (hj : j < 512) (hp : Hp G [] s H locs (WL G E0 ad bm qj qd fj fd S T)) (hl : lv_has ls 10 (LV b (ad 0) (bm 0) qj qd i)) (g1 : vp_in (i + 1) L) (g2 : vp_in (i + 2) L) (g3 : vp_in (i + 3) L) (g4 : vp_in (i + 4) L) : W p l e room_1 s m #[Value.ref b] below meth c H locs (33 + 8 * j) (3442 + 250 * j) Q (F0 m 1008 ls []) := by
  have hx := C.hx
  have hb := C.hb
  have hbA := not_in hbl
  refine lv_aload_n hx hb dL_law_1008 rfl (lv_at hl 1 rfl) ?_
  refine lv_aload_n hx hb dL_law_1009 rfl (lv_at hl 0 rfl) ?_
  refine lv_iload hx hb dL_law_1010 (lv_at hl 5 rfl) ?_
  refine lv_iconst (v := 1) hx hb dL_law_1012 (by decide) ?_
  refine lv_iadd hx hb dL_law_1013 ?_
  refine va_sld hx hb hX hbl hbA hp.2.2 g1 dL_law_1014 ?_
  refine lv_aload_n hx hb dL_law_1015 rfl (lv_at hl 0 rfl) ?_
  refine lv_iload hx hb dL_law_1016 (lv_at hl 5 rfl) ?_
  refine lv_iconst (v := 2) hx hb dL_law_1018 (by decide) ?_
  refine lv_iadd hx hb dL_law_1019 ?_
  refine va_sld hx hb hX hbl hbA hp.2.2 g2 dL_law_1020 ?_
  refine lv_aload_n hx hb dL_law_1021 rfl (lv_at hl 3 rfl) ?_
  have hp := Hp_perm hp WL_j
  have hj2 : j < 2000 := by omega
  have ha := ag_event (a0 := xs (i + 1).toNatClampNeg) (a1 := xs (i + 2).toNatClampNeg) (o := fj 0) J hj2
  have hcc := c_L_event (l := l) (E0 := E0) (ad := ad) (ao := qj) (fo := fj) (S := S) (post := fun k S1 o => wp_X3_event (xs (i + 1).toNatClampNeg) (xs (i + 2).toNatClampNeg) T (agI j k S1 o)) C.hZ h9 ha
  refine r_callWF (wr := (oD G qd fd :: wM G bm T)) (rest := []) hcc C hp mfw_L_event km_L_113 hl.1 dL_law_1022 ⟨lb rfl, lb rfl, (by show 33 + 8 * j + 1 ≤ 601024; omega), (by show 3442 + 250 * j + 6 ≤ 7293034; omega)⟩ rfl rfl (lb rfl) (fun v w1 H locs hv hp => ?_)
  obtain ⟨k, S1, f1, rfl, rfl, h⟩ := hv
  refine W.eq (g2 := F0 m 1025 ls [.int k]) rfl ?_
  refine W.widen (k := 33 + 8 * (j + 1)) (n := 3442 + 250 * (j + 1)) (by show 33 + 8 * j + 1 ≤ _; omega) (by show 3442 + 250 * j + 6 ≤ _; omega) ?_
  have hp := Hp_perm hp pj_m
  refine lv_istore (lv' := [(6, .int k), (0, .ref b), (1, .ref (ad 0)), (2, .ref (bm 0)), (3, .ref qj), (4, .ref qd), (5, .int i)]) hx hb dL_law_1025 hl (by decide) rfl (fun ls hl => ?_)
  refine lv_aload_n hx hb dL_law_1027 rfl (lv_at hl 3 rfl) ?_
  refine lv_aload_n hx hb dL_law_1028 rfl (lv_at hl 1 rfl) ?_
  refine lv_iload hx hb dL_law_1029 (lv_at hl 6 rfl) ?_
  refine lv_iconst (v := 1) hx hb dL_law_1031 (by decide) ?_
  refine lv_iadd hx hb dL_law_1032 ?_
  refine va_sld hx hb hX hbl hbA hp.2.2 g1 dL_law_1033 ?_
  refine lv_aload_n hx hb dL_law_1034 rfl (lv_at hl 1 rfl) ?_
  refine lv_iload hx hb dL_law_1035 (lv_at hl 6 rfl) ?_
  refine lv_iconst (v := 2) hx hb dL_law_1037 (by decide) ?_
  refine lv_iadd hx hb dL_law_1038 ?_
  refine va_sld hx hb hX hbl hbA hp.2.2 g2 dL_law_1039 ?_
  have hcm := c_X3_event (l := l) (b := bm) (S := T) C.hZ h
  refine r_callVF (wr := (oD G qd fd :: oJ G qj f1 :: wH G E0 ad S1)) (q0 := 0) (ci := 3) (rest := []) hcm C hp mf_X3_event km_L_115 hl.1 dL_law_1040 rfl rfl ⟨lb rfl, lb rfl, (by show 33 + 8 * (j + 1) + 0 ≤ 601024; omega), (by show 3442 + 250 * (j + 1) + 0 ≤ 7293034; omega)⟩ rfl rfl (lb rfl) (fun v w1 H locs hv hp => ?_)
  obtain ⟨r, T1, rfl, rfl, h⟩ := hv
  refine W.eq (g2 := F0 m 1043 ls [.int r]) rfl ?_
  refine W.widen (k := 33 + 8 * (j + 1)) (n := 3442 + 250 * (j + 1)) (Nat.le_refl _) (Nat.le_refl _) ?_
  refine lv_istore (lv' := [(7, .int r), (6, .int k), (0, .ref b), (1, .ref (ad 0)), (2, .ref (bm 0)), (3, .ref qj), (4, .ref qd), (5, .int i)]) hx hb dL_law_1043 hl (by decide) rfl (fun ls hl => ?_)
  obtain ⟨hc, ho, hJ⟩ := h
  refine lv_aload_n hx hb dL_law_1045 rfl (lv_at hl 4 rfl) ?_
  have hct := c_X3_thrown (l := l) (b := bm) (S := T1) (post := fun r => r = M_code T1) C.hZ (show wp_X3_thrown T1 (fun r => r = M_code T1) from rfl)
  refine r_callVF (wr := (oD G qd fd :: oJ G qj f1 :: wH G E0 ad S1)) (q0 := 0) (ci := 3) (rest := []) hct C hp mf_X3_thrown km_L_73 hl.1 dL_law_1046 rfl rfl ⟨lb rfl, lb rfl, (by show 33 + 8 * (j + 1) + 0 ≤ 601024; omega), (by show 3442 + 250 * (j + 1) + 0 ≤ 7293034; omega)⟩ rfl rfl (lb rfl) (fun v w1 H locs hv hp => ?_)
  obtain ⟨r2, rfl, rfl, hr2⟩ := hv
  refine W.eq (g2 := F0 m 1049 ls [.int r2]) rfl ?_
  refine W.widen (k := 33 + 8 * (j + 1)) (n := 3442 + 250 * (j + 1)) (Nat.le_refl _) (Nat.le_refl _) ?_
  refine lv_iload hx hb dL_law_1049 (lv_at hl 1 rfl) ?_
  refine lv_icmp_eq (tgt := 1056) hx hb dL_law_1051 (by decide) (fun _ => ?_) (fun q => absurd (hr2.trans hc) q)
  refine lv_iload hx hb dL_law_1056 (lv_at hl 1 rfl) ?_
  have go : W p l e room_1 s m #[Value.ref b] below meth c H locs (33 + 8 * (j + 1)) (3442 + 250 * (j + 1)) Q (F0 m 1073 ls []) := by
    refine lv_goto (tgt := 1173) hx hb dL_law_1073 (by decide) ?_
    exact hN S1 T1 f1 fd H locs ls hJ (Hp_perm hp pm_L) (lv_sub hl [2, 3, 4, 5, 6, 7] rfl)
  refine lv_if_ne (tgt := 1073) hx hb dL_law_1058 (by decide) (fun _ => go) (fun h0 => ?_)
  have e1 := ho h0
  refine lv_aload_n hx hb dL_law_1061 rfl (lv_at hl 5 rfl) ?_
  refine lv_iconst (v := 0) hx hb dL_law_1062 (by decide) ?_
  refine r_lald (q0 := 1) (n := 1) C hp rfl dL_law_1063 vin01 ?_
  refine lv_iload hx hb dL_law_1064 (lv_at hl 0 rfl) ?_
  refine lv_i2l hx hb dL_law_1066 rfl ?_
  refine W.lcmp hx hb dL_law_1067 ?_
  exact lv_if_eq (tgt := 1073) hx hb dL_law_1068 (by decide) (fun _ => go) (fun q => absurd (lcmp0 e1) q)
set_option maxHeartbeats 4000000 in
set_option maxRecDepth 100000 in
theorem law_about (C : Cx G s [] p s m #[Value.ref b] meth c RL cL_law 10 ret) (h9 : ZO2 l E0 s) (hX : va_X b L xs s s.heap) (hbl : b < s.heap.size) (hN : LN l G p e s m below meth c Q E0 b qj qd j ad bm i) (J : JI j S T) (hj : j < 512) (hp : Hp G [] s H locs (WL G E0 ad bm qj qd fj fd S T)) (hl : lv_has ls 10 (LV b (ad 0) (bm 0) qj qd i)) (g1 : vp_in (i + 1) L) (g2 : vp_in (i + 2) L) (g3 : vp_in (i + 3) L) (g4 : vp_in (i + 4) L) : W p l e room_1 s m #[Value.ref b] below meth c H locs (33 + 8 * j) (3442 + 250 * j) Q (F0 m 1076 ls []) := by
  have hx := C.hx
  have hb := C.hb
  have hbA := not_in hbl
  refine lv_aload_n hx hb dL_law_1076 rfl (lv_at hl 1 rfl) ?_
  refine lv_aload_n hx hb dL_law_1077 rfl (lv_at hl 0 rfl) ?_
  refine lv_iload hx hb dL_law_1078 (lv_at hl 5 rfl) ?_
  refine lv_iconst (v := 1) hx hb dL_law_1080 (by decide) ?_
  refine lv_iadd hx hb dL_law_1081 ?_
  refine va_sld hx hb hX hbl hbA hp.2.2 g1 dL_law_1082 ?_
  refine lv_aload_n hx hb dL_law_1083 rfl (lv_at hl 3 rfl) ?_
  have hp := Hp_perm hp WL_j
  have ha := ag_about (a0 := xs (i + 1).toNatClampNeg) (o := fj 0) J
  have hcc := c_L_about (l := l) (E0 := E0) (ad := ad) (ao := qj) (fo := fj) (S := S) (post := fun k S1 o => wp_X3_about (xs (i + 1).toNatClampNeg) T (agI j k S1 o)) C.hZ h9 ha
  refine r_callWF (wr := (oD G qd fd :: wM G bm T)) (rest := []) hcc C hp mfw_L_about km_L_116 hl.1 dL_law_1084 ⟨lb rfl, lb rfl, (by show 33 + 8 * j + 1 ≤ 601024; omega), (by show 3442 + 250 * j + 6 ≤ 7293034; omega)⟩ rfl rfl (lb rfl) (fun v w1 H locs hv hp => ?_)
  obtain ⟨k, S1, f1, rfl, rfl, h⟩ := hv
  refine W.eq (g2 := F0 m 1087 ls [.int k]) rfl ?_
  refine W.widen (k := 33 + 8 * (j + 1)) (n := 3442 + 250 * (j + 1)) (by show 33 + 8 * j + 1 ≤ _; omega) (by show 3442 + 250 * j + 6 ≤ _; omega) ?_
  have hp := Hp_perm hp pj_m
  refine lv_istore (lv' := [(6, .int k), (0, .ref b), (1, .ref (ad 0)), (2, .ref (bm 0)), (3, .ref qj), (4, .ref qd), (5, .int i)]) hx hb dL_law_1087 hl (by decide) rfl (fun ls hl => ?_)
  refine lv_aload_n hx hb dL_law_1089 rfl (lv_at hl 3 rfl) ?_
  refine lv_aload_n hx hb dL_law_1090 rfl (lv_at hl 1 rfl) ?_
  refine lv_iload hx hb dL_law_1091 (lv_at hl 6 rfl) ?_
  refine lv_iconst (v := 1) hx hb dL_law_1093 (by decide) ?_
  refine lv_iadd hx hb dL_law_1094 ?_
  refine va_sld hx hb hX hbl hbA hp.2.2 g1 dL_law_1095 ?_
  have hcm := c_X3_about (l := l) (b := bm) (S := T) C.hZ h
  refine r_callVF (wr := (oD G qd fd :: oJ G qj f1 :: wH G E0 ad S1)) (q0 := 0) (ci := 3) (rest := []) hcm C hp mf_X3_about km_L_118 hl.1 dL_law_1096 rfl rfl ⟨lb rfl, lb rfl, (by show 33 + 8 * (j + 1) + 0 ≤ 601024; omega), (by show 3442 + 250 * (j + 1) + 0 ≤ 7293034; omega)⟩ rfl rfl (lb rfl) (fun v w1 H locs hv hp => ?_)
  obtain ⟨r, T1, rfl, rfl, h⟩ := hv
  refine W.eq (g2 := F0 m 1099 ls [.int r]) rfl ?_
  refine W.widen (k := 33 + 8 * (j + 1)) (n := 3442 + 250 * (j + 1)) (Nat.le_refl _) (Nat.le_refl _) ?_
  refine lv_istore (lv' := [(7, .int r), (6, .int k), (0, .ref b), (1, .ref (ad 0)), (2, .ref (bm 0)), (3, .ref qj), (4, .ref qd), (5, .int i)]) hx hb dL_law_1099 hl (by decide) rfl (fun ls hl => ?_)
  obtain ⟨hc, ho, hJ⟩ := h
  refine lv_aload_n hx hb dL_law_1101 rfl (lv_at hl 4 rfl) ?_
  have hct := c_X3_thrown (l := l) (b := bm) (S := T1) (post := fun r => r = M_code T1) C.hZ (show wp_X3_thrown T1 (fun r => r = M_code T1) from rfl)
  refine r_callVF (wr := (oD G qd fd :: oJ G qj f1 :: wH G E0 ad S1)) (q0 := 0) (ci := 3) (rest := []) hct C hp mf_X3_thrown km_L_73 hl.1 dL_law_1102 rfl rfl ⟨lb rfl, lb rfl, (by show 33 + 8 * (j + 1) + 0 ≤ 601024; omega), (by show 3442 + 250 * (j + 1) + 0 ≤ 7293034; omega)⟩ rfl rfl (lb rfl) (fun v w1 H locs hv hp => ?_)
  obtain ⟨r2, rfl, rfl, hr2⟩ := hv
  refine W.eq (g2 := F0 m 1105 ls [.int r2]) rfl ?_
  refine W.widen (k := 33 + 8 * (j + 1)) (n := 3442 + 250 * (j + 1)) (Nat.le_refl _) (Nat.le_refl _) ?_
  refine lv_iload hx hb dL_law_1105 (lv_at hl 1 rfl) ?_
  refine lv_icmp_eq (tgt := 1112) hx hb dL_law_1107 (by decide) (fun _ => ?_) (fun q => absurd (hr2.trans hc) q)
  refine lv_iload hx hb dL_law_1112 (lv_at hl 1 rfl) ?_
  have go : W p l e room_1 s m #[Value.ref b] below meth c H locs (33 + 8 * (j + 1)) (3442 + 250 * (j + 1)) Q (F0 m 1129 ls []) := by
    refine lv_goto (tgt := 1173) hx hb dL_law_1129 (by decide) ?_
    exact hN S1 T1 f1 fd H locs ls hJ (Hp_perm hp pm_L) (lv_sub hl [2, 3, 4, 5, 6, 7] rfl)
  refine lv_if_ne (tgt := 1129) hx hb dL_law_1114 (by decide) (fun _ => go) (fun h0 => ?_)
  have e1 := ho h0
  refine lv_aload_n hx hb dL_law_1117 rfl (lv_at hl 5 rfl) ?_
  refine lv_iconst (v := 0) hx hb dL_law_1118 (by decide) ?_
  refine r_lald (q0 := 1) (n := 1) C hp rfl dL_law_1119 vin01 ?_
  refine lv_iload hx hb dL_law_1120 (lv_at hl 0 rfl) ?_
  refine lv_i2l hx hb dL_law_1122 rfl ?_
  refine W.lcmp hx hb dL_law_1123 ?_
  exact lv_if_eq (tgt := 1129) hx hb dL_law_1124 (by decide) (fun _ => go) (fun q => absurd (lcmp0 e1) q)
set_option maxHeartbeats 4000000 in
set_option maxRecDepth 100000 in
theorem law_fastest (C : Cx G s [] p s m #[Value.ref b] meth c RL cL_law 10 ret) (hN : LN l G p e s m below meth c Q E0 b qj qd j ad bm i) (J : JI j S T) (hj : j < 512) (hp : Hp G [] s H locs (WL G E0 ad bm qj qd fj fd S T)) (hl : lv_has ls 10 (LV b (ad 0) (bm 0) qj qd i)) : W p l e room_1 s m #[Value.ref b] below meth c H locs (33 + 8 * j) (3442 + 250 * j) Q (F0 m 1132 ls []) := by
  have hx := C.hx
  have hb := C.hb
  refine W.widen (k := 33 + 8 * (j + 1)) (n := 3442 + 250 * (j + 1)) (by omega) (by omega) ?_
  refine lv_aload_n hx hb dL_law_1132 rfl (lv_at hl 1 rfl) ?_
  have hp := Hp_perm hp WL_h
  refine r_callVF (wr := (oD G qd fd :: oJ G qj fj :: wM G bm T)) (q0 := 0) (ci := 2) (rest := []) (c_X2_fastest (E0 := E0) (ad := ad) C.hZ (ag_fastest J)) C hp mf_X2_fastest km_L_119 hl.1 dL_law_1133 rfl rfl ⟨lb rfl, lb rfl, (by show 33 + 8 * (j + 1) + 0 ≤ 601024; omega), (by show 3442 + 250 * (j + 1) + 0 ≤ 7293034; omega)⟩ rfl rfl (lb rfl) (fun v w1 H locs hv hp => ?_)
  obtain ⟨r1, rfl, rfl, h⟩ := hv
  refine W.eq (g2 := F0 m 1136 ls [.double r1]) rfl ?_
  refine W.widen (k := 33 + 8 * (j + 1)) (n := 3442 + 250 * (j + 1)) (Nat.le_refl _) (Nat.le_refl _) ?_
  refine lv_dstore (lv' := [(6, .double r1), (0, .ref b), (1, .ref (ad 0)), (2, .ref (bm 0)), (3, .ref qj), (4, .ref qd), (5, .int i)]) hx hb dL_law_1136 hl (by decide) rfl (fun ls hl => ?_)
  refine lv_aload_n hx hb dL_law_1138 rfl (lv_at hl 3 rfl) ?_
  have hp := Hp_perm hp ph_m
  refine r_callVF (wr := (oD G qd fd :: oJ G qj fj :: wH G E0 ad S)) (q0 := 0) (ci := 3) (rest := []) (c_X3_fastest C.hZ h) C hp mf_X3_fastest km_L_123 hl.1 dL_law_1139 rfl rfl ⟨lb rfl, lb rfl, (by show 33 + 8 * (j + 1) + 0 ≤ 601024; omega), (by show 3442 + 250 * (j + 1) + 0 ≤ 7293034; omega)⟩ rfl rfl (lb rfl) (fun v w1 H locs hv hp => ?_)
  obtain ⟨r, T1, rfl, rfl, h⟩ := hv
  refine W.eq (g2 := F0 m 1142 ls [.double r]) rfl ?_
  refine W.widen (k := 33 + 8 * (j + 1)) (n := 3442 + 250 * (j + 1)) (Nat.le_refl _) (Nat.le_refl _) ?_
  obtain ⟨hc, ho, hJ⟩ := h
  have e1 := ho rfl
  subst e1
  refine lv_dstore (lv' := [(8, .double r1), (6, .double r1), (0, .ref b), (1, .ref (ad 0)), (2, .ref (bm 0)), (3, .ref qj), (4, .ref qd), (5, .int i)]) hx hb dL_law_1142 hl (by decide) rfl (fun ls hl => ?_)
  have go : W p l e room_1 s m #[Value.ref b] below meth c H locs (33 + 8 * (j + 1)) (3442 + 250 * (j + 1)) Q (F0 m 1170 ls []) := by
    refine lv_goto (tgt := 1173) hx hb dL_law_1170 (by decide) ?_
    exact hN S T1 fj fd H locs ls hJ (Hp_perm hp pm_L) (lv_sub hl [2, 3, 4, 5, 6, 7] rfl)
  refine lv_dload hx hb dL_law_1144 (lv_at hl 1 rfl) ?_
  refine lv_dload hx hb dL_law_1146 (lv_at hl 0 rfl) ?_
  refine dcl_eq (tgt := 1170) hx hb dL_law_1148 dL_law_1149 (by decide) (fun _ => go) (fun q1 => ?_)
  refine lv_dload hx hb dL_law_1152 (lv_at hl 1 rfl) ?_
  refine lv_dload hx hb dL_law_1154 (lv_at hl 1 rfl) ?_
  refine dcl_eq (tgt := 1168) hx hb dL_law_1156 dL_law_1157 (by decide) (fun q2 => absurd q2 q1) (fun q2 => ?_)
  refine lv_dload hx hb dL_law_1160 (lv_at hl 0 rfl) ?_
  refine lv_dload hx hb dL_law_1162 (lv_at hl 0 rfl) ?_
  exact dcl_ne (tgt := 1170) hx hb dL_law_1164 dL_law_1165 (by decide) (fun _ => go) (fun q3 => absurd q3 q1)
end LAWK
