section LAWJ
variable {l : Launch} {G : GT} {p : Program} {e : Env} {s : State} {m : MethodId} {below : List Frame} {meth : Method} {c : Code} {H : Heap} {locs : List Loc} {Q : State → Prop} {ls : Array Slot} {E0 b L qj qd j : Nat} {ad bm : Nat → Nat} {xs : Nat → Int32} {i : Int32} {fj : Nat → Int64} {fd : Nat → UInt64} {S : HS} {T : MS}
set_option maxHeartbeats 4000000 in
set_option maxRecDepth 100000 in
theorem law_cut (C : Cx G s [] p s m #[Value.ref b] meth c RL cL_law 10 ret) (h9 : ZO2 l E0 s) (hX : va_X b L xs s s.heap) (hbl : b < s.heap.size) (hN : LN l G p e s m below meth c Q E0 b qj qd j ad bm i) (J : JI j S T) (hj : j < 512) (hp : Hp G [] s H locs (WL G E0 ad bm qj qd fj fd S T)) (hl : lv_has ls 10 (LV b (ad 0) (bm 0) qj qd i)) (g1 : vp_in (i + 1) L) (g2 : vp_in (i + 2) L) (g3 : vp_in (i + 3) L) (g4 : vp_in (i + 4) L) : W p l e room_1 s m #[Value.ref b] below meth c H locs (33 + 8 * j) (3442 + 250 * j) Q (F0 m 116 ls []) := by
  have hx := C.hx
  have hb := C.hb
  have hbA := not_in hbl
  refine lv_aload_n hx hb dL_law_116 rfl (lv_at hl 1 rfl) ?_
  refine lv_aload_n hx hb dL_law_117 rfl (lv_at hl 0 rfl) ?_
  refine lv_iload hx hb dL_law_118 (lv_at hl 5 rfl) ?_
  refine lv_iconst (v := 1) hx hb dL_law_120 (by decide) ?_
  refine lv_iadd hx hb dL_law_121 ?_
  refine va_sld hx hb hX hbl hbA hp.2.2 g1 dL_law_122 ?_
  refine lv_aload_n hx hb dL_law_123 rfl (lv_at hl 0 rfl) ?_
  refine lv_iload hx hb dL_law_124 (lv_at hl 5 rfl) ?_
  refine lv_iconst (v := 2) hx hb dL_law_126 (by decide) ?_
  refine lv_iadd hx hb dL_law_127 ?_
  refine va_sld hx hb hX hbl hbA hp.2.2 g2 dL_law_128 ?_
  refine lv_aload_n hx hb dL_law_129 rfl (lv_at hl 0 rfl) ?_
  refine lv_iload hx hb dL_law_130 (lv_at hl 5 rfl) ?_
  refine lv_iconst (v := 3) hx hb dL_law_132 (by decide) ?_
  refine lv_iadd hx hb dL_law_133 ?_
  refine va_sld hx hb hX hbl hbA hp.2.2 g3 dL_law_134 ?_
  refine lv_i2d hx hb dL_law_135 ?_
  refine lv_ldc2d hx hb C.hown (C.hts _ kd_L_65) dL_law_136 ?_
  refine lv_dmul hx hb dL_law_139 (n64_sc _) ?_
  refine lv_aload_n hx hb dL_law_140 rfl (lv_at hl 0 rfl) ?_
  refine lv_iload hx hb dL_law_141 (lv_at hl 5 rfl) ?_
  refine lv_iconst (v := 4) hx hb dL_law_143 (by decide) ?_
  refine lv_iadd hx hb dL_law_144 ?_
  refine va_sld hx hb hX hbl hbA hp.2.2 g4 dL_law_145 ?_
  refine lv_aload_n hx hb dL_law_146 rfl (lv_at hl 3 rfl) ?_
  have hp := Hp_perm hp WL_j
  have ha := ag_cut (a0 := xs (i + 1).toNatClampNeg) (a1 := xs (i + 2).toNatClampNeg) (a2 := FP.dmul (FP.i2d (xs (i + 3).toNatClampNeg)) 4593671619917905920) (a3 := xs (i + 4).toNatClampNeg) (o := fj 0) J
  have hcc := c_L_cut (l := l) (E0 := E0) (ad := ad) (ao := qj) (fo := fj) (S := S) (post := fun k S1 o => wp_X3_cut (xs (i + 1).toNatClampNeg) (xs (i + 2).toNatClampNeg) (FP.dmul (FP.i2d (xs (i + 3).toNatClampNeg)) 4593671619917905920) (xs (i + 4).toNatClampNeg) T (agI j k S1 o)) C.hZ h9 ha
  refine r_callWF (wr := (oD G qd fd :: wM G bm T)) (rest := []) hcc C hp mfw_L_cut km_L_67 hl.1 dL_law_147 ⟨lb rfl, lb rfl, (by show 33 + 8 * j + 4 ≤ 601024; omega), (by show 3442 + 250 * j + 120 ≤ 7293034; omega)⟩ rfl rfl (lb rfl) (fun v w1 H locs hv hp => ?_)
  obtain ⟨k, S1, f1, rfl, rfl, h⟩ := hv
  refine W.eq (g2 := F0 m 150 ls [.int k]) rfl ?_
  refine W.widen (k := 33 + 8 * (j + 1)) (n := 3442 + 250 * (j + 1)) (by show 33 + 8 * j + 4 ≤ _; omega) (by show 3442 + 250 * j + 120 ≤ _; omega) ?_
  have hp := Hp_perm hp pj_m
  refine lv_istore (lv' := [(6, .int k), (0, .ref b), (1, .ref (ad 0)), (2, .ref (bm 0)), (3, .ref qj), (4, .ref qd), (5, .int i)]) hx hb dL_law_150 hl (by decide) rfl (fun ls hl => ?_)
  refine lv_aload_n hx hb dL_law_152 rfl (lv_at hl 3 rfl) ?_
  refine lv_aload_n hx hb dL_law_153 rfl (lv_at hl 1 rfl) ?_
  refine lv_iload hx hb dL_law_154 (lv_at hl 6 rfl) ?_
  refine lv_iconst (v := 1) hx hb dL_law_156 (by decide) ?_
  refine lv_iadd hx hb dL_law_157 ?_
  refine va_sld hx hb hX hbl hbA hp.2.2 g1 dL_law_158 ?_
  refine lv_aload_n hx hb dL_law_159 rfl (lv_at hl 1 rfl) ?_
  refine lv_iload hx hb dL_law_160 (lv_at hl 6 rfl) ?_
  refine lv_iconst (v := 2) hx hb dL_law_162 (by decide) ?_
  refine lv_iadd hx hb dL_law_163 ?_
  refine va_sld hx hb hX hbl hbA hp.2.2 g2 dL_law_164 ?_
  refine lv_aload_n hx hb dL_law_165 rfl (lv_at hl 1 rfl) ?_
  refine lv_iload hx hb dL_law_166 (lv_at hl 6 rfl) ?_
  refine lv_iconst (v := 3) hx hb dL_law_168 (by decide) ?_
  refine lv_iadd hx hb dL_law_169 ?_
  refine va_sld hx hb hX hbl hbA hp.2.2 g3 dL_law_170 ?_
  refine lv_i2d hx hb dL_law_171 ?_
  refine lv_ldc2d hx hb C.hown (C.hts _ kd_L_65) dL_law_172 ?_
  refine lv_dmul hx hb dL_law_175 (n64_sc _) ?_
  refine lv_aload_n hx hb dL_law_176 rfl (lv_at hl 1 rfl) ?_
  refine lv_iload hx hb dL_law_177 (lv_at hl 6 rfl) ?_
  refine lv_iconst (v := 4) hx hb dL_law_179 (by decide) ?_
  refine lv_iadd hx hb dL_law_180 ?_
  refine va_sld hx hb hX hbl hbA hp.2.2 g4 dL_law_181 ?_
  have hcm := c_X3_cut (l := l) (b := bm) (S := T) C.hZ h
  refine r_callVF (wr := (oD G qd fd :: oJ G qj f1 :: wH G E0 ad S1)) (q0 := 0) (ci := 3) (rest := []) hcm C hp mf_X3_cut km_L_72 hl.1 dL_law_182 rfl rfl ⟨lb rfl, lb rfl, (by show 33 + 8 * (j + 1) + 0 ≤ 601024; omega), (by show 3442 + 250 * (j + 1) + 0 ≤ 7293034; omega)⟩ rfl rfl (lb rfl) (fun v w1 H locs hv hp => ?_)
  obtain ⟨r, T1, rfl, rfl, h⟩ := hv
  refine W.eq (g2 := F0 m 185 ls [.int r]) rfl ?_
  refine W.widen (k := 33 + 8 * (j + 1)) (n := 3442 + 250 * (j + 1)) (Nat.le_refl _) (Nat.le_refl _) ?_
  refine lv_istore (lv' := [(7, .int r), (6, .int k), (0, .ref b), (1, .ref (ad 0)), (2, .ref (bm 0)), (3, .ref qj), (4, .ref qd), (5, .int i)]) hx hb dL_law_185 hl (by decide) rfl (fun ls hl => ?_)
  obtain ⟨hc, ho, hJ⟩ := h
  refine lv_aload_n hx hb dL_law_187 rfl (lv_at hl 4 rfl) ?_
  have hct := c_X3_thrown (l := l) (b := bm) (S := T1) (post := fun r => r = M_code T1) C.hZ (show wp_X3_thrown T1 (fun r => r = M_code T1) from rfl)
  refine r_callVF (wr := (oD G qd fd :: oJ G qj f1 :: wH G E0 ad S1)) (q0 := 0) (ci := 3) (rest := []) hct C hp mf_X3_thrown km_L_73 hl.1 dL_law_188 rfl rfl ⟨lb rfl, lb rfl, (by show 33 + 8 * (j + 1) + 0 ≤ 601024; omega), (by show 3442 + 250 * (j + 1) + 0 ≤ 7293034; omega)⟩ rfl rfl (lb rfl) (fun v w1 H locs hv hp => ?_)
  obtain ⟨r2, rfl, rfl, hr2⟩ := hv
  refine W.eq (g2 := F0 m 191 ls [.int r2]) rfl ?_
  refine W.widen (k := 33 + 8 * (j + 1)) (n := 3442 + 250 * (j + 1)) (Nat.le_refl _) (Nat.le_refl _) ?_
  refine lv_iload hx hb dL_law_191 (lv_at hl 1 rfl) ?_
  refine lv_icmp_eq (tgt := 198) hx hb dL_law_193 (by decide) (fun _ => ?_) (fun q => absurd (hr2.trans hc) q)
  refine lv_iload hx hb dL_law_198 (lv_at hl 1 rfl) ?_
  have go : W p l e room_1 s m #[Value.ref b] below meth c H locs (33 + 8 * (j + 1)) (3442 + 250 * (j + 1)) Q (F0 m 215 ls []) := by
    refine lv_goto (tgt := 1173) hx hb dL_law_215 (by decide) ?_
    exact hN S1 T1 f1 fd H locs ls hJ (Hp_perm hp pm_L) (lv_sub hl [2, 3, 4, 5, 6, 7] rfl)
  refine lv_if_ne (tgt := 215) hx hb dL_law_200 (by decide) (fun _ => go) (fun h0 => ?_)
  have e1 := ho h0
  refine lv_aload_n hx hb dL_law_203 rfl (lv_at hl 5 rfl) ?_
  refine lv_iconst (v := 0) hx hb dL_law_204 (by decide) ?_
  refine r_lald (q0 := 1) (n := 1) C hp rfl dL_law_205 vin01 ?_
  refine lv_iload hx hb dL_law_206 (lv_at hl 0 rfl) ?_
  refine lv_i2l hx hb dL_law_208 rfl ?_
  refine W.lcmp hx hb dL_law_209 ?_
  exact lv_if_eq (tgt := 215) hx hb dL_law_210 (by decide) (fun _ => go) (fun q => absurd (lcmp0 e1) q)
set_option maxHeartbeats 4000000 in
set_option maxRecDepth 100000 in
theorem law_push (C : Cx G s [] p s m #[Value.ref b] meth c RL cL_law 10 ret) (h9 : ZO2 l E0 s) (hX : va_X b L xs s s.heap) (hbl : b < s.heap.size) (hN : LN l G p e s m below meth c Q E0 b qj qd j ad bm i) (J : JI j S T) (hj : j < 512) (hp : Hp G [] s H locs (WL G E0 ad bm qj qd fj fd S T)) (hl : lv_has ls 10 (LV b (ad 0) (bm 0) qj qd i)) (g1 : vp_in (i + 1) L) (g2 : vp_in (i + 2) L) (g3 : vp_in (i + 3) L) (g4 : vp_in (i + 4) L) : W p l e room_1 s m #[Value.ref b] below meth c H locs (33 + 8 * j) (3442 + 250 * j) Q (F0 m 218 ls []) := by
  have hx := C.hx
  have hb := C.hb
  have hbA := not_in hbl
  refine lv_aload_n hx hb dL_law_218 rfl (lv_at hl 1 rfl) ?_
  refine lv_aload_n hx hb dL_law_219 rfl (lv_at hl 0 rfl) ?_
  refine lv_iload hx hb dL_law_220 (lv_at hl 5 rfl) ?_
  refine lv_iconst (v := 1) hx hb dL_law_222 (by decide) ?_
  refine lv_iadd hx hb dL_law_223 ?_
  refine va_sld hx hb hX hbl hbA hp.2.2 g1 dL_law_224 ?_
  refine lv_i2d hx hb dL_law_225 ?_
  refine lv_ldc2d hx hb C.hown (C.hts _ kd_L_65) dL_law_226 ?_
  refine lv_dmul hx hb dL_law_229 (n64_sc _) ?_
  refine lv_aload hx hb dL_law_230 (lv_at hl 4 rfl) ?_
  have hp := Hp_perm hp WL_d
  have ha := ag_push (a0 := FP.dmul (FP.i2d (xs (i + 1).toNatClampNeg)) 4593671619917905920) (o := fd 0) J
  have hcc := c_L_push (l := l) (E0 := E0) (ad := ad) (ao := qd) (fo := fd) (S := S) (post := fun k S1 o => wp_X3_push (FP.dmul (FP.i2d (xs (i + 1).toNatClampNeg)) 4593671619917905920) T (agD j k S1 o)) C.hZ h9 ha
  refine r_callWF (wr := (oJ G qj fj :: wM G bm T)) (rest := []) hcc C hp mfw_L_push km_L_77 hl.1 dL_law_232 ⟨lb rfl, lb rfl, (by show 33 + 8 * j + 1 ≤ 601024; omega), (by show 3442 + 250 * j + 6 ≤ 7293034; omega)⟩ rfl rfl (lb rfl) (fun v w1 H locs hv hp => ?_)
  obtain ⟨k, S1, f1, rfl, rfl, h⟩ := hv
  refine W.eq (g2 := F0 m 235 ls [.int k]) rfl ?_
  refine W.widen (k := 33 + 8 * (j + 1)) (n := 3442 + 250 * (j + 1)) (by show 33 + 8 * j + 1 ≤ _; omega) (by show 3442 + 250 * j + 6 ≤ _; omega) ?_
  have hp := Hp_perm hp pd_m
  refine lv_istore (lv' := [(6, .int k), (0, .ref b), (1, .ref (ad 0)), (2, .ref (bm 0)), (3, .ref qj), (4, .ref qd), (5, .int i)]) hx hb dL_law_235 hl (by decide) rfl (fun ls hl => ?_)
  refine lv_aload_n hx hb dL_law_237 rfl (lv_at hl 3 rfl) ?_
  refine lv_aload_n hx hb dL_law_238 rfl (lv_at hl 1 rfl) ?_
  refine lv_iload hx hb dL_law_239 (lv_at hl 6 rfl) ?_
  refine lv_iconst (v := 1) hx hb dL_law_241 (by decide) ?_
  refine lv_iadd hx hb dL_law_242 ?_
  refine va_sld hx hb hX hbl hbA hp.2.2 g1 dL_law_243 ?_
  refine lv_i2d hx hb dL_law_244 ?_
  refine lv_ldc2d hx hb C.hown (C.hts _ kd_L_65) dL_law_245 ?_
  refine lv_dmul hx hb dL_law_248 (n64_sc _) ?_
  have hcm := c_X3_push (l := l) (b := bm) (S := T) C.hZ h
  refine r_callVF (wr := (oD G qd f1 :: oJ G qj fj :: wH G E0 ad S1)) (q0 := 0) (ci := 3) (rest := []) hcm C hp mf_X3_push km_L_80 hl.1 dL_law_249 rfl rfl ⟨lb rfl, lb rfl, (by show 33 + 8 * (j + 1) + 0 ≤ 601024; omega), (by show 3442 + 250 * (j + 1) + 0 ≤ 7293034; omega)⟩ rfl rfl (lb rfl) (fun v w1 H locs hv hp => ?_)
  obtain ⟨r, T1, rfl, rfl, h⟩ := hv
  refine W.eq (g2 := F0 m 252 ls [.double r]) rfl ?_
  refine W.widen (k := 33 + 8 * (j + 1)) (n := 3442 + 250 * (j + 1)) (Nat.le_refl _) (Nat.le_refl _) ?_
  refine lv_dstore (lv' := [(7, .double r), (6, .int k), (0, .ref b), (1, .ref (ad 0)), (2, .ref (bm 0)), (3, .ref qj), (4, .ref qd), (5, .int i)]) hx hb dL_law_252 hl (by decide) rfl (fun ls hl => ?_)
  obtain ⟨hc, ho, hJ⟩ := h
  refine lv_aload_n hx hb dL_law_254 rfl (lv_at hl 4 rfl) ?_
  have hct := c_X3_thrown (l := l) (b := bm) (S := T1) (post := fun r => r = M_code T1) C.hZ (show wp_X3_thrown T1 (fun r => r = M_code T1) from rfl)
  refine r_callVF (wr := (oD G qd f1 :: oJ G qj fj :: wH G E0 ad S1)) (q0 := 0) (ci := 3) (rest := []) hct C hp mf_X3_thrown km_L_73 hl.1 dL_law_255 rfl rfl ⟨lb rfl, lb rfl, (by show 33 + 8 * (j + 1) + 0 ≤ 601024; omega), (by show 3442 + 250 * (j + 1) + 0 ≤ 7293034; omega)⟩ rfl rfl (lb rfl) (fun v w1 H locs hv hp => ?_)
  obtain ⟨r2, rfl, rfl, hr2⟩ := hv
  refine W.eq (g2 := F0 m 258 ls [.int r2]) rfl ?_
  refine W.widen (k := 33 + 8 * (j + 1)) (n := 3442 + 250 * (j + 1)) (Nat.le_refl _) (Nat.le_refl _) ?_
  refine lv_iload hx hb dL_law_258 (lv_at hl 1 rfl) ?_
  refine lv_icmp_eq (tgt := 265) hx hb dL_law_260 (by decide) (fun _ => ?_) (fun q => absurd (hr2.trans hc) q)
  refine lv_iload hx hb dL_law_265 (lv_at hl 1 rfl) ?_
  have go : W p l e room_1 s m #[Value.ref b] below meth c H locs (33 + 8 * (j + 1)) (3442 + 250 * (j + 1)) Q (F0 m 302 ls []) := by
    refine lv_goto (tgt := 1173) hx hb dL_law_302 (by decide) ?_
    exact hN S1 T1 fj f1 H locs ls hJ (Hp_perm hp pm_L) (lv_sub hl [2, 3, 4, 5, 6, 7] rfl)
  refine lv_if_ne (tgt := 302) hx hb dL_law_267 (by decide) (fun _ => go) (fun h0 => ?_)
  have e1 := ho h0
  have e1 : f1 (0 : Int32).toNatClampNeg = r := e1
  refine lv_aload hx hb dL_law_270 (lv_at hl 6 rfl) ?_
  refine lv_iconst (v := 0) hx hb dL_law_272 (by decide) ?_
  refine r_dald (q0 := 0) (n := 1) C hp rfl dL_law_273 vin01 ?_
  refine lv_dload hx hb dL_law_274 (lv_at hl 0 rfl) ?_
  refine dcl_eq (tgt := 302) hx hb dL_law_276 dL_law_277 (by decide) (fun _ => go) (fun q1 => ?_)
  refine lv_aload hx hb dL_law_280 (lv_at hl 6 rfl) ?_
  refine lv_iconst (v := 0) hx hb dL_law_282 (by decide) ?_
  refine r_dald (q0 := 0) (n := 1) C hp rfl dL_law_283 vin01 ?_
  refine lv_aload hx hb dL_law_284 (lv_at hl 6 rfl) ?_
  refine lv_iconst (v := 0) hx hb dL_law_286 (by decide) ?_
  refine r_dald (q0 := 0) (n := 1) C hp rfl dL_law_287 vin01 ?_
  refine dcl_eq (tgt := 300) hx hb dL_law_288 dL_law_289 (by decide) (fun q2 => absurd (by rw [e1] at q2 ⊢; exact q2) q1) (fun q2 => ?_)
  refine lv_dload hx hb dL_law_292 (lv_at hl 0 rfl) ?_
  refine lv_dload hx hb dL_law_294 (lv_at hl 0 rfl) ?_
  exact dcl_ne (tgt := 302) hx hb dL_law_296 dL_law_297 (by decide) (fun _ => go) (fun q3 => absurd (by rw [e1]; exact q3) q1)
set_option maxHeartbeats 4000000 in
set_option maxRecDepth 100000 in
theorem law_wish (C : Cx G s [] p s m #[Value.ref b] meth c RL cL_law 10 ret) (h9 : ZO2 l E0 s) (hX : va_X b L xs s s.heap) (hbl : b < s.heap.size) (hN : LN l G p e s m below meth c Q E0 b qj qd j ad bm i) (J : JI j S T) (hj : j < 512) (hp : Hp G [] s H locs (WL G E0 ad bm qj qd fj fd S T)) (hl : lv_has ls 10 (LV b (ad 0) (bm 0) qj qd i)) (g1 : vp_in (i + 1) L) (g2 : vp_in (i + 2) L) (g3 : vp_in (i + 3) L) (g4 : vp_in (i + 4) L) : W p l e room_1 s m #[Value.ref b] below meth c H locs (33 + 8 * j) (3442 + 250 * j) Q (F0 m 305 ls []) := by
  have hx := C.hx
  have hb := C.hb
  have hbA := not_in hbl
  refine lv_aload_n hx hb dL_law_305 rfl (lv_at hl 1 rfl) ?_
  refine lv_aload_n hx hb dL_law_306 rfl (lv_at hl 0 rfl) ?_
  refine lv_iload hx hb dL_law_307 (lv_at hl 5 rfl) ?_
  refine lv_iconst (v := 1) hx hb dL_law_309 (by decide) ?_
  refine lv_iadd hx hb dL_law_310 ?_
  refine va_sld hx hb hX hbl hbA hp.2.2 g1 dL_law_311 ?_
  refine lv_aload_n hx hb dL_law_312 rfl (lv_at hl 0 rfl) ?_
  refine lv_iload hx hb dL_law_313 (lv_at hl 5 rfl) ?_
  refine lv_iconst (v := 2) hx hb dL_law_315 (by decide) ?_
  refine lv_iadd hx hb dL_law_316 ?_
  refine va_sld hx hb hX hbl hbA hp.2.2 g2 dL_law_317 ?_
  refine lv_i2d hx hb dL_law_318 ?_
  refine lv_ldc2d hx hb C.hown (C.hts _ kd_L_65) dL_law_319 ?_
  refine lv_dmul hx hb dL_law_322 (n64_sc _) ?_
  refine lv_aload hx hb dL_law_323 (lv_at hl 4 rfl) ?_
  have hp := Hp_perm hp WL_d
  have ha := ag_wish (a0 := xs (i + 1).toNatClampNeg) (a1 := FP.dmul (FP.i2d (xs (i + 2).toNatClampNeg)) 4593671619917905920) (o := fd 0) J
  have hcc := c_L_wish (l := l) (E0 := E0) (ad := ad) (ao := qd) (fo := fd) (S := S) (post := fun k S1 o => wp_X3_wish (xs (i + 1).toNatClampNeg) (FP.dmul (FP.i2d (xs (i + 2).toNatClampNeg)) 4593671619917905920) T (agD j k S1 o)) C.hZ h9 ha
  refine r_callWF (wr := (oJ G qj fj :: wM G bm T)) (rest := []) hcc C hp mfw_L_wish km_L_81 hl.1 dL_law_325 ⟨lb rfl, lb rfl, (by show 33 + 8 * j + 1 ≤ 601024; omega), (by show 3442 + 250 * j + 6 ≤ 7293034; omega)⟩ rfl rfl (lb rfl) (fun v w1 H locs hv hp => ?_)
  obtain ⟨k, S1, f1, rfl, rfl, h⟩ := hv
  refine W.eq (g2 := F0 m 328 ls [.int k]) rfl ?_
  refine W.widen (k := 33 + 8 * (j + 1)) (n := 3442 + 250 * (j + 1)) (by show 33 + 8 * j + 1 ≤ _; omega) (by show 3442 + 250 * j + 6 ≤ _; omega) ?_
  have hp := Hp_perm hp pd_m
  refine lv_istore (lv' := [(6, .int k), (0, .ref b), (1, .ref (ad 0)), (2, .ref (bm 0)), (3, .ref qj), (4, .ref qd), (5, .int i)]) hx hb dL_law_328 hl (by decide) rfl (fun ls hl => ?_)
  refine lv_aload_n hx hb dL_law_330 rfl (lv_at hl 3 rfl) ?_
  refine lv_aload_n hx hb dL_law_331 rfl (lv_at hl 1 rfl) ?_
  refine lv_iload hx hb dL_law_332 (lv_at hl 6 rfl) ?_
  refine lv_iconst (v := 1) hx hb dL_law_334 (by decide) ?_
  refine lv_iadd hx hb dL_law_335 ?_
  refine va_sld hx hb hX hbl hbA hp.2.2 g1 dL_law_336 ?_
  refine lv_aload_n hx hb dL_law_337 rfl (lv_at hl 1 rfl) ?_
  refine lv_iload hx hb dL_law_338 (lv_at hl 6 rfl) ?_
  refine lv_iconst (v := 2) hx hb dL_law_340 (by decide) ?_
  refine lv_iadd hx hb dL_law_341 ?_
  refine va_sld hx hb hX hbl hbA hp.2.2 g2 dL_law_342 ?_
  refine lv_i2d hx hb dL_law_343 ?_
  refine lv_ldc2d hx hb C.hown (C.hts _ kd_L_65) dL_law_344 ?_
  refine lv_dmul hx hb dL_law_347 (n64_sc _) ?_
  have hcm := c_X3_wish (l := l) (b := bm) (S := T) C.hZ h
  refine r_callVF (wr := (oD G qd f1 :: oJ G qj fj :: wH G E0 ad S1)) (q0 := 0) (ci := 3) (rest := []) hcm C hp mf_X3_wish km_L_84 hl.1 dL_law_348 rfl rfl ⟨lb rfl, lb rfl, (by show 33 + 8 * (j + 1) + 0 ≤ 601024; omega), (by show 3442 + 250 * (j + 1) + 0 ≤ 7293034; omega)⟩ rfl rfl (lb rfl) (fun v w1 H locs hv hp => ?_)
  obtain ⟨r, T1, rfl, rfl, h⟩ := hv
  refine W.eq (g2 := F0 m 351 ls [.double r]) rfl ?_
  refine W.widen (k := 33 + 8 * (j + 1)) (n := 3442 + 250 * (j + 1)) (Nat.le_refl _) (Nat.le_refl _) ?_
  refine lv_dstore (lv' := [(7, .double r), (6, .int k), (0, .ref b), (1, .ref (ad 0)), (2, .ref (bm 0)), (3, .ref qj), (4, .ref qd), (5, .int i)]) hx hb dL_law_351 hl (by decide) rfl (fun ls hl => ?_)
  obtain ⟨hc, ho, hJ⟩ := h
  refine lv_aload_n hx hb dL_law_353 rfl (lv_at hl 4 rfl) ?_
  have hct := c_X3_thrown (l := l) (b := bm) (S := T1) (post := fun r => r = M_code T1) C.hZ (show wp_X3_thrown T1 (fun r => r = M_code T1) from rfl)
  refine r_callVF (wr := (oD G qd f1 :: oJ G qj fj :: wH G E0 ad S1)) (q0 := 0) (ci := 3) (rest := []) hct C hp mf_X3_thrown km_L_73 hl.1 dL_law_354 rfl rfl ⟨lb rfl, lb rfl, (by show 33 + 8 * (j + 1) + 0 ≤ 601024; omega), (by show 3442 + 250 * (j + 1) + 0 ≤ 7293034; omega)⟩ rfl rfl (lb rfl) (fun v w1 H locs hv hp => ?_)
  obtain ⟨r2, rfl, rfl, hr2⟩ := hv
  refine W.eq (g2 := F0 m 357 ls [.int r2]) rfl ?_
  refine W.widen (k := 33 + 8 * (j + 1)) (n := 3442 + 250 * (j + 1)) (Nat.le_refl _) (Nat.le_refl _) ?_
  refine lv_iload hx hb dL_law_357 (lv_at hl 1 rfl) ?_
  refine lv_icmp_eq (tgt := 364) hx hb dL_law_359 (by decide) (fun _ => ?_) (fun q => absurd (hr2.trans hc) q)
  refine lv_iload hx hb dL_law_364 (lv_at hl 1 rfl) ?_
  have go : W p l e room_1 s m #[Value.ref b] below meth c H locs (33 + 8 * (j + 1)) (3442 + 250 * (j + 1)) Q (F0 m 401 ls []) := by
    refine lv_goto (tgt := 1173) hx hb dL_law_401 (by decide) ?_
    exact hN S1 T1 fj f1 H locs ls hJ (Hp_perm hp pm_L) (lv_sub hl [2, 3, 4, 5, 6, 7] rfl)
  refine lv_if_ne (tgt := 401) hx hb dL_law_366 (by decide) (fun _ => go) (fun h0 => ?_)
  have e1 := ho h0
  have e1 : f1 (0 : Int32).toNatClampNeg = r := e1
  refine lv_aload hx hb dL_law_369 (lv_at hl 6 rfl) ?_
  refine lv_iconst (v := 0) hx hb dL_law_371 (by decide) ?_
  refine r_dald (q0 := 0) (n := 1) C hp rfl dL_law_372 vin01 ?_
  refine lv_dload hx hb dL_law_373 (lv_at hl 0 rfl) ?_
  refine dcl_eq (tgt := 401) hx hb dL_law_375 dL_law_376 (by decide) (fun _ => go) (fun q1 => ?_)
  refine lv_aload hx hb dL_law_379 (lv_at hl 6 rfl) ?_
  refine lv_iconst (v := 0) hx hb dL_law_381 (by decide) ?_
  refine r_dald (q0 := 0) (n := 1) C hp rfl dL_law_382 vin01 ?_
  refine lv_aload hx hb dL_law_383 (lv_at hl 6 rfl) ?_
  refine lv_iconst (v := 0) hx hb dL_law_385 (by decide) ?_
  refine r_dald (q0 := 0) (n := 1) C hp rfl dL_law_386 vin01 ?_
  refine dcl_eq (tgt := 399) hx hb dL_law_387 dL_law_388 (by decide) (fun q2 => absurd (by rw [e1] at q2 ⊢; exact q2) q1) (fun q2 => ?_)
  refine lv_dload hx hb dL_law_391 (lv_at hl 0 rfl) ?_
  refine lv_dload hx hb dL_law_393 (lv_at hl 0 rfl) ?_
  exact dcl_ne (tgt := 401) hx hb dL_law_395 dL_law_396 (by decide) (fun _ => go) (fun q3 => absurd (by rw [e1]; exact q3) q1)
set_option maxHeartbeats 4000000 in
set_option maxRecDepth 100000 in
theorem law_stick (C : Cx G s [] p s m #[Value.ref b] meth c RL cL_law 10 ret) (h9 : ZO2 l E0 s) (hX : va_X b L xs s s.heap) (hbl : b < s.heap.size) (hN : LN l G p e s m below meth c Q E0 b qj qd j ad bm i) (J : JI j S T) (hj : j < 512) (hp : Hp G [] s H locs (WL G E0 ad bm qj qd fj fd S T)) (hl : lv_has ls 10 (LV b (ad 0) (bm 0) qj qd i)) (g1 : vp_in (i + 1) L) (g2 : vp_in (i + 2) L) (g3 : vp_in (i + 3) L) (g4 : vp_in (i + 4) L) : W p l e room_1 s m #[Value.ref b] below meth c H locs (33 + 8 * j) (3442 + 250 * j) Q (F0 m 404 ls []) := by
  have hx := C.hx
  have hb := C.hb
  have hbA := not_in hbl
  refine lv_aload_n hx hb dL_law_404 rfl (lv_at hl 1 rfl) ?_
  refine lv_aload_n hx hb dL_law_405 rfl (lv_at hl 0 rfl) ?_
  refine lv_iload hx hb dL_law_406 (lv_at hl 5 rfl) ?_
  refine lv_iconst (v := 1) hx hb dL_law_408 (by decide) ?_
  refine lv_iadd hx hb dL_law_409 ?_
  refine va_sld hx hb hX hbl hbA hp.2.2 g1 dL_law_410 ?_
  refine lv_aload_n hx hb dL_law_411 rfl (lv_at hl 0 rfl) ?_
  refine lv_iload hx hb dL_law_412 (lv_at hl 5 rfl) ?_
  refine lv_iconst (v := 2) hx hb dL_law_414 (by decide) ?_
  refine lv_iadd hx hb dL_law_415 ?_
  refine va_sld hx hb hX hbl hbA hp.2.2 g2 dL_law_416 ?_
  refine bz (t := 424) hx hb dL_law_417 (by decide) dL_law_420 dL_law_421 (by decide) dL_law_424 ?_
  refine lv_aload_n hx hb dL_law_425 rfl (lv_at hl 3 rfl) ?_
  have hp := Hp_perm hp WL_j
  have ha := ag_stick (a0 := xs (i + 1).toNatClampNeg) (a1 := if xs (i + 2).toNatClampNeg = 0 then 0 else 1) (o := fj 0) J
  have hcc := c_L_stick (l := l) (E0 := E0) (ad := ad) (ao := qj) (fo := fj) (S := S) (post := fun k S1 o => wp_X3_stick (xs (i + 1).toNatClampNeg) (if xs (i + 2).toNatClampNeg = 0 then 0 else 1) T (agZ j k S1 o)) C.hZ h9 ha
  refine r_callWF (wr := (oD G qd fd :: wM G bm T)) (rest := []) hcc C hp mfw_L_stick km_L_85 hl.1 dL_law_426 ⟨lb rfl, lb rfl, (by show 33 + 8 * j + 1 ≤ 601024; omega), (by show 3442 + 250 * j + 6 ≤ 7293034; omega)⟩ rfl rfl (lb rfl) (fun v w1 H locs hv hp => ?_)
  obtain ⟨k, S1, f1, rfl, rfl, h⟩ := hv
  refine W.eq (g2 := F0 m 429 ls [.int k]) rfl ?_
  refine W.widen (k := 33 + 8 * (j + 1)) (n := 3442 + 250 * (j + 1)) (by show 33 + 8 * j + 1 ≤ _; omega) (by show 3442 + 250 * j + 6 ≤ _; omega) ?_
  have hp := Hp_perm hp pj_m
  refine lv_istore (lv' := [(6, .int k), (0, .ref b), (1, .ref (ad 0)), (2, .ref (bm 0)), (3, .ref qj), (4, .ref qd), (5, .int i)]) hx hb dL_law_429 hl (by decide) rfl (fun ls hl => ?_)
  refine lv_aload_n hx hb dL_law_431 rfl (lv_at hl 3 rfl) ?_
  refine lv_aload_n hx hb dL_law_432 rfl (lv_at hl 1 rfl) ?_
  refine lv_iload hx hb dL_law_433 (lv_at hl 6 rfl) ?_
  refine lv_iconst (v := 1) hx hb dL_law_435 (by decide) ?_
  refine lv_iadd hx hb dL_law_436 ?_
  refine va_sld hx hb hX hbl hbA hp.2.2 g1 dL_law_437 ?_
  refine lv_aload_n hx hb dL_law_438 rfl (lv_at hl 1 rfl) ?_
  refine lv_iload hx hb dL_law_439 (lv_at hl 6 rfl) ?_
  refine lv_iconst (v := 2) hx hb dL_law_441 (by decide) ?_
  refine lv_iadd hx hb dL_law_442 ?_
  refine va_sld hx hb hX hbl hbA hp.2.2 g2 dL_law_443 ?_
  refine bz (t := 451) hx hb dL_law_444 (by decide) dL_law_447 dL_law_448 (by decide) dL_law_451 ?_
  have hcm := c_X3_stick (l := l) (b := bm) (S := T) C.hZ h
  refine r_callVF (wr := (oD G qd fd :: oJ G qj f1 :: wH G E0 ad S1)) (q0 := 0) (ci := 3) (rest := []) hcm C hp mf_X3_stick km_L_88 hl.1 dL_law_452 rfl rfl ⟨lb rfl, lb rfl, (by show 33 + 8 * (j + 1) + 0 ≤ 601024; omega), (by show 3442 + 250 * (j + 1) + 0 ≤ 7293034; omega)⟩ rfl rfl (lb rfl) (fun v w1 H locs hv hp => ?_)
  obtain ⟨r, T1, rfl, rfl, h⟩ := hv
  refine W.eq (g2 := F0 m 455 ls [.int r]) rfl ?_
  refine W.widen (k := 33 + 8 * (j + 1)) (n := 3442 + 250 * (j + 1)) (Nat.le_refl _) (Nat.le_refl _) ?_
  refine lv_istore (lv' := [(7, .int r), (6, .int k), (0, .ref b), (1, .ref (ad 0)), (2, .ref (bm 0)), (3, .ref qj), (4, .ref qd), (5, .int i)]) hx hb dL_law_455 hl (by decide) rfl (fun ls hl => ?_)
  obtain ⟨hc, ho, hJ⟩ := h
  refine lv_aload_n hx hb dL_law_457 rfl (lv_at hl 4 rfl) ?_
  have hct := c_X3_thrown (l := l) (b := bm) (S := T1) (post := fun r => r = M_code T1) C.hZ (show wp_X3_thrown T1 (fun r => r = M_code T1) from rfl)
  refine r_callVF (wr := (oD G qd fd :: oJ G qj f1 :: wH G E0 ad S1)) (q0 := 0) (ci := 3) (rest := []) hct C hp mf_X3_thrown km_L_73 hl.1 dL_law_458 rfl rfl ⟨lb rfl, lb rfl, (by show 33 + 8 * (j + 1) + 0 ≤ 601024; omega), (by show 3442 + 250 * (j + 1) + 0 ≤ 7293034; omega)⟩ rfl rfl (lb rfl) (fun v w1 H locs hv hp => ?_)
  obtain ⟨r2, rfl, rfl, hr2⟩ := hv
  refine W.eq (g2 := F0 m 461 ls [.int r2]) rfl ?_
  refine W.widen (k := 33 + 8 * (j + 1)) (n := 3442 + 250 * (j + 1)) (Nat.le_refl _) (Nat.le_refl _) ?_
  refine lv_iload hx hb dL_law_461 (lv_at hl 1 rfl) ?_
  refine lv_icmp_eq (tgt := 468) hx hb dL_law_463 (by decide) (fun _ => ?_) (fun q => absurd (hr2.trans hc) q)
  refine lv_iload hx hb dL_law_468 (lv_at hl 1 rfl) ?_
  have go : W p l e room_1 s m #[Value.ref b] below meth c H locs (33 + 8 * (j + 1)) (3442 + 250 * (j + 1)) Q (F0 m 492 ls []) := by
    refine lv_goto (tgt := 1173) hx hb dL_law_492 (by decide) ?_
    exact hN S1 T1 f1 fd H locs ls hJ (Hp_perm hp pm_L) (lv_sub hl [2, 3, 4, 5, 6, 7] rfl)
  refine lv_if_ne (tgt := 492) hx hb dL_law_470 (by decide) (fun _ => go) (fun h0 => ?_)
  have e1 := ho h0
  refine lv_aload_n hx hb dL_law_473 rfl (lv_at hl 5 rfl) ?_
  refine lv_iconst (v := 0) hx hb dL_law_474 (by decide) ?_
  refine r_lald (q0 := 1) (n := 1) C hp rfl dL_law_475 vin01 ?_
  refine lv_iload hx hb dL_law_476 (lv_at hl 0 rfl) ?_
  refine bzl (t := 485) hx hb dL_law_478 (by decide) dL_law_481 dL_law_482 (by decide) dL_law_485 ?_
  refine W.lcmp hx hb dL_law_486 ?_
  exact lv_if_eq (tgt := 492) hx hb dL_law_487 (by decide) (fun _ => go) (fun q => absurd (lcmp0 e1) q)
end LAWJ
