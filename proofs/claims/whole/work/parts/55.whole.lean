/-- what holds at the law's entry: the machine, the code, the tables' words (any of lw_tbl by 'hts w (by decide +kernel)'), the script of L ints xs at the cell b, what the Statement gives of the start (any of its parts by flat_of_before) -/
def lw_At (p : Program) (s : State) (m : MethodId) (meth : Method) (c : Code) (b L : Nat) (xs : Nat → Int32) : Prop :=
  p.tables.exec = Jvm.exec ∧ c.code = code ∧ meth.sig.returnType = ret ∧ c.maxLocals = 10 ∧ s.vm.findClass R_law = some m.cls ∧ (∀ w ∈ lw_tbl, w.before #[Value.ref b] s = true) ∧ va_X b L xs s s.heap ∧ b < s.heap.size ∧ meth.locks = false ∧ (Jvm.Cond.and given_1 narrow_1).before #[Value.ref b] s = true
theorem wl_perm {G : GT} {E0 qj qd : Nat} {ad bm : Nat → Nat} {fj : Nat → Int64} {fd : Nat → UInt64} {S : HS} {T : MS} : (((wH G E0 ad S ++ wM G bm T) ++ [oJ G qj fj]) ++ [oD G qd fd]).Perm (WL G E0 ad bm qj qd fj fd S T) := by
  exact (List.perm_append_singleton _ _).trans (List.Perm.cons _ ((List.perm_append_singleton _ _).trans (List.Perm.cons _ List.perm_append_comm)))
set_option maxHeartbeats 4000000 in
set_option maxRecDepth 100000 in
/-- THE LAW, from its entry -/
theorem whole_start {p : Program} {e : Env} {s : State} {m : MethodId} {below : List Frame} {meth : Method} {c : Code} (l : Launch) (hlt : l.stackTraces = false) {b L : Nat} {xs : Nat → Int32} (hL : L ≤ 2560) (C0 : lw_At p s m meth c b L xs) : W p l e room_1 s m #[Value.ref b] below meth c s.heap [] 0 0 (lw_Z below #[Value.ref b] s) (entryFrame m ([Value.ref b] : List Value).toArray 10) := by
  obtain ⟨hx, hb, hr, hml, hown, hts, hX, hbl, hlocks, hgv⟩ := C0
  obtain ⟨G, hZ⟩ := z_OK hts
  obtain ⟨E0, h9⟩ := z_O2 hlt hts hgv
  have hD0 : ∀ A : Nat → Prop, va_D A [] := fun A => ⟨fun i j p q h => by simp at h, fun k q h => by simp at h⟩
  have C : Cx G s [] p s m #[Value.ref b] meth c RL cL_law 10 ret := ⟨⟨hx, hb, hml, hown, fun w hw => hts w (WS_t hw)⟩, hr, hZ.2.1, hlocks, State.WarmedH.refl s, hD0 _, Nat.le_refl _, fun _ _ => rfl, hZ⟩
  have hp : Hp G [] s s.heap [] [] := ⟨fun k q h => by simp at h, hD0 _, va_S.rf⟩
  have hl := lv_entry ([.ref b]) (n := 10) (Nat.le_of_ble_eq_true rfl)
  rw [lg_entry_eq]
  generalize (lg_sl ([.ref b]) ++ List.replicate (10 - (lg_sl ([.ref b])).length) Slot.unset).toArray = ls at hl ⊢
  have hl : lv_has ls 10 [(0, .ref b)] := hl
  refine va_new (ci := 2) (fs := [.null, .null, .null, .null, .null, .null, .null, .null, .null, .null, .double 0, .double 0, .int 0, .int 0, .int 0, .int 0]) (C := RX2) (T := TX2) (N := 16) hx hb C.hts inW_X2 tyX2 tyX2_ok C.hown (C.hts _ kl_L_8) (C.hts _ kt_X2) (C.hts _ ki_X2) C.hK hp.1 hp.2.1 hp.2.2 (fun q h => Or.inr h) rfl (fun j hj => by rcases (show j = 0 ∨ j = 1 ∨ j = 2 ∨ j = 3 ∨ j = 4 ∨ j = 5 ∨ j = 6 ∨ j = 7 ∨ j = 8 ∨ j = 9 ∨ j = 10 ∨ j = 11 ∨ j = 12 ∨ j = 13 ∨ j = 14 ∨ j = 15 by omega) with rfl | rfl | rfl | rfl | rfl | rfl | rfl | rfl | rfl | rfl | rfl | rfl | rfl | rfl | rfl | rfl <;> rfl) (lb rfl) (lb rfl) dL_law_0 (fun q1 H b1 b2 b3 => ?_)
  have hp : Hp G [] s H [] ([] ++ [(q1, .inr (2, [.null, .null, .null, .null, .null, .null, .null, .null, .null, .null, .double 0, .double 0, .int 0, .int 0, .int 0, .int 0]))]) := ⟨b1, b2, b3⟩
  refine lv_dup hx hb dL_law_3 rfl ?_
  have hc2 := c_X2_init (l := l) (a0 := q1) hZ h9
  refine r_callIF (rest := [.ref q1]) hc2 C hp mf_X2_init km_L_61 hl.1 dL_law_4 ⟨lb rfl, lb rfl, lb rfl, lb rfl⟩ rfl rfl (lb rfl) (fun v w1 H locs hv hp => ?_)
  obtain ⟨rfl, ad, f, g, ead, hf, hg, rfl⟩ := hv
  refine W.eq (g2 := F0 m 7 ls [.ref q1]) rfl ?_
  refine W.widen (k := 12) (n := 1416) (lb rfl) (lb rfl) ?_
  refine lv_astore_n (lv' := [(1, .ref q1), (0, .ref b)]) hx hb dL_law_7 rfl hl (by decide) rfl (fun ls hl => ?_)
  have hp : Hp G [] s H locs (wH G E0 ad (Hinit f g)) := hp
  refine va_new (ci := 3) (fs := [.int 0, .int 0, .null, .null, .null, .null, .null, .null, .null, .null, .null, .null, .double 0, .null, .null, .null, .null, .null, .null, .null, .null, .int 0, .int 0, .double 0]) (C := RX3) (T := TX3) (N := 24) hx hb C.hts inW_X3 tyX3 tyX3_ok C.hown (C.hts _ kl_L_62) (C.hts _ kt_X3) (C.hts _ ki_X3) C.hK hp.1 hp.2.1 hp.2.2 (fun q h => Or.inr h) rfl (fun j hj => by rcases (show j = 0 ∨ j = 1 ∨ j = 2 ∨ j = 3 ∨ j = 4 ∨ j = 5 ∨ j = 6 ∨ j = 7 ∨ j = 8 ∨ j = 9 ∨ j = 10 ∨ j = 11 ∨ j = 12 ∨ j = 13 ∨ j = 14 ∨ j = 15 ∨ j = 16 ∨ j = 17 ∨ j = 18 ∨ j = 19 ∨ j = 20 ∨ j = 21 ∨ j = 22 ∨ j = 23 by omega) with rfl | rfl | rfl | rfl | rfl | rfl | rfl | rfl | rfl | rfl | rfl | rfl | rfl | rfl | rfl | rfl | rfl | rfl | rfl | rfl | rfl | rfl | rfl | rfl <;> rfl) (lb rfl) (lb rfl) dL_law_8 (fun q2 H b1 b2 b3 => ?_)
  have hp : Hp G [] s H locs (wH G E0 ad (Hinit f g) ++ [(q2, .inr (3, [.int 0, .int 0, .null, .null, .null, .null, .null, .null, .null, .null, .null, .null, .double 0, .null, .null, .null, .null, .null, .null, .null, .null, .int 0, .int 0, .double 0]))]) := ⟨b1, b2, b3⟩
  refine W.widen (k := 13) (n := 1440) (lb rfl) (lb rfl) ?_
  refine lv_dup hx hb dL_law_11 rfl ?_
  have hc3 := c_X3_init (l := l) (a0 := q2) hZ
  refine r_callIF (wr := wH G E0 ad (Hinit f g)) (rest := [.ref q2]) hc3 C hp mf_X3_init km_L_64 hl.1 dL_law_12 ⟨lb rfl, lb rfl, lb rfl, lb rfl⟩ rfl rfl (lb rfl) (fun v w1 H locs hv hp => ?_)
  obtain ⟨rfl, bm, f', g', ebm, hf', hg', rfl⟩ := hv
  refine W.eq (g2 := F0 m 15 ls [.ref q2]) rfl ?_
  refine W.widen (k := 31) (n := 3440) (lb rfl) (lb rfl) ?_
  refine lv_astore_n (lv' := [(2, .ref q2), (1, .ref q1), (0, .ref b)]) hx hb dL_law_15 rfl hl (by decide) rfl (fun ls hl => ?_)
  refine lv_iconst (v := 1) hx hb dL_law_16 (by decide) ?_
  refine r_newa (atype := .long) (k := 4) (N := 1) (ty := .long) (a0 := (1, .inr (.inl (fun _ => 0)))) C hp ka_long rfl rfl (by decide) (Or.inr (Or.inr (Or.inr rfl))) (fun _ => rfl) (by decide) (by decide) (by decide) (lb rfl) (lb rfl) dL_law_17 (fun qj H hp => ?_)
  refine lv_astore_n (lv' := [(3, .ref qj), (2, .ref q2), (1, .ref q1), (0, .ref b)]) hx hb dL_law_19 rfl hl (by decide) rfl (fun ls hl => ?_)
  refine lv_iconst (v := 1) hx hb dL_law_20 (by decide) ?_
  refine r_newa (atype := .double) (k := 1) (N := 1) (ty := .double) (a0 := (1, .inr (.inr (.inr (.inl (fun _ => 0)))))) C hp ka_double rfl rfl (by decide) (Or.inr (Or.inl rfl)) (fun _ => rfl) (by decide) (by decide) (by decide) (lb rfl) (lb rfl) dL_law_21 (fun qd H hp => ?_)
  refine lv_astore (lv' := [(4, .ref qd), (3, .ref qj), (2, .ref q2), (1, .ref q1), (0, .ref b)]) hx hb dL_law_23 hl (by decide) rfl (fun ls hl => ?_)
  refine lv_iconst (v := 0) hx hb dL_law_25 (by decide) ?_
  refine lv_istore (lv' := [(5, .int 0), (4, .ref qd), (3, .ref qj), (2, .ref q2), (1, .ref q1), (0, .ref b)]) hx hb dL_law_26 hl (by decide) rfl (fun ls hl => ?_)
  rw [← ead, ← ebm] at hl
  refine W.widen (k := 33 + 8 * 0) (n := 3442 + 250 * 0) (lb rfl) (lb rfl) ?_
  exact law_loop hL C h9 hX hbl 513 0 rfl 0 nI_0.symm (Hinit f g) (M0 f' g') _ _ H locs ls (JI_start hf hg hf' hg') (Hp_perm hp wl_perm) (lv_sub hl [5, 4, 3, 2, 1, 0] rfl)
