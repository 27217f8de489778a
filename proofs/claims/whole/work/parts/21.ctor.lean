section CTOR
variable {l : Launch} {G : GT} {Z : State}
theorem mf_Jxa1e45_init_da8c8 : MFi yJxa1e45_init_da8c8 cJxa1e45_init_da8c8 1 0 := ⟨kc_Jxa1e45_init_da8c8, kn_Jxa1e45_init_da8c8, ki_Jxa1e45, rfl, by decide +kernel⟩
theorem mf_Jxc12de_init_da8c8 : MFi yJxc12de_init_da8c8 cJxc12de_init_da8c8 1 0 := ⟨kc_Jxc12de_init_da8c8, kn_Jxc12de_init_da8c8, ki_Jxc12de, rfl, by decide +kernel⟩
theorem mf_Jx4a65c_init_da8c8 : MFi yJx4a65c_init_da8c8 cJx4a65c_init_da8c8 1 0 := ⟨kc_Jx4a65c_init_da8c8, kn_Jx4a65c_init_da8c8, ki_Jx4a65c, rfl, by decide +kernel⟩
theorem mf_X1_init : MFi yX1_init cX1_init 1 0 := ⟨kc_X1_init, kn_X1_init, ki_X1, rfl, by decide +kernel⟩
theorem mf_X2_init : MFi yX2_init cX2_init 1 0 := ⟨kc_X2_init, kn_X2_init, ki_X2, rfl, by decide +kernel⟩
theorem mf_X3_init : MFi yX3_init cX3_init 2 0 := ⟨kc_X3_init, kn_X3_init, ki_X3, rfl, by decide +kernel⟩
theorem mf_J7_fill_7f8df : MFs yJ7_fill_7f8df cJ7_fill_7f8df 5 none 2 := ⟨kc_J7_fill_7f8df, ks_J7_fill_7f8df, ki_J7, by decide +kernel⟩
theorem c_acoll {w : va_W} {a : Nat} (hZ : ZOK G Z) : CM l G Z yJxa1e45_init_da8c8 cJxa1e45_init_da8c8 1 none (rmz 1 20) [.ref a] w (fun v w' => v = none ∧ w' = w) := by
  refine CM_ofW hZ (by decide) (lb rfl) (fun p e s m below meth c ls C hp hl hnm => ?_)
  have C : Cx G Z _ p s m _ meth c RJxa1e45 cJxa1e45_init_da8c8 1 none := C
  have hl : lv_has ls 1 [(0, .ref a)] := hl
  refine lv_aload_n C.hx C.hb dJxa1e45_init_da8c8_0 rfl (lv_at hl 0 rfl) ?_
  refine w_objInit C km_Jxa1e45_1 hl.1 dJxa1e45_init_da8c8_1 (lb rfl) (lb rfl) ?_
  exact r_vret C hp dJxa1e45_init_da8c8_4 ⟨rfl, rfl⟩
theorem c_alist {w : va_W} {k a : Nat} {md sz : Int32} {ev : Value} (hZ : ZOK G Z) (hk : w[k]? = some (a, .inr (4, [.int md, ev, .int sz]))) : CM l G Z yJxc12de_init_da8c8 cJxc12de_init_da8c8 1 none (rmz 2 40) [.ref a] w (fun v w' => v = none ∧ w' = w.set k (a, .inr (4, [.int 0, ev, .int sz]))) := by
  refine CM_ofW hZ (by decide) (lb rfl) (fun p e s m below meth c ls C hp hl hnm => ?_)
  have C : Cx G Z _ p s m _ meth c RJxc12de cJxc12de_init_da8c8 1 none := C
  have hl : lv_has ls 1 [(0, .ref a)] := hl
  refine lv_aload_n C.hx C.hb dJxc12de_init_da8c8_0 rfl (lv_at hl 0 rfl) ?_
  refine r_callI (rest := []) (c_acoll C.hZ) C hp mf_Jxa1e45_init_da8c8 km_Jxc12de_1 hl.1 dJxc12de_init_da8c8_1 ⟨lb rfl, lb rfl, lb rfl, lb rfl⟩ rfl rfl (lb rfl) (fun v w1 H locs hv hp => ?_)
  obtain ⟨rfl, hw⟩ := hv
  rw [hw] at hp
  refine W.eq (g2 := F0 m 4 ls []) rfl ?_
  refine lv_aload_n C.hx C.hb dJxc12de_init_da8c8_4 rfl (lv_at hl 0 rfl) ?_
  refine lv_iconst (v := 0) C.hx C.hb dJxc12de_init_da8c8_5 (by decide) ?_
  refine r_put (q0 := k) (ci := 4) (ty := .int) 0 C hp hk rfl inW_Jx4a65c tyJx4a65c_ok nmJx4a65c (by decide) kf_Jxc12de_7 rfl (by decide +kernel) rfl rfl (lb rfl) dJxc12de_init_da8c8_6 (fun H locs hp => ?_)
  exact r_vret C hp dJxc12de_init_da8c8_9 ⟨rfl, rfl⟩
theorem c_arrlist {w : va_W} {k a E0 : Nat} {md sz : Int32} {ev : Value} (hZ : ZOK G Z) (h9 : ZO2 l E0 Z) (hk : w[k]? = some (a, .inr (4, [.int md, ev, .int sz]))) : CM l G Z yJx4a65c_init_da8c8 cJx4a65c_init_da8c8 1 none (rmz 3 60) [.ref a] w (fun v w' => v = none ∧ w' = w.set k (a, .inr (4, [.int 0, .ref E0, .int sz]))) := by
  refine CM_ofW hZ (by decide) (lb rfl) (fun p e s m below meth c ls C hp hl hnm => ?_)
  have C : Cx G Z _ p s m _ meth c RJx4a65c cJx4a65c_init_da8c8 1 none := C
  have hl : lv_has ls 1 [(0, .ref a)] := hl
  refine lv_aload_n C.hx C.hb dJx4a65c_init_da8c8_0 rfl (lv_at hl 0 rfl) ?_
  refine r_callI (rest := []) (c_alist C.hZ hk) C hp mf_Jxc12de_init_da8c8 km_Jx4a65c_1 hl.1 dJx4a65c_init_da8c8_1 ⟨lb rfl, lb rfl, lb rfl, lb rfl⟩ rfl rfl (lb rfl) (fun v w1 H locs hv hp => ?_)
  obtain ⟨rfl, rfl⟩ := hv
  refine W.eq (g2 := F0 m 4 ls []) rfl ?_
  refine lv_aload_n C.hx C.hb dJx4a65c_init_da8c8_4 rfl (lv_at hl 0 rfl) ?_
  refine va_gets C.hx C.hb (Z_at h9 C) hp.2.2 C.hown (C.hts _ kf_Jx4a65c_39) (fun _ h => h) dJx4a65c_init_da8c8_5 ?_
  refine r_put (q0 := k) (ci := 4) (v := .ref E0) (ty := .array (.object "java/lang/Object")) 1 C hp (gset_self hk) rfl inW_Jx4a65c tyJx4a65c_ok nmJx4a65c (by decide) kf_Jx4a65c_9 rfl (by decide +kernel) rfl rfl (lb rfl) dJx4a65c_init_da8c8_8 (fun H locs hp => ?_)
  rw [List.set_set] at hp
  exact r_vret C hp dJx4a65c_init_da8c8_11 ⟨rfl, rfl⟩
theorem cA_eqP {cA : ClassId} {s : State} {D : va_G} {cl : List vw_C} {ty : FieldType} {k : Nat} {cB : ClassId} (h : va_K D cl (tys G ++ [(cA, ty)]) s) (hk : (tys G)[k]? = some (cB, ty)) (hk5 : k < 5) (hp : ty = .int ∨ ty = .double ∨ ty = .boolean ∨ ty = .long) : cA = cB := by
  have e1 := (h.2 5 (cA, ty) rfl).2
  have e2 := (h.2 k (cB, ty) (by rw [List.getElem?_append_left (by show k < 5; exact hk5)]; exact hk)).2
  rcases hp with rfl | rfl | rfl | rfl <;> exact Option.some.inj (Eq.trans (Eq.symm e1) e2)
/-- a new array of numbers -/
theorem r_newa {ws0 w : va_W} {p : Program} {e : Env} {R : Room} {s : State} {m : MethodId} {args : Array Value} {below : List Frame} {meth : Method} {c : Code} {H : Heap} {locs : List Loc} {cells slots : Nat} {Q : State → Prop} {own : String} {cc : ByteArray} {nL : Nat} {ret : Option FieldType} {pc : Nat} {ls : Array Slot} {rest : List Value} {n : Int32} {N k : Nat} {atype : ArrayType} {ty : FieldType} {a0 : vp_A} {cB : ClassId} (C : Cx G Z ws0 p s m args meth c own cc nL ret) (hp : Hp G ws0 s H locs w) (ka : Cond.arrayClass (newarray.typeOf atype) ∈ WS) (hty : newarray.typeOf atype = ty) (hk : (tys G)[k]? = some (cB, ty)) (hk5 : k < 5) (hpr : ty = .int ∨ ty = .double ∨ ty = .boolean ∨ ty = .long) (ha : ∀ cA : ClassId, vp_cell cA a0 = arrV cA N (fun _ => defaultValue ty)) (hn : ¬ n < 0) (hN : n.toNatClampNeg = N) (hb : N * componentBytes ty ≤ 536870912) (hc : cells + 1 ≤ R.cells) (hs : slots + N ≤ R.slots) (hd : decode cc pc = .ok (.newarray atype, 2))
    (kk : ∀ (q : Nat) (H1 : Heap), Hp G ws0 s H1 locs (w ++ [(q, .inl (cB, a0))]) → W p l e R s m args below meth c H1 locs (cells + 1) (slots + N) Q (F0 m (pc + 2) ls (.ref q :: rest))) : W p l e R s m args below meth c H locs cells slots Q (F0 m pc ls (.int n :: rest)) := by
  refine va_newa C.hx C.hb (C.hts _ ka) hty C.hK hp.1 hp.2.1 hp.2.2 (fun q h => Or.inr h) ha hn hN hb hc hs hd (fun q cA H1 hK' a1 a2 a3 => ?_)
  obtain rfl := cA_eqP hK' hk hk5 hpr
  exact kk q H1 ⟨a1, a2, a3⟩
theorem c_X1_init {w : va_W} {k a : Nat} {v0 : Value} {c0 : Int32} (hZ : ZOK G Z) (hk : w[k]? = some (a, .inr (1, [v0, .int c0]))) : CM l G Z yX1_init cX1_init 1 none (rmB 1 20 1 800) [.ref a] w (fun v w' => v = none ∧ ∃ q : Nat, w' = (w ++ [((q, .inl (G.2 0, 800, .inl (fun _ => 0))) : Nat × va_E)]).set k (a, .inr (1, [.ref q, .int 0]))) := by
  refine CM_ofW hZ (by decide) (lb rfl) (fun p e s m below meth c ls C hp hl hnm => ?_)
  have C : Cx G Z _ p s m _ meth c RX1 cX1_init 1 none := C
  have hl : lv_has ls 1 [(0, .ref a)] := hl
  refine lv_aload_n C.hx C.hb dX1_init_0 rfl (lv_at hl 0 rfl) ?_
  refine w_objInit C km_X1_3 hl.1 dX1_init_1 (lb rfl) (lb rfl) ?_
  refine lv_aload_n C.hx C.hb dX1_init_4 rfl (lv_at hl 0 rfl) ?_
  refine lv_sipush (v := 800) C.hx C.hb dX1_init_5 (by decide) ?_
  refine r_newa (atype := .int) (k := 0) (N := 800) (ty := .int) (a0 := (800, .inl (fun _ => 0))) C hp ka_int rfl rfl (by decide) (Or.inl rfl) (fun _ => rfl) (by decide) (by decide) (by decide) (lb rfl) (lb rfl) dX1_init_8 (fun q H hp => ?_)
  refine r_putF (q0 := k) (ci := 1) (v := .ref q) (ty := .array .int) 0 C hp (app_l hk) rfl inW_X1 tyX1_ok nmX1 (by decide) kf_X1_9 rfl hnm rfl (by decide +kernel) rfl rfl (lb rfl) dX1_init_10 (fun H locs hp => ?_)
  refine lv_aload_n C.hx C.hb dX1_init_13 rfl (lv_at hl 0 rfl) ?_
  refine lv_iconst (v := 0) C.hx C.hb dX1_init_14 (by decide) ?_
  refine r_put (q0 := k) (ci := 1) (ty := .int) 1 C hp (gset_self (app_l hk)) rfl inW_X1 tyX1_ok nmX1 (by decide) kf_X1_15 rfl (by decide +kernel) rfl rfl (lb rfl) dX1_init_15 (fun H locs hp => ?_)
  rw [List.set_set] at hp
  refine W.widen (k := 1) (n := 800) (lb rfl) (lb rfl) ?_
  exact r_vret C hp dX1_init_18 ⟨rfl, q, rfl⟩
set_option maxHeartbeats 4000000 in
theorem c_fill {w : va_W} {j a n : Nat} {x : UInt64} {f : Nat → UInt64} (hZ : ZOK G Z) (hn : n < 2 ^ 20) (hj : w[j]? = some (a, .inl (G.2 1, n, .inr (.inr (.inr (.inl f)))))) : CM l G Z yJ7_fill_7f8df cJ7_fill_7f8df 5 none (rmz 0 0) [.ref a, .double x] w (fun v w' => v = none ∧ ∃ f' : Nat → UInt64, (∀ i, i < n → f' i = x) ∧ w' = w.set j (a, .inl (G.2 1, n, .inr (.inr (.inr (.inl f')))))) := by
  refine CM_ofW hZ (by decide) (lb rfl) (fun p e s m below meth c ls C hp hl hnm => ?_)
  have C : Cx G Z _ p s m _ meth c RJ7 cJ7_fill_7f8df 5 none := C
  have hl : lv_has ls 5 [(0, .ref a), (1, .double x)] := hl
  have hx := C.hx
  have hb := C.hb
  have loop : ∀ (t i : Nat) (g : Nat → UInt64) (H : Heap) (locs : List Loc) (ls : Array Slot), i ≤ n → n - i < t → (∀ k, k < i → g k = x) → Hp G w s H locs (w.set j (a, .inl (G.2 1, n, .inr (.inr (.inr (.inl g)))))) → lv_has ls 5 [(3, .int (nI i)), (4, .int (nI n)), (0, .ref a), (1, .double x)] → W p l e (rmz 0 0) s m #[Value.ref a, Value.double x] below meth c H locs 0 0 (MQ below (QM G Z w s.heap.size (fun v w' => v = none ∧ ∃ f' : Nat → UInt64, (∀ i, i < n → f' i = x) ∧ w' = w.set j (a, .inl (G.2 1, n, .inr (.inr (.inr (.inl f'))))))) #[Value.ref a, Value.double x] s (rmz 0 0).cells (rmz 0 0).slots (va_A w s.heap.size)) (F0 m 6 ls []) := by
    intro t
    induction t with
    | zero => intro i g H locs ls h1 h2; omega
    | succ t ih =>
      intro i g H locs ls h1 h2 hg hp hl
      refine lv_iload_n hx hb dJ7_fill_7f8df_6 rfl (lv_at hl 0 rfl) ?_
      refine lv_iload hx hb dJ7_fill_7f8df_7 (lv_at hl 1 rfl) ?_
      refine lv_icmp_ge (tgt := 22) hx hb dJ7_fill_7f8df_9 (by decide) (fun q => ?_) (fun q => ?_)
      · have hi : n ≤ i := (nI_leI (by omega) (by omega)).mp q
        exact r_vret C hp dJ7_fill_7f8df_22 ⟨rfl, g, fun k hk => hg k (by omega), rfl⟩
      · have hi : i < n := by
          rcases Nat.lt_or_ge i n with h | h
          · exact h
          · exact absurd (nI_le h (by omega)) q
        refine lv_aload_n hx hb dJ7_fill_7f8df_12 rfl (lv_at hl 2 rfl) ?_
        refine lv_iload_n hx hb dJ7_fill_7f8df_13 rfl (lv_at hl 0 rfl) ?_
        refine lv_dload_n hx hb dJ7_fill_7f8df_14 rfl (lv_at hl 3 rfl) ?_
        refine r_dast (q0 := j) C hp (gset_self hj) dJ7_fill_7f8df_15 (vp_in_nI hi (by omega)) (fun H locs hp => ?_)
        rw [List.set_set] at hp
        refine lv_iinc (v := nI (i + 1)) (lv' := [(3, .int (nI (i + 1))), (4, .int (nI n)), (0, .ref a), (1, .double x)]) hx hb dJ7_fill_7f8df_16 hl (k := 0) rfl (nI_1 i) (by decide) rfl (fun ls hl => ?_)
        refine lv_goto (tgt := 6) hx hb dJ7_fill_7f8df_19 (by decide) ?_
        refine ih (i + 1) _ H locs ls hi (by omega) (fun k hk => ?_) hp hl
        rw [nI_clamp (by omega)]
        unfold vf_upd
        by_cases e9 : k = i
        · rw [if_pos e9]
        · rw [if_neg e9]; exact hg k (by omega)
  refine lv_iconst (v := 0) hx hb dJ7_fill_7f8df_0 (by decide) ?_
  refine lv_istore_n (lv' := [(3, .int 0), (0, .ref a), (1, .double x)]) hx hb dJ7_fill_7f8df_1 rfl hl (by decide) rfl (fun ls hl => ?_)
  refine lv_aload_n hx hb dJ7_fill_7f8df_2 rfl (lv_at hl 1 rfl) ?_
  refine va_alen (v := nI n) hx hb C.hK hp.1 j 1 hj rfl rfl dJ7_fill_7f8df_3 ?_
  refine lv_istore (lv' := [(4, .int (nI n)), (3, .int 0), (0, .ref a), (1, .double x)]) hx hb dJ7_fill_7f8df_4 hl (by decide) rfl (fun ls hl => ?_)
  have hp0 : Hp G w s s.heap [] (w.set j (a, .inl (G.2 1, n, .inr (.inr (.inr (.inl f)))))) := by
    have e9 : w.set j (a, .inl (G.2 1, n, .inr (.inr (.inr (.inl f))))) = w := by
      apply List.ext_getElem?
      intro i
      rw [List.getElem?_set]
      by_cases h : j = i
      · subst h; rw [if_pos rfl, if_pos (List.getElem?_eq_some_iff.mp hj).1, hj]
      · rw [if_neg h]
    rw [e9]; exact hp
  exact loop (n + 1) 0 f _ _ _ (by omega) (by omega) (fun k hk => by omega) hp0 (lv_sub hl [1, 0, 2, 3] rfl)
end CTOR
