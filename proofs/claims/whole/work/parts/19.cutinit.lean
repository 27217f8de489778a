section CUT
variable {l : Launch} {G : GT} {Z : State}
theorem w_objInit {ws0 : va_W} {p : Program} {e : Env} {R : Room} {s : State} {m : MethodId} {args : Array Value} {below : List Frame} {meth : Method} {c : Code} {H : Heap} {locs : List Loc} {cells slots : Nat} {Q : State → Prop} {own : String} {cc : ByteArray} {nL : Nat} {ret : Option FieldType} {pc idx a : Nat} {ls : Array Slot} {rest : List Value} (C : Cx G Z ws0 p s m args meth c own cc nL ret) (km : Cond.methodLink own idx Lib.objectInit ∈ WS) (hls : ls.size = nL) (hd : decode cc pc = .ok (.invokespecial idx, 3)) (hf : 1 ≤ R.frames) (hl : (rest.map fun v => v.category).sum + 12 ≤ R.locals) (kk : W p l e R s m args below meth c H locs cells slots Q (F0 m (pc + 3) ls rest)) : W p l e R s m args below meth c H locs cells slots Q (F0 m pc ls (.ref a :: rest)) :=
  W.objInit C.hx C.hb C.hown (C.hts _ km) (C.hts _ kn_Object__init__6b9f) (C.hts _ kc_Object__init__6b9f) rfl (hls.trans C.hml.symm) rfl hd hf (by show 2 * 0 + _ + 12 ≤ _; omega) kk
def cutNew (a1 a2 a3 : Int32) (a4 : UInt64) (a5 : Int32) : List Value := [.int a1, .double (FP.dmul 4623226492472524800 (FP.i2d a2)), .double (FP.i2d (a2 * a3)), .double a4, .int (7 + a5), .int 0, .double FP.dconst0, .double FP.dconst0, .int 0, .int (-1)]
set_option maxHeartbeats 4000000 in
theorem c_X0_init {w : va_W} {k q : Nat} {a1 a2 a3 a5 : Int32} {a4 : UInt64} (hZ : ZOK G Z) (hk : w[k]? = some (q, .inr (0, [.int 0, .double 0, .double 0, .double 0, .int 0, .int 0, .double 0, .double 0, .int 0, .int 0]))) (hn : vf_n64 (FP.dmul 4623226492472524800 (FP.i2d a2))) :
    CM l G Z yX0_init cX0_init 7 none (rmz 1 30) [.ref q, .int a1, .int a2, .int a3, .double a4, .int a5] w (fun v w' => v = none ∧ w' = w.set k (q, .inr (0, cutNew a1 a2 a3 a4 a5))) := by
  refine CM_ofW hZ (by decide) (lb rfl) (fun p e s m below meth c ls C hp hl hnm => ?_)
  have C : Cx G Z _ p s m _ meth c RX0 cX0_init 7 none := C
  have hl : lv_has ls 7 [(0, .ref q), (1, .int a1), (2, .int a2), (3, .int a3), (4, .double a4), (6, .int a5)] := hl
  have hx := C.hx
  have hb := C.hb
  refine lv_aload_n hx hb dX0_init_0 rfl (lv_at hl 0 rfl) ?_
  refine w_objInit C km_X0_3 hl.1 dX0_init_1 (lb rfl) (lb rfl) ?_
  refine lv_aload_n hx hb dX0_init_4 rfl (lv_at hl 0 rfl) ?_
  refine lv_iconst (v := 0) hx hb dX0_init_5 (by decide) ?_
  refine r_put (q0 := k) (ci := 0) (ty := .int) 5 C hp hk rfl inW_X0 tyX0_ok nmX0 (by decide) kf_X0_9 rfl (by decide +kernel) rfl rfl (lb rfl) dX0_init_6 (fun H locs hp => ?_)
  have hp : Hp G w s H locs (w.set k (q, .inr (0, [.int 0, .double 0, .double 0, .double 0, .int 0, .int 0, .double 0, .double 0, .int 0, .int 0]))) := hp
  have hk1 := gset_self (A := ((q, .inr (0, [.int 0, .double 0, .double 0, .double 0, .int 0, .int 0, .double 0, .double 0, .int 0, .int 0])) : Nat × va_E)) hk
  refine lv_aload_n hx hb dX0_init_9 rfl (lv_at hl 0 rfl) ?_
  refine lv_dconst0 hx hb dX0_init_10 ?_
  refine r_put (q0 := k) (ci := 0) (ty := .double) 6 C hp hk1 rfl inW_X0 tyX0_ok nmX0 (by decide) kf_X0_15 rfl (by decide +kernel) rfl rfl (lb rfl) dX0_init_11 (fun H locs hp => ?_)
  rw [List.set_set] at hp
  have hp : Hp G w s H locs (w.set k (q, .inr (0, [.int 0, .double 0, .double 0, .double 0, .int 0, .int 0, .double FP.dconst0, .double 0, .int 0, .int 0]))) := hp
  have hk1 := gset_self (A := ((q, .inr (0, [.int 0, .double 0, .double 0, .double 0, .int 0, .int 0, .double FP.dconst0, .double 0, .int 0, .int 0])) : Nat × va_E)) hk
  refine lv_aload_n hx hb dX0_init_14 rfl (lv_at hl 0 rfl) ?_
  refine lv_dconst0 hx hb dX0_init_15 ?_
  refine r_put (q0 := k) (ci := 0) (ty := .double) 7 C hp hk1 rfl inW_X0 tyX0_ok nmX0 (by decide) kf_X0_19 rfl (by decide +kernel) rfl rfl (lb rfl) dX0_init_16 (fun H locs hp => ?_)
  rw [List.set_set] at hp
  have hp : Hp G w s H locs (w.set k (q, .inr (0, [.int 0, .double 0, .double 0, .double 0, .int 0, .int 0, .double FP.dconst0, .double FP.dconst0, .int 0, .int 0]))) := hp
  have hk1 := gset_self (A := ((q, .inr (0, [.int 0, .double 0, .double 0, .double 0, .int 0, .int 0, .double FP.dconst0, .double FP.dconst0, .int 0, .int 0])) : Nat × va_E)) hk
  refine lv_aload_n hx hb dX0_init_19 rfl (lv_at hl 0 rfl) ?_
  refine lv_iconst (v := 0) hx hb dX0_init_20 (by decide) ?_
  refine r_put (q0 := k) (ci := 0) (ty := .int) 8 C hp hk1 rfl inW_X0 tyX0_ok nmX0 (by decide) kf_X0_22 rfl (by decide +kernel) rfl rfl (lb rfl) dX0_init_21 (fun H locs hp => ?_)
  rw [List.set_set] at hp
  have hp : Hp G w s H locs (w.set k (q, .inr (0, [.int 0, .double 0, .double 0, .double 0, .int 0, .int 0, .double FP.dconst0, .double FP.dconst0, .int 0, .int 0]))) := hp
  have hk1 := gset_self (A := ((q, .inr (0, [.int 0, .double 0, .double 0, .double 0, .int 0, .int 0, .double FP.dconst0, .double FP.dconst0, .int 0, .int 0])) : Nat × va_E)) hk
  refine lv_aload_n hx hb dX0_init_24 rfl (lv_at hl 0 rfl) ?_
  refine lv_iconst (v := -1) hx hb dX0_init_25 (by decide) ?_
  refine r_put (q0 := k) (ci := 0) (ty := .int) 9 C hp hk1 rfl inW_X0 tyX0_ok nmX0 (by decide) kf_X0_25 rfl (by decide +kernel) rfl rfl (lb rfl) dX0_init_26 (fun H locs hp => ?_)
  rw [List.set_set] at hp
  have hp : Hp G w s H locs (w.set k (q, .inr (0, [.int 0, .double 0, .double 0, .double 0, .int 0, .int 0, .double FP.dconst0, .double FP.dconst0, .int 0, .int (-1)]))) := hp
  have hk1 := gset_self (A := ((q, .inr (0, [.int 0, .double 0, .double 0, .double 0, .int 0, .int 0, .double FP.dconst0, .double FP.dconst0, .int 0, .int (-1)])) : Nat × va_E)) hk
  refine lv_aload_n hx hb dX0_init_29 rfl (lv_at hl 0 rfl) ?_
  refine lv_iload_n hx hb dX0_init_30 rfl (lv_at hl 1 rfl) ?_
  refine r_putF (q0 := k) (ci := 0) (ty := .int) 0 C hp hk1 rfl inW_X0 tyX0_ok nmX0 (by decide) kf_X0_28 rfl hnm rfl (by decide +kernel) rfl rfl (lb rfl) dX0_init_31 (fun H locs hp => ?_)
  rw [List.set_set] at hp
  have hp : Hp G w s H locs (w.set k (q, .inr (0, [.int a1, .double 0, .double 0, .double 0, .int 0, .int 0, .double FP.dconst0, .double FP.dconst0, .int 0, .int (-1)]))) := hp
  have hk1 := gset_self (A := ((q, .inr (0, [.int a1, .double 0, .double 0, .double 0, .int 0, .int 0, .double FP.dconst0, .double FP.dconst0, .int 0, .int (-1)])) : Nat × va_E)) hk
  refine lv_aload_n hx hb dX0_init_34 rfl (lv_at hl 0 rfl) ?_
  refine lv_ldc2d hx hb C.hown (C.hts _ kd_X0_31) dX0_init_35 ?_
  refine lv_iload_n hx hb dX0_init_38 rfl (lv_at hl 2 rfl) ?_
  refine lv_i2d hx hb dX0_init_39 ?_
  refine lv_dmul hx hb dX0_init_40 hn ?_
  refine r_putF (q0 := k) (ci := 0) (ty := .double) 1 C hp hk1 rfl inW_X0 tyX0_ok nmX0 (by decide) kf_X0_33 rfl hnm rfl (by decide +kernel) rfl rfl (lb rfl) dX0_init_41 (fun H locs hp => ?_)
  rw [List.set_set] at hp
  have hp : Hp G w s H locs (w.set k (q, .inr (0, [.int a1, .double (FP.dmul 4623226492472524800 (FP.i2d a2)), .double 0, .double 0, .int 0, .int 0, .double FP.dconst0, .double FP.dconst0, .int 0, .int (-1)]))) := hp
  have hk1 := gset_self (A := ((q, .inr (0, [.int a1, .double (FP.dmul 4623226492472524800 (FP.i2d a2)), .double 0, .double 0, .int 0, .int 0, .double FP.dconst0, .double FP.dconst0, .int 0, .int (-1)])) : Nat × va_E)) hk
  refine lv_aload_n hx hb dX0_init_44 rfl (lv_at hl 0 rfl) ?_
  refine lv_iload_n hx hb dX0_init_45 rfl (lv_at hl 2 rfl) ?_
  refine lv_iload_n hx hb dX0_init_46 rfl (lv_at hl 3 rfl) ?_
  refine lv_imul hx hb dX0_init_47 ?_
  refine lv_i2d hx hb dX0_init_48 ?_
  refine r_putF (q0 := k) (ci := 0) (ty := .double) 2 C hp hk1 rfl inW_X0 tyX0_ok nmX0 (by decide) kf_X0_36 rfl hnm rfl (by decide +kernel) rfl rfl (lb rfl) dX0_init_49 (fun H locs hp => ?_)
  rw [List.set_set] at hp
  have hp : Hp G w s H locs (w.set k (q, .inr (0, [.int a1, .double (FP.dmul 4623226492472524800 (FP.i2d a2)), .double (FP.i2d (a2 * a3)), .double 0, .int 0, .int 0, .double FP.dconst0, .double FP.dconst0, .int 0, .int (-1)]))) := hp
  have hk1 := gset_self (A := ((q, .inr (0, [.int a1, .double (FP.dmul 4623226492472524800 (FP.i2d a2)), .double (FP.i2d (a2 * a3)), .double 0, .int 0, .int 0, .double FP.dconst0, .double FP.dconst0, .int 0, .int (-1)])) : Nat × va_E)) hk
  refine lv_aload_n hx hb dX0_init_52 rfl (lv_at hl 0 rfl) ?_
  refine lv_dload hx hb dX0_init_53 (lv_at hl 4 rfl) ?_
  refine r_putF (q0 := k) (ci := 0) (ty := .double) 3 C hp hk1 rfl inW_X0 tyX0_ok nmX0 (by decide) kf_X0_39 rfl hnm rfl (by decide +kernel) rfl rfl (lb rfl) dX0_init_55 (fun H locs hp => ?_)
  rw [List.set_set] at hp
  have hp : Hp G w s H locs (w.set k (q, .inr (0, [.int a1, .double (FP.dmul 4623226492472524800 (FP.i2d a2)), .double (FP.i2d (a2 * a3)), .double a4, .int 0, .int 0, .double FP.dconst0, .double FP.dconst0, .int 0, .int (-1)]))) := hp
  have hk1 := gset_self (A := ((q, .inr (0, [.int a1, .double (FP.dmul 4623226492472524800 (FP.i2d a2)), .double (FP.i2d (a2 * a3)), .double a4, .int 0, .int 0, .double FP.dconst0, .double FP.dconst0, .int 0, .int (-1)])) : Nat × va_E)) hk
  refine lv_aload_n hx hb dX0_init_58 rfl (lv_at hl 0 rfl) ?_
  refine lv_bipush (v := 7) hx hb dX0_init_59 (by decide) ?_
  refine lv_iload hx hb dX0_init_61 (lv_at hl 5 rfl) ?_
  refine lv_iadd hx hb dX0_init_63 ?_
  refine r_putF (q0 := k) (ci := 0) (ty := .int) 4 C hp hk1 rfl inW_X0 tyX0_ok nmX0 (by decide) kf_X0_42 rfl hnm rfl (by decide +kernel) rfl rfl (lb rfl) dX0_init_64 (fun H locs hp => ?_)
  rw [List.set_set] at hp
  have hp : Hp G w s H locs (w.set k (q, .inr (0, [.int a1, .double (FP.dmul 4623226492472524800 (FP.i2d a2)), .double (FP.i2d (a2 * a3)), .double a4, .int (7 + a5), .int 0, .double FP.dconst0, .double FP.dconst0, .int 0, .int (-1)]))) := hp
  have hk1 := gset_self (A := ((q, .inr (0, [.int a1, .double (FP.dmul 4623226492472524800 (FP.i2d a2)), .double (FP.i2d (a2 * a3)), .double a4, .int (7 + a5), .int 0, .double FP.dconst0, .double FP.dconst0, .int 0, .int (-1)])) : Nat × va_E)) hk
  exact r_vret C hp dX0_init_67 ⟨rfl, rfl⟩
theorem mf_X0_init : MFi yX0_init cX0_init 7 5 := ⟨kc_X0_init, kn_X0_init, ki_X0, rfl, by decide +kernel⟩
/-- a cut more, at q -/
def Hnew (S : HS) (q : Nat) (a1 : Int32) (x1 x2 x3 : UInt64) (a2 a3 : Int32) (x4 x5 : UInt64) (a4 a5 : Int32) : HS := (S.1, S.2.1, S.2.2.1, S.2.2.2.1, S.2.2.2.2.1, S.2.2.2.2.2.1, S.2.2.2.2.2.2.1, S.2.2.2.2.2.2.2.1, S.2.2.2.2.2.2.2.2.1, S.2.2.2.2.2.2.2.2.2.1, S.2.2.2.2.2.2.2.2.2.2.1, S.2.2.2.2.2.2.2.2.2.2.2.1, S.2.2.2.2.2.2.2.2.2.2.2.2.1, S.2.2.2.2.2.2.2.2.2.2.2.2.2.1, S.2.2.2.2.2.2.2.2.2.2.2.2.2.2.1, S.2.2.2.2.2.2.2.2.2.2.2.2.2.2.2.1, S.2.2.2.2.2.2.2.2.2.2.2.2.2.2.2.2.1, S.2.2.2.2.2.2.2.2.2.2.2.2.2.2.2.2.2.1, S.2.2.2.2.2.2.2.2.2.2.2.2.2.2.2.2.2.2.1, S.2.2.2.2.2.2.2.2.2.2.2.2.2.2.2.2.2.2.2.1, S.2.2.2.2.2.2.2.2.2.2.2.2.2.2.2.2.2.2.2.2.1, H_L S ++ [q], upd (H_num S) q a1, vf_upd (H_len S) q x1, vf_upd (H_mass S) q x2, vf_upd (H_res S) q x3, upd (H_wish S) q a2, upd (H_st S) q a3, vf_upd (H_pl S) q x4, vf_upd (H_sp S) q x5, upd (H_nd S) q a4, upd (H_cb S) q a5)
theorem cutE_new {S : HS} {q : Nat} {a1 : Int32} {x1 x2 x3 : UInt64} {a2 a3 : Int32} {x4 x5 : UInt64} {a4 a5 : Int32} : cutE (Hnew S q a1 x1 x2 x3 a2 a3 x4 x5 a4 a5) = va_up (cutE S) q (.inr (0, [.int a1, .double x1, .double x2, .double x3, .int a2, .int a3, .double x4, .double x5, .int a4, .int a5])) := by
  funext a
  by_cases e : a = q
  · subst e; simp [va_up, upd, vf_upd, cutE, cutF, Hnew, H_L, H_num, H_len, H_mass, H_res, H_wish, H_st, H_pl, H_sp, H_nd, H_cb]
  · simp [va_up, upd, vf_upd, cutE, cutF, Hnew, H_L, H_num, H_len, H_mass, H_res, H_wish, H_st, H_pl, H_sp, H_nd, H_cb, e]
theorem wH_new {E0 : Nat} {ad : Nat → Nat} {S : HS} {q : Nat} {a1 : Int32} {x1 x2 x3 : UInt64} {a2 a3 : Int32} {x4 x5 : UInt64} {a4 a5 : Int32} : wH G E0 ad (Hnew S q a1 x1 x2 x3 a2 a3 x4 x5 a4 a5) = hX G E0 ad S ++ va_pl (H_L S ++ [q]) (va_up (cutE S) q (.inr (0, [.int a1, .double x1, .double x2, .double x3, .int a2, .int a3, .double x4, .double x5, .int a4, .int a5]))) := by
  have e1 : hX G E0 ad (Hnew S q a1 x1 x2 x3 a2 a3 x4 x5 a4 a5) = hX G E0 ad S := rfl
  unfold wH
  rw [cutE_new, e1]
  rfl
theorem fresh_q {A : Nat → Prop} {E0 : Nat} {ad : Nat → Nat} {S : HS} {q : Nat} {e : va_E} (h : va_D A (wH G E0 ad S ++ [(q, e)])) : q ∉ H_L S := by
  intro hq
  obtain ⟨k, hk1, hk⟩ := pool_get (X := hX G E0 ad S) (g := cutE S) hq
  have hk' : (wH G E0 ad S)[k]? = some (q, cutE S q) := hk
  have := h.1 k (wH G E0 ad S).length _ _ (app_l hk') app_r rfl
  have := (List.getElem?_eq_some_iff.mp hk').1
  omega
theorem wH_push {E0 : Nat} {ad : Nat → Nat} {S : HS} {q : Nat} {a1 : Int32} {x1 x2 x3 : UInt64} {a2 a3 : Int32} {x4 x5 : UInt64} {a4 a5 : Int32} (hq : q ∉ H_L S) : wH G E0 ad S ++ [(q, .inr (0, [.int a1, .double x1, .double x2, .double x3, .int a2, .int a3, .double x4, .double x5, .int a4, .int a5]))] = wH G E0 ad (Hnew S q a1 x1 x2 x3 a2 a3 x4 x5 a4 a5) := by
  rw [wH_new, ← va_pl_push hq, ← List.append_assoc]
  rfl
theorem va_up_up {α : Type} {f : Nat → α} {k : Nat} {v w : α} : va_up (va_up f k v) k w = va_up f k w := by
  funext j
  unfold va_up
  by_cases h : j = k
  · rw [if_pos h, if_pos h]
  · rw [if_neg h, if_neg h, if_neg h]
theorem wH_renew {A : Nat → Prop} {E0 : Nat} {ad : Nat → Nat} {S : HS} {q k : Nat} {a1 b1 : Int32} {x1 x2 x3 y1 y2 y3 : UInt64} {a2 a3 b2 b3 : Int32} {x4 x5 y4 y5 : UInt64} {a4 a5 b4 b5 : Int32} (hD : va_D A (wH G E0 ad (Hnew S q a1 x1 x2 x3 a2 a3 x4 x5 a4 a5))) (hk : (wH G E0 ad (Hnew S q a1 x1 x2 x3 a2 a3 x4 x5 a4 a5))[k]? = some (q, .inr (0, [.int a1, .double x1, .double x2, .double x3, .int a2, .int a3, .double x4, .double x5, .int a4, .int a5]))) :
    (wH G E0 ad (Hnew S q a1 x1 x2 x3 a2 a3 x4 x5 a4 a5)).set k (q, .inr (0, [.int b1, .double y1, .double y2, .double y3, .int b2, .int b3, .double y4, .double y5, .int b4, .int b5])) = wH G E0 ad (Hnew S q b1 y1 y2 y3 b2 b3 y4 y5 b4 b5) := by
  rw [wH_new] at hD hk ⊢
  rw [wH_new, va_pl_set (e := .inr (0, [.int b1, .double y1, .double y2, .double y3, .int b2, .int b3, .double y4, .double y5, .int b4, .int b5])) hD (by simp) (by rw [hk, va_up_self]), va_up_up]
theorem new_get {E0 : Nat} {ad : Nat → Nat} {S : HS} {q : Nat} {a1 : Int32} {x1 x2 x3 : UInt64} {a2 a3 : Int32} {x4 x5 : UInt64} {a4 a5 : Int32} : ∃ k : Nat, (wH G E0 ad (Hnew S q a1 x1 x2 x3 a2 a3 x4 x5 a4 a5))[k]? = some (q, .inr (0, [.int a1, .double x1, .double x2, .double x3, .int a2, .int a3, .double x4, .double x5, .int a4, .int a5])) := by
  rw [wH_new]
  obtain ⟨k, -, hk⟩ := pool_get (X := hX G E0 ad S) (L := H_L S ++ [q]) (g := va_up (cutE S) q (.inr (0, [.int a1, .double x1, .double x2, .double x3, .int a2, .int a3, .double x4, .double x5, .int a4, .int a5]))) (a := q) (by simp)
  refine ⟨k, ?_⟩
  rw [hk, va_up_self]
end CUT
