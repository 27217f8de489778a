section LAWB
abbrev oJ (G : GT) (q : Nat) (f : Nat → Int64) : Nat × va_E := (q, .inl (G.2 4, 1, .inr (.inl f)))
abbrev oD (G : GT) (q : Nat) (f : Nat → UInt64) : Nat × va_E := (q, .inl (G.2 1, 1, .inr (.inr (.inr (.inl f)))))
/-- the law's world: the two rows for answers, the model, the class -/
def WL (G : GT) (E0 : Nat) (ad bm : Nat → Nat) (qj qd : Nat) (fj : Nat → Int64) (fd : Nat → UInt64) (S : HS) (T : MS) : va_W := oD G qd fd :: oJ G qj fj :: (wM G bm T ++ wH G E0 ad S)
section PERM
variable {G : GT} {E0 qj qd : Nat} {ad bm : Nat → Nat} {fj : Nat → Int64} {fd : Nat → UInt64} {S : HS} {T : MS}
theorem WL_j : (WL G E0 ad bm qj qd fj fd S T).Perm ((oD G qd fd :: wM G bm T) ++ (oJ G qj fj :: wH G E0 ad S)) := (List.perm_middle.symm).cons _
theorem WL_d : (WL G E0 ad bm qj qd fj fd S T).Perm ((oJ G qj fj :: wM G bm T) ++ (oD G qd fd :: wH G E0 ad S)) := (List.Perm.swap _ _ _).trans ((List.perm_middle.symm).cons _)
theorem WL_m : (WL G E0 ad bm qj qd fj fd S T).Perm ((oD G qd fd :: oJ G qj fj :: wH G E0 ad S) ++ wM G bm T) := (List.perm_append_comm.cons _).cons _
theorem WL_h : (WL G E0 ad bm qj qd fj fd S T).Perm ((oD G qd fd :: oJ G qj fj :: wM G bm T) ++ wH G E0 ad S) := List.Perm.refl _
theorem pj_m : ((oD G qd fd :: wM G bm T) ++ (oJ G qj fj :: wH G E0 ad S)).Perm ((oD G qd fd :: oJ G qj fj :: wH G E0 ad S) ++ wM G bm T) := WL_j.symm.trans WL_m
theorem pd_m : ((oJ G qj fj :: wM G bm T) ++ (oD G qd fd :: wH G E0 ad S)).Perm ((oD G qd fd :: oJ G qj fj :: wH G E0 ad S) ++ wM G bm T) := WL_d.symm.trans WL_m
theorem ph_m : ((oD G qd fd :: oJ G qj fj :: wM G bm T) ++ wH G E0 ad S).Perm ((oD G qd fd :: oJ G qj fj :: wH G E0 ad S) ++ wM G bm T) := WL_h.symm.trans WL_m
theorem pm_L : ((oD G qd fd :: oJ G qj fj :: wH G E0 ad S) ++ wM G bm T).Perm (WL G E0 ad bm qj qd fj fd S T) := WL_m.symm
end PERM
theorem n64_sc (x : Int32) : vf_n64 (FP.dmul (FP.i2d x) 4593671619917905920) := n64_iff.mpr (mul_nnP (fin_nn (FP.Core.i2d_fin x)) (pf_ofB (by decide +kernel)))
theorem lcmp0 {x y : Int64} (h : x = y) : lg_cmp x y = 0 := by
  subst h
  unfold lg_cmp
  simp
theorem not_in {b : Nat} {s : State} (h : b < s.heap.size) : ¬ va_A [] s.heap.size b := by
  rintro (⟨k, e, h1⟩ | h1)
  · simp at h1
  · omega
section BZ
variable {p : Program} {l : Launch} {e : Env} {R : Room} {s : State} {m : MethodId} {args : Array Value} {below : List Frame} {meth : Method} {c : Code} {H : Heap} {locs : List Loc} {cells slots : Nat} {Q : State → Prop} {cc : ByteArray} {pc t : Nat} {ls : Array Slot} {rest : List Value}
theorem bz (hx : p.tables.exec = Jvm.exec) (hb : c.code = cc) {x : Int32} {o1 o2 : Int} (d1 : decode cc pc = .ok (.ifCond .eq o1, 3)) (t1 : (pc : Int) + o1 = (t : Int)) (d2 : decode cc (pc + 3) = .ok (.iconst 1, 1)) (d3 : decode cc (pc + 3 + 1) = .ok (.goto o2, 3)) (t2 : ((pc + 3 + 1 : Nat) : Int) + o2 = ((t + 1 : Nat) : Int)) (d4 : decode cc t = .ok (.iconst 0, 1))
    (k : W p l e R s m args below meth c H locs cells slots Q (F0 m (t + 1) ls (.int (if x = 0 then 0 else 1) :: rest))) : W p l e R s m args below meth c H locs cells slots Q (F0 m pc ls (.int x :: rest)) := by
  refine lv_if_eq (tgt := t) hx hb d1 t1 (fun q => ?_) (fun q => ?_)
  · rw [if_pos q] at k
    exact lv_iconst (v := 0) hx hb d4 (by decide) k
  · rw [if_neg q] at k
    refine lv_iconst (v := 1) hx hb d2 (by decide) ?_
    exact lv_goto (tgt := t + 1) hx hb d3 t2 k
theorem bzl (hx : p.tables.exec = Jvm.exec) (hb : c.code = cc) {x : Int32} {o1 o2 : Int} (d1 : decode cc pc = .ok (.ifCond .eq o1, 3)) (t1 : (pc : Int) + o1 = (t : Int)) (d2 : decode cc (pc + 3) = .ok (.lconst 1, 1)) (d3 : decode cc (pc + 3 + 1) = .ok (.goto o2, 3)) (t2 : ((pc + 3 + 1 : Nat) : Int) + o2 = ((t + 1 : Nat) : Int)) (d4 : decode cc t = .ok (.lconst 0, 1))
    (k : W p l e R s m args below meth c H locs cells slots Q (F0 m (t + 1) ls (.long (if x = 0 then 0 else 1) :: rest))) : W p l e R s m args below meth c H locs cells slots Q (F0 m pc ls (.int x :: rest)) := by
  refine lv_if_eq (tgt := t) hx hb d1 t1 (fun q => ?_) (fun q => ?_)
  · rw [if_pos q] at k
    exact lv_lconst (v := 0) hx hb d4 (by decide) k
  · rw [if_neg q] at k
    refine lv_lconst (v := 1) hx hb d2 (by decide) ?_
    exact lv_goto (tgt := t + 1) hx hb d3 t2 k
end BZ
abbrev LV (b a1 a2 qj qd : Nat) (i : Int32) : List (Nat × Value) := [(0, .ref b), (1, .ref a1), (2, .ref a2), (3, .ref qj), (4, .ref qd), (5, .int i)]
/-- what stands at the end of a turn of the loop: the next one -/
def LN (l : Launch) (G : GT) (p : Program) (e : Env) (s : State) (m : MethodId) (below : List Frame) (meth : Method) (c : Code) (Q : State → Prop) (E0 b qj qd j : Nat) (ad bm : Nat → Nat) (i : Int32) : Prop :=
  ∀ (S : HS) (T : MS) (fj : Nat → Int64) (fd : Nat → UInt64) (H : Heap) (locs : List Loc) (ls : Array Slot), JI (j + 1) S T → Hp G [] s H locs (WL G E0 ad bm qj qd fj fd S T) → lv_has ls 10 (LV b (ad 0) (bm 0) qj qd i) →
    W p l e room_1 s m #[Value.ref b] below meth c H locs (33 + 8 * (j + 1)) (3442 + 250 * (j + 1)) Q (F0 m 1173 ls [])
theorem sw_13 {x : Int32} (h : ¬ (x.toInt < 0 ∨ 13 < x.toInt)) : x = 0 ∨ x = 1 ∨ x = 2 ∨ x = 3 ∨ x = 4 ∨ x = 5 ∨ x = 6 ∨ x = 7 ∨ x = 8 ∨ x = 9 ∨ x = 10 ∨ x = 11 ∨ x = 12 ∨ x = 13 := by
  obtain ⟨k, hk, e⟩ : ∃ k : Nat, k < 14 ∧ x.toInt = (k : Int) := ⟨x.toInt.toNat, by omega, by omega⟩
  have := sw_k e (by omega)
  subst this
  match k, hk with
  | 0, _ => exact .inl rfl
  | 1, _ => exact .inr (.inl rfl)
  | 2, _ => exact .inr (.inr (.inl rfl))
  | 3, _ => exact .inr (.inr (.inr (.inl rfl)))
  | 4, _ => exact .inr (.inr (.inr (.inr (.inl rfl))))
  | 5, _ => exact .inr (.inr (.inr (.inr (.inr (.inl rfl)))))
  | 6, _ => exact .inr (.inr (.inr (.inr (.inr (.inr (.inl rfl))))))
  | 7, _ => exact .inr (.inr (.inr (.inr (.inr (.inr (.inr (.inl rfl)))))))
  | 8, _ => exact .inr (.inr (.inr (.inr (.inr (.inr (.inr (.inr (.inl rfl))))))))
  | 9, _ => exact .inr (.inr (.inr (.inr (.inr (.inr (.inr (.inr (.inr (.inl rfl)))))))))
  | 10, _ => exact .inr (.inr (.inr (.inr (.inr (.inr (.inr (.inr (.inr (.inr (.inl rfl))))))))))
  | 11, _ => exact .inr (.inr (.inr (.inr (.inr (.inr (.inr (.inr (.inr (.inr (.inr (.inl rfl)))))))))))
  | 12, _ => exact .inr (.inr (.inr (.inr (.inr (.inr (.inr (.inr (.inr (.inr (.inr (.inr (.inl rfl))))))))))))
  | 13, _ => exact .inr (.inr (.inr (.inr (.inr (.inr (.inr (.inr (.inr (.inr (.inr (.inr (.inr (rfl)))))))))))))
end LAWB
