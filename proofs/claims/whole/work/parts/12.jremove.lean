/-! what else is needed of the start: exceptions, list growth -/
theorem ksf_mod : (Cond.sameField "java/util/ArrayList" "java/util/AbstractList" "modCount" "I") ∈ WS := WS_m1 (i := 46) rfl rfl
theorem knat_arraycopy : (Cond.native ({ cls := "java/lang/System", name := "arraycopy", desc := "(Ljava/lang/Object;ILjava/lang/Object;II)V" } : MethodName)) ∈ WS := WS_m2 (i := 95) rfl rfl
theorem kstat_arraycopy : (Cond.static ({ cls := "java/lang/System", name := "arraycopy", desc := "(Ljava/lang/Object;ILjava/lang/Object;II)V" } : MethodName)) ∈ WS := WS_m2 (i := 94) rfl rfl
def xIAE : String := "java/lang/IllegalArgumentException"
def xUOE : String := "java/lang/UnsupportedOperationException"
def xIOB : String := "java/lang/IndexOutOfBoundsException"
def strW : List (Nat × String) := [(82, "wagons are 1 to 20"), (87, "tons are 1 to 90"), (93, "resistance is 0 to 16"), (99, "tracks are 0 to 7"), (107, "there are 60 cuts"), (122, "the push is 0 to 4"), (126, "retarders are 0 to 8"), (129, "a wish is 0 to 20"), (134, "points are 0 to 6"), (136, "free metres are 0 to 800"), (138, "ticks are 1 to 400"), (206, "there is no such cut"), (187, "of a cut 0 to 3 is told"), (192, "of a point 0 to 2 is told"), (197, "no such event is kept"), (199, "of an event 0 to 3 is told"), (204, "about the yard 0 to 6 is told")]
def declW : List Cond := [.declares ⟨"java/lang/RuntimeException", "<init>", "(Ljava/lang/String;)V"⟩, .declares ⟨"java/lang/Exception", "<init>", "(Ljava/lang/String;)V"⟩, .declares ⟨"java/lang/Throwable", "<init>", "(Ljava/lang/String;)V"⟩]
def ZO2 (l : Launch) (E0 : Nat) (Z : State) : Prop := l.stackTraces = false ∧ (va_Nw (.castable xIAE xIAE) Z ∧ va_Nw (.castable xUOE xUOE) Z ∧ va_Nw (.castable xIOB xIOB) Z ∧ va_Nw (.castable RX0 "java/lang/Object") Z) ∧ (∀ q ∈ strW, ∃ sa : Nat, vk_R RX2 q.1 q.2 sa Z) ∧
  vx_Zq Bundle.tN "UNASSIGNED_STACK" Bundle.steD (fun q => Z.heap.size ≤ q) Z Z.heap ∧ vx_Zq Bundle.tN "SUPPRESSED_SENTINEL" Bundle.listD (fun q => Z.heap.size ≤ q) Z Z.heap ∧
  va_Z "java/util/ArrayList" "DEFAULTCAPACITY_EMPTY_ELEMENTDATA" "[Ljava/lang/Object;" (.ref E0) (fun q => Z.heap.size ≤ q) Z Z.heap ∧ va_T (.object "java/lang/Object") E0 0 (fun _ => .null) (fun q => Z.heap.size ≤ q) Z Z.heap ∧
  va_AO "java/lang/Object" Z ∧ (∃ mi : Nat, va_Mi "[Ljava/lang/Object;" mi Z) ∧ va_Dc Z ∧ (va_Nc xUOE xIAE Z ∧ va_Nc xIAE xIOB Z) ∧ (∀ q ∈ declW, va_Nw q Z)
theorem cut_obj {l : Launch} {E0 : Nat} {Z U : State} (h2 : ZO2 l E0 Z) (hW : Z.WarmedH U.vm) (comp c0 : ClassId) (h3 : U.vm.findClass "java/lang/Object" = some comp) (h4 : U.vm.findClass RX0 = some c0) : U.vm.assignable c0 comp = true := by
  have h5 := va_Nw.warmC hW h2.2.1.2.2.2
  obtain ⟨a, b, e1, e2, e3⟩ := Cond.castable_spec h5
  cases Option.some.inj (e1.symm.trans h4)
  cases Option.some.inj (e2.symm.trans h3)
  exact e3
section JREM
theorem set4 {α : Type} (w : List α) {k j : Nat} (h : k ≠ j) (A B C D : α) : (((w.set k A).set j B).set k C).set j D = (w.set k C).set j D := by
  apply List.ext_getElem?
  intro i
  simp only [List.getElem?_set, List.length_set]
  by_cases h1 : j = i
  · subst h1; simp
  · by_cases h2 : k = i
    · subst h2; simp [h1]
    · simp [h1, h2]
theorem set3 {α : Type} (w : List α) {k j : Nat} (h : k ≠ j) (A C D : α) : ((w.set k A).set k C).set j D = (w.set k C).set j D := by
  rw [List.set_set]
theorem gset_ne {α : Type} {w : List α} {k j : Nat} (h : k ≠ j) {A x : α} (hx : w[j]? = some x) : (w.set k A)[j]? = some x := by rw [List.getElem?_set_ne h]; exact hx
theorem gset_self {α : Type} {w : List α} {k : Nat} {A x : α} (hx : w[k]? = some x) : (w.set k A)[k]? = some A := List.getElem?_set_self (List.getElem?_eq_some_iff.mp hx).1
variable {l : Launch} {G : GT} {Z : State}
/-- what is left of a list's places when place i of c is taken out -/
def lrem (f : Nat → Option Nat) (i c : Int32) : Nat → Option Nat := va_up (if i < c - 1 then va_cpy f f (i + 1).toNatClampNeg i.toNatClampNeg (c - 1 - i).toNatClampNeg else f) (c - 1).toNatClampNeg none
set_option maxHeartbeats 4000000 in
theorem c_al_fastRemove {w : va_W} {k j a ea n : Nat} {md sz i : Int32} {f : Nat → Option Nat} {E0 : Nat} (hZ : ZOK G Z) (hkj : k ≠ j) (hk : w[k]? = some (a, .inr (4, [.int md, .ref ea, .int sz]))) (hj : w[j]? = some (ea, .inl (G.2 3, n, .inr (.inr (.inr (.inr f))))))
    (h1 : i < sz - 1 → ¬ (i + 1) < 0 ∧ ¬ i < 0 ∧ ¬ (sz - 1 - i) < 0 ∧ (i + 1).toNatClampNeg + (sz - 1 - i).toNatClampNeg ≤ n ∧ i.toNatClampNeg + (sz - 1 - i).toNatClampNeg ≤ n) (h2 : vp_in (sz - 1) n) (hel : ∀ q y : Nat, f q = some y → ∃ (k' : Nat) (fs : List Value), w[k']? = some (y, .inr (0, fs)) ∧ k' ≠ k ∧ k' ≠ j) (h9 : ZO2 l E0 Z) :
    CM l G Z yJx4a65c_fastRemove_b59b0 cJx4a65c_fastRemove_b59b0 4 none (rmz 1 40) [.ref a, .ref ea, .int i] w (fun v w' => v = none ∧ w' = (w.set k (a, .inr (4, [.int (md + 1), .ref ea, .int (sz - 1)]))).set j (ea, .inl (G.2 3, n, .inr (.inr (.inr (.inr (lrem f i sz))))))) := by
  refine CM_ofW hZ (by decide) (lb rfl) (fun p e s m below meth c ls C hp hl hnm => ?_)
  have C : Cx G Z _ p s m _ meth c RJx4a65c cJx4a65c_fastRemove_b59b0 4 none := C
  have hl : lv_has ls 4 [(0, .ref a), (1, .ref ea), (2, .int i)] := hl
  have hx := C.hx
  have hb := C.hb
  refine lv_aload_n hx hb dJx4a65c_fastRemove_b59b0_0 rfl (lv_at hl 0 rfl) ?_
  refine lv_dup hx hb dJx4a65c_fastRemove_b59b0_1 rfl ?_
  refine va_get (D := G.1) (ci := 4) (v := .int md) (C := RJx4a65c) (T := TJx4a65c) (N := 3) hx hb C.hts inW_Jx4a65c C.hown C.hK hp.1 k hk rfl 0 (by decide) (C.hts _ kf_Jx4a65c_63) (fun x9 h9 => u_same (C.hts _ ksf_mod) x9 h9) rfl dJx4a65c_fastRemove_b59b0_2 ?_
  refine lv_iconst (v := 1) hx hb dJx4a65c_fastRemove_b59b0_5 (by decide) ?_
  refine lv_iadd hx hb dJx4a65c_fastRemove_b59b0_6 ?_
  refine va_put (D := G.1) (ci := 4) (v := .int (md + 1)) (ty := .int) (C := RJx4a65c) (T := TJx4a65c) (N := 3) hx hb C.hts inW_Jx4a65c tyJx4a65c tyJx4a65c_ok nmJx4a65c C.hown C.hK hp.1 hp.2.1 hp.2.2 k hk rfl 0 (by decide) (C.hts _ kf_Jx4a65c_63) (fun x9 h9 => u_same (C.hts _ ksf_mod) x9 h9) rfl (by decide +kernel) rfl rfl (lb rfl) dJx4a65c_fastRemove_b59b0_7 (fun H locs a1 a2 a3 => ?_)
  have hp : Hp G w s H locs (w.set k (a, .inr (4, [.int (md + 1), .ref ea, .int sz]))) := ⟨a1, a2, a3⟩
  have hk1 := gset_self (A := ((a, .inr (4, [.int (md + 1), .ref ea, .int sz])) : Nat × va_E)) hk
  have hj1 := gset_ne (A := ((a, .inr (4, [.int (md + 1), .ref ea, .int sz])) : Nat × va_E)) hkj hj
  refine lv_aload_n hx hb dJx4a65c_fastRemove_b59b0_10 rfl (lv_at hl 0 rfl) ?_
  refine r_get (q0 := k) (ci := 4) 2 C hp hk1 rfl inW_Jx4a65c (by decide) kf_Jx4a65c_48 rfl dJx4a65c_fastRemove_b59b0_11 ?_
  refine lv_iconst (v := 1) hx hb dJx4a65c_fastRemove_b59b0_14 (by decide) ?_
  refine lv_isub hx hb dJx4a65c_fastRemove_b59b0_15 ?_
  refine lv_dup hx hb dJx4a65c_fastRemove_b59b0_16 rfl ?_
  refine lv_istore_n (lv' := [(3, .int (sz - 1)), (0, .ref a), (1, .ref ea), (2, .int i)]) hx hb dJx4a65c_fastRemove_b59b0_17 rfl hl (by decide) rfl (fun ls hl => ?_)
  refine lv_iload_n hx hb dJx4a65c_fastRemove_b59b0_18 rfl (lv_at hl 3 rfl) ?_
  have tail : ∀ (H : Heap) (locs : List Loc) (w2 : va_W) (f2 : Nat → Option Nat), Hp G w s H locs w2 → w2[k]? = some (a, .inr (4, [.int (md + 1), .ref ea, .int sz])) → w2[j]? = some (ea, .inl (G.2 3, n, .inr (.inr (.inr (.inr f2))))) → (w2.set k (a, .inr (4, [.int (md + 1), .ref ea, .int (sz - 1)]))).set j (ea, .inl (G.2 3, n, .inr (.inr (.inr (.inr (va_up f2 (sz - 1).toNatClampNeg none)))))) = (w.set k (a, .inr (4, [.int (md + 1), .ref ea, .int (sz - 1)]))).set j (ea, .inl (G.2 3, n, .inr (.inr (.inr (.inr (lrem f i sz)))))) → W p l e (rmz 1 40) s m #[Value.ref a, Value.ref ea, Value.int i] below meth c H locs 0 0 (MQ below (QM G Z w s.heap.size (fun v w' => v = none ∧ w' = (w.set k (a, .inr (4, [.int (md + 1), .ref ea, .int (sz - 1)]))).set j (ea, .inl (G.2 3, n, .inr (.inr (.inr (.inr (lrem f i sz)))))))) #[Value.ref a, Value.ref ea, Value.int i] s (rmz 1 40).cells (rmz 1 40).slots (va_A w s.heap.size)) (F0 m 34 ls []) := by
    intro H locs w2 f2 hp hk2 hj2 heq
    refine lv_aload_n hx hb dJx4a65c_fastRemove_b59b0_34 rfl (lv_at hl 2 rfl) ?_
    refine lv_aload_n hx hb dJx4a65c_fastRemove_b59b0_35 rfl (lv_at hl 1 rfl) ?_
    refine lv_iload_n hx hb dJx4a65c_fastRemove_b59b0_36 rfl (lv_at hl 0 rfl) ?_
    refine lv_dup_x1 hx hb dJx4a65c_fastRemove_b59b0_37 rfl rfl ?_
    refine r_put (q0 := k) (ci := 4) (ty := .int) 2 C hp hk2 rfl inW_Jx4a65c tyJx4a65c_ok nmJx4a65c (by decide) kf_Jx4a65c_48 rfl (by decide +kernel) rfl rfl (lb rfl) dJx4a65c_fastRemove_b59b0_38 (fun H locs hp => ?_)
    have hp : Hp G w s H locs (w2.set k (a, .inr (4, [.int (md + 1), .ref ea, .int (sz - 1)]))) := hp
    have hj3 := gset_ne (A := ((a, .inr (4, [.int (md + 1), .ref ea, .int (sz - 1)])) : Nat × va_E)) hkj hj2
    refine lv_null hx hb dJx4a65c_fastRemove_b59b0_41 ?_
    refine va_astqN hx hb C.hK hp.1 hp.2.1 hp.2.2 j 3 hj3 rfl h2 dJx4a65c_fastRemove_b59b0_42 (fun H locs a1 a2 a3 => ?_)
    rw [heq] at a1 a2
    exact r_vret C ⟨a1, a2, a3⟩ dJx4a65c_fastRemove_b59b0_43 ⟨rfl, rfl⟩
  refine lv_icmp_le (tgt := 34) hx hb dJx4a65c_fastRemove_b59b0_19 (by decide) (fun q => ?_) (fun q => ?_)
  · refine tail H locs _ f hp hk1 hj1 ?_
    rw [set3 w hkj]
    have e1 : lrem f i sz = va_up f (sz - 1).toNatClampNeg none := by
      unfold lrem
      rw [if_neg (Int32.not_lt.mpr q)]
    rw [e1]
  · have q1 : i < sz - 1 := Int32.not_le.mp q
    obtain ⟨g1, g2, g3, g4, g5⟩ := h1 q1
    refine lv_aload_n hx hb dJx4a65c_fastRemove_b59b0_22 rfl (lv_at hl 2 rfl) ?_
    refine lv_iload_n hx hb dJx4a65c_fastRemove_b59b0_23 rfl (lv_at hl 3 rfl) ?_
    refine lv_iconst (v := 1) hx hb dJx4a65c_fastRemove_b59b0_24 (by decide) ?_
    refine lv_iadd hx hb dJx4a65c_fastRemove_b59b0_25 ?_
    refine lv_aload_n hx hb dJx4a65c_fastRemove_b59b0_26 rfl (lv_at hl 2 rfl) ?_
    refine lv_iload_n hx hb dJx4a65c_fastRemove_b59b0_27 rfl (lv_at hl 3 rfl) ?_
    refine lv_iload_n hx hb dJx4a65c_fastRemove_b59b0_28 rfl (lv_at hl 0 rfl) ?_
    refine lv_iload_n hx hb dJx4a65c_fastRemove_b59b0_29 rfl (lv_at hl 3 rfl) ?_
    refine lv_isub hx hb dJx4a65c_fastRemove_b59b0_30 ?_
    refine va_copyq hx hb (C.hml.trans hl.1.symm) C.hown (C.hts _ km_Jx4a65c_112) (C.hts _ knat_arraycopy) (C.hts _ kstat_arraycopy) (C.hts _ ki_J10) C.hK hp.1 hp.2.1 hp.2.2 j j 3 3 (C := RX0) hj1 hj1 rfl rfl g1 g2 g3 g4 g5 ?_ (cut_obj h9 C.hW) (lb rfl) (lb rfl) dJx4a65c_fastRemove_b59b0_31 (fun H locs a1 a2 a3 => ?_)
    · intro i9 _ y hy
      obtain ⟨k', fs, hk', hne, -⟩ := hel _ y hy
      exact va_recv C.hK hp.1 (q := (RX0, TX0, 10)) rfl (gset_ne (Ne.symm hne) hk')
    · refine tail H locs _ _ ⟨a1, a2, a3⟩ (gset_ne (Ne.symm hkj) hk1) (gset_self hj1) ?_
      rw [set4 w hkj]
      have e1 : lrem f i sz = va_up (va_cpy f f (i + 1).toNatClampNeg i.toNatClampNeg (sz - 1 - i).toNatClampNeg) (sz - 1).toNatClampNeg none := by
        unfold lrem
        rw [if_pos q1]
      rw [e1]
theorem mf_Jx4a65c_fastRemove_b59b0 : MFv yJx4a65c_fastRemove_b59b0 cJx4a65c_fastRemove_b59b0 4 none 2 := ⟨kc_Jx4a65c_fastRemove_b59b0, kn_Jx4a65c_fastRemove_b59b0, kv_Jx4a65c_fastRemove_b59b0, ki_Jx4a65c, by decide +kernel⟩
set_option maxHeartbeats 4000000 in
theorem c_al_remove {w : va_W} {k j a ea n y : Nat} {md sz i : Int32} {f : Nat → Option Nat} {E0 : Nat} (hZ : ZOK G Z) (hkj : k ≠ j) (hk : w[k]? = some (a, .inr (4, [.int md, .ref ea, .int sz]))) (hj : w[j]? = some (ea, .inl (G.2 3, n, .inr (.inr (.inr (.inr f))))))
    (h0 : ¬ i < 0) (h01 : i < sz) (hin : vp_in i n) (hf : f i.toNatClampNeg = some y)
    (h1 : i < sz - 1 → ¬ (i + 1) < 0 ∧ ¬ i < 0 ∧ ¬ (sz - 1 - i) < 0 ∧ (i + 1).toNatClampNeg + (sz - 1 - i).toNatClampNeg ≤ n ∧ i.toNatClampNeg + (sz - 1 - i).toNatClampNeg ≤ n) (h2 : vp_in (sz - 1) n) (hel : ∀ q y : Nat, f q = some y → ∃ (k' : Nat) (fs : List Value), w[k']? = some (y, .inr (0, fs)) ∧ k' ≠ k ∧ k' ≠ j) (h9 : ZO2 l E0 Z) :
    CM l G Z yJx4a65c_remove_915e3 cJx4a65c_remove_915e3 4 (some (.object "java/lang/Object")) (rmz 2 70) [.ref a, .int i] w (fun v w' => v = some (.ref y) ∧ w' = (w.set k (a, .inr (4, [.int (md + 1), .ref ea, .int (sz - 1)]))).set j (ea, .inl (G.2 3, n, .inr (.inr (.inr (.inr (lrem f i sz))))))) := by
  refine CM_ofW hZ (by decide) (lb rfl) (fun p e s m below meth c ls C hp hl hnm => ?_)
  have C : Cx G Z _ p s m _ meth c RJx4a65c cJx4a65c_remove_915e3 4 (some (.object "java/lang/Object")) := C
  have hl : lv_has ls 4 [(0, .ref a), (1, .int i)] := hl
  have hx := C.hx
  have hb := C.hb
  refine lv_iload_n hx hb dJx4a65c_remove_915e3_0 rfl (lv_at hl 1 rfl) ?_
  refine lv_aload_n hx hb dJx4a65c_remove_915e3_1 rfl (lv_at hl 0 rfl) ?_
  refine r_get (q0 := k) (ci := 4) 2 C hp hk rfl inW_Jx4a65c (by decide) kf_Jx4a65c_48 rfl dJx4a65c_remove_915e3_2 ?_
  refine r_callS (rest := []) (c_J15_checkIndex_7cf53 C.hZ (wp_ci (post := fun _ => True) h0 h01 trivial)) C hp mf_J15_checkIndex_7cf53 km_Jx4a65c_118 hl.1 dJx4a65c_remove_915e3_5 ⟨lb rfl, lb rfl, lb rfl, lb rfl⟩ rfl rfl (lb rfl) (fun v w1 H locs hv hp => ?_)
  obtain ⟨r, rfl, rfl, -⟩ := hv
  refine W.eq (g2 := F0 m 8 ls [.int r]) rfl ?_
  refine lv_pop hx hb dJx4a65c_remove_915e3_8 rfl ?_
  refine lv_aload_n hx hb dJx4a65c_remove_915e3_9 rfl (lv_at hl 0 rfl) ?_
  refine r_get (q0 := k) (ci := 4) 1 C hp hk rfl inW_Jx4a65c (by decide) kf_Jx4a65c_9 rfl dJx4a65c_remove_915e3_10 ?_
  refine lv_astore_n (lv' := [(2, .ref ea), (0, .ref a), (1, .int i)]) hx hb dJx4a65c_remove_915e3_13 rfl hl (by decide) rfl (fun ls hl => ?_)
  refine lv_aload_n hx hb dJx4a65c_remove_915e3_14 rfl (lv_at hl 0 rfl) ?_
  refine lv_iload_n hx hb dJx4a65c_remove_915e3_15 rfl (lv_at hl 2 rfl) ?_
  refine va_aldq hx hb C.hK hp.1 j 3 hj rfl hin dJx4a65c_remove_915e3_16 ?_
  rw [hf]
  refine lv_astore_n (x := y) (lv' := [(3, .ref y), (2, .ref ea), (0, .ref a), (1, .int i)]) hx hb dJx4a65c_remove_915e3_17 rfl hl (by decide) rfl (fun ls hl => ?_)
  refine lv_aload_n hx hb dJx4a65c_remove_915e3_18 rfl (lv_at hl 2 rfl) ?_
  refine lv_aload_n hx hb dJx4a65c_remove_915e3_19 rfl (lv_at hl 1 rfl) ?_
  refine lv_iload_n hx hb dJx4a65c_remove_915e3_20 rfl (lv_at hl 3 rfl) ?_
  refine r_callV (q0 := k) (ci := 4) (rest := []) (c_al_fastRemove C.hZ hkj hk hj h1 h2 hel h9) C hp mf_Jx4a65c_fastRemove_b59b0 km_Jx4a65c_144 hl.1 dJx4a65c_remove_915e3_21 hk rfl ⟨lb rfl, lb rfl, lb rfl, lb rfl⟩ rfl rfl (lb rfl) (fun v w1 H locs hv hp => ?_)
  obtain ⟨rfl, rfl⟩ := hv
  refine W.eq (g2 := F0 m 24 ls []) rfl ?_
  refine lv_aload_n hx hb dJx4a65c_remove_915e3_24 rfl (lv_at hl 0 rfl) ?_
  exact r_aret C hp (Or.inl ⟨_, rfl⟩) (Or.inr ⟨_, rfl⟩) dJx4a65c_remove_915e3_25 ⟨rfl, rfl⟩
theorem mf_Jx4a65c_remove_915e3 : MFv yJx4a65c_remove_915e3 cJx4a65c_remove_915e3 4 (some (.object "java/lang/Object")) 1 := ⟨kc_Jx4a65c_remove_915e3, kn_Jx4a65c_remove_915e3, kv_Jx4a65c_remove_915e3, ki_Jx4a65c, by decide +kernel⟩
/-- the list of rolling cuts without its place i -/
def Hremove (S : HS) (i : Int32) : HS := match H_ra S with
  | none => S
  | some q => Hs_ra (Hs_rs (Hs_rm S (H_rm S + 1)) (H_rs S - 1)) (some (q.1, q.2.1, lrem q.2.2 i (H_rs S)))
/-- what removing asks of a list: c of its n places are used, place i is one of them, and all in it are cuts -/
def lrm (ca : Option (Nat × Nat × (Nat → Option Nat))) (L : List Nat) (sz i : Int32) (y : Nat) : Prop := ∃ (a n c i0 : Nat) (f : Nat → Option Nat), ca = some (a, n, f) ∧ sz = nI c ∧ i = nI i0 ∧ i0 < c ∧ c ≤ n ∧ n < 2 ^ 30 ∧ f i0 = some y ∧ ∀ q z : Nat, f q = some z → z ∈ L
theorem wH_raj {G : GT} {E0 : Nat} {ad : Nat → Nat} {S : HS} {a n : Nat} {f : Nat → Option Nat} (hra : H_ra S = some (a, n, f)) : ∃ j : Nat, 12 ≤ j ∧ j < (hX G E0 ad S).length ∧ (wH G E0 ad S)[j]? = some (a, .inl (G.2 3, n, .inr (.inr (.inr (.inr f))))) ∧ ∀ f' : Nat → Option Nat, (wH G E0 ad S).set j (a, .inl (G.2 3, n, .inr (.inr (.inr (.inr f'))))) = wH G E0 ad (Hs_ra S (some (a, n, f'))) := by
  have e1 : ∀ f', hB G E0 ad (Hs_ra S (some (a, n, f'))) = hB G E0 ad S := by
    intro f'
    have e0 : ala E0 (H_ra S) = a := by rw [hra]; rfl
    unfold hB
    rw [e0]
    rfl
  have e2 : ∀ f', wH G E0 ad (Hs_ra S (some (a, n, f'))) = (hB G E0 ad S ++ (alc G (H_ca S) ++ [(a, .inl (G.2 3, n, .inr (.inr (.inr (.inr f')))))])) ++ va_pl (H_L S) (cutE S) := by
    intro f'
    rw [← e1 f']; rfl
  rcases hc : H_ca S with _ | q
  · refine ⟨12, by omega, ?_, ?_, fun f' => ?_⟩
    · unfold hX; rw [hc, hra]; show 12 < 13; omega
    · unfold wH hX; rw [hc, hra]; rfl
    · rw [e2]; unfold wH hX; rw [hc, hra]; rfl
  · refine ⟨13, by omega, ?_, ?_, fun f' => ?_⟩
    · unfold hX; rw [hc, hra]; show 13 < 14; omega
    · unfold wH hX; rw [hc, hra]; rfl
    · rw [e2]; unfold wH hX; rw [hc, hra]; rfl
theorem pool_get {X : va_W} {L : List Nat} {g : Nat → va_E} {a : Nat} (h : a ∈ L) : ∃ k : Nat, X.length ≤ k ∧ (X ++ va_pl L g)[k]? = some (a, g a) := by
  obtain ⟨i, hi⟩ := List.getElem?_of_mem h
  refine ⟨X.length + i, by omega, ?_⟩
  rw [List.getElem?_append_right (by omega), Nat.add_sub_cancel_left]
  unfold va_pl
  rw [List.getElem?_map, hi]
  rfl
set_option maxHeartbeats 4000000 in
theorem c_removeR {E0 : Nat} {ad : Nat → Nat} {S : HS} {i : Int32} {y : Nat} (hZ : ZOK G Z) (h9 : ZO2 l E0 Z) (hg : lrm (H_ra S) (H_L S) (H_rs S) i y) : CM l G Z yJx4a65c_remove_915e3 cJx4a65c_remove_915e3 4 (some (.object "java/lang/Object")) (rmz 2 70) [.ref (ad 2), .int i] (wH G E0 ad S) (fun v w' => v = some (.ref y) ∧ w' = wH G E0 ad (Hremove S i)) := by
  obtain ⟨a, n, c, i0, f, hra, hsz, hi, hic, hcn, hn, hf, hL⟩ := hg
  have hk : (wH G E0 ad S)[4]? = some (ad 2, .inr (4, [.int (H_rm S), .ref (ala E0 (H_ra S)), .int (H_rs S)])) := rfl
  have e0 : ala E0 (H_ra S) = a := by rw [hra]; rfl
  rw [e0] at hk
  have hra1 : H_ra (Hs_rs (Hs_rm S (H_rm S + 1)) (H_rs S - 1)) = some (a, n, f) := hra
  obtain ⟨j, hj1, hj2, hj, hset⟩ := wH_raj (G := G) (E0 := E0) (ad := ad) hra1
  have hw1 : wH G E0 ad (Hs_rs (Hs_rm S (H_rm S + 1)) (H_rs S - 1)) = (wH G E0 ad S).set 4 (ad 2, .inr (4, [.int (H_rm S + 1), .ref a, .int (H_rs S - 1)])) := by
    rw [← e0]; rfl
  have hj0 : (wH G E0 ad S)[j]? = some (a, .inl (G.2 3, n, .inr (.inr (.inr (.inr f))))) := by
    rw [hw1, List.getElem?_set_ne (by omega)] at hj
    exact hj
  have hrem : Hremove S i = Hs_ra (Hs_rs (Hs_rm S (H_rm S + 1)) (H_rs S - 1)) (some (a, n, lrem f i (H_rs S))) := by
    unfold Hremove
    rw [hra]
  rw [hrem, ← hset, hw1]
  have hc1 : 1 ≤ c := by omega
  have es : nI c - 1 = nI (c - 1) := by
    have := pk_sub (a := c) (b := 1) hc1
    exact this
  refine c_al_remove hZ (by omega) hk hj0 ?_ ?_ ?_ ?_ ?_ ?_ ?_ h9
  · rw [hi]; exact nI_pos (by omega)
  · rw [hi, hsz]; exact nI_lt hic (by omega)
  · rw [hi]; exact vp_in_nI (by omega) (by omega)
  · rw [hi, nI_clamp (by omega)]; exact hf
  · rw [hi, hsz, es]
    intro q
    have q1 : i0 < c - 1 := (nI_ltI (by omega) (by omega)).mp q
    rw [nI_1, pk_sub (by omega : i0 ≤ c - 1), nI_clamp (by omega), nI_clamp (by omega), nI_clamp (by omega)]
    exact ⟨nI_pos (by omega), nI_pos (by omega), nI_pos (by omega), by omega, by omega⟩
  · rw [hsz, es]; exact vp_in_nI (by omega) (by omega)
  · intro q z hz
    obtain ⟨k', hk1, hk2⟩ := pool_get (X := hX G E0 ad S) (g := cutE S) (hL q z hz)
    have hjX : j < (hX G E0 ad S).length := hj2
    exact ⟨k', cutF S z, hk2, by omega, by omega⟩
end JREM
