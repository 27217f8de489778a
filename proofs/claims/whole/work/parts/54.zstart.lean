section ZSTART
theorem TB1 {w : Cond} (i : Nat) (h : tables_1_1[i]? = some w) : w ∈ lw_tbl := List.mem_append_right _ (List.mem_append_left _ (List.mem_of_getElem? h))
theorem TB2 {w : Cond} (i : Nat) (h : tables_1_2[i]? = some w) : w ∈ lw_tbl := List.mem_append_right _ (List.mem_append_right _ (List.mem_append_left _ (List.mem_of_getElem? h)))
theorem TB3 {w : Cond} (i : Nat) (h : tables_1_3[i]? = some w) : w ∈ lw_tbl := List.mem_append_right _ (List.mem_append_right _ (List.mem_append_right _ (List.mem_append_left _ (List.mem_of_getElem? h))))
theorem TB4 {w : Cond} (i : Nat) (h : tables_1_4[i]? = some w) : w ∈ lw_tbl := List.mem_append_right _ (List.mem_append_right _ (List.mem_append_right _ (List.mem_append_right _ (List.mem_of_getElem? h))))
theorem WS_t {w : Cond} (h : w ∈ WS) : w ∈ lw_tbl := (List.mem_filter.mp h).1
theorem eqi {args : Array Value} {s : State} {t : Term} {z : Int32} (h : (Cond.eq t (.int z)).before args s = true) : t.eval args s none [] s = some (.int z) := by
  cases hv : t.eval args s none [] s with
  | none => simp [Cond.before, Cond.holds, Cond.value, hv] at h
  | some w =>
    have hz : (Term.int z).eval args s none [] s = some (.int z) := rfl
    simp only [Cond.before, Cond.holds, Cond.value, hv, hz] at h
    cases w <;> simp_all
variable {s : State} {b : Nat}
theorem z_arr {args : Array Value} {ty : FieldType} (h : (Cond.arrayClass ty).before args s = true) : ∃ cA : ClassId, ArrOfT s cA ty ∧ s.vm.findClass ("[" ++ ty.toString) = some cA := by
  obtain ⟨cA, kA, comp, h1, h2, h3⟩ := Cond.arrayClass_spec h
  exact ⟨cA, fun n z => ⟨(fun k h => by cases h), kA, h2, comp, h3⟩, h1⟩
theorem z_str {k : Nat} {tx : String} (hts : ∀ w ∈ lw_tbl, w.before #[Value.ref b] s = true) (h : Cond.stringRef RX2 k tx ∈ lw_tbl) : ∃ sa : Nat, vk_R RX2 k tx sa s := by
  obtain ⟨c0, k0, hc, -⟩ := Cond.instantiable_spec (hts _ (WS_t kt_X2))
  obtain ⟨k1, cf, i, a, -, -, -, -, -, h2⟩ := Cond.stringRef_spec hc (hts _ h)
  exact ⟨a, vk_R.of (hts _ h) h2⟩
set_option maxHeartbeats 4000000 in
set_option maxRecDepth 100000 in
theorem z_K (htsW : ∀ w ∈ WS, w.before #[] s = true) (hao : (Cond.arrayOver (.object "java/lang/Object")).before #[] s = true) : ∃ G : GT, va_K G.1 classes (tys G) s := by
  obtain ⟨c0, i0, hK0⟩ := u_known (C := RX0) (T := TX0) (N := 10) (n := 10) htsW inW_X0 (htsW _ kt_X0)
  obtain ⟨c1, i1, hK1⟩ := u_known (C := RX1) (T := TX1) (N := 2) (n := 2) htsW inW_X1 (htsW _ kt_X1)
  obtain ⟨c2, i2, hK2⟩ := u_known (C := RX2) (T := TX2) (N := 16) (n := 16) htsW inW_X2 (htsW _ kt_X2)
  obtain ⟨c3, i3, hK3⟩ := u_known (C := RX3) (T := TX3) (N := 24) (n := 24) htsW inW_X3 (htsW _ kt_X3)
  obtain ⟨c4, i4, hK4⟩ := u_known (C := RJx4a65c) (T := TJx4a65c) (N := 3) (n := 3) htsW inW_Jx4a65c (htsW _ kt_Jx4a65c)
  obtain ⟨a0, hA0, hF0⟩ := z_arr (htsW _ ka_int)
  obtain ⟨a1, hA1, hF1⟩ := z_arr (htsW _ ka_double)
  obtain ⟨a2, hA2, hF2⟩ := z_arr (htsW _ ka_boolean)
  obtain ⟨comp, a3, k3, g1, -, g2, g3, g4⟩ := Cond.arrayOver_spec hao
  obtain ⟨a4, hA4, hF4⟩ := z_arr (htsW _ ka_long)
  refine ⟨((fun k => match k with | 0 => c0 | 1 => c1 | 2 => c2 | 3 => c3 | _ => c4, fun k => match k with | 0 => i0 | 1 => i1 | 2 => i2 | 3 => i3 | _ => i4), fun k => match k with | 0 => a0 | 1 => a1 | 2 => a2 | 3 => a3 | _ => a4), ?_, ?_⟩
  · intro k q hq
    match k, hq with
    | 0, hq => cases hq; exact hK0
    | 1, hq => cases hq; exact hK1
    | 2, hq => cases hq; exact hK2
    | 3, hq => cases hq; exact hK3
    | 4, hq => cases hq; exact hK4
    | k + 5, hq => simp [classes] at hq
  · intro k q hq
    match k, hq with
    | 0, hq => cases hq; exact ⟨hA0, hF0⟩
    | 1, hq => cases hq; exact ⟨hA1, hF1⟩
    | 2, hq => cases hq; exact ⟨hA2, hF2⟩
    | 3, hq => cases hq; exact ⟨fun N z => ⟨(fun k h => by cases h), k3, g2, comp, g3⟩, k3, comp, g2, g3, g1, g4⟩
    | 4, hq => cases hq; exact ⟨hA4, hF4⟩
    | k + 5, hq => simp [tys] at hq
set_option maxHeartbeats 4000000 in
set_option maxRecDepth 100000 in
theorem z_OK (hts : ∀ w ∈ lw_tbl, w.before #[Value.ref b] s = true) : ∃ G : GT, ZOK G s := by
  have htsW : ∀ w ∈ WS, w.before #[] s = true := fun w hw => word_at (State.WarmedH.refl s) (good_of_word (WS_good hw)) (hts w (WS_t hw))
  obtain ⟨G, hK⟩ := z_K htsW (va_AO.of (hts _ (TB2 88 rfl)))
  exact ⟨G, htsW, hK, va_Nw.of rfl (hts _ (TB2 209 rfl)), va_Nw.of rfl (hts _ (TB2 214 rfl)), va_Nw.of rfl (hts _ (TB1 56 rfl)), va_Nw.of rfl (hts _ (TB4 136 rfl))⟩
set_option maxHeartbeats 4000000 in
set_option maxRecDepth 100000 in
theorem z_O2 {l : Launch} (hl : l.stackTraces = false) (hts : ∀ w ∈ lw_tbl, w.before #[Value.ref b] s = true) (hgv : (Jvm.Cond.and given_1 narrow_1).before #[Value.ref b] s = true) : ∃ E0 : Nat, ZO2 l E0 s := by
  have hs := flat_of_before _ hgv
  have hA : ∀ a : Nat, a < s.heap.size → ¬ (fun q => s.heap.size ≤ q) a := fun a h => Nat.not_le.mpr h
  have q1 : (Cond.arrayOf (.static "java/util/ArrayList" "DEFAULTCAPACITY_EMPTY_ELEMENTDATA" "[Ljava/lang/Object;") (.object "java/lang/Object")).before #[Value.ref b] s = true := hs _ (by decide +kernel)
  have q2 : (Cond.eq (.length (.static "java/util/ArrayList" "DEFAULTCAPACITY_EMPTY_ELEMENTDATA" "[Ljava/lang/Object;")) (.int 0)).before #[Value.ref b] s = true := hs _ (by decide +kernel)
  have q3 : (Cond.isRef (.static Bundle.tN "UNASSIGNED_STACK" Bundle.steD)).before #[Value.ref b] s = true := hs _ (by decide +kernel)
  have q4 : (Cond.isRef (.static Bundle.tN "SUPPRESSED_SENTINEL" Bundle.listD)).before #[Value.ref b] s = true := hs _ (by decide +kernel)
  have q5 : (Cond.not (.castable xUOE xIAE)).before #[Value.ref b] s = true := hs _ (by decide +kernel)
  have q6 : (Cond.not (.castable xIAE xIOB)).before #[Value.ref b] s = true := hs _ (by decide +kernel)
  have q7 : (Cond.isRef (.mirror "[Ljava/lang/Object;")).before #[Value.ref b] s = true := hs _ (by decide +kernel)
  obtain ⟨E0, e0, hT⟩ := va_Tof (N := 0) (f := fun _ => .null) (A := fun q => s.heap.size ≤ q) (by decide) q1 (eqi q2) (fun j hj => absurd hj (Nat.not_lt_zero j)) hA
  refine ⟨E0, hl, ⟨va_Nw.of rfl (hts _ (TB1 140 rfl)), va_Nw.of rfl (hts _ (TB1 221 rfl)), va_Nw.of rfl (hts _ (TB2 116 rfl)), va_Nw.of rfl (hts _ (TB4 143 rfl))⟩, ?_, vx_Zqof (hts _ (TB1 165 rfl)) (hts _ (WS_t ki_java_lang_Throwable)) q3 hA, vx_Zqof (hts _ (TB1 167 rfl)) (hts _ (WS_t ki_java_lang_Throwable)) q4 hA, va_Zof (hts _ (TB1 41 rfl)) (hts _ (WS_t ki_Jx4a65c)) e0 hA, hT, va_AO.of (hts _ (TB2 88 rfl)), va_Mi.of q7, va_Dc.of (hts _ (TB4 139 rfl)), ⟨va_Nc.of q5, va_Nc.of q6⟩, ?_⟩
  · exact List.forall_mem_cons.mpr ⟨z_str hts (TB1 179 rfl), List.forall_mem_cons.mpr ⟨z_str hts (TB1 206 rfl), List.forall_mem_cons.mpr ⟨z_str hts (TB1 210 rfl), List.forall_mem_cons.mpr ⟨z_str hts (TB1 214 rfl), List.forall_mem_cons.mpr ⟨z_str hts (TB1 228 rfl), List.forall_mem_cons.mpr ⟨z_str hts (TB2 105 rfl), List.forall_mem_cons.mpr ⟨z_str hts (TB2 123 rfl), List.forall_mem_cons.mpr ⟨z_str hts (TB2 130 rfl), List.forall_mem_cons.mpr ⟨z_str hts (TB2 141 rfl), List.forall_mem_cons.mpr ⟨z_str hts (TB2 149 rfl), List.forall_mem_cons.mpr ⟨z_str hts (TB2 157 rfl), List.forall_mem_cons.mpr ⟨z_str hts (TB3 82 rfl), List.forall_mem_cons.mpr ⟨z_str hts (TB3 97 rfl), List.forall_mem_cons.mpr ⟨z_str hts (TB3 105 rfl), List.forall_mem_cons.mpr ⟨z_str hts (TB3 124 rfl), List.forall_mem_cons.mpr ⟨z_str hts (TB3 125 rfl), List.forall_mem_cons.mpr ⟨z_str hts (TB3 137 rfl), fun _ h => absurd h List.not_mem_nil⟩⟩⟩⟩⟩⟩⟩⟩⟩⟩⟩⟩⟩⟩⟩⟩⟩
  · exact List.forall_mem_cons.mpr ⟨va_Nw.of rfl (hts _ (TB1 142 rfl)), List.forall_mem_cons.mpr ⟨va_Nw.of rfl (hts _ (TB1 144 rfl)), List.forall_mem_cons.mpr ⟨va_Nw.of rfl (hts _ (TB1 146 rfl)), fun _ h => absurd h List.not_mem_nil⟩⟩⟩
theorem z_flags {l : Launch} (h : l.flags = flags0) : l.stackTraces = false := by
  unfold Launch.stackTraces
  rw [h]
  decide +kernel
end ZSTART
