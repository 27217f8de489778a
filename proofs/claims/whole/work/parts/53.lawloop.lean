/-! THE CLAIM OUT OF ONE WALK OF THE LAW'S BODY. Your part is whole_start (and what it stands on); all else here is the same for every law, but numbers. -/
def R_law : String := "HumpYardLaw"
def lw_P (b : Addr) (xs : List Int32) (args : Array Value) (s : State) : Prop := args = #[.ref b] ∧ s.IntsAt b xs ∧ xs.length ≤ 2560 ∧ (Jvm.Cond.and given_1 narrow_1).before args s = true
def lw_Q (_ : Array Value) (s : State) (o : Outcome) (t : State) : Prop := o = .returned (some (.int 1)) ∧ Framed s o t [] 601024 7293034
def lw_Z (below : List Frame) (a : Array Value) (s : State) : State → Prop := fun t => ∃ o, t.status = .running ∧ Ended t below o ∧ lw_Q a s o t
/-- the law's own end, with 1 on the stack, nothing written that was there before, its room as the claim has it -/
theorem lw_ret {p : Program} {l : Launch} {e : Env} {s : State} {m : MethodId} {below : List Frame} {meth : Method} {c : Code} {b : Nat} (hx : p.tables.exec = Jvm.exec) (hb : c.code = code) (hr : meth.sig.returnType = ret) (hlocks : meth.locks = false) {pc : Nat} {H : Heap} {ls : Array Slot} (hdg : decode code pc = .ok (.ireturn, 1)) : W p l e room_1 s m #[Value.ref b] below meth c H [] 601024 7293034 (lw_Z below #[Value.ref b] s) (F0 m pc ls [.int 1]) := by
  intro T hT X
  obtain ⟨fs, hret, hrun, hended, hW, hframe⟩ := X.leave (v := some (.int 1)) (hlocks := hlocks) (fun h => by rw [hr] at h; cases h)
  have hmeth' : T.vm.method? m = some meth := X.method'
  refine ⟨T.setFrames fs, ?_, .returned (some (.int 1)), hrun, hended, rfl, ⟨_, rfl⟩, hW, hframe⟩
  jvm_step X.here [X.here.top, hx, hb, hdg, hmeth', hr, ret, narrow_b1]
  (try refine ⟨rfl, ?_⟩); (try refine ⟨rfl, ?_⟩)
  first | (intro acts; rw [hret _ acts rfl rfl rfl]) | rw [hret _ _ rfl rfl rfl]
  exact Steps.refl _
section LAWL
variable {l : Launch} {G : GT} {p : Program} {e : Env} {s : State} {m : MethodId} {below : List Frame} {meth : Method} {c : Code} {ls : Array Slot} {E0 b L qj qd j : Nat} {ad bm : Nat → Nat} {xs : Nat → Int32} {i : Int32} {fj : Nat → Int64} {fd : Nat → UInt64} {S : HS} {T : MS}
theorem nI_5 (k : Nat) : nI (k + 5) = nI k + 5 := by
  show Int32.ofNat (k + 5) = Int32.ofNat k + 5
  rw [Int32.ofNat_add]
  rfl
theorem lw_in {i : Int32} {j L : Nat} (k : Nat) (ei : i = nI (5 * j)) (hL : L < 2 ^ 31) (h : 5 * j + k < L) : vp_in (i + nI k) L := by
  have e : nI (5 * j + k) = nI (5 * j) + nI k := Int32.ofNat_add _ _
  rw [ei, ← e]
  exact vp_in_nI h hL
theorem lw_gt {i : Int32} {j L : Nat} (ei : i = nI (5 * j)) (hL : L ≤ 2560) (h : L < 5 * j + 5) (hj : j ≤ 513) : Int32.ofNat L - 5 < i := by
  rw [ei, Int32.lt_iff_toInt_lt, nI_toInt (by omega)]
  have e1 : (Int32.ofNat L).toInt = (L : Int) := nI_toInt (n := L) (by omega)
  rw [Int32.toInt_sub, e1, show (5 : Int32).toInt = 5 from by decide]
  rw [Int.bmod_eq_of_le (by omega) (by omega)]
  omega
theorem JI_more {j : Nat} {S : HS} {T : MS} (J : JI j S T) : JI (j + 1) S T := by
  have h := JI_code (c := M_code T) J
  exact h
set_option maxHeartbeats 4000000 in
set_option maxRecDepth 100000 in
/-- THE LAW'S LOOP -/
theorem law_loop (hL : L ≤ 2560) (C : Cx G s [] p s m #[Value.ref b] meth c RL cL_law 10 ret) (h9 : ZO2 l E0 s) (hX : va_X b L xs s s.heap) (hbl : b < s.heap.size) :
    ∀ (n j : Nat), j + n = 513 → ∀ (i : Int32), i = nI (5 * j) → ∀ (S : HS) (T : MS) (fj : Nat → Int64) (fd : Nat → UInt64) (H : Heap) (locs : List Loc) (ls : Array Slot), JI j S T → Hp G [] s H locs (WL G E0 ad bm qj qd fj fd S T) → lv_has ls 10 (LV b (ad 0) (bm 0) qj qd i) → W p l e room_1 s m #[Value.ref b] below meth c H locs (33 + 8 * j) (3442 + 250 * j) (lw_Z below #[Value.ref b] s) (F0 m 28 ls []) := by
  have hx := C.hx
  have hb := C.hb
  have hbA := not_in hbl
  intro n
  induction n with
  | zero =>
    intro j hj i ei S T fj fd H locs ls J hp hl
    refine lv_iload hx hb dL_law_28 (lv_at hl 5 rfl) ?_
    refine lv_aload_n hx hb dL_law_30 rfl (lv_at hl 0 rfl) ?_
    refine va_slen hx hb hX hbl hbA hp.2.2 dL_law_31 ?_
    refine lv_iconst (v := 5) hx hb dL_law_32 (by decide) ?_
    refine lv_isub hx hb dL_law_33 ?_
    refine lv_icmp_gt (tgt := 1179) hx hb dL_law_34 (by decide) (fun q => ?_) (fun q => ?_)
    · refine lv_iconst (v := 1) hx hb dL_law_1179 (by decide) ?_
      refine va_forget (fun q hq => ?_) ?_
      · rcases hp.2.2.2.2 q hq with ⟨k, e, h1⟩ | h1
        · simp at h1
        · exact h1
      refine W.widen (k := 601024) (n := 7293034) (by omega) (by omega) ?_
      exact lw_ret hx hb C.hr C.hlk dL_law_1180
    · exact absurd (lw_gt ei hL (by omega) (by omega)) q
  | succ n ih =>
    intro j hj i ei S T fj fd H locs ls J hp hl
    refine lv_iload hx hb dL_law_28 (lv_at hl 5 rfl) ?_
    refine lv_aload_n hx hb dL_law_30 rfl (lv_at hl 0 rfl) ?_
    refine va_slen hx hb hX hbl hbA hp.2.2 dL_law_31 ?_
    refine lv_iconst (v := 5) hx hb dL_law_32 (by decide) ?_
    refine lv_isub hx hb dL_law_33 ?_
    refine lv_icmp_gt (tgt := 1179) hx hb dL_law_34 (by decide) (fun q => ?_) (fun q => ?_)
    · refine lv_iconst (v := 1) hx hb dL_law_1179 (by decide) ?_
      refine va_forget (fun q hq => ?_) ?_
      · rcases hp.2.2.2.2 q hq with ⟨k, e, h1⟩ | h1
        · simp at h1
        · exact h1
      refine W.widen (k := 601024) (n := 7293034) (by omega) (by omega) ?_
      exact lw_ret hx hb C.hr C.hlk dL_law_1180
    · have hlt : 5 * j + 5 ≤ L := Nat.not_lt.mp (fun h => q (lw_gt ei hL h (by omega)))
      have g0 : vp_in i L := by rw [ei]; exact vp_in_nI (by omega) (by omega)
      have g1 : vp_in (i + 1) L := lw_in 1 ei (by omega) (by omega)
      have g2 : vp_in (i + 2) L := lw_in 2 ei (by omega) (by omega)
      have g3 : vp_in (i + 3) L := lw_in 3 ei (by omega) (by omega)
      have g4 : vp_in (i + 4) L := lw_in 4 ei (by omega) (by omega)
      have hN : LN l G p e s m below meth c (lw_Z below #[Value.ref b] s) E0 b qj qd j ad bm i := by
        intro S1 T1 fj1 fd1 H1 locs1 ls1 J1 hp1 hl1
        obtain ⟨i5, e5⟩ : ∃ y : Int32, y = i + 5 := ⟨_, rfl⟩
        refine lv_iinc (v := i5) (lv' := [(5, .int i5), (0, .ref b), (1, .ref (ad 0)), (2, .ref (bm 0)), (3, .ref qj), (4, .ref qd)]) hx hb dL_law_1173 hl1 (k := 5) rfl (by rw [e5]; rfl) (by decide) rfl (fun ls2 hl2 => ?_)
        refine lv_goto (tgt := 28) hx hb dL_law_1176 (by decide) ?_
        exact ih (j + 1) (by omega) i5 (by rw [e5, ei, show 5 * (j + 1) = 5 * j + 5 from by omega]; exact (nI_5 _).symm) S1 T1 fj1 fd1 H1 locs1 ls2 J1 hp1 (lv_sub hl2 [1, 2, 3, 4, 5, 0] rfl)
      refine lv_aload_n hx hb dL_law_37 rfl (lv_at hl 0 rfl) ?_
      refine lv_iload hx hb dL_law_38 (lv_at hl 5 rfl) ?_
      refine va_sld hx hb hX hbl hbA hp.2.2 g0 dL_law_40 ?_
      refine lv_bipush (v := 15) hx hb dL_law_41 (by decide) ?_
      refine lv_iand hx hb dL_law_43 ?_
      refine lv_topi (fun x ex => ?_)
      by_cases hq : x.toInt < 0 ∨ 13 < x.toInt
      · refine lv_tableOut (tgt := 1173) hx hb dL_law_44 hq (by decide) ?_
        refine W.widen (k := 33 + 8 * (j + 1)) (n := 3442 + 250 * (j + 1)) (by omega) (by omega) ?_
        exact hN S T fj fd H locs ls (JI_more J) hp hl
      · rcases sw_13 hq with hq | hq | hq | hq | hq | hq | hq | hq | hq | hq | hq | hq | hq | hq
        · refine lv_tableIn (tgt := 116) hx hb dL_law_44 (by rw [hq]; decide) (by rw [hq]; decide) (by rw [hq]; rfl) (by decide) ?_
          exact law_cut C h9 hX hbl hN J (by omega) hp hl g1 g2 g3 g4
        · refine lv_tableIn (tgt := 218) hx hb dL_law_44 (by rw [hq]; decide) (by rw [hq]; decide) (by rw [hq]; rfl) (by decide) ?_
          exact law_push C h9 hX hbl hN J (by omega) hp hl g1 g2 g3 g4
        · refine lv_tableIn (tgt := 305) hx hb dL_law_44 (by rw [hq]; decide) (by rw [hq]; decide) (by rw [hq]; rfl) (by decide) ?_
          exact law_wish C h9 hX hbl hN J (by omega) hp hl g1 g2 g3 g4
        · refine lv_tableIn (tgt := 404) hx hb dL_law_44 (by rw [hq]; decide) (by rw [hq]; decide) (by rw [hq]; rfl) (by decide) ?_
          exact law_stick C h9 hX hbl hN J (by omega) hp hl g1 g2 g3 g4
        · refine lv_tableIn (tgt := 495) hx hb dL_law_44 (by rw [hq]; decide) (by rw [hq]; decide) (by rw [hq]; rfl) (by decide) ?_
          exact law_fill C h9 hX hbl hN J (by omega) hp hl g1 g2 g3 g4
        · refine lv_tableIn (tgt := 594) hx hb dL_law_44 (by rw [hq]; decide) (by rw [hq]; decide) (by rw [hq]; rfl) (by decide) ?_
          exact law_tick C h9 hX hbl hN J (by omega) hp hl g1 g2 g3 g4
        · refine lv_tableIn (tgt := 650) hx hb dL_law_44 (by rw [hq]; decide) (by rw [hq]; decide) (by rw [hq]; rfl) (by decide) ?_
          exact law_place C h9 hX hbl hN J (by omega) hp hl g1 g2 g3 g4
        · refine lv_tableIn (tgt := 727) hx hb dL_law_44 (by rw [hq]; decide) (by rw [hq]; decide) (by rw [hq]; rfl) (by decide) ?_
          exact law_speed C h9 hX hbl hN J (by omega) hp hl g1 g2 g3 g4
        · refine lv_tableIn (tgt := 804) hx hb dL_law_44 (by rw [hq]; decide) (by rw [hq]; decide) (by rw [hq]; rfl) (by decide) ?_
          exact law_told C h9 hX hbl hN J (by omega) hp hl g1 g2 g3 g4
        · refine lv_tableIn (tgt := 872) hx hb dL_law_44 (by rw [hq]; decide) (by rw [hq]; decide) (by rw [hq]; rfl) (by decide) ?_
          exact law_point C h9 hX hbl hN J (by omega) hp hl g1 g2 g3 g4
        · refine lv_tableIn (tgt := 940) hx hb dL_law_44 (by rw [hq]; decide) (by rw [hq]; decide) (by rw [hq]; rfl) (by decide) ?_
          exact law_siding C h9 hX hbl hN J (by omega) hp hl g1 g2 g3 g4
        · refine lv_tableIn (tgt := 1008) hx hb dL_law_44 (by rw [hq]; decide) (by rw [hq]; decide) (by rw [hq]; rfl) (by decide) ?_
          exact law_event C h9 hX hbl hN J (by omega) hp hl g1 g2 g3 g4
        · refine lv_tableIn (tgt := 1076) hx hb dL_law_44 (by rw [hq]; decide) (by rw [hq]; decide) (by rw [hq]; rfl) (by decide) ?_
          exact law_about C h9 hX hbl hN J (by omega) hp hl g1 g2 g3 g4
        · refine lv_tableIn (tgt := 1132) hx hb dL_law_44 (by rw [hq]; decide) (by rw [hq]; decide) (by rw [hq]; rfl) (by decide) ?_
          exact law_fastest C hN J (by omega) hp hl
end LAWL
