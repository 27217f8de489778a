section CATCH
variable {u n : Nat} {S : HS} {T : MS} {b c : Nat}
theorem jc_mass (h : JC n S T) (hc : c < n) : ∃ k : Nat, 0 < k ∧ k < 1801 ∧ M_wagons T c * M_tons T c = nI k ∧ H_mass S (aT (H_L S) c) = FP.i2d (nI k) := by
  obtain ⟨w, t, d, hb, hm, _, _, hms, _⟩ := h.2.2.2.2.2.2 c hc
  have e : nI w * nI t = nI (w * t) := nI_mul4 w t
  have h1 : w * t ≤ 20 * 90 := Nat.mul_le_mul hb.2.1 hb.2.2.2.1
  have h2 : 1 * 1 ≤ w * t := Nat.mul_le_mul hb.1 hb.2.2.1
  exact ⟨w * t, by omega, by omega, by rw [hm.1, hm.2.1, e], by rw [hms, e]⟩
/-- cut c is set behind cut o; both have the speed v -/
def ctS (S : HS) (c o : Nat) (x v : UInt64) : HS := Hs_sp (Hs_pl S (vf_upd (H_pl S) (aT (H_L S) c) x)) (vf_upd (vf_upd (H_sp S) (aT (H_L S) c) v) (aT (H_L S) o) v)
def ctT (T : MS) (c o : Nat) (x v : UInt64) : MS := Ms_speed (Ms_place T (vf_upd (M_place T) c x)) (vf_upd (vf_upd (M_speed T) c v) o v)
theorem vu2 {f : Nat → UInt64} {a o d : Nat} {v : UInt64} (h : d ≠ a) (h2 : d ≠ o) : vf_upd (vf_upd f a v) o v d = f d := by rw [vu_ne h2, vu_ne h]
theorem vu3 {f : Nat → UInt64} {a o d : Nat} {v : UInt64} (h : d = a ∨ d = o) : vf_upd (vf_upd f a v) o v d = v := by
  by_cases h2 : d = o
  · subst h2; exact vu_self
  · rw [vu_ne h2]
    rcases h with h | h
    · subst h; exact vu_self
    · exact absurd h h2
theorem JD_ct (h : JC n S T) (hD : JD n S T) {o : Nat} (hc : c < n) (ho : o < n) {x v : UInt64} (hv : pp v) (hx : lbd c x) : JD n (ctS S c o x v) (ctT T c o x v) := by
  intro d hd
  have hd' := hD d hd
  unfold ctS ctT
  simp only [ac_Hs_pl, ac_Hs_sp, ac_Ms_place, ac_Ms_speed]
  have pl : vf_upd (H_pl S) (aT (H_L S) c) x (aT (H_L S) d) = vf_upd (M_place T) c x d ∧ lbd d (vf_upd (M_place T) c x d) := by
    by_cases e : d = c
    · subst e; rw [vu_self, vu_self]; exact ⟨rfl, hx⟩
    · rw [vu_ne e, vu_ne (fun h9 => e (jc_inj h hd hc h9))]; exact ⟨hd'.2.1.1, hd'.2.2.2⟩
  have sp : vf_upd (vf_upd (H_sp S) (aT (H_L S) c) v) (aT (H_L S) o) v (aT (H_L S) d) = vf_upd (vf_upd (M_speed T) c v) o v d ∧ pp (vf_upd (vf_upd (M_speed T) c v) o v d) := by
    by_cases e : d = c ∨ d = o
    · rw [vu3 e, vu3 (by rcases e with e | e <;> subst e; exact .inl rfl; exact .inr rfl)]; exact ⟨rfl, hv⟩
    · have e1 : d ≠ c := fun h9 => e (.inl h9)
      have e2 : d ≠ o := fun h9 => e (.inr h9)
      rw [vu2 e1 e2, vu2 (fun h9 => e1 (jc_inj h hd hc h9)) (fun h9 => e2 (jc_inj h hd ho h9))]; exact ⟨hd'.2.1.2.1, hd'.2.2.1⟩
  exact ⟨hd'.1, ⟨pl.1, sp.1, hd'.2.1.2.2⟩, sp.2, pl.2⟩
theorem JN_ct (hN : JN n T) {o : Nat} (hc : c < n) (ho : o < n) {x v : UInt64} : JN n (ctT T c o x v) := by
  intro d hd
  have hd' := hN d hd
  unfold ctT
  simp only [ac_Ms_place, ac_Ms_speed]
  rw [vu_ne (show d ≠ c by omega), vu2 (show d ≠ c by omega) (show d ≠ o by omega)]
  exact hd'
theorem JL_ct (hL : JL n 60 T) (hn : n ≤ 60) {o : Nat} {x v : UInt64} (h : ∀ pa, pa < 3 → M_passed T c = nI pa → dL x (cpl pa)) : JL n 60 (ctT T c o x v) := by
  intro d hd h60 pa hpa e
  unfold ctT at e ⊢
  simp only [ac_Ms_place, ac_Ms_speed] at e ⊢
  by_cases hdc : d = c
  · subst hdc; rw [vu_self]; exact h pa hpa e
  · rw [vu_ne hdc]; exact hL d hd h60 pa hpa e
/-- who caught whom -/
theorem JD_cb (h : JC n S T) (hD : JD n S T) (hc : c < n) {x : Int32} : JD n (Hs_cb S (upd (H_cb S) (aT (H_L S) c) x)) (Ms_caught T (upd (M_caught T) c x)) := by
  intro d hd
  have hd' := hD d hd
  simp only [ac_Hs_cb, ac_Ms_caught]
  by_cases e : d = c
  · subst e
    rw [up_self, up_self]
    exact ⟨hd'.1, ⟨hd'.2.1.1, hd'.2.1.2.1, rfl⟩, hd'.2.2⟩
  · rw [up_ne e, up_ne (fun h9 => e (jc_inj h hd hc h9))]
    exact hd'
theorem JD_cb0 (hD : JD n S T) (hc : c < n) {x : Int32} (hx : M_caught T c = x) : JD n S (Ms_caught T (upd (M_caught T) c x)) := by
  intro d hd
  have hd' := hD d hd
  simp only [ac_Ms_caught]
  by_cases e : d = c
  · subst e
    rw [up_self, ← hx]
    exact hd'
  · rw [up_ne e]
    exact hd'
theorem sw_ce (T : MS) (v : Int32) (f : Nat → Int32) : Ms_caught (Ms_eventCount T v) f = Ms_eventCount (Ms_caught T f) v := rfl
theorem sw_cv (T : MS) (g f : Nat → Int32) : Ms_caught (Ms_events T g) f = Ms_events (Ms_caught T f) g := rfl
theorem Hs_ss0 (S : HS) (f g : Nat → UInt64) : Hs_sp (Hs_sp S f) g = Hs_sp S g ∧ True := ⟨rfl, trivial⟩
theorem Hs_ss (S : HS) (f g : Nat → UInt64) : Hs_sp (Hs_sp S f) g = Hs_sp S g := (Hs_ss0 S f g).1
theorem Ms_ss0 (T : MS) (f g : Nat → UInt64) : Ms_speed (Ms_speed T f) g = Ms_speed T g ∧ True := ⟨rfl, trivial⟩
theorem Ms_ss (T : MS) (f g : Nat → UInt64) : Ms_speed (Ms_speed T f) g = Ms_speed T g := (Ms_ss0 T f g).1
def ctW (T : MS) (c o : Nat) (q : MS → Prop) : Prop := (wp_X3_rear T (nI o) (fun r6 => ∀ S7 : MS, S7 = Ms_place T (vf_upd (M_place T) c r6) → ∀ x8 : UInt64, x8 = FP.i2d ((M_wagons S7 c) * (M_tons S7 c)) → (vp_in (nI o) 60) ∧ (∀ x10 : UInt64, x10 = FP.i2d ((M_wagons S7 o) * (M_tons S7 o)) → (vf_n64 (FP.dmul x8 (M_speed S7 c))) ∧ (∀ x12 : UInt64, x12 = FP.dmul x8 (M_speed S7 c) → (vf_n64 (FP.dmul x10 (M_speed S7 o))) ∧ (∀ x14 : UInt64, x14 = FP.dmul x10 (M_speed S7 o) → (vf_n64 (FP.dadd x12 x14)) ∧ (∀ x16 : UInt64, x16 = FP.dadd x12 x14 → (vf_n64 (FP.dadd x8 x10)) ∧ (∀ x18 : UInt64, x18 = FP.dadd x8 x10 → (vf_n64 (FP.ddiv x16 x18)) ∧ (∀ x20 : UInt64, x20 = FP.ddiv x16 x18 → ∀ S21 : MS, S21 = Ms_speed S7 (vf_upd (M_speed S7) c x20) → ∀ S22 : MS, S22 = Ms_speed S21 (vf_upd (M_speed S21) o x20) → (((M_caught S22 c) = nI o → ∀ S24 : MS, S24 = Ms_caught S22 (upd (M_caught S22) c (nI o)) → q S24) ∧ (¬ (M_caught S22 c) = nI o → wp_X3_notes 1 (nI c) (nI o) S22 (fun S25 => ∀ S26 : MS, S26 = Ms_caught S25 (upd (M_caught S25) c (nI o)) → q S26)))))))))))
theorem ctW_of (hC : JC n S T) (hD : JD n S T) {o kc ko : Nat} (hc : c < n) (ho : o < n) (mc : M_wagons T c * M_tons T c = nI kc) (mo : M_wagons T o * M_tons T o = nI ko) {v : UInt64} (p1 : nn (FP.dmul (FP.i2d (nI kc)) (M_speed T c))) (p2 : nn (FP.dmul (FP.i2d (nI ko)) (M_speed T o))) (p3 : nn (FP.dadd (FP.dmul (FP.i2d (nI kc)) (M_speed T c)) (FP.dmul (FP.i2d (nI ko)) (M_speed T o)))) (p4 : nn (FP.dadd (FP.i2d (nI kc)) (FP.i2d (nI ko)))) (p5 : nn v) (hv : v = FP.ddiv (FP.dadd (FP.dmul (FP.i2d (nI kc)) (M_speed T c)) (FP.dmul (FP.i2d (nI ko)) (M_speed T o))) (FP.dadd (FP.i2d (nI kc)) (FP.i2d (nI ko)))) {q : MS → Prop} {T1 : MS} (hT1 : T1 = ctT T c o (rrM T o) v) (h1 : M_caught T1 c = nI o → q (Ms_caught T1 (upd (M_caught T1) c (nI o)))) (h2 : ¬ M_caught T1 c = nI o → wp_X3_notes 1 (nI c) (nI o) T1 (fun S25 => ∀ S26 : MS, S26 = Ms_caught S25 (upd (M_caught S25) c (nI o)) → q S26)) : ctW T c o q := by
  have hn := jc_n hC
  unfold ctW
  refine wm_rear hC hD ho (fun S7 e7 x8 e8 => ⟨vp_in_nI (by omega) (by omega), fun x10 e10 => ?_⟩)
  have a1 : M_wagons S7 = M_wagons T := by rw [e7]; simp only [ac_Ms_place]
  have a2 : M_tons S7 = M_tons T := by rw [e7]; simp only [ac_Ms_place]
  have a3 : M_speed S7 = M_speed T := by rw [e7]; simp only [ac_Ms_place]
  rw [a1, a2, mc] at e8
  rw [a1, a2, mo] at e10
  rw [a3]
  subst e8 e10
  refine ⟨n64_iff.mpr p1, fun x12 e12 => ?_⟩
  subst e12
  refine ⟨n64_iff.mpr p2, fun x14 e14 => ?_⟩
  subst e14
  refine ⟨n64_iff.mpr p3, fun x16 e16 => ?_⟩
  subst e16
  refine ⟨n64_iff.mpr p4, fun x18 e18 => ?_⟩
  subst e18
  refine ⟨n64_iff.mpr (by rw [← hv]; exact p5), fun x20 e20 S21 e21 S22 e22 => ?_⟩
  rw [← hv] at e20
  subst e20
  have e22 : S22 = T1 := by
    rw [e22, e21, hT1, e7]
    unfold ctT
    simp only [ac_Ms_speed, Ms_ss]
  rw [e22]
  exact ⟨fun g S24 e24 => by rw [e24]; exact h1 g, h2⟩
theorem catch_sim (J : JJ u n (M_state T) 60 b S T) {o : Nat} (hc : c < n) (hoc : o < c) (hb : b + 1 < 2 ^ 30) (hG : dG (M_place T c) (rrM T o) ∨ dE (M_place T c) (rrM T o)) {post : HS → Prop}
    (hk : ∀ S1 T1, (∀ q : MS → Prop, q T1 → ctW T c o q) → JJ u n (M_state T) 60 (b + 1) S1 T1 → M_state T1 = M_state T → post S1) : wp_X2_catchUp (aT (H_L S) c) (aT (H_L S) o) S post := by
  obtain ⟨hC, hD, hN, hL, hP, hW, hF, hS, hE, hR, hK⟩ := J
  have hn := jc_n hC
  have ho : o < n := by omega
  obtain ⟨kc, kc0, kc1, mc, ms⟩ := jc_mass hC hc
  obtain ⟨ko, ko0, ko1, mo, mso⟩ := jc_mass hC ho
  have hsc := (hD c hc).2.2.1
  have hso := (hD o ho).2.2.1
  have p1 := mul_ppP (mass_ok (k := kc) (by omega) kc0) hsc
  have p2 := mul_ppP (mass_ok (k := ko) (by omega) ko0) hso
  have p3 := add_pp p1 p2
  have e4 := mass_add kc1 ko1
  have p4 : pf (FP.dadd (FP.i2d (nI kc)) (FP.i2d (nI ko))) := by rw [e4]; exact mass_ok (by omega) (by omega)
  have p5 := div_ppP p3 p4
  have nrr := rr_nn hC hD ho
  have lrr : lbd c (rrM T o) := lbd_mono (lbd_sub (hD o ho).2.2.2 (by omega) (jc_len hC ho).1) (by omega)
  obtain ⟨v, hv⟩ : ∃ v, v = FP.ddiv (FP.dadd (FP.dmul (FP.i2d (nI kc)) (M_speed T c)) (FP.dmul (FP.i2d (nI ko)) (M_speed T o))) (FP.dadd (FP.i2d (nI kc)) (FP.i2d (nI ko))) := ⟨_, rfl⟩
  rw [← hv] at p5
  obtain ⟨_, _, _, _, _, numc, _⟩ := hC.2.2.2.2.2.2 c hc
  obtain ⟨_, _, _, _, _, numo, _⟩ := hC.2.2.2.2.2.2 o ho
  have cbc := (hD c hc).2.1.2.2
  have hlt : ∀ pa, pa < 3 → M_passed T c = nI pa → dL (rrM T o) (cpl pa) := by
    intro pa hpa e
    have h1 := hL c hc (by omega) pa hpa e
    have npl := (dL_nn h1).1
    rw [dL_iff npl (cpl_n hpa)] at h1
    rw [dL_iff nrr (cpl_n hpa)]
    rcases hG with hG | hG
    · rw [dG_iff npl nrr] at hG; omega
    · rw [dE_iff npl nrr] at hG; omega
  obtain ⟨S1, hS1⟩ : ∃ z : HS, z = ctS S c o (rrM T o) v := ⟨_, rfl⟩
  obtain ⟨T1, hT1⟩ : ∃ z : MS, z = ctT T c o (rrM T o) v := ⟨_, rfl⟩
  have J1 : JJ u n (M_state T) 60 (b + 1) S1 T1 := by
    rw [hS1, hT1]
    refine ⟨?_, JD_ct hC hD hc ho p5 lrr, JN_ct hN hc ho, JL_ct hL hn hlt, ?_⟩
    · unfold ctS ctT; simpa only [fr_JC] using hC
    · unfold ctS ctT
      exact ⟨by simpa only [fr_JP] using hP, by simpa only [fr_JW] using hW, by simpa only [fr_JF] using hF, by simpa only [fr_JS] using hS, by simpa only [fr_JE] using JE_mono hE (by omega), by simpa only [fr_JR] using hR, by simpa only [fr_JK] using hK⟩
  have hE1' : JE b S1 T1 := by
    rw [hS1, hT1]
    unfold ctS ctT
    simpa only [fr_JE] using hE
  obtain ⟨hC1, hD1, hN1, hL1, hP1, hW1, hF1, hS1', hE1, hR1, hK1⟩ := J1
  have fL : H_L S1 = H_L S := by rw [hS1]; unfold ctS; simp only [ac_Hs_sp, ac_Hs_pl]
  have fcb : H_cb S1 = H_cb S := by rw [hS1]; unfold ctS; simp only [ac_Hs_sp, ac_Hs_pl]
  have fnum : H_num S1 = H_num S := by rw [hS1]; unfold ctS; simp only [ac_Hs_sp, ac_Hs_pl]
  have fst : M_state T1 = M_state T := by rw [hT1]; unfold ctT; simp only [ac_Ms_speed, ac_Ms_place]
  have fca : M_caught T1 = M_caught T := by rw [hT1]; unfold ctT; simp only [ac_Ms_speed, ac_Ms_place]
  have mod := fun (q : MS → Prop) => ctW_of (q := q) (T1 := T1) hC hD hc ho mc mo p1.1 p2.1 p3.1 (fin_nn (pf_fin p4)) p5.1 hv hT1
  unfold wp_X2_catchUp
  rw [ms, mso, (hD c hc).2.1.2.1, (hD o ho).2.1.2.1]
  refine ⟨jc_mem hC hc, n64_iff.mpr p1.1, fun x3 e3 => ⟨jc_mem hC ho, ?_⟩⟩
  subst e3
  refine ⟨n64_iff.mpr p2.1, fun x6 e6 => ?_⟩
  subst e6
  refine ⟨n64_iff.mpr p3.1, fun x8 e8 => ?_⟩
  subst e8
  refine ⟨n64_iff.mpr (fin_nn (pf_fin p4)), fun x10 e10 => ?_⟩
  subst e10
  refine ⟨n64_iff.mpr (by rw [← hv]; exact p5.1), fun x12 e12 => ?_⟩
  rw [← hv] at e12
  subst e12
  refine wc_rear hC hD ho (fun S15 e15 => ?_)
  have g15 : H_L S15 = H_L S := by rw [e15]; simp only [ac_Hs_pl]
  refine ⟨by rw [g15]; exact jc_mem hC hc, fun S17 e17 => ?_⟩
  have g17 : H_L S17 = H_L S := by rw [e17]; simp only [ac_Hs_sp]; exact g15
  refine ⟨by rw [g17]; exact jc_mem hC ho, fun S19 e19 => ?_⟩
  have e19 : S19 = S1 := by
    rw [e19, e17, e15, hS1]
    unfold ctS
    simp only [ac_Hs_sp, Hs_ss, ac_Hs_pl]
  rw [e19, fL, fcb, fnum, numo, cbc]
  refine ⟨jc_mem hC hc, jc_mem hC ho, fun g => ?_, fun g x23 e23 S24 e24 => ?_⟩
  · refine hk S1 (Ms_caught T1 (upd (M_caught T1) c (nI o))) (fun q hq => mod q (fun _ => hq) (fun h9 => absurd (by rw [fca]; exact g) h9)) ⟨by simpa only [fr_JC] using hC1, JD_cb0 hD1 hc (by rw [fca]; exact g), by simpa only [fr_JN] using hN1, by simpa only [fr_JL] using hL1, by simpa only [fr_JP] using hP1, by simpa only [fr_JW] using hW1, by simpa only [fr_JF] using hF1, by simpa only [fr_JS] using hS1', by simpa only [fr_JE] using hE1, hR1, by simpa only [fr_JK] using hK1⟩ (by simp only [ac_Ms_caught]; exact fst)
  · subst e23
    have b1 : H_L S24 = H_L S := by rw [e24]; simp only [ac_Hs_cb]; exact fL
    have b2 : H_num S24 = H_num S := by rw [e24]; simp only [ac_Hs_cb]; exact fnum
    rw [b1, b2, numc, numo]
    refine ⟨jc_mem hC hc, jc_mem hC ho, ?_⟩
    obtain ⟨ec, hec, hc1, hc2⟩ := JE_ec hE1'
    obtain ⟨T24, hT24⟩ : ∃ z : MS, z = Ms_caught T1 (upd (M_caught T1) c (nI o)) := ⟨_, rfl⟩
    have hD2 : JD n S24 T24 := by
      rw [e24, hT24, ← fL, ← fcb]
      exact JD_cb hC1 hD1 hc
    have J24 : JJ u n (M_state T) 60 b S24 T24 := by
      rw [e24, hT24] at hD2 ⊢
      exact ⟨by simpa only [fr_JC] using hC1, hD2, by simpa only [fr_JN] using hN1, by simpa only [fr_JL] using hL1, by simpa only [fr_JP] using hP1, by simpa only [fr_JW] using hW1, by simpa only [fr_JF] using hF1, by simpa only [fr_JS] using hS1', by simpa only [fr_JE] using hE1', by simpa only [fr_JR] using hR1, by simpa only [fr_JK] using hK1⟩
    have c1 : H_count S24 = nI ec := by rw [e24]; simp only [ac_Hs_cb]; exact hc1
    refine wc_note c1 (by omega) ?_
    refine hk _ (Ms_caught (Ms_eventCount (Ms_events T1 (ev4 (M_events T1) (ec % 200 * 4) 1 (nI c) (nI o) (M_ticks T1))) (nI (ec + 1))) (upd (M_caught T1) c (nI o))) (fun q hq => mod q (fun h9 => absurd (by rw [← fca]; exact h9) g) (fun _ => wm_notes hc2 (by omega) (fun S26 e26 => ?_))) ?_ ?_
    · simp only [ac_Ms_eventCount, ac_Ms_events] at e26
      rw [e26]; exact hq
    · rw [sw_ce, sw_cv, ← hT24]
      have a1 : M_events T1 = M_events T24 := by rw [hT24]; simp only [ac_Ms_caught]
      have a2 : M_ticks T1 = M_ticks T24 := by rw [hT24]; simp only [ac_Ms_caught]
      rw [a1, a2]
      obtain ⟨hC1, hD1, hN1, hL1, hP1, hW1, hF1, hS1', hE1, hR1, hK1⟩ := J24
      exact ⟨by simpa only [fr_JC] using hC1, by simpa only [fr_JD] using hD1, by simpa only [fr_JN] using hN1, by simpa only [fr_JL] using hL1, by simpa only [fr_JP] using hP1, by simpa only [fr_JW] using hW1, by simpa only [fr_JF] using hF1, by simpa only [fr_JS] using hS1', JE_note hE1 c1 hec, by simpa only [fr_JR] using hR1, by simpa only [fr_JK] using hK1⟩
    · simp only [ac_Ms_caught, ac_Ms_eventCount, ac_Ms_events]; exact fst
end CATCH
