section AGREE3
variable {j : Nat} {S : HS} {T : MS}
theorem ag_point (J : JI j S T) {a0 a1 : Int32} {o : Int64} : wp_X2_point S a0 a1 (fun r => wp_X3_point a0 a1 T (agI j 0 S r.toInt64)) (fun E => (E = xIOB ∧ wp_X3_point a0 a1 T (agI j 1 S o)) ∨ (E = xIAE ∧ wp_X3_point a0 a1 T (agI j 2 S o))) := by
  obtain ⟨u, n, J0, J⟩ := jx J
  have hP := J0.2.2.2.2.1
  unfold wp_X2_point wp_X2_isPoint
  refine ⟨fun g0 => ⟨fun h9 => absurd rfl h9, fun _ => .inl ⟨rfl, ?_⟩⟩, fun g0 => ⟨fun g1 => ⟨fun h9 => absurd rfl h9, fun _ => .inl ⟨rfl, ?_⟩⟩, fun g1 => ⟨fun _ => ?_, fun h9 => absurd h9 (by decide)⟩⟩⟩
  · exact ⟨fun _ => ref_no n1le (agI_no J n1le), fun h9 => absurd g0 h9⟩
  · exact ⟨fun h9 => absurd h9 g0, fun _ => ⟨fun h9 => absurd g1 (Int32.not_le.mpr h9), fun _ => ref_no n1le (agI_no J n1le)⟩⟩
  · have g1' := Int32.not_le.mp g1
    obtain ⟨p, hp, rfl⟩ := idx (m := 7) (by omega) g0 g1'
    have mod : ∀ q : Int32 → MS → Prop, ((a1 < 0 ∨ ¬ a1 ≤ 2) → q 0 (Ms_code T 2)) → (a1 = 0 → q (M_lies T p) (Ms_code T 0)) → (a1 = 1 → q (M_turns T p) (Ms_code T 0)) → (a1 = 2 → wp_X3_isBusy (Ms_code T 0) (nI p) (fun r7 => (r7 = 0 → q 0 (Ms_code T 0)) ∧ (¬ r7 = 0 → q 1 (Ms_code T 0)))) → wp_X3_point (nI p) a1 T q := by
      intro q hb h0 h1 h2
      refine ⟨fun h9 => absurd h9 g0, fun _ => ⟨fun _ => ⟨fun k => ref_no n2le (hb (.inl k)), fun k => ⟨fun k2 => ref_ok ?_, fun k2 => ref_no n2le (hb (.inr k2))⟩⟩, fun h9 => absurd g1' h9⟩⟩
      rw [nI_clamp (by omega)]
      simp only [ac_Ms_code]
      refine ⟨fun q0 => ⟨fun q1 => h2 ?_, fun q1 => ⟨vp_in_nI hp (by omega), h1 q1⟩⟩, fun q0 => ⟨vp_in_nI hp (by omega), h0 q0⟩⟩
      obtain ⟨r, hr, rfl⟩ := idx (m := 3) (by omega) k (by
        refine Int32.lt_iff_toInt_lt.mpr ?_
        have := Int32.le_iff_toInt_le.mp k2
        have e2 : (2 : Int32).toInt = 2 := by decide
        rw [nI_toInt (by omega)]; omega)
      have : r = 2 := by
        have h0' : r ≠ 0 := fun e => q0 (by rw [e]; rfl)
        have h1' : r ≠ 1 := fun e => q1 (by rw [e]; rfl)
        omega
      rw [this]; rfl
    refine ⟨fun g => .inr ⟨rfl, ?_⟩, fun g => ?_, fun g => ?_, fun g => ?_⟩
    · have g' := out3 (m := 2) (by omega) g
      refine mod _ (fun _ => agI_no J n2le) (fun h9 => ?_) (fun h9 => ?_) (fun h9 => ?_) <;> subst h9 <;> exact absurd g' (by decide)
    · subst g
      rw [nI_clamp (by omega), hP.1.1]
      exact ⟨vp_in_nI hp (by omega), mod _ (fun h9 => absurd h9 (by decide)) (fun _ => agI_ok J) (fun h9 => absurd h9 (by decide)) (fun h9 => absurd h9 (by decide))⟩
    · subst g
      rw [nI_clamp (by omega), hP.1.2.1]
      exact ⟨vp_in_nI hp (by omega), mod _ (fun h9 => absurd h9 (by decide)) (fun h9 => absurd h9 (by decide)) (fun _ => agI_ok J) (fun h9 => absurd h9 (by decide))⟩
    · subst g
      have J' := J
      obtain ⟨u', n', J1⟩ := J'
      refine busy_sim J1.1 J1.2.1 (by simp only [ac_Ms_code]; exact J1.2.2.2.2.2.2.2.2.2.1) hp (fun r hr hbusy => ⟨fun q => ?_, fun q => ?_⟩)
      · exact mod _ (fun h9 => absurd h9 (by decide)) (fun h9 => absurd h9 (by decide)) (fun h9 => absurd h9 (by decide)) (fun _ => hbusy _ ⟨fun _ => agI_ok J, fun h9 => absurd q h9⟩)
      · exact mod _ (fun h9 => absurd h9 (by decide)) (fun h9 => absurd h9 (by decide)) (fun h9 => absurd h9 (by decide)) (fun _ => hbusy _ ⟨fun h9 => absurd h9 q, fun _ => agI_ok J⟩)
/-- about, in the model -/
theorem wm_about_loop {n w : Nat} (hM : M_cuts T = nI n) (hn : n ≤ 60) (hw : w < 7) {post : Int32 → MS → Prop} (h0 : w = 0 → post (nI n) T) (h5 : w = 5 → post (M_eventCount T) T) (h6 : w = 6 → post (M_ticks T) T) (h : 1 ≤ w → w ≤ 4 → post (nI (cn (M_state T) (nI (w - 1)) n)) T) : ∀ i k, k + i = n → ∀ x2 : Int32, (1 ≤ w → w ≤ 4 → x2 = nI (cn (M_state T) (nI (w - 1)) k)) → ∃ m, wl_X3_about_28 (nI w) post m x2 (nI k) T := by
  intro i
  induction i with
  | zero =>
    intro k hk x2 hx
    have : k = n := by omega
    subst this
    refine ⟨1, fun _ => ?_, fun h9 => absurd (by rw [hM]; exact nI_le (Nat.le_refl _) (by omega)) h9⟩
    refine ⟨fun q0 => ⟨fun q5 => ⟨fun q6 => ?_, fun q6 => h6 ((nI_eq (b := 6) (by omega) (by omega)).mp q6)⟩, fun q5 => h5 ((nI_eq (b := 5) (by omega) (by omega)).mp q5)⟩, fun q0 => by rw [hM]; exact h0 ((nI_eq (b := 0) (by omega) (by omega)).mp q0)⟩
    have w0 : w ≠ 0 := fun e => q0 (by rw [e]; rfl)
    have w5 : w ≠ 5 := fun e => q5 (by rw [e]; rfl)
    have w6 : w ≠ 6 := fun e => q6 (by rw [e]; rfl)
    rw [hx (by omega) (by omega)]
    exact h (by omega) (by omega)
  | succ i ih =>
    intro k hk x2 hx
    have hkn : k < n := by omega
    by_cases hw14 : 1 ≤ w ∧ w ≤ 4
    · have e1 : nI w - 1 = nI (w - 1) := by
        have := nI_pred (w - 1)
        rw [show w - 1 + 1 = w by omega] at this
        exact this
      have a0 : ¬ nI w ≤ 0 := nI_nle (by omega) (by omega)
      have a5 : ¬ (5 : Int32) ≤ nI w := nI_ge (b := 5) (by omega) (by decide)
      obtain ⟨m, hm⟩ := ih (k + 1) (by omega) (nI (cn (M_state T) (nI (w - 1)) (k + 1))) (fun _ _ => rfl)
      refine ⟨m + 1, fun h9 => absurd h9 (by rw [hM]; exact nI_ge hkn (by omega)), fun _ => ⟨fun h9 => absurd h9 a0, fun _ => ⟨fun h9 => absurd h9 a5, fun _ => ⟨vp_in_nI (by omega) (by omega), ?_⟩⟩⟩⟩
      rw [nI_clamp (show k < 2 ^ 31 by omega), e1, nI_1]
      refine ⟨fun q x11 e11 => ?_, fun q x12 e12 => ?_⟩
      · rw [e11, hx hw14.1 hw14.2, show nI (cn (M_state T) (nI (w - 1)) k) + 0 = nI (cn (M_state T) (nI (w - 1)) k) from nI_add _ 0, ← cn_s0 q]
        exact hm
      · rw [e12, hx hw14.1 hw14.2, nI_1, ← cn_s1 q]
        exact hm
    · obtain ⟨m, hm⟩ := ih (k + 1) (by omega) (x2 + 0) (fun q1 q2 => absurd ⟨q1, q2⟩ hw14)
      refine ⟨m + 1, fun h9 => absurd h9 (by rw [hM]; exact nI_ge hkn (by omega)), fun _ => ⟨fun _ x6 e6 => by rw [e6, nI_1]; exact hm, fun q => ⟨fun _ x8 e8 => by rw [e8, nI_1]; exact hm, fun q5 => ?_⟩⟩⟩
      refine absurd ⟨?_, ?_⟩ hw14
      · refine Nat.pos_of_ne_zero (fun e => q ?_)
        rw [e]; decide
      · refine Nat.le_of_not_lt (fun h9 => q5 ?_)
        exact nI_le (a := 5) (by omega) (by omega)
theorem wm_about {n w : Nat} (hM : M_cuts T = nI n) (hn : n ≤ 60) (hw : w < 7) {post : Int32 → MS → Prop} (h0 : w = 0 → post (nI n) (Ms_code T 0)) (h5 : w = 5 → post (M_eventCount T) (Ms_code T 0)) (h6 : w = 6 → post (M_ticks T) (Ms_code T 0)) (h : 1 ≤ w → w ≤ 4 → post (nI (cn (M_state T) (nI (w - 1)) n)) (Ms_code T 0)) : wp_X3_about (nI w) T post := by
  refine ⟨fun h9 => absurd h9 (nI_pos (by omega)), fun _ => ⟨fun _ => ref_ok ?_, fun h9 => absurd (nI_le (b := 6) (by omega) (by decide)) h9⟩⟩
  refine wm_about_loop (T := Ms_code T 0) (n := n) (w := w) (by simp only [ac_Ms_code]; exact hM) hn hw h0 (by simp only [ac_Ms_code]; exact h5) (by simp only [ac_Ms_code]; exact h6) (by simp only [ac_Ms_code]; exact h) n 0 (by omega) 0 (fun _ _ => rfl)
theorem ag_about (J : JI j S T) {a0 : Int32} {o : Int64} : wp_X2_about S a0 (fun r => wp_X3_about a0 T (agI j 0 S r.toInt64)) (fun E => (E = xIAE ∧ wp_X3_about a0 T (agI j 1 S o))) := by
  obtain ⟨u, n, J0, J⟩ := jx J
  have hC := J0.1
  have hn := jc_n hC
  have hE := J0.2.2.2.2.2.2.2.2.1
  have hR := J0.2.2.2.2.2.2.2.2.2.1
  have hK := J0.2.2.2.2.2.2.2.2.2.2
  obtain ⟨⟨s, hs, hst, hw⟩, hld, hsd⟩ := hK
  obtain ⟨_, htk, ec, hec, hc1, hc2⟩ := hE
  have hs0 := cn_zero hs hw
  have M := fun (w : Nat) (hw : w < 7) => wm_about (T := T) (post := fun b T1 => agI j 0 S b.toInt64 b T1) hC.2.1 hn hw
  unfold wp_X2_about
  refine ⟨fun g => ⟨rfl, ?_⟩, fun g => ?_, fun g => ?_, fun g => ?_, fun g => ?_, fun g => ?_, fun g => ?_, fun g => ?_⟩
  · rcases out3 (m := 6) (by omega) g with g | g
    · exact ⟨fun _ => ref_no n1le (agI_no J n1le), fun h9 => absurd g h9⟩
    · exact ⟨fun _ => ref_no n1le (agI_no J n1le), fun _ => ⟨fun h9 => absurd h9 g, fun _ => ref_no n1le (agI_no J n1le)⟩⟩
  · subst g
    rw [hC.2.2.1]
    exact wm_about (w := 0) hC.2.1 hn (by omega) (fun _ => agI_ok J) (fun h9 => absurd h9 (by omega)) (fun h9 => absurd h9 (by omega)) (fun h9 => absurd h9 (by omega))
  · subst g
    rw [hC.2.2.1, hst]
    have e : nI n - nI s = nI (cn (M_state T) (nI (1 - 1)) n) := by
      rw [show nI (1 - 1) = 0 from rfl, hs0]
      refine Int32.toInt_inj.mp ?_
      rw [Int32.toInt_sub, nI_toInt (by omega), nI_toInt (by omega), nI_toInt (by omega), Int.bmod_eq_of_le (by omega) (by omega)]
      omega
    rw [e]
    exact wm_about (w := 1) hC.2.1 hn (by omega) (fun h9 => absurd h9 (by omega)) (fun h9 => absurd h9 (by omega)) (fun h9 => absurd h9 (by omega)) (fun _ _ => agI_ok J)
  · subst g
    rw [hR.1]
    exact wm_about (w := 2) hC.2.1 hn (by omega) (fun h9 => absurd h9 (by omega)) (fun h9 => absurd h9 (by omega)) (fun h9 => absurd h9 (by omega)) (fun _ _ => agI_ok J)
  · subst g
    rw [hld]
    exact wm_about (w := 3) hC.2.1 hn (by omega) (fun h9 => absurd h9 (by omega)) (fun h9 => absurd h9 (by omega)) (fun h9 => absurd h9 (by omega)) (fun _ _ => agI_ok J)
  · subst g
    rw [hsd]
    exact wm_about (w := 4) hC.2.1 hn (by omega) (fun h9 => absurd h9 (by omega)) (fun h9 => absurd h9 (by omega)) (fun h9 => absurd h9 (by omega)) (fun _ _ => agI_ok J)
  · subst g
    rw [hc1, ← hc2]
    exact wm_about (w := 5) hC.2.1 hn (by omega) (fun h9 => absurd h9 (by omega)) (fun _ => agI_ok J) (fun h9 => absurd h9 (by omega)) (fun _ h9 => absurd h9 (by omega))
  · subst g
    rw [htk]
    exact wm_about (w := 6) hC.2.1 hn (by omega) (fun h9 => absurd h9 (by omega)) (fun h9 => absurd h9 (by omega)) (fun _ => agI_ok J) (fun _ h9 => absurd h9 (by omega))
theorem ag_tick (J : JI j S T) (hj : j < 2000) {a0 : Int32} {o : Int64} : wp_X2_tick a0 S (fun r S1 => wp_X3_tick a0 T (agI j 0 S1 r.toInt64)) (fun E => (E = xIAE ∧ wp_X3_tick a0 T (agI j 1 S o))) := by
  unfold wp_X2_tick
  refine ⟨fun g0 => ⟨rfl, ?_⟩, fun g0 => ⟨fun g1 x36 e36 => ?_, fun g1 => ⟨rfl, ?_⟩⟩⟩
  · exact ⟨fun _ => ref_no n1le (agI_no J n1le), fun h9 => absurd g0 h9⟩
  · obtain ⟨N, hN, rfl⟩ := idx (m := 401) (x := a0) (by omega) (fun h9 => g0 (by
      refine Int32.lt_iff_toInt_lt.mpr ?_
      have := Int32.lt_iff_toInt_lt.mp h9
      have a1 : (1 : Int32).toInt = 1 := by decide
      have a2 : (0 : Int32).toInt = 0 := by decide
      omega)) (by
      refine Int32.lt_iff_toInt_lt.mpr ?_
      have := Int32.le_iff_toInt_le.mp g1
      have a1 : (400 : Int32).toInt = 400 := by decide
      rw [nI_toInt (by omega)]; omega)
    have J' := J
    obtain ⟨u, n, J1⟩ := J'
    have J2 : JJ u n (M_state (Ms_code T 0)) 60 (120000 * j) S (Ms_code T 0) := by simp only [ac_Ms_code]; exact J1
    obtain ⟨_, _, ec, hec, hc1, hc2⟩ := J1.2.2.2.2.2.2.2.2.1
    refine ⟨N + 1, tick_loop (n := n) (N := N) (x2 := x36) (by omega) N 0 (by omega) (120000 * j) S (Ms_code T 0) u 0 0 J2 (by omega) (by omega) (by omega) _ (fun S1 T1 hr ⟨u1, J3⟩ => ?_)⟩
    have hcode : M_code T1 = 0 := (J3.2.2.1 n (Nat.le_refl n)).2.2.2.2.2
    refine ⟨fun h9 => absurd h9 g0, fun _ => ⟨fun _ => ref_ok (fun x27 e27 => ?_), fun h9 => absurd g1 h9⟩⟩
    have e27 : x27 = x36 := by rw [e27, e36, hc1, hc2]
    rw [e27]
    refine hr _ ⟨hcode, fun _ => rfl, u1, n, ?_⟩
    rw [← hcode, (Ms_c0 T1).1]
    exact JJ_b J3 (by omega)
  · exact ⟨fun h9 => absurd h9 g0, fun _ => ⟨fun h9 => absurd h9 g1, fun _ => ref_no n1le (agI_no J n1le)⟩⟩
end AGREE3
