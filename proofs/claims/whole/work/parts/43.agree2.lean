section AGREE2
variable {j : Nat} {S : HS} {T : MS}
theorem wm_isCut {n : Nat} (hC : JC n S T) {a0 : Int32} {post : Int32 → Prop} (h1 : ∀ c, c < n → a0 = nI c → post 1) (h0 : (a0 < 0 ∨ ¬ a0 < nI n) → post 0) : wp_X3_isCut T a0 post := by
  have hn := jc_n hC
  unfold wp_X3_isCut
  rw [hC.2.1]
  refine ⟨fun g => h0 (.inl g), fun g => ⟨fun g2 => h0 (.inr (Int32.not_lt.mpr g2)), fun g2 => ?_⟩⟩
  obtain ⟨c, hc, e⟩ := idx (m := n) (by omega) g (Int32.not_le.mp g2)
  exact h1 c hc e
theorem wc_cutOf {n : Nat} (hC : JC n S T) {a0 : Int32} {post : Nat → Prop} {px : String → Prop} (h1 : ∀ c, c < n → a0 = nI c → post (aT (H_L S) c)) (h0 : (a0 < 0 ∨ ¬ a0 < nI n) → px xIOB) : wp_X2_cutOf S a0 post px := by
  have hn := jc_n hC
  unfold wp_X2_cutOf
  refine ⟨fun g => h0 (.inl g), fun g => ⟨fun g2 => ?_, fun g2 => h0 (.inr (by rw [hC.2.2.1] at g2; exact g2))⟩⟩
  rw [hC.2.2.1] at g2
  obtain ⟨c, hc, e⟩ := idx (m := n) (by omega) g g2
  subst e
  exact ⟨aT (H_L S) c, jc_get hC hc, jc_mem hC hc, h1 c hc rfl⟩
theorem no_cut {n c : Nat} (hn : n ≤ 60) (hc : c < n) : ¬ (nI c < 0 ∨ ¬ nI c < nI n) := fun h => by
  rcases h with h | h
  · exact nI_pos (by omega) h
  · exact h (nI_lt hc (by omega))
theorem ag_place (J : JI j S T) {a0 : Int32} {o : UInt64} : wp_X2_place S a0 (fun r => wp_X3_place a0 T (agD j 0 S r)) (fun E => (E = xIOB ∧ wp_X3_place a0 T (agD j 1 S o))) := by
  obtain ⟨u, n, J0, J⟩ := jx J
  have hC := J0.1
  have hn := jc_n hC
  unfold wp_X2_place
  refine wc_cutOf hC (fun c hc e => ⟨jc_mem hC hc, ?_⟩) (fun g => ⟨rfl, ?_⟩)
  · subst e
    refine wm_isCut hC (fun c' hc' e' => ⟨fun h9 => absurd h9 (by decide), fun _ => ref_ok ?_⟩) (fun h9 => absurd h9 (no_cut hn hc))
    rw [nI_clamp (by omega)]
    exact ⟨vp_in_nI (by omega) (by omega), by simp only [ac_Ms_code], fun _ => by simp only [ac_Ms_code]; exact (J0.2.1 c hc).2.1.1, JI_code J⟩
  · exact wm_isCut hC (fun c' hc' e' => absurd g (by rw [e']; exact no_cut hn hc')) (fun _ => ⟨fun _ => ref_no n1le (agD_no J n1le), fun h9 => absurd rfl h9⟩)
theorem ag_speed (J : JI j S T) {a0 : Int32} {o : UInt64} : wp_X2_speed S a0 (fun r => wp_X3_speed a0 T (agD j 0 S r)) (fun E => (E = xIOB ∧ wp_X3_speed a0 T (agD j 1 S o))) := by
  obtain ⟨u, n, J0, J⟩ := jx J
  have hC := J0.1
  have hn := jc_n hC
  unfold wp_X2_speed
  refine wc_cutOf hC (fun c hc e => ⟨jc_mem hC hc, ?_⟩) (fun g => ⟨rfl, ?_⟩)
  · subst e
    refine wm_isCut hC (fun c' hc' e' => ⟨fun h9 => absurd h9 (by decide), fun _ => ref_ok ?_⟩) (fun h9 => absurd h9 (no_cut hn hc))
    rw [nI_clamp (by omega)]
    exact ⟨vp_in_nI (by omega) (by omega), by simp only [ac_Ms_code], fun _ => by simp only [ac_Ms_code]; exact (J0.2.1 c hc).2.1.2.1, JI_code J⟩
  · exact wm_isCut hC (fun c' hc' e' => absurd g (by rw [e']; exact no_cut hn hc')) (fun _ => ⟨fun _ => ref_no n1le (agD_no J n1le), fun h9 => absurd rfl h9⟩)
theorem out3 {x : Int32} {m : Nat} (hm : m < 2 ^ 31) (h : x.toInt < 0 ∨ (m : Int) < x.toInt) : x < 0 ∨ ¬ x ≤ nI m := by
  rcases h with h | h
  · exact .inl (Int32.lt_iff_toInt_lt.mpr h)
  · refine .inr (fun h9 => ?_)
    have := Int32.le_iff_toInt_le.mp h9
    rw [nI_toInt hm] at this
    omega
theorem agI_ok (J : JI j S T) {r : Int32} : agI j 0 S r.toInt64 r (Ms_code T 0) := ⟨by simp only [ac_Ms_code], fun _ => rfl, JI_code J⟩
/-- told, in the model, where the cut is there -/
theorem wm_told {n c : Nat} (hC : JC n S T) (hc : c < n) {a1 : Int32} {post : Int32 → MS → Prop} (hbad : (a1 < 0 ∨ ¬ a1 ≤ 3) → post 0 (Ms_code T 2)) (h0 : a1 = 0 → post (M_state T c) (Ms_code T 0)) (h1 : a1 = 1 → (¬ M_passed T c = 3 → post (-1) (Ms_code T 0)) ∧ (M_passed T c = 3 → post (M_sides T c) (Ms_code T 0))) (h2 : a1 = 2 → post (M_passed T c) (Ms_code T 0)) (h3 : a1 = 3 → post (M_caught T c) (Ms_code T 0)) : wp_X3_told (nI c) a1 T post := by
  have hn := jc_n hC
  unfold wp_X3_told
  refine wm_isCut hC (fun c' hc' e' => ⟨fun _ => ⟨fun g => ref_no n2le (hbad (.inl g)), fun g => ⟨fun g2 => ref_ok ?_, fun g2 => ref_no n2le (hbad (.inr g2))⟩⟩, fun h9 => absurd h9 (by decide)⟩) (fun h9 => absurd h9 (no_cut hn hc))
  rw [nI_clamp (by omega)]
  simp only [ac_Ms_code]
  refine ⟨fun q0 => ⟨fun q1 => ⟨fun q2 => ⟨vp_in_nI (by omega) (by omega), h3 ?_⟩, fun q2 => ⟨vp_in_nI (by omega) (by omega), h2 q2⟩⟩, fun q1 => ⟨vp_in_nI (by omega) (by omega), h1 q1⟩⟩, fun q0 => ⟨vp_in_nI (by omega) (by omega), h0 q0⟩⟩
  obtain ⟨r, hr, rfl⟩ := idx (m := 4) (by omega) g (by
    refine Int32.lt_iff_toInt_lt.mpr ?_
    have := Int32.le_iff_toInt_le.mp g2
    have e3 : (3 : Int32).toInt = 3 := by decide
    rw [nI_toInt (by omega)]; omega)
  have : r = 3 := by
    have h0' : r ≠ 0 := fun e => q0 (by rw [e]; rfl)
    have h1' : r ≠ 1 := fun e => q1 (by rw [e]; rfl)
    have h2' : r ≠ 2 := fun e => q2 (by rw [e]; rfl)
    omega
  rw [this]; rfl
theorem ag_told (J : JI j S T) {a0 a1 : Int32} {o : Int64} : wp_X2_told S a0 a1 (fun r => wp_X3_told a0 a1 T (agI j 0 S r.toInt64)) (fun E => (E = xIOB ∧ wp_X3_told a0 a1 T (agI j 1 S o)) ∨ (E = xIAE ∧ wp_X3_told a0 a1 T (agI j 2 S o))) := by
  obtain ⟨u, n, J0, J⟩ := jx J
  have hC := J0.1
  have hn := jc_n hC
  unfold wp_X2_told
  refine wc_cutOf hC (fun c hc e => ?_) (fun g => .inl ⟨rfl, ?_⟩)
  · subst e
    obtain ⟨v, pa, si, ⟨_, hpa, hsi⟩, e0, e1, e2, e4, e3⟩ := (J0.2.1 c hc).1
    have tt := t_track pa hpa si (si8 hpa hsi) hsi
    have cb := (J0.2.1 c hc).2.1.2.2
    refine ⟨fun g => .inr ⟨rfl, ?_⟩, fun g => ⟨jc_mem hC hc, ?_⟩, fun g => ⟨jc_mem hC hc, wc_trackOf ?_⟩, fun g => ⟨jc_mem hC hc, wc_levelOf ?_⟩, fun g => ⟨jc_mem hC hc, ?_⟩⟩
    · have g' := out3 (m := 3) (by omega) g
      refine wm_told hC hc (fun _ => agI_no J n2le) (fun h9 => ?_) (fun h9 => ?_) (fun h9 => ?_) (fun h9 => ?_) <;> subst h9 <;> exact absurd g' (by decide)
    · subst g
      refine wm_told hC hc (fun h9 => absurd h9 (by decide)) (fun _ => ?_) (fun h9 => absurd h9 (by decide)) (fun h9 => absurd h9 (by decide)) (fun h9 => absurd h9 (by decide))
      rw [e4, ← e0]; exact agI_ok J
    · subst g
      rw [e3, tt.1]
      refine wm_told hC hc (fun h9 => absurd h9 (by decide)) (fun h9 => absurd h9 (by decide)) (fun _ => ⟨fun q => ?_, fun q => ?_⟩) (fun h9 => absurd h9 (by decide)) (fun h9 => absurd h9 (by decide))
      · rw [if_neg (fun h9 => q (by rw [e1, h9]; rfl))]; exact agI_ok J
      · rw [if_pos ((nI_eq (b := 3) (by omega) (by omega)).mp (e1.symm.trans q)), ← e2]; exact agI_ok J
    · subst g
      rw [e3, tt.2.1, ← e1]
      exact wm_told hC hc (fun h9 => absurd h9 (by decide)) (fun h9 => absurd h9 (by decide)) (fun h9 => absurd h9 (by decide)) (fun _ => agI_ok J) (fun h9 => absurd h9 (by decide))
    · subst g
      rw [cb]
      exact wm_told hC hc (fun h9 => absurd h9 (by decide)) (fun h9 => absurd h9 (by decide)) (fun h9 => absurd h9 (by decide)) (fun h9 => absurd h9 (by decide)) (fun _ => agI_ok J)
  · exact wm_isCut hC (fun c' hc' e' => absurd g (by rw [e']; exact no_cut hn hc')) (fun _ => ⟨fun h9 => absurd rfl h9, fun _ => ref_no n1le (agI_no J n1le)⟩)
theorem ag_fastest (J : JI j S T) : wp_X2_fastest S (fun r => wp_X3_fastest T (agD j 0 S r)) := by
  obtain ⟨u, n, J0, J⟩ := jx J
  intro S1 e
  subst e
  exact ⟨by simp only [ac_Ms_code], fun _ => by simp only [ac_Ms_code]; exact J0.2.2.2.2.2.1.1.2, JI_code J⟩
theorem ag_siding (J : JI j S T) {a0 a1 : Int32} {o : Int64} : wp_X2_siding S a0 a1 (fun r => wp_X3_siding a0 a1 T (agI j 0 S r.toInt64)) (fun E => (E = xIOB ∧ wp_X3_siding a0 a1 T (agI j 1 S o))) := by
  obtain ⟨u, n, J0, J⟩ := jx J
  have hC := J0.1
  have hn := jc_n hC
  have hS := J0.2.2.2.2.2.2.2.1
  unfold wp_X2_siding wp_X2_isTrack
  refine ⟨fun g0 => ⟨fun h9 => absurd rfl h9, fun _ => ⟨rfl, ?_⟩⟩, fun g0 => ⟨fun g1 => ⟨fun h9 => absurd rfl h9, fun _ => ⟨rfl, ?_⟩⟩, fun g1 => ⟨fun _ => ?_, fun h9 => absurd h9 (by decide)⟩⟩⟩
  · exact ⟨fun _ => ref_no n1le (agI_no J n1le), fun h9 => absurd g0 h9⟩
  · exact ⟨fun h9 => absurd h9 g0, fun _ => ⟨fun h9 => absurd g1 (Int32.not_le.mpr h9), fun _ => ref_no n1le (agI_no J n1le)⟩⟩
  · have g1' := Int32.not_le.mp g1
    obtain ⟨t, ht, rfl⟩ := idx (m := 8) (by omega) g0 g1'
    obtain ⟨k, hk, hkle⟩ := hS.2 t ht
    have hcs := cn_sum (M_state T) n
    rw [nI_clamp (by omega), hS.1.1, hS.1.2, hk]
    have mod : ∀ q : Int32 → MS → Prop, (a1 < 0 → q (-1) (Ms_code T 0)) → (¬ a1 < 0 → nI k ≤ a1 → q (-1) (Ms_code T 0)) → (¬ a1 < 0 → ¬ nI k ≤ a1 → (vp_in (((60 : Int32) * nI t) + a1) 480) ∧ q (M_sidings T (((60 : Int32) * nI t) + a1).toNatClampNeg) (Ms_code T 0)) → wp_X3_siding (nI t) a1 T q := by
      intro q h1 h2 h3
      refine ⟨fun h9 => absurd h9 g0, fun _ => ⟨fun _ => ref_ok ⟨h1, fun q1 => ⟨vp_in_nI ht (by omega), ?_⟩⟩, fun h9 => absurd g1' h9⟩⟩
      rw [nI_clamp (by omega)]
      simp only [ac_Ms_code]
      rw [hk]
      exact ⟨h2 q1, h3 q1⟩
    refine ⟨fun q1 => mod _ (fun _ => agI_ok J) (fun h9 => absurd q1 h9) (fun h9 => absurd q1 h9), fun q1 => ⟨vp_in_nI ht (by omega), fun q2 => mod _ (fun _ => agI_ok J) (fun _ _ => agI_ok J) (fun _ h9 => absurd q2 h9), fun q2 => ?_⟩⟩
    obtain ⟨i, hi, rfl⟩ := idx (m := k) (by omega) q1 (Int32.not_le.mp q2)
    refine ⟨fun h9 => absurd h9 (nI_ge (b := 60) (by omega) (by decide)), fun _ => ?_⟩
    rw [ix60', nI_clamp (by omega)]
    refine ⟨vp_in_nI (by omega) (by omega), mod _ (fun h9 => absurd h9 q1) (fun _ h9 => absurd h9 q2) (fun _ _ => ?_)⟩
    rw [ix60, nI_clamp (by omega)]
    exact ⟨vp_in_nI (by omega) (by omega), agI_ok J⟩
theorem ag_event (J : JI j S T) (hj : j < 2000) {a0 a1 : Int32} {o : Int64} : wp_X2_event S a0 a1 (fun r => wp_X3_event a0 a1 T (agI j 0 S r.toInt64)) (fun E => (E = xIOB ∧ wp_X3_event a0 a1 T (agI j 1 S o)) ∨ (E = xIAE ∧ wp_X3_event a0 a1 T (agI j 2 S o))) := by
  obtain ⟨u, n, J0, J⟩ := jx J
  obtain ⟨hrows, _, ec, hec, hc1, hc2⟩ := J0.2.2.2.2.2.2.2.2.1
  unfold wp_X2_event wp_X1_keeps
  rw [hc1]
  refine ⟨fun g0 => ⟨fun h9 => absurd rfl h9, fun _ => .inl ⟨rfl, ?_⟩⟩, fun g0 => ⟨fun g1 => ⟨fun h9 => absurd rfl h9, fun _ => .inl ⟨rfl, ?_⟩⟩, fun g1 => ⟨fun g2 => ⟨fun h9 => absurd rfl h9, fun _ => .inl ⟨rfl, ?_⟩⟩, fun g2 => ⟨fun _ => ⟨fun g3 => .inr ⟨rfl, ?_⟩, fun g3 => ⟨fun g4 => ?_, fun g4 => .inr ⟨rfl, ?_⟩⟩⟩, fun h9 => absurd h9 (by decide)⟩⟩⟩⟩
  · exact ⟨fun _ => ref_no n1le (agI_no J n1le), fun h9 => absurd g0 h9⟩
  · exact ⟨fun h9 => absurd h9 g0, fun _ => ⟨fun _ => ref_no n1le (agI_no J n1le), fun h9 => absurd g1 h9⟩⟩
  · refine ⟨fun h9 => absurd h9 g0, fun _ => ⟨fun h9 => absurd h9 g1, fun _ => ⟨fun h9 => absurd g2 (Int32.not_le.mpr (by rw [hc2] at h9; exact h9)), fun _ => ref_no n1le (agI_no J n1le)⟩⟩⟩
  · refine ⟨fun h9 => absurd h9 g0, fun _ => ⟨fun h9 => absurd h9 g1, fun _ => ⟨fun _ => ⟨fun _ => ref_no n2le (agI_no J n2le), fun h9 => absurd g3 h9⟩, fun h9 => absurd (by rw [hc2]; exact Int32.not_le.mp g2) h9⟩⟩⟩
  · obtain ⟨i, hi, rfl⟩ := idx (m := ec) (by omega) g0 (Int32.not_le.mp g2)
    obtain ⟨w, hw, rfl⟩ := idx (m := 4) (by omega) g3 g4
    have e1 : nI ec - 1 - nI i = nI (ec - 1 - i) := by
      refine Int32.toInt_inj.mp ?_
      have e0 : nI ec - 1 = nI (ec - 1) := by
        have := nI_pred (ec - 1)
        rw [show ec - 1 + 1 = ec by omega] at this
        exact this
      rw [e0, Int32.toInt_sub, nI_toInt (by omega), nI_toInt (by omega), nI_toInt (by omega), Int.bmod_eq_of_le (by omega) (by omega)]
      omega
    have e2 : nI ((ec - 1 - i) % 200) * 4 + nI w = nI ((ec - 1 - i) % 200 * 4 + w) := by rw [show (4 : Int32) = nI 4 from rfl, nI_mul4, nI_add]
    have e3 : (4 : Int32) * nI ((ec - 1 - i) % 200) + nI w = nI ((ec - 1 - i) % 200 * 4 + w) := by rw [show (4 : Int32) = nI 4 from rfl, nI_mul4, nI_add, Nat.mul_comm]
    unfold wp_X1_number
    rw [hc1, e1]
    refine wc_floorMod (by omega) ?_
    rw [e2, nI_clamp (by omega), hrows]
    refine ⟨vp_in_nI (by omega) (by omega), fun h9 => absurd h9 g0, fun _ => ⟨fun h9 => absurd h9 g1, fun _ => ⟨fun _ => ⟨fun h9 => absurd h9 g3, fun _ => ⟨fun _ => ref_ok ?_, fun h9 => absurd ?_ h9⟩⟩, fun h9 => absurd (by rw [hc2]; exact Int32.not_le.mp g2) h9⟩⟩⟩
    · simp only [ac_Ms_code]
      rw [hc2, e1, nI_mod200 (by omega), e3, nI_clamp (by omega)]
      exact ⟨vp_in_nI (by omega) (by omega), agI_ok J⟩
    · exact nI_le (b := 3) (by omega) (by decide)
  · refine ⟨fun h9 => absurd h9 g0, fun _ => ⟨fun h9 => absurd h9 g1, fun _ => ⟨fun _ => ⟨fun _ => ref_no n2le (agI_no J n2le), fun _ => ⟨fun h9 => absurd ?_ g4, fun _ => ref_no n2le (agI_no J n2le)⟩⟩, fun h9 => absurd (by rw [hc2]; exact Int32.not_le.mp g2) h9⟩⟩⟩
    refine Int32.lt_iff_toInt_lt.mpr ?_
    have := Int32.le_iff_toInt_le.mp h9
    have a3 : (3 : Int32).toInt = 3 := by decide
    have a4 : (4 : Int32).toInt = 4 := by decide
    omega
end AGREE2
