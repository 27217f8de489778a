section PUSH2
variable {u n : Nat} {S : HS} {T : MS} {b s : Nat}
theorem jc_get (hC : JC n S T) {c : Nat} (hc : c < n) : lget (H_ca S) (H_cs S) (nI c) (aT (H_L S) c) := by
  obtain ⟨h60, _, hcs, _, _, hca, _⟩ := hC
  rcases hca with ⟨_, h⟩ | ⟨a, N, f, ha, hN, hcap, hf, _⟩
  · omega
  · have hN2 : N < 100 := by
      have : ∀ x ∈ caps, x < 100 := by decide
      exact this N hcap
    refine ⟨a, N, f, ha, nI_pos (by omega), by rw [hcs]; exact nI_lt hc (by omega), vp_in_nI (by omega) (by omega), ?_⟩
    rw [nI_clamp (by omega)]
    exact hf c hc
theorem JD_go (hC : JC n S T) (hD : JD n S T) (hW : JW S T) (hs : s < n) : JD n (goS S s) (goT T s) := by
  intro d hd
  have hd' := hD d hd
  unfold goS goT
  simp only [ac_Hs_sp, ac_Hs_pl, ac_Hs_st, ac_Hs_started, ac_Ms_speed, ac_Ms_place, ac_Ms_state]
  by_cases e : d = s
  · subst e
    rw [up_self, up_self, vu_self, vu_self, vu_self, vu_self]
    obtain ⟨v', pa, si, ⟨_, h1, h2⟩, _, h4, h5, _, h6⟩ := hd'.1
    exact ⟨⟨1, pa, si, ⟨by omega, h1, h2⟩, rfl, h4, h5, rfl, h6⟩, ⟨rfl, hW.1.1, hd'.2.1.2.2⟩, hW.2.1, dc0_lb d⟩
  · have e2 : aT (H_L S) d ≠ aT (H_L S) s := fun h9 => e (jc_inj hC hd hs h9)
    rw [up_ne e, up_ne e2, vu_ne e, vu_ne e2, vu_ne e, vu_ne e2]
    exact hd'
theorem JN_go (hN : JN n T) (hs : s < n) : JN n (goT T s) := by
  intro d hd
  have hd' := hN d hd
  unfold goT
  simp only [ac_Ms_speed, ac_Ms_place, ac_Ms_state]
  rw [up_ne (show d ≠ s by omega), vu_ne (show d ≠ s by omega), vu_ne (show d ≠ s by omega)]
  exact hd'
theorem JL_go (hL : JL n 60 T) : JL n 60 (goT T s) := by
  intro d hd h60 pa hpa e
  unfold goT at e ⊢
  simp only [ac_Ms_speed, ac_Ms_place, ac_Ms_state] at e ⊢
  by_cases hds : d = s
  · subst hds; rw [vu_self]; exact dc0_lt pa hpa
  · rw [vu_ne hds]; exact hL d hd h60 pa hpa e
theorem JJ_go (J : JJ u n (M_state T) 60 b S T) (hs : s < n) (hst : H_started S = nI s) (hw : ∀ c, c < n → (M_state T c = 0 ↔ s ≤ c)) {u1 qa N : Nat} {f : Nat → Option Nat} (hln : lnew (H_ra S) (cn (M_state T) 1 n) (aT (H_L S) s) qa = (N, u1, f)) (hcap : u1 ∈ caps) (hu : cn (M_state T) 1 n + 1 ≤ u1) (hf : ∀ c, c < n → M_state T c = 1 → f (cn (M_state T) 1 c) = some (aT (H_L S) c)) (hf2 : f (cn (M_state T) 1 n) = some (aT (H_L S) s)) (hm : ∀ q z : Nat, f q = some z → z ∈ H_L S) : JJ u1 n (M_state (goT T s)) 60 b (Haddr (goS S s) (aT (H_L S) s) qa) (goT T s) := by
  obtain ⟨hC, hD, hN, hL, hP, hW, hF, hS, hE, hR, hK⟩ := J
  have hn := jc_n hC
  have h0 : M_state T s = 0 := (hw s hs).mpr (Nat.le_refl s)
  have hcn := cn_le (M_state T) 1 n
  have c2 := cn_upd (st := M_state T) (v := 2) (x := 1) (c := s) n hs
  have c3 := cn_upd (st := M_state T) (v := 3) (x := 1) (c := s) n hs
  have c1 := cn_upd (st := M_state T) (v := 1) (x := 1) (c := s) n hs
  rw [h0, if_neg (by decide), if_neg (by decide)] at c2 c3
  rw [h0, if_neg (by decide), if_pos rfl] at c1
  have c4 : cn (M_state T) 1 n = cn (M_state T) 1 s := cn_const n (by omega) (fun c q1 q2 h9 => by
    have := (hw c q2).mpr q1
    rw [this] at h9; exact absurd h9 (by decide))
  have ems : M_state (goT T s) = upd (M_state T) s 1 := by unfold goT; simp only [ac_Ms_speed, ac_Ms_place, ac_Ms_state]
  have e1 : H_ra (goS S s) = H_ra S := by unfold goS; simp only [ac_Hs_sp, ac_Hs_pl, ac_Hs_st, ac_Hs_started]
  have e2 : H_rs (goS S s) = nI (cn (M_state T) 1 n) := by unfold goS; simp only [ac_Hs_sp, ac_Hs_pl, ac_Hs_st, ac_Hs_started]; exact hR.1
  have e3 : H_L (goS S s) = H_L S := by unfold goS; simp only [ac_Hs_sp, ac_Hs_pl, ac_Hs_st, ac_Hs_started]
  have eA : Haddr (goS S s) (aT (H_L S) s) qa = Hs_rs (Hs_ra (Hs_rm (goS S s) (H_rm (goS S s) + 1)) (some (N, u1, f))) (nI (cn (M_state T) 1 n + 1)) := by
    unfold Haddr
    rw [e1, e2, nI_clamp (by omega), hln, nI_1]
  have hC' : JC n (goS S s) (goT T s) := by unfold goS goT; simpa only [fr_JC] using hC
  have hP' : JP (goS S s) (goT T s) := by unfold goS goT; simpa only [fr_JP] using hP
  have hW' : JW (goS S s) (goT T s) := by unfold goS goT; simpa only [fr_JW] using hW
  have hF' : JF (goS S s) (goT T s) := by unfold goS goT; simpa only [fr_JF] using hF
  have hE' : JE b (goS S s) (goT T s) := by unfold goS goT; simpa only [fr_JE] using hE
  have hS' : JS n (goS S s) (goT T s) := by
    unfold JS
    rw [ems, show cn (upd (M_state T) s 1) 2 n = cn (M_state T) 2 n by omega, show cn (upd (M_state T) s 1) 3 n = cn (M_state T) 3 n by omega]
    unfold goS goT
    simp only [ac_Hs_sp, ac_Hs_pl, ac_Hs_st, ac_Hs_started, ac_Ms_speed, ac_Ms_place, ac_Ms_state]
    exact hS
  have hK' : JK n (goS S s) (goT T s) := by
    unfold JK
    rw [ems, show cn (upd (M_state T) s 1) 2 n = cn (M_state T) 2 n by omega, show cn (upd (M_state T) s 1) 3 n = cn (M_state T) 3 n by omega]
    unfold goS
    simp only [ac_Hs_sp, ac_Hs_pl, ac_Hs_st, ac_Hs_started]
    refine ⟨⟨s + 1, by omega, rfl, fun c hc => ?_⟩, hK.2⟩
    by_cases e : c = s
    · subst e; rw [up_self]
      exact ⟨fun h9 => absurd h9 (by decide), fun h9 => by omega⟩
    · rw [up_ne e, hw c hc]; omega
  have hR' : JR u1 n (M_state (goT T s)) (Haddr (goS S s) (aT (H_L S) s) qa) := by
    rw [eA, ems]
    unfold JR
    simp only [ac_Hs_rs, ac_Hs_ra, ac_Hs_rm]
    rw [e3, show cn (upd (M_state T) s 1) 1 n = cn (M_state T) 1 n + 1 by omega]
    refine ⟨rfl, .inr ⟨N, u1, f, rfl, hu, hcap, fun c hc hcs => ?_, hm, rfl⟩⟩
    by_cases e : c = s
    · subst e
      rw [cn_upd_ge (Nat.le_refl c), ← c4]
      exact hf2
    · rw [up_ne e] at hcs
      have hlt : c < s := by
        refine Nat.lt_of_not_le (fun h9 => ?_)
        have := (hw c hc).mpr h9
        rw [this] at hcs; exact absurd hcs (by decide)
      rw [cn_upd_ge (by omega)]
      exact hf c hc hcs
  rw [eA] at hR' ⊢
  exact ⟨by simpa only [fr_JC] using hC', by simpa only [fr_JD] using JD_go hC hD hW hs, JN_go hN hs, JL_go hL, by simpa only [fr_JP] using hP', by simpa only [fr_JW] using hW', by simpa only [fr_JF] using hF', by simpa only [fr_JS] using hS', by simpa only [fr_JE] using hE', hR', by simpa only [fr_JK] using hK'⟩
theorem push_sim (J : JJ u n (M_state T) 60 b S T) : ∃ mc ms : Nat, (usC u + mc ≤ 8 ∧ usS u + ms ≤ 250) ∧ ∀ post : HS → Prop, (∀ S1 T1 u1, (∀ q : MS → Prop, q T1 → wp_X3_pushes T q) → JJ u1 n (M_state T1) 60 b S1 T1 → usC u + mc ≤ usC u1 → usS u + ms ≤ usS u1 → post S1) → wp_X2_pushNext mc ms S post := by
  have J' := J
  obtain ⟨hC, hD, hN, hL, hP, hW, hF, hS, hE, hR, hK⟩ := J
  have hn := jc_n hC
  obtain ⟨⟨s, hsn, hst, hw⟩, _⟩ := hK
  have hus := us_le u
  have hmod := fun (q : MS → Prop) => wm_pushes (q := q) hC hD hsn hw
  by_cases hgo : dG (M_push T) FP.dconst0 ∧ clP n T 0 ∧ s < n
  · obtain ⟨g1, g2, g3⟩ := hgo
    have h0 : M_state T s = 0 := (hw s g3).mpr (Nat.le_refl s)
    have c4 : cn (M_state T) 1 n = cn (M_state T) 1 s := cn_const n (by omega) (fun c q1 q2 h9 => by
      have := (hw c q2).mpr q1
      rw [this] at h9; exact absurd h9 (by decide))
    have hcs := cn_le (M_state T) 1 s
    -- the walk of the class, for what the list asks
    have walk : ∀ (mc ms u1 : Nat), ladd (H_ra S) (H_L S) (H_rs S) (aT (H_L S) s) mc ms → usC u + mc ≤ usC u1 → usS u + ms ≤ usS u1 → (∀ qa : Nat, ∃ (N : Nat) (f : Nat → Option Nat), lnew (H_ra S) (cn (M_state T) 1 n) (aT (H_L S) s) qa = (N, u1, f) ∧ u1 ∈ caps ∧ cn (M_state T) 1 n + 1 ≤ u1 ∧ (∀ c, c < n → M_state T c = 1 → f (cn (M_state T) 1 c) = some (aT (H_L S) c)) ∧ f (cn (M_state T) 1 n) = some (aT (H_L S) s) ∧ ∀ q z : Nat, f q = some z → z ∈ H_L S) → ∀ post : HS → Prop, (∀ S1 T1 u1, (∀ q : MS → Prop, q T1 → wp_X3_pushes T q) → JJ u1 n (M_state T1) 60 b S1 T1 → usC u + mc ≤ usC u1 → usS u + ms ≤ usS u1 → post S1) → wp_X2_pushNext mc ms S post := by
      intro mc ms u1 hladd hc1 hc2 hln post hp
      unfold wp_X2_pushNext
      rw [hW.1.1, hst, hC.2.2.1]
      refine ⟨fun h9 => absurd g1 h9, fun _ => ⟨fun h9 => absurd h9 (nI_ge g3 (by omega)), fun _ => wc_clear hC hD hR (fun _ => ⟨fun h9 => absurd h9 (by decide), fun _ => ⟨aT (H_L S) s, ?_, jc_mem hC g3, fun x8 e8 S9 e9 => ?_⟩⟩) (fun h9 => absurd g2 h9)⟩⟩
      · have := jc_get hC g3
        rw [hC.2.2.1] at this
        exact this
      · have e8 : x8 = nI (s + 1) := by rw [e8]; exact nI_1 s
        rw [e8] at e9
        have a9 : H_L S9 = H_L S := by rw [e9]; simp only [ac_Hs_started]
        rw [a9]
        refine ⟨jc_mem hC g3, fun S11 e11 x12 e12 => ?_⟩
        have a11 : H_L S11 = H_L S := by rw [e11]; simp only [ac_Hs_st]; exact a9
        rw [a11]
        refine ⟨jc_mem hC g3, fun S14 e14 x15 e15 => ?_⟩
        have a14 : H_L S14 = H_L S := by rw [e14]; simp only [ac_Hs_pl]; exact a11
        rw [a14]
        refine ⟨jc_mem hC g3, fun S17 e17 => ?_⟩
        have e17 : S17 = goS S s := by
          have b1 : H_st S9 = H_st S := by rw [e9]; simp only [ac_Hs_started]
          have b2 : H_pl S11 = H_pl S := by rw [e11, e9]; simp only [ac_Hs_st, ac_Hs_started]
          have b3 : H_sp S14 = H_sp S := by rw [e14, e11, e9]; simp only [ac_Hs_pl, ac_Hs_st, ac_Hs_started]
          have b4 : H_push S14 = H_push S := by rw [e14, e11, e9]; simp only [ac_Hs_pl, ac_Hs_st, ac_Hs_started]
          rw [b1] at e11
          rw [b2, e12] at e14
          rw [b4] at e15
          rw [b3, e15] at e17
          subst e17 e14 e11 e9
          rfl
        have e1 : H_ra S17 = H_ra S := by rw [e17]; unfold goS; simp only [ac_Hs_sp, ac_Hs_pl, ac_Hs_st, ac_Hs_started]
        have e2 : H_rs S17 = H_rs S := by rw [e17]; unfold goS; simp only [ac_Hs_sp, ac_Hs_pl, ac_Hs_st, ac_Hs_started]
        have e3 : H_L S17 = H_L S := by rw [e17]; unfold goS; simp only [ac_Hs_sp, ac_Hs_pl, ac_Hs_st, ac_Hs_started]
        rw [e1, e2, e3]
        refine ⟨hladd, fun qa S20 e20 => ?_⟩
        obtain ⟨N, f, k1, k2, k3, k4, k5, k6⟩ := hln qa
        rw [e17] at e20
        rw [e20]
        exact hp _ (goT T s) u1 (fun q hq => hmod q (fun _ _ _ => hq) (fun h9 => by rcases h9 with h9 | h9 | h9; exact absurd g1 h9; exact absurd g2 h9; exact absurd g3 h9)) (JJ_go J' g3 hst hw k1 k2 k3 k4 k5 k6) hc1 hc2
    obtain ⟨hrs, hra⟩ := hR
    rcases hra with ⟨hra, hz, hu0⟩ | ⟨a, N, f, hra, hN, hcap, hf, hm, huN⟩
    · subst hu0
      refine ⟨1, 10, ⟨by decide, by decide⟩, walk 1 10 10 ?_ (by decide) (by decide) (fun qa => ?_)⟩
      · rw [hra]
        exact ⟨0, by rw [hrs, hz], jc_mem hC g3, rfl, rfl, rfl⟩
      · rw [hra, hz]
        refine ⟨qa, va_up (fun _ => none) 0 (some (aT (H_L S) s)), rfl, by decide, by decide, fun c hc hcs => ?_, by unfold va_up; rw [if_pos rfl], fun q z hq => ?_⟩
        · have := cn_lt hc hcs; omega
        · unfold va_up at hq
          split at hq
          · cases hq; exact jc_mem hC g3
          · cases hq
    · subst huN
      by_cases hfull : cn (M_state T) 1 n < u
      · refine ⟨0, 0, ⟨by omega, by omega⟩, walk 0 0 u ?_ (by omega) (by omega) (fun qa => ?_)⟩
        · rw [hra]
          have hN2 : u < 100 := by
            have : ∀ x ∈ caps, x < 100 := by decide
            exact this u hcap
          exact ⟨cn (M_state T) 1 n, hrs, jc_mem hC g3, hm, .inl ⟨hfull, by omega, rfl, rfl⟩⟩
        · refine ⟨a, va_up f (cn (M_state T) 1 n) (some (aT (H_L S) s)), ?_, hcap, by omega, fun c hc hcs => ?_, by unfold va_up; rw [if_pos rfl], fun q z hq => ?_⟩
          · rw [hra]; show (if _ then _ else _) = _; rw [if_pos hfull]
          · have := cn_lt hc hcs
            unfold va_up
            rw [if_neg (by omega)]
            exact hf c hc hcs
          · unfold va_up at hq
            split at hq
            · cases hq; exact jc_mem hC g3
            · exact hm q z hq
      · have hu60 : u < 60 := by omega
        have hue : cn (M_state T) 1 n = u := by omega
        obtain ⟨k1, k2, k3⟩ := us_grow u hcap hu60
        have h10 : 10 ≤ u := by
          have : ∀ x ∈ caps, 10 ≤ x := by decide
          exact this u hcap
        have hus2 := us_le (u + u / 2)
        refine ⟨1, u + u / 2, ⟨by omega, by omega⟩, walk 1 (u + u / 2) (u + u / 2) ?_ k2 k3 (fun qa => ?_)⟩
        · rw [hra]
          exact ⟨cn (M_state T) 1 n, hrs, jc_mem hC g3, hm, .inr ⟨hue, by omega, by omega, rfl, rfl⟩⟩
        · refine ⟨qa, va_up (va_cpy f (fun _ => none) 0 0 u) u (some (aT (H_L S) s)), ?_, k1, by omega, fun c hc hcs => ?_, by unfold va_up; rw [if_pos hue], fun q z hq => ?_⟩
          · rw [hra]; show (if _ then _ else _) = _; rw [if_neg hfull]
          · have := cn_lt hc hcs
            unfold va_up va_cpy
            rw [if_neg (by omega), if_pos (by omega), show 0 + (cn (M_state T) 1 c - 0) = cn (M_state T) 1 c by omega]
            exact hf c hc hcs
          · unfold va_up at hq
            split at hq
            · cases hq; exact jc_mem hC g3
            · unfold va_cpy at hq
              split at hq
              · exact hm _ z hq
              · cases hq
  · refine ⟨0, 0, ⟨by omega, by omega⟩, fun post hp => ?_⟩
    have hno : ¬ dG (M_push T) FP.dconst0 ∨ ¬ clP n T 0 ∨ ¬ s < n := by
      by_cases h1 : dG (M_push T) FP.dconst0
      · by_cases h2 : clP n T 0
        · exact .inr (.inr (fun h3 => hgo ⟨h1, h2, h3⟩))
        · exact .inr (.inl h2)
      · exact .inl h1
    have fin : post S := hp S T u (fun q hq => hmod q (fun a1 a2 a3 => absurd ⟨a1, a2, a3⟩ hgo) (fun _ => hq)) J' (by omega) (by omega)
    unfold wp_X2_pushNext
    rw [hW.1.1, hst, hC.2.2.1]
    refine ⟨fun _ => fin, fun a1 => ⟨fun _ => fin, fun a2 => wc_clear hC hD hR (fun a3 => absurd ⟨a1, a3, ?_⟩ hgo) (fun _ => ⟨fun _ => fin, fun h9 => absurd rfl h9⟩)⟩⟩
    exact Nat.lt_of_not_le (fun h9 => a2 (nI_le h9 (by omega)))
end PUSH2
