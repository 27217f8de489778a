section ENDSTEP
variable {u n : Nat} {S : HS} {T : MS} {b c t l : Nat} {sr : Nat → Int32} {fr top : UInt64}
/-- what is left of a track -/
def lfM (T : MS) (c t : Nat) : UInt64 := FP.dsub (M_free T t) (FP.dmul 4623226492472524800 (FP.i2d (M_wagons T c)))
theorem lf_nn (hC : JC n S T) (hF : JF S T) (hc : c < n) (ht : t < 8) : nn (lfM T c t) := sub_nnF (hF t ht).2 (jc_len hC hc).1.1
theorem la_eq {T31 S28 S22 : MS} (e22 : S22 = Ms_state T (upd (M_state T) c 2)) (e28 : S28 = Ms_free S22 (vf_upd (M_free S22) t fr)) (e31 : T31 = Ms_fastest S28 top) : T31 = laT T c t fr top := by
  subst e31 e28 e22
  unfold laT
  simp only [ac_Ms_state]
theorem wm_land (hC : JC n S T) (hD : JD n S T) (hF : JF S T) (hc : c < n) (ht : t < 8) (e1 : M_passed T c = nI 3) (e2 : M_sides T c = nI t) (hG : ¬ dL (M_place T c) 4641240890982006784) (hG2 : dG (M_place T c) (FP.dadd 4641240890982006784 (M_free T t)) ∨ dE (M_place T c) (FP.dadd 4641240890982006784 (M_free T t))) (hfr : (dL (lfM T c t) FP.dconst0 → fr = FP.dconst0) ∧ (¬ dL (lfM T c t) FP.dconst0 → fr = lfM T c t)) (htop : (dG (M_speed T c) (M_fastest T) → top = M_speed T c) ∧ (¬ dG (M_speed T c) (M_fastest T) → top = M_fastest T)) {q : MS → Prop} (h : enW (laT T c t fr top) c t q) : wp_X3_ends (nI c) T q := by
  have hn := jc_n hC
  unfold wp_X3_ends
  rw [nI_clamp (show c < 2 ^ 31 by omega), e1, e2]
  refine ⟨vp_in_nI (by omega) (by omega), fun h9 => absurd h9 (by decide), fun _ => ⟨fun _ x4 e4 => ?_, fun h9 => absurd h9 hG⟩⟩
  subst e4
  rw [nI_clamp (show t < 2 ^ 31 by omega)]
  refine ⟨vp_in_nI ht (by omega), n64_iff.mpr (add_Fnn (mb_fin (K := 1040) (by unfold mb; decide) (by omega)) (hF t ht).2), fun x7 e7 => ?_⟩
  subst e7
  refine ⟨fun h9 => absurd hG2 h9, fun _ S22 e22 => ?_⟩
  have a1 : M_wagons S22 = M_wagons T := by rw [e22]; simp only [ac_Ms_state]
  have a2 : M_free S22 = M_free T := by rw [e22]; simp only [ac_Ms_state]
  rw [a1]
  refine ⟨n64_iff.mpr (fin_nn (jc_len hC hc).1.1), fun x24 e24 => ?_⟩
  subst e24
  rw [a2]
  refine ⟨n64_iff.mpr (lf_nn hC hF hc ht), fun x26 e26 => ?_⟩
  have e26 : x26 = lfM T c t := e26
  subst e26
  refine ⟨fun g S28 e28 => ?_, fun g x44 e44 S45 e45 => ?_⟩
  · rw [← hfr.2 g, ← a2] at e28
    have b1 : M_speed S28 = M_speed T := by rw [e28, e22]; simp only [ac_Ms_free, ac_Ms_state]
    have b2 : M_fastest S28 = M_fastest T := by rw [e28, e22]; simp only [ac_Ms_free, ac_Ms_state]
    rw [b1, b2]
    refine ⟨fun g2 x30 e30 S31 e31 => ?_, fun g2 x30 e30 S31 e31 => ?_⟩
    · rw [e30, ← htop.2 g2] at e31
      rw [la_eq e22 e28 e31]
      exact h
    · rw [e30, ← htop.1 g2] at e31
      rw [la_eq e22 e28 e31]
      exact h
  · rw [e44, ← hfr.1 g, ← a2] at e45
    have b1 : M_speed S45 = M_speed T := by rw [e45, e22]; simp only [ac_Ms_free, ac_Ms_state]
    have b2 : M_fastest S45 = M_fastest T := by rw [e45, e22]; simp only [ac_Ms_free, ac_Ms_state]
    rw [b1, b2]
    refine ⟨fun g2 x30 e30 S31 e31 => ?_, fun g2 x30 e30 S31 e31 => ?_⟩
    · rw [e30, ← htop.2 g2] at e31
      rw [la_eq e22 e45 e31]
      exact h
    · rw [e30, ← htop.1 g2] at e31
      rw [la_eq e22 e45 e31]
      exact h
theorem las_eq {S14 S12 S10 S6 : HS} {x13 : Int32} (hl : H_landed S = nI l) (e6 : S6 = Hs_free S (vf_upd (H_free S) t fr)) (e10 : S10 = Hs_top S6 top) (e12 : S12 = Hs_st S10 (upd (H_st S10) (aT (H_L S) c) 2)) (e13 : x13 = H_landed S12 + 1) (e14 : S14 = Hs_landed S12 x13) : S14 = laS S c t l fr top := by
  have h1 : H_landed S12 = nI l := by rw [e12, e10, e6]; simp only [ac_Hs_st, ac_Hs_top, ac_Hs_free]; exact hl
  have h2 : H_st S10 = H_st S := by rw [e10, e6]; simp only [ac_Hs_top, ac_Hs_free]
  rw [h1, nI_1] at e13
  rw [h2] at e12
  subst e14 e13 e12 e10 e6
  rfl
theorem wc_land (hC : JC n S T) (hD : JD n S T) (hF : JF S T) (hW : JW S T) (hc : c < n) (ht : t < 8) (hl : H_landed S = nI l) (hfr : (dL (lfM T c t) FP.dconst0 → fr = FP.dconst0) ∧ (¬ dL (lfM T c t) FP.dconst0 → fr = lfM T c t)) (htop : (dG (M_speed T c) (M_fastest T) → top = M_speed T c) ∧ (¬ dG (M_speed T c) (M_fastest T) → top = M_fastest T)) {post : HS → Prop} (h : wp_X2_enterSiding (aT (H_L S) c) (nI t) (laS S c t l fr top) (fun S15 => (aT (H_L S) c ∈ H_L S15) ∧ wp_X1_note 2 (H_num S15 (aT (H_L S) c)) (nI t) (H_ticks S15) S15 (fun S17 => post S17))) : wp_X2_land (aT (H_L S) c) (nI t) S post := by
  have hn := jc_n hC
  unfold wp_X2_land
  rw [nI_clamp (show t < 2 ^ 31 by omega), (hF t ht).1, (jc_len hC hc).2]
  refine ⟨vp_in_nI ht (by omega), jc_mem hC hc, n64_iff.mpr (lf_nn hC hF hc ht), fun x4 e4 => ?_⟩
  have e4 : x4 = lfM T c t := e4
  subst e4
  refine ⟨fun g S6 e6 => ?_, fun g x27 e27 S6 e6 => ?_⟩
  · rw [← hfr.2 g] at e6
    have b1 : H_sp S6 = H_sp S := by rw [e6]; simp only [ac_Hs_free]
    have b2 : H_top S6 = H_top S := by rw [e6]; simp only [ac_Hs_free]
    have b3 : H_L S6 = H_L S := by rw [e6]; simp only [ac_Hs_free]
    rw [b1, b2, b3, (hD c hc).2.1.2.1, hW.1.2]
    refine ⟨jc_mem hC hc, fun g2 x9 e9 S10 e10 => ?_, fun g2 x9 e9 S10 e10 => ?_⟩
    · rw [e9, ← htop.2 g2] at e10
      have b4 : H_L S10 = H_L S := by rw [e10]; simp only [ac_Hs_top]; exact b3
      rw [b4]
      refine ⟨jc_mem hC hc, fun S12 e12 x13 e13 S14 e14 => ?_⟩
      rw [las_eq hl e6 e10 e12 e13 e14]
      exact h
    · rw [e9, ← htop.1 g2] at e10
      have b4 : H_L S10 = H_L S := by rw [e10]; simp only [ac_Hs_top]; exact b3
      rw [b4]
      refine ⟨jc_mem hC hc, fun S12 e12 x13 e13 S14 e14 => ?_⟩
      rw [las_eq hl e6 e10 e12 e13 e14]
      exact h
  · rw [e27, ← hfr.1 g] at e6
    have b1 : H_sp S6 = H_sp S := by rw [e6]; simp only [ac_Hs_free]
    have b2 : H_top S6 = H_top S := by rw [e6]; simp only [ac_Hs_free]
    have b3 : H_L S6 = H_L S := by rw [e6]; simp only [ac_Hs_free]
    rw [b1, b2, b3, (hD c hc).2.1.2.1, hW.1.2]
    refine ⟨jc_mem hC hc, fun g2 x9 e9 S10 e10 => ?_, fun g2 x9 e9 S10 e10 => ?_⟩
    · rw [e9, ← htop.2 g2] at e10
      have b4 : H_L S10 = H_L S := by rw [e10]; simp only [ac_Hs_top]; exact b3
      rw [b4]
      refine ⟨jc_mem hC hc, fun S12 e12 x13 e13 S14 e14 => ?_⟩
      rw [las_eq hl e6 e10 e12 e13 e14]
      exact h
    · rw [e9, ← htop.1 g2] at e10
      have b4 : H_L S10 = H_L S := by rw [e10]; simp only [ac_Hs_top]; exact b3
      rw [b4]
      refine ⟨jc_mem hC hc, fun S12 e12 x13 e13 S14 e14 => ?_⟩
      rw [las_eq hl e6 e10 e12 e13 e14]
      exact h
/-- not ended, and standing, in the model -/
theorem wm_stay (hC : JC n S T) (hD : JD n S T) (hF : JF S T) (hc : c < n) {q : MS → Prop} {t : Nat} (ht : t < 8) (e2 : M_passed T c = nI 3 → M_sides T c = nI t) (h : (M_passed T c < 3 ∨ dL (M_place T c) 4641240890982006784 ∨ (M_passed T c = nI 3 ∧ ¬ (dG (M_place T c) (FP.dadd 4641240890982006784 (M_free T t)) ∨ dE (M_place T c) (FP.dadd 4641240890982006784 (M_free T t))) ∧ (¬ dE (M_speed T c) FP.dconst0 ∨ ¬ (dG (rrM T c) 4641240890982006784 ∨ dE (rrM T c) 4641240890982006784)))) ∧ q T) : wp_X3_ends (nI c) T q := by
  have hn := jc_n hC
  obtain ⟨h, hq⟩ := h
  unfold wp_X3_ends
  rw [nI_clamp (show c < 2 ^ 31 by omega)]
  refine ⟨vp_in_nI (by omega) (by omega), fun _ => hq, fun h1 => ⟨fun h2 x4 e4 => ?_, fun _ => hq⟩⟩
  rcases h with h | h | ⟨h, h3, h4⟩
  · exact absurd h h1
  · exact absurd h h2
  · rw [e2 h] at e4
    subst e4
    rw [nI_clamp (show t < 2 ^ 31 by omega)]
    refine ⟨vp_in_nI ht (by omega), n64_iff.mpr (add_Fnn (mb_fin (K := 1040) (by unfold mb; decide) (by omega)) (hF t ht).2), fun x7 e7 => ?_⟩
    subst e7
    refine ⟨fun _ => ⟨fun _ => hq, fun h5 => wm_rear hC hD hc ⟨fun _ => hq, fun h6 => ?_⟩⟩, fun h9 => absurd h9 h3⟩
    rcases h4 with h4 | h4
    · exact absurd h5 h4
    · exact absurd h6 h4
theorem wm_stand (hC : JC n S T) (hD : JD n S T) (hF : JF S T) (hc : c < n) (ht : t < 8) (e1 : M_passed T c = nI 3) (e2 : M_sides T c = nI t) (hG : ¬ dL (M_place T c) 4641240890982006784) (hG2 : ¬ (dG (M_place T c) (FP.dadd 4641240890982006784 (M_free T t)) ∨ dE (M_place T c) (FP.dadd 4641240890982006784 (M_free T t)))) (hz : dE (M_speed T c) FP.dconst0) (hr : dG (rrM T c) 4641240890982006784 ∨ dE (rrM T c) 4641240890982006784) {q : MS → Prop} (h : enW (sdT T c t (FP.dsub (rrM T c) 4641240890982006784)) c t q) : wp_X3_ends (nI c) T q := by
  have hn := jc_n hC
  have nfr : nn (FP.dsub (rrM T c) 4641240890982006784) := sub_nnF (rr_nn hC hD hc) (mb_fin (K := 1040) (by unfold mb; decide) (by omega))
  unfold wp_X3_ends
  rw [nI_clamp (show c < 2 ^ 31 by omega), e1, e2]
  refine ⟨vp_in_nI (by omega) (by omega), fun h9 => absurd h9 (by decide), fun _ => ⟨fun _ x4 e4 => ?_, fun h9 => absurd h9 hG⟩⟩
  subst e4
  rw [nI_clamp (show t < 2 ^ 31 by omega)]
  refine ⟨vp_in_nI ht (by omega), n64_iff.mpr (add_Fnn (mb_fin (K := 1040) (by unfold mb; decide) (by omega)) (hF t ht).2), fun x7 e7 => ?_⟩
  subst e7
  refine ⟨fun _ => ⟨fun h9 => absurd hz h9, fun _ => wm_rear hC hD hc ⟨fun h9 => absurd hr h9, fun _ S12 e12 => ?_⟩⟩, fun h9 => absurd h9 hG2⟩
  unfold wp_X3_rear
  have a1 : M_wagons S12 = M_wagons T := by rw [e12]; simp only [ac_Ms_state]
  have a2 : M_place S12 = M_place T := by rw [e12]; simp only [ac_Ms_state]
  rw [a1, a2, nI_clamp (show c < 2 ^ 31 by omega)]
  refine ⟨vp_in_nI (by omega) (by omega), n64_iff.mpr (fin_nn (jc_len hC hc).1.1), fun x3 e3 => ?_⟩
  subst e3
  refine ⟨n64_iff.mpr (rr_nn hC hD hc), fun x5 e5 => ?_⟩
  have e5 : x5 = rrM T c := e5
  subst e5
  refine ⟨n64_iff.mpr nfr, fun x15 e15 S16 e16 => ?_⟩
  have e16 : S16 = sdT T c t (FP.dsub (rrM T c) 4641240890982006784) := by
    subst e16 e15 e12
    unfold sdT
    simp only [ac_Ms_state]
  rw [e16]
  exact h
theorem wc_stand (hC : JC n S T) (hD : JD n S T) (hc : c < n) (ht : t < 8) (hl : H_standing S = nI l) {post : HS → Prop} (h : wp_X2_enterSiding (aT (H_L S) c) (nI t) (sdS S c t l (FP.dsub (rrM T c) 4641240890982006784)) (fun S15 => (aT (H_L S) c ∈ H_L S15) ∧ wp_X1_note 3 (H_num S15 (aT (H_L S) c)) (nI t) (H_ticks S15) S15 (fun S17 => post S17))) : wp_X2_stand (aT (H_L S) c) (nI t) S post := by
  have nfr : nn (FP.dsub (rrM T c) 4641240890982006784) := sub_nnF (rr_nn hC hD hc) (mb_fin (K := 1040) (by unfold mb; decide) (by omega))
  unfold wp_X2_stand
  refine ⟨jc_mem hC hc, wc_rear hC hD hc ⟨n64_iff.mpr nfr, fun x5 e5 => ?_⟩⟩
  subst e5
  rw [nI_clamp (show t < 2 ^ 31 by omega)]
  refine ⟨vp_in_nI ht (by omega), fun S7 e7 => ?_⟩
  have b1 : H_L S7 = H_L S := by rw [e7]; simp only [ac_Hs_free]
  have b2 : H_st S7 = H_st S := by rw [e7]; simp only [ac_Hs_free]
  rw [b1, b2]
  refine ⟨jc_mem hC hc, fun S9 e9 x10 e10 S11 e11 => ?_⟩
  have b3 : H_standing S9 = nI l := by rw [e9, e7]; simp only [ac_Hs_st, ac_Hs_free]; exact hl
  rw [b3, nI_1] at e10
  have e11 : S11 = sdS S c t l (FP.dsub (rrM T c) 4641240890982006784) := by
    subst e11 e10 e9 e7
    rfl
  rw [e11]
  exact h
end ENDSTEP
