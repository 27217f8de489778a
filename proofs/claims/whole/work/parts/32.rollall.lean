section ROLLALL
variable {u n : Nat} {S : HS} {T : MS} {b c : Nat}
def run55 (k : Nat) (T T1 : MS) : Prop := ∀ (a0 : Int32) (post : Int32 → MS → Prop) (K33 : Int32 → Int32 → MS → Prop) (x2 x3 : Int32), (∃ m, wl_X3_tick_90 a0 post K33 m x2 x3 0 T1) → ∃ m, wl_X3_tick_55 a0 post K33 m x2 x3 (nI k) T
theorem r55_end (hC : M_cuts T = nI n) (hn : n ≤ 60) : run55 n T T := by
  intro a0 post K33 x2 x3 h
  refine ⟨1, fun _ => h, fun h9 => absurd ?_ h9⟩
  rw [hC]; exact nI_le (Nat.le_refl _) (by omega)
theorem r55_skip {k : Nat} {T1 : MS} (hC : M_cuts T = nI n) (hn : n ≤ 60) (hk : k < n) (hs : ¬ M_state T k = 1) (h : run55 (k + 1) T T1) : run55 k T T1 := by
  intro a0 post K33 x2 x3 hx
  obtain ⟨m, hm⟩ := h a0 post K33 x2 x3 hx
  refine ⟨m + 1, fun h9 => absurd h9 ?_, fun _ => ⟨vp_in_nI (by omega) (by omega), fun _ => ?_, fun h9 => absurd ?_ hs⟩⟩
  · rw [hC]; exact nI_ge hk (by omega)
  · rw [nI_1]; exact hm
  · rw [nI_clamp (by omega)] at h9; exact h9
theorem r55_do {k : Nat} {T' T1 : MS} (hC : M_cuts T = nI n) (hn : n ≤ 60) (hk : k < n) (hs : M_state T k = 1) (hr : ∀ q : MS → Prop, q T' → wp_X3_rolls (nI k) T q) (h : run55 (k + 1) T' T1) : run55 k T T1 := by
  intro a0 post K33 x2 x3 hx
  obtain ⟨m, hm⟩ := h a0 post K33 x2 x3 hx
  refine ⟨m + 1, fun h9 => absurd h9 ?_, fun _ => ⟨vp_in_nI (by omega) (by omega), fun h9 => absurd ?_ h9, fun _ => hr _ ?_⟩⟩
  · rw [hC]; exact nI_ge hk (by omega)
  · rw [nI_clamp (by omega)]; exact hs
  · rw [nI_1]; exact hm
def run90 (k : Nat) (T T1 : MS) : Prop := ∀ (a0 : Int32) (post : Int32 → MS → Prop) (K33 : Int32 → Int32 → MS → Prop) (x2 x3 : Int32), (∃ m, wl_X3_tick_125 a0 post K33 m x2 x3 0 T1) → ∃ m, wl_X3_tick_90 a0 post K33 m x2 x3 (nI k) T
theorem r90_end (hC : M_cuts T = nI n) (hn : n ≤ 60) : run90 n T T := by
  intro a0 post K33 x2 x3 h
  refine ⟨1, fun _ => h, fun h9 => absurd ?_ h9⟩
  rw [hC]; exact nI_le (Nat.le_refl _) (by omega)
theorem r90_skip {k : Nat} {T1 : MS} (hC : M_cuts T = nI n) (hn : n ≤ 60) (hk : k < n) (hs : ¬ M_state T k = 1) (h : run90 (k + 1) T T1) : run90 k T T1 := by
  intro a0 post K33 x2 x3 hx
  obtain ⟨m, hm⟩ := h a0 post K33 x2 x3 hx
  refine ⟨m + 1, fun h9 => absurd h9 ?_, fun _ => ⟨vp_in_nI (by omega) (by omega), fun _ => ?_, fun h9 => absurd ?_ hs⟩⟩
  · rw [hC]; exact nI_ge hk (by omega)
  · rw [nI_1]; exact hm
  · rw [nI_clamp (by omega)] at h9; exact h9
theorem r90_do {k : Nat} {T' T1 : MS} (hC : M_cuts T = nI n) (hn : n ≤ 60) (hk : k < n) (hs : M_state T k = 1) (hr : ∀ q : MS → Prop, q T' → wp_X3_catches (nI k) T q) (h : run90 (k + 1) T' T1) : run90 k T T1 := by
  intro a0 post K33 x2 x3 hx
  obtain ⟨m, hm⟩ := h a0 post K33 x2 x3 hx
  refine ⟨m + 1, fun h9 => absurd h9 ?_, fun _ => ⟨vp_in_nI (by omega) (by omega), fun h9 => absurd ?_ h9, fun _ => hr _ ?_⟩⟩
  · rw [hC]; exact nI_ge hk (by omega)
  · rw [nI_clamp (by omega)]; exact hs
  · rw [nI_1]; exact hm
def run125 (k : Nat) (T T1 : MS) : Prop := ∀ (a0 : Int32) (post : Int32 → MS → Prop) (K33 : Int32 → Int32 → MS → Prop) (x2 x3 : Int32), (wp_X3_pushes T1 (fun S2 => K33 x2 (x3 + 1) S2)) → ∃ m, wl_X3_tick_125 a0 post K33 m x2 x3 (nI k) T
theorem r125_end (hC : M_cuts T = nI n) (hn : n ≤ 60) : run125 n T T := by
  intro a0 post K33 x2 x3 h
  refine ⟨1, fun _ => h, fun h9 => absurd ?_ h9⟩
  rw [hC]; exact nI_le (Nat.le_refl _) (by omega)
theorem r125_skip {k : Nat} {T1 : MS} (hC : M_cuts T = nI n) (hn : n ≤ 60) (hk : k < n) (hs : ¬ M_state T k = 1) (h : run125 (k + 1) T T1) : run125 k T T1 := by
  intro a0 post K33 x2 x3 hx
  obtain ⟨m, hm⟩ := h a0 post K33 x2 x3 hx
  refine ⟨m + 1, fun h9 => absurd h9 ?_, fun _ => ⟨vp_in_nI (by omega) (by omega), fun _ => ?_, fun h9 => absurd ?_ hs⟩⟩
  · rw [hC]; exact nI_ge hk (by omega)
  · rw [nI_1]; exact hm
  · rw [nI_clamp (by omega)] at h9; exact h9
theorem r125_do {k : Nat} {T' T1 : MS} (hC : M_cuts T = nI n) (hn : n ≤ 60) (hk : k < n) (hs : M_state T k = 1) (hr : ∀ q : MS → Prop, q T' → wp_X3_ends (nI k) T q) (h : run125 (k + 1) T' T1) : run125 k T T1 := by
  intro a0 post K33 x2 x3 hx
  obtain ⟨m, hm⟩ := h a0 post K33 x2 x3 hx
  refine ⟨m + 1, fun h9 => absurd h9 ?_, fun _ => ⟨vp_in_nI (by omega) (by omega), fun h9 => absurd ?_ h9, fun _ => hr _ ?_⟩⟩
  · rw [hC]; exact nI_ge hk (by omega)
  · rw [nI_clamp (by omega)]; exact hs
  · rw [nI_1]; exact hm
theorem roll_step (J : JJ u n (M_state T) 60 b S T) (hc : c < n) (hs : M_state T c = 1) (hb : b + 3 < 2 ^ 30) {post : HS → Prop} {rec : Int32 → HS → Prop}
    (hk : ∀ S1 T1, (∀ q : MS → Prop, q T1 → wp_X3_rolls (nI c) T q) → JJ u n (M_state T) 60 (b + 3) S1 T1 → M_state T1 = M_state T → rec (nI (cn (M_state T) 1 (c + 1))) S1) : wb_X2_rollAll_2 post rec (nI (cn (M_state T) 1 c)) S := by
  obtain ⟨hC, hD, hN, hL, hP, hW, hF, hS, hE, hR, hK⟩ := J
  have hn := jc_n hC
  obtain ⟨g1, g2⟩ := jr_get hn hR hc hs
  obtain ⟨a, ma, am, ac⟩ := acc_sim hC hD hW hc
  have hpl := (hD c hc).2.2.2
  have hsp := (hD c hc).2.2.1
  have m1 : FP.Core.DFin (FP.dmul a 4593671619917905920) := by
    have := FP.Core.dmul_mag (Ka := 1061) (Kb := 1021) (b := 4593671619917905920) ma (by decide) (by omega) (by omega)
    exact mb_fin (K := 1060) this (by omega)
  have n1 : nn (FP.dadd (M_speed T c) (FP.dmul a 4593671619917905920)) := add_nnF hsp.1 m1
  obtain ⟨v, pa, si, ⟨hv, hpa, hsi⟩, _, e1, e2, _, e3⟩ := (hD c hc).1
  have hbf : ∀ p', pa ≤ p' → p' < 3 → dL (M_place T c) (cpl p') := fun p' h1 h2 => dL_cpl (hL c hc (by omega) pa (by omega) e1) h2 h1
  -- with the new speed v
  have tail : ∀ v : UInt64, pp v → (∀ q : MS → Prop, wj_X3_rolls_129 (nI c) q v T → wp_X3_rolls (nI c) T q) → ∀ S12 : HS, S12 = Hs_sp S (vf_upd (H_sp S) (aT (H_L S) c) v) → (aT (H_L S) c ∈ H_L S12) ∧ (vf_n64 (FP.dmul (H_sp S12 (aT (H_L S) c)) 4593671619917905920) ∧ (∀ x15 : UInt64, x15 = FP.dmul (H_sp S12 (aT (H_L S) c)) 4593671619917905920 → vf_n64 (FP.dadd (M_place T c) x15) ∧ (∀ x17 : UInt64, x17 = FP.dadd (M_place T c) x15 → ∀ S18 : HS, S18 = Hs_pl S12 (vf_upd (H_pl S12) (aT (H_L S) c) x17) → wp_X2_passPoints (aT (H_L S) c) (M_place T c) S18 (fun S19 => rec (nI (cn (M_state T) 1 (c + 1))) S19)))) := by
    intro v hv hrun S12 e12
    subst e12
    simp only [ac_Hs_sp, vu_self]
    have p1 := mul_Ppp hv pf18
    have p2 := lbd_add hpl (by omega) p1
    refine ⟨jc_mem hC hc, n64_iff.mpr p1.1, fun x15 e15 => ?_⟩
    subst e15
    refine ⟨n64_iff.mpr p2.1, fun x17 e17 S18 e18 => ?_⟩
    subst e17 e18
    have hL18 : H_L (Hs_pl (Hs_sp S (vf_upd (H_sp S) (aT (H_L S) c) v)) (vf_upd (H_pl S) (aT (H_L S) c) (FP.dadd (M_place T c) (FP.dmul v 4593671619917905920)))) = H_L S := by simp only [ac_Hs_pl, ac_Hs_sp]
    refine ⟨4, ?_⟩
    have hl := pass_loop (n := n) (sr := M_state T) (c := c) hc (bf := M_place T c) 3 0 rfl b (Hs_pl (Hs_sp S (vf_upd (H_sp S) (aT (H_L S) c) v)) (vf_upd (H_pl S) (aT (H_L S) c) (FP.dadd (M_place T c) (FP.dmul v 4593671619917905920)))) (Ms_place (Ms_speed T (vf_upd (M_speed T) c v)) (vf_upd (M_place T) c (FP.dadd (M_place T c) (FP.dmul v 4593671619917905920)))) pa
      ⟨by simpa only [fr_JC] using hC, JD_mv hC hD hc hv p2, JN_mv hN hc, JL_mv hL hn, by simpa only [fr_JP] using hP, by simpa only [fr_JW] using hW, by simpa only [fr_JF] using hF, by simpa only [fr_JS] using hS, by simpa only [fr_JE] using hE, by simpa only [fr_JR] using hR, by simpa only [fr_JK] using hK⟩
      (by simp only [ac_Ms_place, ac_Ms_speed]; exact e1) hpa (by omega) (by omega) hbf (fun S19 => rec (nI (cn (M_state T) 1 (c + 1))) S19)
      (fun S1 T1 hr J1 eS => hk S1 T1 (fun q hq => hrun q ?_) J1 (eS.trans (by simp only [ac_Ms_place, ac_Ms_speed])))
    · rw [hL18] at hl; exact hl
    · unfold wj_X3_rolls_129
      rw [nI_clamp (by omega)]
      refine ⟨vp_in_nI (by omega) (by omega), fun S20 e20 => ⟨n64_iff.mpr p1.1, fun x22 e22 => ?_⟩⟩
      subst e20 e22
      simp only [ac_Ms_speed]
      refine ⟨n64_iff.mpr p2.1, fun x24 e24 S25 e25 => ?_⟩
      subst e24 e25
      exact hr q hq
  unfold wb_X2_rollAll_2
  rw [nI_1, ← cn_s1 hs]
  refine ⟨fun h9 => absurd h9 g2, fun _ => ⟨aT (H_L S) c, g1, jc_mem hC hc, fun x5 e5 => ?_⟩⟩
  rw [(hD c hc).2.1.1] at e5
  subst e5
  refine ac _ ⟨n64_iff.mpr (fin_nn m1), fun x8 e8 => ?_⟩
  subst e8
  rw [(hD c hc).2.1.2.1]
  refine ⟨n64_iff.mpr n1, fun x10 e10 => ?_⟩
  subst e10
  have mod : ∀ q : MS → Prop, ((¬ dL (FP.dadd (M_speed T c) (FP.dmul a 4593671619917905920)) FP.dconst0 → wj_X3_rolls_129 (nI c) q (FP.dadd (M_speed T c) (FP.dmul a 4593671619917905920)) T) ∧ (dL (FP.dadd (M_speed T c) (FP.dmul a 4593671619917905920)) FP.dconst0 → wj_X3_rolls_129 (nI c) q FP.dconst0 T)) → wp_X3_rolls (nI c) T q := by
    intro q hq
    refine am q ?_
    unfold wj_X3_rolls_99
    rw [nI_clamp (by omega)]
    refine ⟨vp_in_nI (by omega) (by omega), n64_iff.mpr (fin_nn m1), fun x28 e28 => ?_⟩
    subst e28
    refine ⟨n64_iff.mpr n1, fun x30 e30 => ?_⟩
    subst e30
    exact ⟨hq.1, fun g x32 e32 => by subst e32; exact hq.2 g⟩
  have z0 : zv FP.dconst0 = 0 := by decide +kernel
  have nz : nn FP.dconst0 := by unfold nn; decide +kernel
  refine ⟨fun g S12 e12 => tail _ ⟨n1, ?_⟩ (fun q hq => mod q ⟨fun _ => hq, fun h9 => absurd h9 g⟩) S12 e12, fun g x20 e20 S21 e21 => ?_⟩
  · rw [dL_iff n1 nz] at g; omega
  · subst e20
    exact tail _ ⟨nz, by omega⟩ (fun q hq => mod q ⟨fun h9 => absurd g h9, fun _ => hq⟩) S21 e21
theorem roll_all : ∀ j k, k + j = n → ∀ (b : Nat) (S : HS) (T : MS), JJ u n (M_state T) 60 b S T → b + 3 * j < 2 ^ 30 → ∀ post : HS → Prop, (∀ S1 T1, run55 k T T1 → JJ u n (M_state T1) 60 (b + 3 * j) S1 T1 → post S1) → wl_X2_rollAll_2 post (cn (M_state T) 1 n - cn (M_state T) 1 k + 1) (nI (cn (M_state T) 1 k)) S := by
  intro j
  induction j with
  | zero =>
    intro k hk b S T J hb post hpost
    have : k = n := by omega
    subst this
    have hC := J.1
    have hR := J.2.2.2.2.2.2.2.2.2.1
    exact ⟨fun _ => hpost S T (r55_end hC.2.1 (jc_n hC)) J, fun h9 => absurd (jr_end hR (jc_n hC)) h9⟩
  | succ j ih =>
    intro k hk b S T J hb post hpost
    have hC := J.1
    have hkn : k < n := by omega
    by_cases hs : M_state T k = 1
    · have h1 := cn_lt hkn hs
      have h2 := cn_s1 hs
      have h3 := cn_mono (M_state T) 1 (show k + 1 ≤ n from hkn)
      rw [show cn (M_state T) 1 n - cn (M_state T) 1 k + 1 = (cn (M_state T) 1 n - cn (M_state T) 1 (k + 1) + 1) + 1 by omega]
      refine roll_step J hkn hs (by omega) (fun S1 T1 hr J1 eS => ?_)
      have := ih (k + 1) (by omega) (b + 3) S1 T1 (by rw [eS]; exact J1) (by omega) post (fun S2 T2 hr2 J2 => hpost S2 T2 (r55_do hC.2.1 (jc_n hC) hkn hs hr hr2) (by rw [show b + 3 * (j + 1) = b + 3 + 3 * j by omega]; exact J2))
      rw [eS] at this
      exact this
    · rw [← cn_s0 hs]
      refine ih (k + 1) (by omega) b S T J (by omega) post (fun S2 T2 hr2 J2 => hpost S2 T2 (r55_skip hC.2.1 (jc_n hC) hkn hs hr2) ?_)
      obtain ⟨a1, a2, a3, a4, a5, a6, a7, a8, a9, a10⟩ := J2
      exact ⟨a1, a2, a3, a4, a5, a6, a7, a8, JE_mono a9 (by omega), a10⟩
end ROLLALL
