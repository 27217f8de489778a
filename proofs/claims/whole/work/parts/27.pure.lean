section PURE
variable {u n : Nat} {S : HS} {T : MS}
/-- the rear of cut c -/
def rrM (T : MS) (c : Nat) : UInt64 := FP.dsub (M_place T c) (FP.dmul 4623226492472524800 (FP.i2d (M_wagons T c)))
theorem jc_n (h : JC n S T) : n ≤ 60 := h.1
theorem jc_mem (h : JC n S T) {c : Nat} (hc : c < n) : aT (H_L S) c ∈ H_L S := aT_mem (by rw [h.2.2.2.1]; exact hc)
theorem jc_inj (h : JC n S T) {c d : Nat} (hc : c < n) (hd : d < n) (e : aT (H_L S) c = aT (H_L S) d) : c = d := aT_inj h.2.2.2.2.1 (by rw [h.2.2.2.1]; exact hc) (by rw [h.2.2.2.1]; exact hd) e
theorem jc_len (h : JC n S T) {c : Nat} (hc : c < n) : lnt (FP.dmul 4623226492472524800 (FP.i2d (M_wagons T c))) ∧ H_len S (aT (H_L S) c) = FP.dmul 4623226492472524800 (FP.i2d (M_wagons T c)) := by
  obtain ⟨w, t, d, hb, hm, _, hl, _⟩ := h.2.2.2.2.2.2 c hc
  rw [hm.1]
  exact ⟨len_ok (by omega), hl⟩
theorem rr_nn (h : JC n S T) (hD : JD n S T) {c : Nat} (hc : c < n) : nn (rrM T c) := sub_nnF (hD c hc).2.2.2.1 (jc_len h hc).1.1
theorem wm_rear (h : JC n S T) (hD : JD n S T) {c : Nat} (hc : c < n) {post : UInt64 → Prop} (hp : post (rrM T c)) : wp_X3_rear T (nI c) post := by
  have hn := jc_n h
  unfold wp_X3_rear
  rw [nI_clamp (by omega)]
  refine ⟨vp_in_nI (by omega) (by omega), n64_iff.mpr (fin_nn (jc_len h hc).1.1), fun x3 e3 => ?_⟩
  subst e3
  refine ⟨n64_iff.mpr (rr_nn h hD hc), fun x5 e5 => ?_⟩
  subst e5
  exact hp
theorem wc_rear (h : JC n S T) (hD : JD n S T) {c : Nat} (hc : c < n) {post : UInt64 → Prop} (hp : post (rrM T c)) : wp_X0_rear (aT (H_L S) c) S post := by
  unfold wp_X0_rear
  rw [(hD c hc).2.1.1, (jc_len h hc).2]
  refine ⟨jc_mem h hc, n64_iff.mpr (rr_nn h hD hc), fun x5 e5 => ?_⟩
  subst e5
  exact hp
theorem jr_get {sr : Nat → Int32} (hn : n ≤ 60) (h : JR u n sr S) {c : Nat} (hc : c < n) (hs : sr c = 1) : lget (H_ra S) (H_rs S) (nI (cn sr 1 c)) (aT (H_L S) c) ∧ ¬ H_rs S ≤ nI (cn sr 1 c) := by
  have h1 := cn_lt hc hs
  have h2 := cn_le sr 1 n
  obtain ⟨hr, h⟩ := h
  refine ⟨?_, by rw [hr]; exact nI_ge h1 (by omega)⟩
  rcases h with ⟨_, h⟩ | ⟨a, N, f, ha, hN, hcap, hf, _⟩
  · omega
  · have hN2 : N < 100 := by
      have : ∀ x ∈ caps, x < 100 := by decide
      exact this N hcap
    refine ⟨a, N, f, ha, nI_pos (by omega), by rw [hr]; exact nI_lt h1 (by omega), vp_in_nI (by omega) (by omega), ?_⟩
    rw [nI_clamp (by omega)]
    exact hf c hc hs
theorem jr_end {sr : Nat → Int32} (h : JR u n sr S) (hn : n ≤ 60) : H_rs S ≤ nI (cn sr 1 n) := by
  have := cn_le sr 1 n
  rw [h.1]; exact nI_le (Nat.le_refl _) (by omega)
/-- a busy point -/
def busyP (T : MS) (p c : Nat) : Prop := ¬ gbI (M_passed T c) (M_sides T c) (nI p) = 0 ∧ (dG (M_place T c) (FP.i2d (80 + 40 * lfI (nI p) - 15)) ∨ dE (M_place T c) (FP.i2d (80 + 40 * lfI (nI p) - 15))) ∧ (dL (rrM T c) (FP.dadd (FP.i2d (80 + 40 * lfI (nI p))) 4612811918334230528) ∨ dE (rrM T c) (FP.dadd (FP.i2d (80 + 40 * lfI (nI p))) 4612811918334230528))
theorem pl_fin : ∀ p, p < 7 → (FP.dmul 4630826316843712512 (FP.i2d (lvI (nI p)))).toNat % 2 ^ 63 < 1040 * 2 ^ 52 ∧ (FP.dadd (FP.i2d (80 + 40 * lfI (nI p))) 4612811918334230528).toNat % 2 ^ 63 < 1040 * 2 ^ 52 := by decide +kernel
theorem wm_placeOf {p : Nat} (hp : p < 7) {post : UInt64 → Prop} (h : post (FP.i2d (80 + 40 * lfI (nI p)))) : wp_X3_placeOf (nI p) post := by
  unfold wp_X3_placeOf
  refine wm_level ⟨n64_iff.mpr (fin_nn (mb_fin (K := 1040) (pl_fin p hp).1 (by omega))), fun x3 e3 => ?_⟩
  subst e3
  rw [(t_place p hp).2]
  refine ⟨n64_iff.mpr (fin_nn (FP.Core.i2d_fin _)), fun x5 e5 => ?_⟩
  subst e5
  exact h
theorem wm_busy_step (h : JC n S T) (hD : JD n S T) {p c : Nat} (hp : p < 7) (hc : c < n) (hs : M_state T c = 1) {post : Int32 → Prop} {rec : Int32 → Prop} (h1 : busyP T p c → post 1) (h0 : ¬ busyP T p c → rec (nI (c + 1))) : wb_X3_isBusy_2 T (nI p) post rec (nI c) := by
  have hn := jc_n h
  unfold wb_X3_isBusy_2
  rw [nI_clamp (by omega), h.2.1, nI_1]
  refine ⟨fun h9 => absurd h9 (nI_ge hc (by omega)), fun _ => ⟨vp_in_nI (by omega) (by omega), fun h9 => absurd hs h9, fun _ => wm_goesBy (by omega) ⟨fun h9 => h0 (fun h8 => h8.1 h9), fun g1 => ?_⟩⟩⟩
  refine wm_placeOf hp ?_
  have e1 := (t_place p hp).1
  rw [(t_place p hp).2] at e1
  rw [e1]
  refine ⟨n64_iff.mpr (fin_nn (FP.Core.i2d_fin _)), fun x8 e8 => ?_⟩
  subst e8
  refine ⟨fun h9 => h0 (fun h8 => h9 h8.2.1), fun g2 => wm_rear h hD hc (wm_placeOf hp ⟨n64_iff.mpr (fin_nn (mb_fin (K := 1040) (pl_fin p hp).2 (by omega))), fun x13 e13 => ?_⟩)⟩
  subst e13
  exact ⟨fun h9 => h0 (fun h8 => h9 h8.2.2), fun g3 => h1 ⟨g1, g2, g3⟩⟩
theorem nd_ow (hD : JD n S T) {p c : Nat} (hp : p < 7) (hc : c < n) : owI (H_nd S (aT (H_L S) c)) (nI p) = gbI (M_passed T c) (M_sides T c) (nI p) := by
  obtain ⟨v, pa, si, ⟨_, hpa, hsi⟩, _, e1, e2, _, e3⟩ := (hD c hc).1
  rw [e1, e2, e3]
  have h8 : si < 8 := Nat.lt_of_lt_of_le hsi (Nat.pow_le_pow_right (n := 2) (by omega) (show pa ≤ 3 by omega))
  exact t_oneWay p hp pa hpa si h8 hsi
theorem wc_busy_step (h : JC n S T) (hD : JD n S T) (hR : JR u n (M_state T) S) {p c : Nat} (hp : p < 7) (hc : c < n) (hs : M_state T c = 1) {post : Int32 → Prop} {rec : Int32 → Int32 → Prop} (h1 : busyP T p c → post 1) (h0 : ¬ busyP T p c → rec (80 + 40 * lfI (nI p)) (nI (cn (M_state T) 1 (c + 1)))) : wb_X2_isBusy_7 S (nI p) post rec (80 + 40 * lfI (nI p)) (nI (cn (M_state T) 1 c)) := by
  have hn := jc_n h
  obtain ⟨g1, g2⟩ := jr_get hn hR hc hs
  unfold wb_X2_isBusy_7
  rw [nI_1, ← cn_s1 hs]
  refine ⟨fun h9 => absurd h9 g2, fun _ => ⟨aT (H_L S) c, g1, jc_mem h hc, ?_⟩⟩
  rw [(hD c hc).2.1.1]
  refine ⟨fun h9 => h0 (fun h8 => h9 h8.2.1), fun g2 => wc_rear h hD hc ⟨n64_iff.mpr (fin_nn (mb_fin (K := 1040) (pl_fin p hp).2 (by omega))), fun x9 e9 => ?_⟩⟩
  subst e9
  refine ⟨fun h9 => h0 (fun h8 => h9 h8.2.2), fun g3 => wc_isOneWay ?_⟩
  rw [nd_ow hD hp hc]
  exact ⟨fun h9 => h0 (fun h8 => h8.1 h9), fun g1 => h1 ⟨g1, g2, g3⟩⟩
theorem busy_sim (h : JC n S T) (hD : JD n S T) (hR : JR u n (M_state T) S) {p : Nat} (hp : p < 7) {post : Int32 → Prop} (hpost : ∀ r : Int32, (r = 0 ∨ r = 1) → (∀ q : Int32 → Prop, q r → wp_X3_isBusy T (nI p) q) → post r) : wp_X2_isBusy S (nI p) post := by
  have hn := jc_n h
  unfold wp_X2_isBusy
  refine wc_pointPlace ?_
  have go : ∀ j k, k + j = n → ∀ post : Int32 → Prop, (∀ r : Int32, (r = 0 ∨ r = 1) → (∀ q : Int32 → Prop, q r → ∃ m, wl_X3_isBusy_2 T (nI p) q m (nI k)) → post r) → ∃ m, wl_X2_isBusy_7 S (nI p) post m (80 + 40 * lfI (nI p)) (nI (cn (M_state T) 1 k)) := by
    intro j
    induction j with
    | zero =>
      intro k hk post hpost
      have : k = n := by omega
      subst this
      refine ⟨1, fun _ => hpost 0 (.inl rfl) (fun q hq => ⟨1, fun _ => hq, fun h9 => absurd ?_ h9⟩), fun h9 => absurd (jr_end hR hn) h9⟩
      rw [h.2.1]; exact nI_le (Nat.le_refl _) (by omega)
    | succ j ih =>
      intro k hk post hpost
      have hkn : k < n := by omega
      by_cases hs : M_state T k = 1
      · by_cases hb : busyP T p k
        · refine ⟨1, wc_busy_step h hD hR hp hkn hs (fun _ => hpost 1 (.inr rfl) (fun q hq => ⟨1, wm_busy_step h hD hp hkn hs (fun _ => hq) (fun h9 => absurd hb h9)⟩)) (fun h9 => absurd hb h9)⟩
        · obtain ⟨m, hm⟩ := ih (k + 1) (by omega) post (fun r hr hq => hpost r hr (fun q hqr => by
            obtain ⟨m, hm⟩ := hq q hqr
            exact ⟨m + 1, wm_busy_step h hD hp hkn hs (fun h9 => absurd h9 hb) (fun _ => hm)⟩))
          exact ⟨m + 1, wc_busy_step h hD hR hp hkn hs (fun h9 => absurd h9 hb) (fun _ => hm)⟩
      · rw [← cn_s0 hs]
        refine ih (k + 1) (by omega) post (fun r hr hq => hpost r hr (fun q hqr => ?_))
        obtain ⟨m, hm⟩ := hq q hqr
        refine ⟨m + 1, fun h9 => absurd h9 ?_, fun _ => ⟨vp_in_nI (by omega) (by omega), fun _ => ?_, fun h9 => absurd ?_ hs⟩⟩
        · rw [h.2.1]; exact nI_ge hkn (by omega)
        · rw [nI_1]; exact hm
        · rw [nI_clamp (by omega)] at h9; exact h9
  exact go n 0 (by omega) post (fun r hr hq => hpost r hr (fun q hqr => hq q hqr))
end PURE
