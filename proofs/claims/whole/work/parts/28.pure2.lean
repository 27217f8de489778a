section PURE2
variable {u n : Nat} {S : HS} {T : MS}
/-- a cut or none, as the model writes it -/
def eI : Option Nat → Int32
  | none => -1
  | some d => nI d
theorem eI_some {d : Nat} (h : d < 100) : ¬ eI (some d) = -1 := by
  intro h2
  have h3 : (nI d).toInt = (-1 : Int32).toInt := congrArg Int32.toInt h2
  rw [nI_toInt (by omega)] at h3
  have : (-1 : Int32).toInt = -1 := by decide
  omega
/-- a cut that is bound for a point -/
def bdP (T : MS) (p c : Nat) : Prop := ¬ (lvI (nI p) < M_passed T c ∨ gbI (M_passed T c) (M_sides T c) (nI p) = 0) ∧ ¬ ldsI (nI p) (M_wished T c) = 0
theorem wm_bound_step (h : JC n S T) {p c : Nat} {b : Option Nat} (hc : c < n) (hs : M_state T c = 1) (hb : ∀ d, b = some d → d < n) {post : Int32 → Prop} {rec : Int32 → Int32 → Prop} (h0 : ¬ bdP T p c → rec (eI b) (nI (c + 1))) (h1 : bdP T p c → b = none → rec (nI c) (nI (c + 1))) (h2 : bdP T p c → ∀ d, b = some d → (¬ dG (M_place T c) (M_place T d) → rec (nI d) (nI (c + 1))) ∧ (dG (M_place T c) (M_place T d) → rec (nI c) (nI (c + 1)))) : wb_X3_bound_4 T (nI p) post rec (eI b) (nI c) := by
  have hn := jc_n h
  unfold wb_X3_bound_4
  rw [nI_clamp (by omega), h.2.1, nI_1]
  refine ⟨fun h9 => absurd h9 (nI_ge hc (by omega)), fun _ => ⟨vp_in_nI (by omega) (by omega), fun h9 => absurd hs h9, fun _ => wm_level ⟨fun h9 => h0 (fun h8 => h8.1 (.inl h9)), fun g1 => wm_goesBy (by omega) ⟨fun h9 => h0 (fun h8 => h8.1 (.inr h9)), fun g2 => wm_leads ⟨fun h9 => h0 (fun h8 => h8.2 h9), fun g3 => ?_⟩⟩⟩⟩⟩
  have hB : bdP T p c := ⟨fun h8 => by rcases h8 with h8 | h8; exact g1 h8; exact g2 h8, g3⟩
  cases b with
  | none => exact ⟨fun _ => h1 hB rfl, fun h9 => absurd rfl h9⟩
  | some d =>
    have hd := hb d rfl
    refine ⟨fun h9 => absurd h9 (eI_some (by omega)), fun _ => ?_⟩
    show vp_in (nI d) 60 ∧ _
    rw [show eI (some d) = nI d from rfl, nI_clamp (by omega)]
    exact ⟨vp_in_nI (by omega) (by omega), (h2 hB d rfl).1, (h2 hB d rfl).2⟩
theorem si8 {pa si : Nat} (hpa : pa < 4) (hsi : si < 2 ^ pa) : si < 8 := Nat.lt_of_lt_of_le hsi (Nat.pow_le_pow_right (n := 2) (by omega) (show pa ≤ 3 by omega))
theorem wc_isBound (h : JC n S T) (hD : JD n S T) {p c : Nat} (hp : p < 7) (hc : c < n) {post : Int32 → Prop} (h0 : ¬ bdP T p c → post 0) (h1 : bdP T p c → post 1) : wp_X0_isBoundFor (aT (H_L S) c) S (nI p) post := by
  obtain ⟨v, pa, si, ⟨_, hpa, hsi⟩, _, e1, e2, _, e3⟩ := (hD c hc).1
  obtain ⟨w, t, d, hb, hm, _, _, _, _, hw⟩ := h.2.2.2.2.2.2 c hc
  have tb := t_bound p hp pa hpa si (si8 hpa hsi) hsi
  have tl := t_leads p hp d hb.2.2.2.2
  unfold bdP at h0 h1
  rw [e1, e2, hm.2.2.1, tl, ← tb] at h0 h1
  unfold wp_X0_isBoundFor
  refine ⟨jc_mem h hc, ?_⟩
  rw [e3, hw]
  refine wc_leadsTo ⟨fun h9 => h0 (fun h8 => h8.1 h9), fun g1 => wc_leadsTo ⟨fun h9 => h0 (fun h8 => h8.2 h9), fun g2 => h1 ⟨g1, g2⟩⟩⟩
theorem wc_bound_step (h : JC n S T) (hD : JD n S T) (hR : JR u n (M_state T) S) {p c : Nat} {b : Option Nat} (hp : p < 7) (hc : c < n) (hs : M_state T c = 1) (hb : ∀ d, b = some d → d < n) {post : Option Nat → Prop} {rec : Option Nat → Int32 → Prop} (h0 : ¬ bdP T p c → rec (b.map (aT (H_L S))) (nI (cn (M_state T) 1 (c + 1)))) (h1 : bdP T p c → b = none → rec (some (aT (H_L S) c)) (nI (cn (M_state T) 1 (c + 1)))) (h2 : bdP T p c → ∀ d, b = some d → (¬ dG (M_place T c) (M_place T d) → rec (some (aT (H_L S) d)) (nI (cn (M_state T) 1 (c + 1)))) ∧ (dG (M_place T c) (M_place T d) → rec (some (aT (H_L S) c)) (nI (cn (M_state T) 1 (c + 1))))) : wb_X2_firstBoundFor_4 S (nI p) post rec (b.map (aT (H_L S))) (nI (cn (M_state T) 1 c)) := by
  have hn := jc_n h
  obtain ⟨g1, g2⟩ := jr_get hn hR hc hs
  unfold wb_X2_firstBoundFor_4
  rw [nI_1, ← cn_s1 hs]
  refine ⟨fun h9 => absurd h9 g2, fun _ => ⟨aT (H_L S) c, g1, jc_mem h hc, wc_isBound h hD hp hc (fun hB => ⟨fun _ => h0 hB, fun h9 => absurd rfl h9⟩) (fun hB => ⟨fun h9 => absurd h9 (by decide), fun _ => ?_⟩)⟩⟩
  cases b with
  | none => exact ⟨fun _ => h1 hB rfl, fun u h9 => nomatch h9⟩
  | some d =>
    refine ⟨fun h9 => (nomatch h9), fun u h9 => ?_⟩
    have h9 : aT (H_L S) d = u := Option.some.inj h9
    subst h9
    refine ⟨jc_mem h (hb d rfl), ?_⟩
    rw [(hD c hc).2.1.1, (hD d (hb d rfl)).2.1.1]
    exact h2 hB d rfl
theorem bound_sim (h : JC n S T) (hD : JD n S T) (hR : JR u n (M_state T) S) {p : Nat} (hp : p < 7) {post : Option Nat → Prop} (hpost : ∀ r : Option Nat, (∀ d, r = some d → d < n ∧ bdP T p d) → (∀ q : Int32 → Prop, q (eI r) → wp_X3_bound T (nI p) q) → post (r.map (aT (H_L S)))) : wp_X2_firstBoundFor S (nI p) post := by
  have hn := jc_n h
  unfold wp_X2_firstBoundFor
  have go : ∀ j k, k + j = n → ∀ b : Option Nat, (∀ d, b = some d → d < n ∧ bdP T p d) → ∀ post : Option Nat → Prop, (∀ r : Option Nat, (∀ d, r = some d → d < n ∧ bdP T p d) → (∀ q : Int32 → Prop, q (eI r) → ∃ m, wl_X3_bound_4 T (nI p) q m (eI b) (nI k)) → post (r.map (aT (H_L S)))) → ∃ m, wl_X2_firstBoundFor_4 S (nI p) post m (b.map (aT (H_L S))) (nI (cn (M_state T) 1 k)) := by
    intro j
    induction j with
    | zero =>
      intro k hk b hb post hpost
      have : k = n := by omega
      subst this
      refine ⟨1, fun _ => hpost b hb (fun q hq => ⟨1, fun _ => hq, fun h9 => absurd ?_ h9⟩), fun h9 => absurd (jr_end hR hn) h9⟩
      rw [h.2.1]; exact nI_le (Nat.le_refl _) (by omega)
    | succ j ih =>
      intro k hk b hb post hpost
      have hkn : k < n := by omega
      have hb1 : ∀ d, b = some d → d < n := fun d hd => (hb d hd).1
      by_cases hs : M_state T k = 1
      · by_cases hB : bdP T p k
        · by_cases hN : b = none ∨ ∃ d, b = some d ∧ dG (M_place T k) (M_place T d)
          · obtain ⟨m, hm⟩ := ih (k + 1) (by omega) (some k) (fun d hd => by cases hd; exact ⟨hkn, hB⟩) post (fun r hr hq => hpost r hr (fun q hqr => by
              obtain ⟨m, hm⟩ := hq q hqr
              refine ⟨m + 1, wm_bound_step h hkn hs hb1 (fun h9 => absurd hB h9) (fun _ _ => hm) (fun _ d hd => ⟨fun h9 => absurd ?_ h9, fun _ => hm⟩)⟩
              rcases hN with hN | ⟨d2, hN, hG⟩
              · rw [hN] at hd; cases hd
              · rw [hN] at hd; cases hd; exact hG))
            refine ⟨m + 1, wc_bound_step h hD hR hp hkn hs hb1 (fun h9 => absurd hB h9) (fun _ _ => hm) (fun _ d hd => ⟨fun h9 => absurd ?_ h9, fun _ => hm⟩)⟩
            rcases hN with hN | ⟨d2, hN, hG⟩
            · rw [hN] at hd; cases hd
            · rw [hN] at hd; cases hd; exact hG
          · have hNb : ¬ b = none := fun h9 => hN (.inl h9)
            have hNg : ∀ d, b = some d → ¬ dG (M_place T k) (M_place T d) := fun d hd h9 => hN (.inr ⟨d, hd, h9⟩)
            obtain ⟨m, hm⟩ := ih (k + 1) (by omega) b hb post (fun r hr hq => hpost r hr (fun q hqr => by
              obtain ⟨m, hm⟩ := hq q hqr
              exact ⟨m + 1, wm_bound_step h hkn hs hb1 (fun h9 => absurd hB h9) (fun _ h9 => absurd h9 hNb) (fun _ d hd => ⟨fun _ => by rw [hd] at hm; exact hm, fun h9 => absurd h9 (hNg d hd)⟩)⟩))
            exact ⟨m + 1, wc_bound_step h hD hR hp hkn hs hb1 (fun h9 => absurd hB h9) (fun _ h9 => absurd h9 hNb) (fun _ d hd => ⟨fun _ => by rw [hd] at hm; exact hm, fun h9 => absurd h9 (hNg d hd)⟩)⟩
        · obtain ⟨m, hm⟩ := ih (k + 1) (by omega) b hb post (fun r hr hq => hpost r hr (fun q hqr => by
            obtain ⟨m, hm⟩ := hq q hqr
            exact ⟨m + 1, wm_bound_step h hkn hs hb1 (fun _ => hm) (fun h9 => absurd h9 hB) (fun h9 => absurd h9 hB)⟩))
          exact ⟨m + 1, wc_bound_step h hD hR hp hkn hs hb1 (fun _ => hm) (fun h9 => absurd h9 hB) (fun h9 => absurd h9 hB)⟩
      · rw [← cn_s0 hs]
        refine ih (k + 1) (by omega) b hb post (fun r hr hq => hpost r hr (fun q hqr => ?_))
        obtain ⟨m, hm⟩ := hq q hqr
        refine ⟨m + 1, fun h9 => absurd h9 ?_, fun _ => ⟨vp_in_nI (by omega) (by omega), fun _ => ?_, fun h9 => absurd ?_ hs⟩⟩
        · rw [h.2.1]; exact nI_ge hkn (by omega)
        · rw [nI_1]; exact hm
        · rw [nI_clamp (by omega)] at h9; exact h9
  exact go n 0 (by omega) none (fun d hd => nomatch hd) post (fun r hr hq => hpost r hr (fun q hqr => hq q hqr))
/-- the wished side -/
theorem wc_side (h : JC n S T) {p c : Nat} (hp : p < 7) (hc : c < n) (hl : ¬ ldsI (nI p) (M_wished T c) = 0) {post : Int32 → Prop} (h1 : post ((M_wished T c >>> (((2 : Int32) - lvI (nI p)) &&& 31)) &&& 1)) : wp_X0_wishedSide (aT (H_L S) c) S (nI p) post := by
  obtain ⟨w, t, d, hb, hm, _, _, _, _, hw⟩ := h.2.2.2.2.2.2 c hc
  rw [hm.2.2.1] at h1 hl
  rw [t_leads p hp d hb.2.2.2.2] at hl
  rw [← t_side p hp d hb.2.2.2.2 hl] at h1
  unfold wp_X0_wishedSide wp_X2_nodeBehind
  refine ⟨jc_mem h hc, ?_⟩
  rw [hw]
  refine wc_leadsTo ⟨fun h9 => ?_, fun h9 => ?_⟩
  · rw [h9] at h1; exact h1
  · rcases ld01 (2 * nI p + 1 + 1) (7 + nI d) with h8 | h8
    · exact absurd h8 h9
    · rw [h8] at h1; exact h1
/-- who is ahead -/
def ahP (T : MS) (c d : Nat) : Prop := (M_sides T d >>> ((M_passed T d - (if M_passed T c ≤ M_passed T d then M_passed T c else M_passed T d)) &&& 31)) = (M_sides T c >>> ((M_passed T c - (if M_passed T c ≤ M_passed T d then M_passed T c else M_passed T d)) &&& 31))
theorem wm_ahead_step (hn : n ≤ 60) {c d : Nat} (hc : c < n) (hd : d < n) {post : Int32 → Prop} {rec : Int32 → Prop} (h1 : M_state T d = 1 → ahP T c d → post (nI d)) (h0 : (¬ M_state T d = 1 ∨ ¬ ahP T c d) → rec (nI d - 1)) : wb_X3_ahead_4 T (nI c) post rec (nI d) := by
  unfold wb_X3_ahead_4
  rw [nI_clamp (by omega), nI_clamp (by omega), show nI d + (-1) = nI d - 1 from (Int32.sub_eq_add_neg _ _).symm]
  refine ⟨fun h9 => absurd h9 (nI_pos (by omega)), fun _ => ⟨vp_in_nI (by omega) (by omega), vp_in_nI (by omega) (by omega), fun hle x5 e5 => ?_, fun hle x5 e5 => ?_⟩⟩
  · have e : ahP T c d ↔ (M_sides T d >>> ((M_passed T d - x5) &&& 31)) = (M_sides T c >>> ((M_passed T c - x5) &&& 31)) := by unfold ahP; rw [if_pos hle, e5]
    exact ⟨fun h9 => h0 (.inl h9), fun h9 => ⟨fun h8 => h0 (.inr (fun h7 => h8 (e.mp h7))), fun h8 => h1 h9 (e.mpr h8)⟩⟩
  · have e : ahP T c d ↔ (M_sides T d >>> ((M_passed T d - x5) &&& 31)) = (M_sides T c >>> ((M_passed T c - x5) &&& 31)) := by unfold ahP; rw [if_neg hle, e5]
    exact ⟨fun h9 => h0 (.inl h9), fun h9 => ⟨fun h8 => h0 (.inr (fun h7 => h8 (e.mp h7))), fun h8 => h1 h9 (e.mpr h8)⟩⟩
theorem nd_ah (hD : JD n S T) {c d : Nat} (hc : c < n) (hd : d < n) : (¬ owI (H_nd S (aT (H_L S) c)) (H_nd S (aT (H_L S) d)) = 0) ↔ ahP T c d := by
  obtain ⟨v, pa, si, ⟨_, hpa, hsi⟩, _, e1, e2, _, e3⟩ := (hD c hc).1
  obtain ⟨v', pb, sj, ⟨_, hpb, hsj⟩, _, e1', e2', _, e3'⟩ := (hD d hd).1
  unfold ahP
  rw [e1, e2, e3, e1', e2', e3']
  exact t_ahead hpa hsi hpb hsj
theorem ahead_sim (h : JC n S T) (hD : JD n S T) (hR : JR u n (M_state T) S) {c : Nat} (hc : c < n) {a0 : Int32} {post : Option Nat → Prop} : ∀ k, k ≤ c → (∀ r : Option Nat, (∀ d, r = some d → d < k ∧ M_state T d = 1) → (∀ q : Int32 → Prop, q (eI r) → ∃ m, wl_X3_ahead_4 T (nI c) q m (nI k - 1)) → post (r.map (aT (H_L S)))) → ∃ m, wl_X2_aheadOf_4 S a0 (aT (H_L S) c) post m (nI (cn (M_state T) 1 k) - 1) := by
  have hn := jc_n h
  intro k
  induction k with
  | zero =>
    intro hk hpost
    have e : nI 0 - 1 < 0 := by decide
    exact ⟨1, fun _ => hpost none (fun d hd => nomatch hd) (fun q hq => ⟨1, fun _ => hq, fun h9 => absurd e h9⟩), fun h9 => absurd e h9⟩
  | succ k ih =>
    intro hk hpost
    have hkn : k < n := by omega
    rw [show nI (k + 1) - 1 = nI k from nI_pred k] at hpost
    by_cases hs : M_state T k = 1
    · rw [cn_s1 hs, show nI (cn (M_state T) 1 k + 1) - 1 = nI (cn (M_state T) 1 k) from nI_pred _]
      obtain ⟨g1, g2⟩ := jr_get hn hR hkn hs
      have hcl := cn_le (M_state T) 1 k
      by_cases ha : ahP T c k
      · have step : post (some (aT (H_L S) k)) := hpost (some k) (fun d hd => by cases hd; exact ⟨by omega, hs⟩) (fun q hq => ⟨1, wm_ahead_step hn hc hkn (fun _ _ => hq) (fun h9 => by rcases h9 with h9 | h9; exact absurd hs h9; exact absurd ha h9)⟩)
        refine ⟨1, fun h9 => absurd h9 (nI_pos (by omega)), fun _ => ⟨aT (H_L S) k, g1, jc_mem h hkn, jc_mem h hc, wc_isOneWay ⟨fun h9 => absurd h9 ((nd_ah hD hc hkn).mpr ha), fun _ => step⟩⟩⟩
      · obtain ⟨m, hm⟩ := ih (by omega) (fun r hr hq => hpost r (fun d hd => ⟨by have := (hr d hd).1; omega, (hr d hd).2⟩) (fun q hqr => by
          obtain ⟨m, hm⟩ := hq q hqr
          exact ⟨m + 1, wm_ahead_step hn hc hkn (fun _ h9 => absurd h9 ha) (fun _ => hm)⟩))
        refine ⟨m + 1, fun h9 => absurd h9 (nI_pos (by omega)), fun _ => ⟨aT (H_L S) k, g1, jc_mem h hkn, jc_mem h hc, wc_isOneWay ⟨fun _ => ?_, fun h9 => absurd ((nd_ah hD hc hkn).mp h9) ha⟩⟩⟩
        rw [show nI (cn (M_state T) 1 k) + (-1) = nI (cn (M_state T) 1 k) - 1 from (Int32.sub_eq_add_neg _ _).symm]
        exact hm
    · rw [cn_s0 hs]
      refine ih (by omega) (fun r hr hq => hpost r (fun d hd => ⟨by have := (hr d hd).1; omega, (hr d hd).2⟩) (fun q hqr => ?_))
      obtain ⟨m, hm⟩ := hq q hqr
      exact ⟨m + 1, wm_ahead_step hn hc hkn (fun h9 => absurd h9 hs) (fun _ => hm)⟩
end PURE2
