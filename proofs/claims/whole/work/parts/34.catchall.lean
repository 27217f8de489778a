section CATCHALL
variable {u n : Nat} {S : HS} {T : MS} {b c : Nat}
theorem catch_step (J : JJ u n (M_state T) 60 b S T) (hc : c < n) (hs : M_state T c = 1) (hb : b + 1 < 2 ^ 30) {post : HS → Prop} {rec : Int32 → HS → Prop}
    (hk : ∀ S1 T1, (∀ q : MS → Prop, q T1 → wp_X3_catches (nI c) T q) → JJ u n (M_state T) 60 (b + 1) S1 T1 → M_state T1 = M_state T → rec (nI (cn (M_state T) 1 (c + 1))) S1) : wb_X2_catchAll_2 post rec (nI (cn (M_state T) 1 c)) S := by
  have J' := J
  obtain ⟨hC, hD, hN, hL, hP, hW, hF, hS, hE, hR, hK⟩ := J
  have hn := jc_n hC
  obtain ⟨g1, g2⟩ := jr_get hn hR hc hs
  have J0 : JJ u n (M_state T) 60 (b + 1) S T := ⟨hC, hD, hN, hL, hP, hW, hF, hS, JE_mono hE (by omega), hR, hK⟩
  unfold wb_X2_catchAll_2
  rw [nI_1, ← cn_s1 hs]
  refine ⟨fun h9 => absurd h9 g2, fun _ => ⟨aT (H_L S) c, g1, jc_mem hC hc, ?_⟩⟩
  intro x8 e8
  subst e8
  refine ahead_sim hC hD hR hc c (Nat.le_refl c) (fun r hr hrun => ?_)
  cases r with
  | none =>
    refine ⟨fun _ => hk S T (fun q hq => ?_) J0 rfl, fun u h9 => (nomatch h9)⟩
    intro x11 e11
    subst e11
    exact hrun _ ⟨fun _ => hq, fun h9 => absurd rfl h9⟩
  | some o =>
    obtain ⟨hoc, hso⟩ := hr o rfl
    have ho : o < n := by omega
    have npl := (hD c hc).2.2.2.1
    have nrr := rr_nn hC hD ho
    refine ⟨fun h9 => (nomatch h9), fun u h9 => ?_⟩
    have h9 : aT (H_L S) o = u := Option.some.inj h9
    subst h9
    refine ⟨jc_mem hC ho, wc_rear hC hD ho ?_⟩
    rw [(hD c hc).2.1.1]
    have mod : ∀ q : MS → Prop, (¬ dL (M_place T c) (rrM T o) → ctW T c o q) → (dL (M_place T c) (rrM T o) → q T) → wp_X3_catches (nI c) T q := by
      intro q h1 h2
      intro x11 e11
      subst e11
      refine hrun _ ⟨fun h9 => absurd h9 (eI_some (by omega)), fun _ => ⟨vp_in_nI (by omega) (by omega), ?_⟩⟩
      rw [show eI (some o) = nI o from rfl, nI_clamp (show c < 2 ^ 31 by omega), nI_clamp (show o < 2 ^ 31 by omega)]
      exact wm_rear hC hD ho ⟨h1, h2⟩
    refine ⟨fun g => hk S T (fun q hq => mod q (fun h9 => absurd ((nge npl nrr).mp g) h9) (fun _ => hq)) J0 rfl, fun g => ?_⟩
    exact catch_sim J' hc hoc hb g (fun S1 T1 hr1 J1 eS => hk S1 T1 (fun q hq => mod q (fun _ => hr1 q hq) (fun h9 => absurd ((nge npl nrr).mpr h9) (fun h8 => h8 g))) J1 eS)
theorem catch_all : ∀ j k, k + j = n → ∀ (b : Nat) (S : HS) (T : MS), JJ u n (M_state T) 60 b S T → b + j < 2 ^ 30 → ∀ post : HS → Prop, (∀ S1 T1, run90 k T T1 → JJ u n (M_state T1) 60 (b + j) S1 T1 → post S1) → wl_X2_catchAll_2 post (cn (M_state T) 1 n - cn (M_state T) 1 k + 1) (nI (cn (M_state T) 1 k)) S := by
  intro j
  induction j with
  | zero =>
    intro k hk b S T J hb post hpost
    have : k = n := by omega
    subst this
    have hC := J.1
    have hR := J.2.2.2.2.2.2.2.2.2.1
    exact ⟨fun _ => hpost S T (r90_end hC.2.1 (jc_n hC)) J, fun h9 => absurd (jr_end hR (jc_n hC)) h9⟩
  | succ j ih =>
    intro k hk b S T J hb post hpost
    have hC := J.1
    have hkn : k < n := by omega
    by_cases hs : M_state T k = 1
    · have h1 := cn_lt hkn hs
      have h2 := cn_s1 hs
      have h3 := cn_mono (M_state T) 1 (show k + 1 ≤ n from hkn)
      rw [show cn (M_state T) 1 n - cn (M_state T) 1 k + 1 = (cn (M_state T) 1 n - cn (M_state T) 1 (k + 1) + 1) + 1 by omega]
      refine catch_step J hkn hs (by omega) (fun S1 T1 hr J1 eS => ?_)
      have := ih (k + 1) (by omega) (b + 1) S1 T1 (by rw [eS]; exact J1) (by omega) post (fun S2 T2 hr2 J2 => hpost S2 T2 (r90_do hC.2.1 (jc_n hC) hkn hs hr hr2) (by rw [show b + (j + 1) = b + 1 + j by omega]; exact J2))
      rw [eS] at this
      exact this
    · rw [← cn_s0 hs]
      refine ih (k + 1) (by omega) b S T J (by omega) post (fun S2 T2 hr2 J2 => hpost S2 T2 (r90_skip hC.2.1 (jc_n hC) hkn hs hr2) ?_)
      obtain ⟨a1, a2, a3, a4, a5, a6, a7, a8, a9, a10⟩ := J2
      exact ⟨a1, a2, a3, a4, a5, a6, a7, a8, JE_mono a9 (by omega), a10⟩
end CATCHALL
