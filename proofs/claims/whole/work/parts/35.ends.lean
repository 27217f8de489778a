section ENDS
variable {u n : Nat} {S X : HS} {T Y : MS} {b c t k : Nat} {sr : Nat → Int32}
/-- the model's last steps with a cut that ended -/
def enW (Y : MS) (c t : Nat) (q : MS → Prop) : Prop := (vp_in (((60 : Int32) * nI t) + (M_sided Y t)) 480) ∧ (∀ S18 : MS, S18 = Ms_sidings Y (upd (M_sidings Y) (((60 : Int32) * nI t) + (M_sided Y t)).toNatClampNeg (nI c)) → ∀ x19 : Int32, x19 = (M_sided S18 t) + (1 : Int32) → ∀ S20 : MS, S20 = Ms_sided S18 (upd (M_sided S18) t x19) → wp_X3_notes (M_state S20 c) (nI c) (nI t) S20 (fun S21 => q S21))
theorem ix60 (t k : Nat) : (60 : Int32) * nI t + nI k = nI (60 * t + k) := by rw [show (60 : Int32) = nI 60 from rfl, nI_mul4, nI_add]
theorem ix60' (t k : Nat) : nI t * (60 : Int32) + nI k = nI (60 * t + k) := by rw [show (60 : Int32) = nI 60 from rfl, nI_mul4, nI_add, Nat.mul_comm]
theorem end_tail (J : JJ u n sr 60 b X Y) (hc : c < n) (ht : t < 8) (hk0 : M_sided Y t = nI k) (hk60 : k < 60) (hk1 : k + 1 ≤ cn (M_state Y) 2 n + cn (M_state Y) 3 n) (hb : b + 1 < 2 ^ 30) {v : Int32} (hv : M_state Y c = v) {post : HS → Prop} (hp : ∀ S1 T1, (∀ q : MS → Prop, q T1 → enW Y c t q) → JJ u n sr 60 (b + 1) S1 T1 → M_state T1 = M_state Y → post S1) : wp_X2_enterSiding (aT (H_L X) c) (nI t) X (fun S15 => (aT (H_L X) c ∈ H_L S15) ∧ wp_X1_note v (H_num S15 (aT (H_L X) c)) (nI t) (H_ticks S15) S15 (fun S17 => post S17)) := by
  obtain ⟨hC, hD, hN, hL, hP, hW, hF, hS, hE, hR, hK⟩ := J
  have hn := jc_n hC
  obtain ⟨_, _, _, _, _, numc, _⟩ := hC.2.2.2.2.2.2 c hc
  obtain ⟨ec, hec, hc1, hc2⟩ := JE_ec hE
  unfold wp_X2_enterSiding
  rw [nI_clamp (by omega), hS.1.1, hS.1.2, hk0, numc]
  refine ⟨vp_in_nI ht (by omega), fun x2 e2 => ?_⟩
  subst e2
  rw [ix60', nI_clamp (by omega)]
  refine ⟨fun h9 => absurd h9 (nI_ge (b := 60) hk60 (by decide)), fun _ => ⟨jc_mem hC hc, fun x5 e5 => ⟨vp_in_nI (by omega) (by omega), fun S7 e7 x8 e8 S9 e9 => ?_⟩⟩⟩
  subst e5
  have e8 : x8 = nI (k + 1) := by rw [e8]; exact nI_1 k
  subst e8
  obtain ⟨T7, h7⟩ : ∃ z : MS, z = Ms_sidings Y (upd (M_sidings Y) (60 * t + k) (nI c)) := ⟨_, rfl⟩
  obtain ⟨T9, h9⟩ : ∃ z : MS, z = Ms_sided T7 (upd (M_sided Y) t (nI (k + 1))) := ⟨_, rfl⟩
  have a1 : H_L S9 = H_L X := by rw [e9, e7]; simp only [ac_Hs_ended, ac_Hs_sidings]
  have a2 : H_num S9 = H_num X := by rw [e9, e7]; simp only [ac_Hs_ended, ac_Hs_sidings]
  have a3 : H_count S9 = nI ec := by rw [e9, e7]; simp only [ac_Hs_ended, ac_Hs_sidings]; exact hc1
  have a4 : M_eventCount T9 = nI ec := by rw [h9, h7]; simp only [ac_Ms_sided, ac_Ms_sidings]; exact hc2
  have a5 : M_state T9 = M_state Y := by rw [h9, h7]; simp only [ac_Ms_sided, ac_Ms_sidings]
  have e9' : S9 = Hs_ended S7 (upd (M_sided Y) t (nI (k + 1))) := by rw [e9, e7]; simp only [ac_Hs_sidings]; rw [hS.1.1]
  have JS9 : JS n S9 T9 := by
    unfold JS
    rw [a5]
    refine ⟨⟨?_, ?_⟩, ?_⟩
    · rw [e9', h9]; simp only [ac_Hs_ended, ac_Ms_sided]
    · rw [e9', h9, e7, h7]; simp only [ac_Hs_ended, ac_Ms_sided, ac_Hs_sidings, ac_Ms_sidings]
    · intro t' ht'
      rw [h9]
      simp only [ac_Ms_sided]
      by_cases e : t' = t
      · subst e
        rw [up_self]
        exact ⟨k + 1, rfl, hk1⟩
      · rw [up_ne e]
        exact hS.2 t' ht'
  have J9 : JJ u n sr 60 b S9 T9 := by
    rw [e9', h9, e7, h7] at JS9 ⊢
    exact ⟨by simpa only [fr_JC] using hC, by simpa only [fr_JD] using hD, by simpa only [fr_JN] using hN, by simpa only [fr_JL] using hL, by simpa only [fr_JP] using hP, by simpa only [fr_JW] using hW, by simpa only [fr_JF] using hF, JS9, by simpa only [fr_JE] using hE, by simpa only [fr_JR] using hR, by simpa only [fr_JK] using hK⟩
  rw [a1, a2, numc]
  refine ⟨jc_mem hC hc, wc_note a3 (by omega) ?_⟩
  refine hp _ (Ms_eventCount (Ms_events T9 (ev4 (M_events T9) (ec % 200 * 4) v (nI c) (nI t) (M_ticks T9))) (nI (ec + 1))) (fun q hq => ?_) ?_ ?_
  · unfold enW
    rw [hk0, ix60, nI_clamp (by omega)]
    refine ⟨vp_in_nI (by omega) (by omega), fun S18 e18 x19 e19 S20 e20 => ?_⟩
    have b1 : S18 = T7 := by rw [e18, h7]
    rw [b1] at e19 e20
    have b2 : M_sided T7 = M_sided Y := by rw [h7]; simp only [ac_Ms_sidings]
    rw [b2, hk0] at e19
    have e19 : x19 = nI (k + 1) := by rw [e19]; exact nI_1 k
    rw [b2, e19, ← h9] at e20
    rw [e20, a5, hv]
    exact wm_notes a4 (by omega) hq
  · obtain ⟨hC1, hD1, hN1, hL1, hP1, hW1, hF1, hS1', hE1, hR1, hK1⟩ := J9
    exact ⟨by simpa only [fr_JC] using hC1, by simpa only [fr_JD] using hD1, by simpa only [fr_JN] using hN1, by simpa only [fr_JL] using hL1, by simpa only [fr_JP] using hP1, by simpa only [fr_JW] using hW1, by simpa only [fr_JF] using hF1, by simpa only [fr_JS] using hS1', JE_note hE1 a3 hec, by simpa only [fr_JR] using hR1, by simpa only [fr_JK] using hK1⟩
  · simp only [ac_Ms_eventCount, ac_Ms_events]; exact a5
theorem JD_st (hC : JC n S T) (hD : JD n S T) (hc : c < n) {v : Int32} (hv : ∃ m : Nat, m < 4 ∧ v = nI m) : JD n (Hs_st S (upd (H_st S) (aT (H_L S) c) v)) (Ms_state T (upd (M_state T) c v)) := by
  obtain ⟨m, hv, rfl⟩ := hv
  intro d hd
  have hd' := hD d hd
  simp only [ac_Hs_st, ac_Ms_state]
  by_cases e : d = c
  · subst e
    rw [up_self, up_self]
    obtain ⟨v', pa, si, ⟨_, h1, h2⟩, _, h4, h5, _, h6⟩ := hd'.1
    exact ⟨⟨m, pa, si, ⟨hv, h1, h2⟩, rfl, h4, h5, rfl, h6⟩, hd'.2⟩
  · rw [up_ne e, up_ne (fun h9 => e (jc_inj hC hd hc h9))]
    exact hd'
theorem JN_st (hN : JN n T) (hc : c < n) {v : Int32} : JN n (Ms_state T (upd (M_state T) c v)) := by
  intro d hd
  have hd' := hN d hd
  simp only [ac_Ms_state]
  rw [up_ne (show d ≠ c by omega)]
  exact hd'
theorem cn_end {st : Nat → Int32} {v : Int32} (hc : c < n) (hs : st c = 1) (hv : v = 2 ∨ v = 3) : cn (upd st c v) 2 n = cn st 2 n + (if v = 2 then 1 else 0) ∧ cn (upd st c v) 3 n = cn st 3 n + (if v = 3 then 1 else 0) := by
  have h2 := cn_upd (st := st) (v := 2) (x := v) (c := c) n hc
  have h3 := cn_upd (st := st) (v := 3) (x := v) (c := c) n hc
  rw [hs, if_neg (by decide)] at h2 h3
  exact ⟨h2, h3⟩
theorem JS_st (hS : JS n S T) (hc : c < n) (hs : M_state T c = 1) {v : Int32} (hv : v = 2 ∨ v = 3) : JS n S (Ms_state T (upd (M_state T) c v)) := by
  obtain ⟨h1, h2⟩ := hS
  obtain ⟨e2, e3⟩ := cn_end (n := n) hc hs hv
  unfold JS
  simp only [ac_Ms_state]
  refine ⟨h1, fun t ht => ?_⟩
  obtain ⟨k, hk, hle⟩ := h2 t ht
  exact ⟨k, hk, by rw [e2, e3]; omega⟩
theorem JK_st0 (hK : JK n S T) (hc : c < n) (hs : M_state T c = 1) {v : Int32} (hv : v = 2 ∨ v = 3) : ∃ s : Nat, s ≤ n ∧ H_started S = nI s ∧ ∀ d, d < n → (upd (M_state T) c v d = 0 ↔ s ≤ d) := by
  obtain ⟨⟨s, h1, h2, h3⟩, _⟩ := hK
  refine ⟨s, h1, h2, fun d hd => ?_⟩
  by_cases e : d = c
  · subst e
    rw [up_self]
    have := h3 d hd
    rw [hs] at this
    constructor
    · intro h9; rcases hv with hv | hv <;> rw [hv] at h9 <;> exact absurd h9 (by decide)
    · intro h9; exact absurd (this.mpr h9) (by decide)
  · rw [up_ne e]; exact h3 d hd
/-- it lands -/
def laS (S : HS) (c t l : Nat) (fr top : UInt64) : HS := Hs_landed (Hs_st (Hs_top (Hs_free S (vf_upd (H_free S) t fr)) top) (upd (H_st S) (aT (H_L S) c) 2)) (nI (l + 1))
def laT (T : MS) (c t : Nat) (fr top : UInt64) : MS := Ms_fastest (Ms_free (Ms_state T (upd (M_state T) c 2)) (vf_upd (M_free T) t fr)) top
def sdS (S : HS) (c t l : Nat) (fr : UInt64) : HS := Hs_standing (Hs_st (Hs_free S (vf_upd (H_free S) t fr)) (upd (H_st S) (aT (H_L S) c) 3)) (nI (l + 1))
def sdT (T : MS) (c t : Nat) (fr : UInt64) : MS := Ms_free (Ms_state T (upd (M_state T) c 3)) (vf_upd (M_free T) t fr)
theorem sw_stt0 (S : HS) (v : UInt64) (f : Nat → Int32) : Hs_st (Hs_top S v) f = Hs_top (Hs_st S f) v ∧ True := ⟨rfl, trivial⟩
theorem sw_stf0 (S : HS) (v : Nat → UInt64) (f : Nat → Int32) : Hs_st (Hs_free S v) f = Hs_free (Hs_st S f) v ∧ True := ⟨rfl, trivial⟩
theorem JF_up (hF : JF S T) {fr : UInt64} (hn : nn fr) : ∀ t', t' < 8 → vf_upd (H_free S) t fr t' = vf_upd (M_free T) t fr t' ∧ nn (vf_upd (M_free T) t fr t') := by
  intro t' ht'
  by_cases e : t' = t
  · subst e; rw [vu_self, vu_self]; exact ⟨rfl, hn⟩
  · rw [vu_ne e, vu_ne e]; exact hF t' ht'
theorem JJ_land (J : JJ u n sr 60 b S T) (hc : c < n) (hs : M_state T c = 1) {fr top : UInt64} (n1 : nn fr) (n2 : nn top) {l : Nat} (hl : H_landed S = nI l) (hll : l = cn (M_state T) 2 n) : JJ u n sr 60 b (laS S c t l fr top) (laT T c t fr top) := by
  obtain ⟨hC, hD, hN, hL, hP, hW, hF, hS, hE, hR, hK⟩ := J
  obtain ⟨e2, e3⟩ := cn_end (n := n) hc hs (v := 2) (.inl rfl)
  unfold laS laT
  rw [(sw_stt0 _ _ _).1, (sw_stf0 _ _ _).1]
  refine ⟨by simpa only [fr_JC] using hC, by simpa only [fr_JD] using JD_st (v := 2) hC hD hc ⟨2, by omega, rfl⟩, by simpa only [fr_JN] using JN_st hN hc, by simpa only [fr_JL] using hL, by simpa only [fr_JP] using hP, ?_, ?_, by simpa only [fr_JS] using JS_st hS hc hs (.inl rfl), by simpa only [fr_JE] using hE, by simpa only [fr_JR] using hR, ?_⟩
  · unfold JW
    simp only [ac_Hs_landed, ac_Hs_top, ac_Hs_free, ac_Hs_st, ac_Ms_fastest, ac_Ms_free, ac_Ms_state]
    exact ⟨⟨hW.1.1, trivial⟩, hW.2.1, n2, hW.2.2.2⟩
  · unfold JF
    simp only [ac_Hs_landed, ac_Hs_top, ac_Hs_free, ac_Hs_st, ac_Ms_fastest, ac_Ms_free, ac_Ms_state]
    exact JF_up hF n1
  · unfold JK
    simp only [ac_Hs_landed, ac_Hs_top, ac_Hs_free, ac_Hs_st, ac_Ms_fastest, ac_Ms_free, ac_Ms_state]
    rw [e2, e3, if_pos rfl, if_neg (by decide), ← hll]
    exact ⟨JK_st0 hK hc hs (.inl rfl), rfl, hK.2.2⟩
theorem JJ_stand (J : JJ u n sr 60 b S T) (hc : c < n) (hs : M_state T c = 1) {fr : UInt64} (n1 : nn fr) {l : Nat} (hl : H_standing S = nI l) (hll : l = cn (M_state T) 3 n) : JJ u n sr 60 b (sdS S c t l fr) (sdT T c t fr) := by
  obtain ⟨hC, hD, hN, hL, hP, hW, hF, hS, hE, hR, hK⟩ := J
  obtain ⟨e2, e3⟩ := cn_end (n := n) hc hs (v := 3) (.inr rfl)
  unfold sdS sdT
  rw [(sw_stf0 _ _ _).1]
  refine ⟨by simpa only [fr_JC] using hC, by simpa only [fr_JD] using JD_st (v := 3) hC hD hc ⟨3, by omega, rfl⟩, by simpa only [fr_JN] using JN_st hN hc, by simpa only [fr_JL] using hL, by simpa only [fr_JP] using hP, by simpa only [fr_JW] using hW, ?_, by simpa only [fr_JS] using JS_st hS hc hs (.inr rfl), by simpa only [fr_JE] using hE, by simpa only [fr_JR] using hR, ?_⟩
  · unfold JF
    simp only [ac_Hs_standing, ac_Hs_free, ac_Hs_st, ac_Ms_free, ac_Ms_state]
    exact JF_up hF n1
  · unfold JK
    simp only [ac_Hs_standing, ac_Hs_free, ac_Hs_st, ac_Ms_free, ac_Ms_state]
    rw [e2, e3, if_neg (by decide), if_pos rfl, ← hll]
    exact ⟨JK_st0 hK hc hs (.inr rfl), hK.2.1, rfl⟩
end ENDS
