section TICKS
variable {u n : Nat} {S : HS} {T : MS} {b : Nat}
theorem JR_congr {f g : Nat → Int32} (h : ∀ d, d < n → f d = g d) (hR : JR u n f S) : JR u n g S := by
  obtain ⟨h1, h2⟩ := hR
  have e := cn_congr 1 n h
  refine ⟨by rw [← e]; exact h1, ?_⟩
  rcases h2 with ⟨a1, a2, a3⟩ | ⟨a, N, ff, a1, a2, a3, a4, a5⟩
  · exact .inl ⟨a1, by rw [← e]; exact a2, a3⟩
  · refine .inr ⟨a, N, ff, a1, by rw [← e]; exact a2, a3, fun c hc hg => ?_, a5⟩
    rw [← cn_congr 1 c (fun i hi => h i (by omega))]
    exact a4 c hc (by rw [h c hc]; exact hg)
theorem JJ_b {sr : Nat → Int32} {e b' : Nat} (J : JJ u n sr e b S T) (h : b ≤ b') : JJ u n sr e b' S T := by
  obtain ⟨a1, a2, a3, a4, a5, a6, a7, a8, a9, a10⟩ := J
  exact ⟨a1, a2, a3, a4, a5, a6, a7, a8, JE_mono a9 h, a10⟩
theorem JJ_tick {sr : Nat → Int32} (J : JJ u n sr 60 b S T) {x : Int32} : JJ u n sr 60 b (Hs_ticks S x) (Ms_ticks T x) := by
  obtain ⟨hC, hD, hN, hL, hP, hW, hF, hS, hE, hR, hK⟩ := J
  refine ⟨by simpa only [fr_JC] using hC, by simpa only [fr_JD] using hD, by simpa only [fr_JN] using hN, by simpa only [fr_JL] using hL, by simpa only [fr_JP] using hP, by simpa only [fr_JW] using hW, by simpa only [fr_JF] using hF, by simpa only [fr_JS] using hS, ?_, by simpa only [fr_JR] using hR, by simpa only [fr_JK] using hK⟩
  unfold JE
  simp only [ac_Hs_ticks, ac_Ms_ticks]
  exact ⟨hE.1, trivial, hE.2.2⟩
theorem end_sim (J : JJ u n (M_state T) 60 b S T) (hb : b + n < 2 ^ 30) {post : HS → Prop} (hk : ∀ S1 T1, run125 0 T T1 → JJ u n (M_state T1) 60 (b + n) S1 T1 → post S1) : wp_X2_endAll S post := by
  refine ⟨_, end_all (sr := M_state T) n 0 (by omega) b S T J (fun d => .inl rfl) hb (fun S1 T1 hr J1 hI => ?_)⟩
  have hn := jc_n J1.1
  have hrs := J1.2.2.2.2.2.2.2.2.2.1.1
  rw [hrs]
  refine rem_loop (T := T1) (b := b + n) hI n (Nat.le_refl n) S1 ?_ (fun S2 J2 => hk S2 T1 hr J2)
  obtain ⟨hC, hD, hN, hL, hP, hW, hF, hS, hE, hR, hK⟩ := J1
  exact ⟨hC, hD, hN, hL, hP, hW, hF, hS, hE, JR_congr (fun d hd => (mix_lt hd).symm) hR, hK⟩
theorem tick_loop {N : Nat} (hN : N ≤ 400) {x2 : Int32} : ∀ j i, i + j = N → ∀ (b : Nat) (S : HS) (T : MS) (u cu su : Nat), JJ u n (M_state T) 60 b S T → cu ≤ usC u → su ≤ usS u → b + 300 * j < 2 ^ 30 → ∀ post : Int32 → HS → Prop, (∀ S1 T1, (∀ q : Int32 → MS → Prop, q (M_eventCount T1 - x2) T1 → ∃ m, wl_X3_tick_33 (nI N) q m x2 (nI i) T) → (∃ u1, JJ u1 n (M_state T1) 60 (b + 300 * j) S1 T1) → post (M_eventCount T1 - x2) S1) → wl_X2_tick_32 (nI N) post (j + 1) x2 (nI i) S cu su := by
  intro j
  induction j with
  | zero =>
    intro i hi b S T u cu su J hcu hsu hb post hk
    have : i = N := by omega
    subst this
    have hus := us_le u
    obtain ⟨ec, _, h1, h2⟩ := JE_ec J.2.2.2.2.2.2.2.2.1
    refine ⟨⟨by omega, by omega⟩, fun _ => ?_, fun h9 => absurd (nI_le (Nat.le_refl _) (by omega)) h9⟩
    rw [h1, ← h2]
    exact hk S T (fun q hq => ⟨1, fun _ => hq, fun h9 => absurd (nI_le (Nat.le_refl _) (by omega)) h9⟩) ⟨u, J⟩
  | succ j ih =>
    intro i hi b S T u cu su J hcu hsu hb post hk
    have hus := us_le u
    have hn := jc_n J.1
    have hlt : ¬ nI N ≤ nI i := nI_ge (by omega) (by omega)
    refine ⟨⟨by omega, by omega⟩, fun h9 => absurd h9 hlt, fun _ x23 e23 S24 e24 => ?_⟩
    have hT : H_ticks S = M_ticks T := J.2.2.2.2.2.2.2.2.1.2.1
    rw [e23, hT] at e24
    obtain ⟨T24, h24⟩ : ∃ z : MS, z = Ms_ticks T (M_ticks T + 1) := ⟨_, rfl⟩
    have J24 : JJ u n (M_state T) 60 b S24 T24 := by rw [e24, h24]; exact JJ_tick J
    have s24 : M_state T24 = M_state T := by rw [h24]; simp only [ac_Ms_ticks]
    refine ⟨8, go_loop 7 0 rfl S24 T24 J24 _ (fun S25 T25 r25 J25 s25 => ?_)⟩
    refine ⟨8, begin_loop 7 0 rfl S25 T25 (by rw [s25, s24]; exact J25) _ (fun S26 T26 r26 J26 s26 => ?_)⟩
    refine ⟨_, roll_all n 0 (by omega) b S26 T26 J26 (by omega) _ (fun S27 T27 r27 J27 => ?_)⟩
    refine ⟨_, catch_all n 0 (by omega) (b + 3 * n) S27 T27 J27 (by omega) _ (fun S28 T28 r28 J28 => ?_)⟩
    refine end_sim J28 (by omega) (fun S29 T29 r29 J29 => ?_)
    obtain ⟨mc, ms, ⟨hmc, hms⟩, hpush⟩ := push_sim J29
    refine ⟨mc, ms, ⟨by omega, by omega⟩, hpush _ (fun S30 T30 u1 r30 J30 hc1 hc2 => ?_)⟩
    rw [nI_1]
    refine ih (i + 1) (by omega) (b + 300) S30 T30 u1 (cu + mc) (su + ms) (JJ_b J30 (by omega)) (by omega) (by omega) (by omega) post (fun S1 T1 hr J1 => hk S1 T1 (fun q hq => ?_) (by rw [show b + 300 * (j + 1) = b + 300 + 300 * j by omega]; exact J1))
    obtain ⟨m, hm⟩ := hr q hq
    refine ⟨m + 1, fun h9 => absurd h9 hlt, fun _ x15 e15 S16 e16 => ?_⟩
    rw [e15, ← h24] at e16
    rw [e16]
    refine r25 _ (r26 _ (r27 _ _ _ _ _ (r28 _ _ _ _ _ (r29 _ _ _ _ _ (r30 _ ?_)))))
    rw [nI_1]
    exact hm
end TICKS
