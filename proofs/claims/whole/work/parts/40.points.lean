section POINTS
variable {u n : Nat} {S : HS} {T : MS} {b p : Nat} {sr : Nat → Int32}
theorem upd_same (f : Nat → Int32) (p : Nat) : upd f p (f p) = f := by
  funext d
  unfold upd
  by_cases h : d = p
  · subst h; rw [if_pos rfl]
  · rw [if_neg h]
theorem JP_turn (hP : JP S T) (hp : p < 7) {k : Nat} (hk : k ≤ 4) : JP (Hs_turning S (upd (H_turning S) p (nI k))) (Ms_turns T (upd (M_turns T) p (nI k))) := by
  obtain ⟨⟨h1, h2, h3⟩, h4⟩ := hP
  unfold JP
  simp only [ac_Hs_turning, ac_Ms_turns]
  refine ⟨⟨h1, by rw [h2], h3⟩, fun p' hp' => ⟨(h4 p' hp').1, ?_, (h4 p' hp').2.2⟩⟩
  by_cases e : p' = p
  · subst e; rw [up_self]; exact ⟨k, hk, rfl⟩
  · rw [up_ne e]; exact (h4 p' hp').2.1
theorem JP_side (hP : JP S T) (hp : p < 7) {x : Int32} (hx : x = 0 ∨ x = 1) : JP (Hs_sides S (upd (H_sides S) p x)) (Ms_lies T (upd (M_lies T) p x)) := by
  obtain ⟨⟨h1, h2, h3⟩, h4⟩ := hP
  unfold JP
  simp only [ac_Hs_sides, ac_Ms_lies]
  refine ⟨⟨by rw [h1], h2, h3⟩, fun p' hp' => ⟨?_, (h4 p' hp').2⟩⟩
  by_cases e : p' = p
  · subst e; rw [up_self]; exact hx
  · rw [up_ne e]; exact (h4 p' hp').1
theorem JJ_P (J : JJ u n sr 60 b S T) {f : Nat → Int32} {g : Nat → Int32} (hP : JP (Hs_turning S f) (Ms_turns T g)) : JJ u n sr 60 b (Hs_turning S f) (Ms_turns T g) := by
  obtain ⟨hC, hD, hN, hL, _, hW, hF, hS, hE, hR, hK⟩ := J
  exact ⟨by simpa only [fr_JC] using hC, by simpa only [fr_JD] using hD, by simpa only [fr_JN] using hN, by simpa only [fr_JL] using hL, hP, by simpa only [fr_JW] using hW, by simpa only [fr_JF] using hF, by simpa only [fr_JS] using hS, by simpa only [fr_JE] using hE, by simpa only [fr_JR] using hR, by simpa only [fr_JK] using hK⟩
theorem JJ_Q (J : JJ u n sr 60 b S T) {f : Nat → Int32} {g : Nat → Int32} (hP : JP (Hs_sides S f) (Ms_lies T g)) : JJ u n sr 60 b (Hs_sides S f) (Ms_lies T g) := by
  obtain ⟨hC, hD, hN, hL, _, hW, hF, hS, hE, hR, hK⟩ := J
  exact ⟨by simpa only [fr_JC] using hC, by simpa only [fr_JD] using hD, by simpa only [fr_JN] using hN, by simpa only [fr_JL] using hL, hP, by simpa only [fr_JW] using hW, by simpa only [fr_JF] using hF, by simpa only [fr_JS] using hS, by simpa only [fr_JE] using hE, by simpa only [fr_JR] using hR, by simpa only [fr_JK] using hK⟩
theorem Ms_lies_same (T : MS) : Ms_lies T (M_lies T) = T ∧ True := ⟨rfl, trivial⟩
theorem go_loop : ∀ j p, p + j = 7 → ∀ (S : HS) (T : MS), JJ u n sr 60 b S T → ∀ post : HS → Prop, (∀ S1 T1, (∀ q : MS → Prop, (∃ m, wl_X3_points_76 q m 0 T1) → ∃ m, wl_X3_points_2 q m (nI p) T) → JJ u n sr 60 b S1 T1 → M_state T1 = M_state T → post S1) → wl_X2_goOnTurning_2 post (j + 1) (nI p) S := by
  intro j
  induction j with
  | zero =>
    intro p hp S T J post hk
    have : p = 7 := by omega
    subst this
    exact ⟨fun _ => hk S T (fun q hq => ⟨1, fun _ => hq, fun h9 => absurd (by decide) h9⟩) J rfl, fun h9 => absurd (by decide) h9⟩
  | succ j ih =>
    intro p hp S T J post hk
    have hp7 : p < 7 := by omega
    have hP := J.2.2.2.2.1
    obtain ⟨⟨q1, q2, q3⟩, h4⟩ := hP
    obtain ⟨l01, ⟨k, hk4, hkt⟩, _⟩ := h4 p hp7
    have g7 : ¬ (7 : Int32) ≤ nI p := nI_ge (b := 7) hp7 (by decide)
    -- nothing happens here
    have idle : ((M_turns T p ≤ 0 ∨ ¬ M_stuck T p = 0)) → wl_X2_goOnTurning_2 post (j + 1) (nI (p + 1)) S := fun hid => by
      refine ih (p + 1) (by omega) S T J post (fun S1 T1 hr J1 eS => hk S1 T1 (fun q hq => ?_) J1 eS)
      obtain ⟨m, hm⟩ := hr q hq
      refine ⟨m + 1, fun h9 => absurd h9 g7, fun _ => ⟨vp_in_nI hp7 (by omega), ?_⟩⟩
      rw [nI_clamp (by omega), nI_1]
      refine ⟨fun _ => hm, fun a1 => ⟨fun _ => hm, fun a2 => ?_⟩⟩
      rcases hid with hid | hid
      · exact absurd hid a1
      · exact absurd a2 hid
    refine ⟨fun h9 => absurd h9 g7, fun _ => ⟨vp_in_nI hp7 (by omega), ?_⟩⟩
    rw [nI_clamp (show p < 2 ^ 31 by omega), q2, q3, nI_1]
    refine ⟨fun a1 => idle (.inl a1), fun a1 => ⟨fun a2 => idle (.inr a2), fun a2 x5 e5 S6 e6 => ?_⟩⟩
    have hk0 : 0 < k := by
      refine Nat.pos_of_ne_zero (fun h9 => a1 ?_)
      rw [hkt, h9]; decide
    have e5 : x5 = nI (k - 1) := by
      rw [e5, hkt]
      have := nI_pred (k - 1)
      rw [show k - 1 + 1 = k by omega] at this
      exact this
    rw [e5, ← q2] at e6
    obtain ⟨T6, hT6⟩ : ∃ z : MS, z = Ms_turns T (upd (M_turns T) p (nI (k - 1))) := ⟨_, rfl⟩
    have J6 : JJ u n sr 60 b S6 T6 := by rw [e6, hT6]; exact JJ_P J (JP_turn J.2.2.2.2.1 hp7 (by omega))
    have t6 : M_turns T6 p = nI (k - 1) := by rw [hT6]; simp only [ac_Ms_turns, up_self]
    have s6 : M_state T6 = M_state T := by rw [hT6]; simp only [ac_Ms_turns]
    have hP6 := J6.2.2.2.2.1
    rw [hP6.1.2.1, hP6.1.1, t6]
    -- the model
    have mod : ∀ (T1 : MS) (q : MS → Prop) (m : Nat), (¬ nI (k - 1) = 0 → wl_X3_points_2 q m (nI (p + 1)) T6) → (nI (k - 1) = 0 → wl_X3_points_2 q m (nI (p + 1)) (Ms_lies T6 (upd (M_lies T6) p (1 - M_lies T6 p)))) → wl_X3_points_2 q (m + 1) (nI p) T := by
      intro T1 q m h1 h2
      refine ⟨fun h9 => absurd h9 g7, fun _ => ⟨vp_in_nI hp7 (by omega), ?_⟩⟩
      rw [nI_clamp (show p < 2 ^ 31 by omega), nI_1]
      refine ⟨fun h9 => absurd h9 a1, fun _ => ⟨fun h9 => absurd a2 h9, fun _ x17 e17 S18 e18 => ?_⟩⟩
      have e17 : x17 = nI (k - 1) := by
        rw [e17, hkt]
        have := nI_pred (k - 1)
        rw [show k - 1 + 1 = k by omega] at this
        exact this
      rw [e17, ← hT6] at e18
      rw [e18, t6]
      refine ⟨fun a3 x20 e20 S21 e21 => ?_, fun a3 x22 e22 S23 e23 => ?_⟩
      · rw [e20, upd_same, (Ms_lies_same T6).1] at e21
        rw [e21]; exact h1 a3
      · rw [e22] at e23
        rw [e23]; exact h2 a3
    refine ⟨fun a3 => ?_, fun a3 x8 e8 S9 e9 => ?_⟩
    · refine ih (p + 1) (by omega) S6 T6 J6 post (fun S1 T1 hr J1 eS => hk S1 T1 (fun q hq => ?_) J1 (eS.trans s6))
      obtain ⟨m, hm⟩ := hr q hq
      exact ⟨m + 1, mod T1 q m (fun _ => hm) (fun h9 => absurd h9 a3)⟩
    · have hx : (1 - M_lies T6 p = 0 ∨ 1 - M_lies T6 p = 1) := by
        rcases (hP6.2 p hp7).1 with h | h <;> rw [h]
        · exact .inr (by decide)
        · exact .inl (by decide)
      rw [e8, ← hP6.1.1] at e9
      rw [hP6.1.1] at e9
      have J9 : JJ u n sr 60 b S9 (Ms_lies T6 (upd (M_lies T6) p (1 - M_lies T6 p))) := by
        rw [e9, ← hP6.1.1]
        have := JJ_Q J6 (JP_side hP6 hp7 hx)
        rw [← hP6.1.1] at this
        exact this
      refine ih (p + 1) (by omega) S9 _ J9 post (fun S1 T1 hr J1 eS => hk S1 T1 (fun q hq => ?_) J1 (eS.trans (by simp only [ac_Ms_lies]; exact s6)))
      obtain ⟨m, hm⟩ := hr q hq
      exact ⟨m + 1, mod T1 q m (fun h9 => absurd a3 h9) (fun _ => hm)⟩
def bgU (T : MS) (p : Nat) (rec : Int32 → MS → Prop) (r7 r10 : Int32) : Prop := ((((M_wished T r7.toNatClampNeg) >>> (((2 : Int32) - r10) &&& 31)) &&& (1 : Int32)) = (M_lies T p) → rec (nI (p + 1)) T) ∧ (¬ (((M_wished T r7.toNatClampNeg) >>> (((2 : Int32) - r10) &&& 31)) &&& (1 : Int32)) = (M_lies T p) → ∀ S12 : MS, S12 = Ms_turns T (upd (M_turns T) p (4 : Int32)) → rec (nI (p + 1)) S12)
def bgV (T : MS) (p : Nat) (rec : Int32 → MS → Prop) (r7 : Int32) : Prop := (r7 = (-1 : Int32) → rec (nI (p + 1)) T) ∧ (¬ r7 = (-1 : Int32) → (vp_in r7 60) ∧ wp_X3_level (nI p) (fun r10 => bgU T p rec r7 r10))
def bgW (T : MS) (p : Nat) (rec : Int32 → MS → Prop) : Prop := wp_X3_isBusy T (nI p) (fun r5 => (r5 = 0 → wp_X3_bound T (nI p) (fun r7 => bgV T p rec r7)) ∧ (¬ r5 = 0 → rec (nI (p + 1)) T))
theorem begin_loop : ∀ j p, p + j = 7 → ∀ (S : HS) (T : MS), JJ u n (M_state T) 60 b S T → ∀ post : HS → Prop, (∀ S1 T1, (∀ q : MS → Prop, q T1 → ∃ m, wl_X3_points_76 q m (nI p) T) → JJ u n (M_state T1) 60 b S1 T1 → M_state T1 = M_state T → post S1) → wl_X2_beginTurning_2 post (j + 1) (nI p) S := by
  intro j
  induction j with
  | zero =>
    intro p hp S T J post hk
    have : p = 7 := by omega
    subst this
    exact ⟨fun _ => hk S T (fun q hq => ⟨1, fun _ => hq, fun h9 => absurd (by decide) h9⟩) J rfl, fun h9 => absurd (by decide) h9⟩
  | succ j ih =>
    intro p hp S T J post hk
    have J' := J
    have hp7 : p < 7 := by omega
    obtain ⟨hC, hD, hN, hL, hP, hW, hF, hS, hE, hR, hK⟩ := J
    have hn := jc_n hC
    obtain ⟨⟨q1, q2, q3⟩, h4⟩ := hP
    obtain ⟨l01, ⟨k, hk4, hkt⟩, _⟩ := h4 p hp7
    have g7 : ¬ (7 : Int32) ≤ nI p := nI_ge (b := 7) hp7 (by decide)
    have tpos : 0 < M_turns T p ↔ ¬ M_turns T p = 0 := by
      rw [hkt, show (0 : Int32) = nI 0 from rfl, nI_ltI (by omega) (by omega), nI_eq (by omega) (by omega)]; omega
    -- the model goes on
    have mod : ∀ (q : MS → Prop) (rec : Int32 → MS → Prop), (0 < M_turns T p → rec (nI (p + 1)) T) → (¬ 0 < M_turns T p → ¬ M_stuck T p = 0 → rec (nI (p + 1)) T) → (¬ 0 < M_turns T p → M_stuck T p = 0 → bgW T p rec) → wb_X3_points_76 q rec (nI p) T := by
      intro q rec h1 h2 h3
      unfold wb_X3_points_76
      rw [nI_clamp (show p < 2 ^ 31 by omega), nI_1]
      exact ⟨fun h9 => absurd h9 g7, fun _ => ⟨vp_in_nI hp7 (by omega), h1, fun a1 => ⟨h2 a1, h3 a1⟩⟩⟩
    have idle : (∀ (q : MS → Prop) (rec : Int32 → MS → Prop), rec (nI (p + 1)) T → wb_X3_points_76 q rec (nI p) T) → wl_X2_beginTurning_2 post (j + 1) (nI (p + 1)) S := fun hid => by
      refine ih (p + 1) (by omega) S T J' post (fun S1 T1 hr J1 eS => hk S1 T1 (fun q hq => ?_) J1 eS)
      obtain ⟨m, hm⟩ := hr q hq
      exact ⟨m + 1, hid q _ hm⟩
    refine ⟨fun h9 => absurd h9 g7, fun _ => ⟨vp_in_nI hp7 (by omega), ?_⟩⟩
    rw [nI_clamp (show p < 2 ^ 31 by omega), q1, q2, q3, nI_1]
    refine ⟨fun a1 => idle (fun q rec hr => mod q rec (fun _ => hr) (fun _ _ => hr) (fun h9 => absurd (tpos.mpr a1) h9)), fun a1 => ⟨fun a2 => idle (fun q rec hr => mod q rec (fun _ => hr) (fun _ _ => hr) (fun _ h9 => absurd h9 a2)), fun a2 => ?_⟩⟩
    have a1' : ¬ 0 < M_turns T p := fun h9 => tpos.mp h9 a1
    refine busy_sim hC hD hR hp7 (fun r hr01 hbusy => ⟨fun a3 => idle (fun q rec hr => mod q rec (fun _ => hr) (fun _ _ => hr) (fun _ _ => hbusy _ ⟨fun h9 => absurd h9 a3, fun _ => hr⟩)), fun a3 => ?_⟩)
    refine bound_sim hC hD hR hp7 (fun r7 hr7 hbound => ?_)
    cases r7 with
    | none => exact ⟨fun _ => idle (fun q rec hr => mod q rec (fun _ => hr) (fun _ _ => hr) (fun _ _ => hbusy _ ⟨fun _ => hbound _ ⟨fun _ => hr, fun h9 => absurd rfl h9⟩, fun h9 => absurd a3 h9⟩)), fun w h9 => (nomatch h9)⟩
    | some d =>
      obtain ⟨hd, hbd⟩ := hr7 d rfl
      refine ⟨fun h9 => (nomatch h9), fun w h9 => ?_⟩
      have h9 : aT (H_L S) d = w := Option.some.inj h9
      subst h9
      refine ⟨jc_mem hC hd, wc_side hC hp7 hd hbd.2 ?_⟩
      have mod2 : ∀ (q : MS → Prop) (rec : Int32 → MS → Prop), (((((M_wished T d) >>> (((2 : Int32) - lvI (nI p)) &&& 31)) &&& (1 : Int32)) = (M_lies T p) → rec (nI (p + 1)) T) ∧ (¬ (((M_wished T d) >>> (((2 : Int32) - lvI (nI p)) &&& 31)) &&& (1 : Int32)) = (M_lies T p) → rec (nI (p + 1)) (Ms_turns T (upd (M_turns T) p (4 : Int32))))) → wb_X3_points_76 q rec (nI p) T := by
        intro q rec hh
        refine mod q rec (fun h9 => absurd h9 a1') (fun _ h9 => absurd a2 h9) (fun _ _ => hbusy _ ⟨fun _ => hbound _ ⟨fun h9 => absurd h9 (eI_some (by omega)), fun _ => ?_⟩, fun h9 => absurd a3 h9⟩)
        rw [show eI (some d) = nI d from rfl]
        refine ⟨vp_in_nI (by omega) (by omega), wm_level ?_⟩
        unfold bgU
        rw [nI_clamp (show d < 2 ^ 31 by omega)]
        exact ⟨hh.1, fun a5 S12 e12 => by rw [e12]; exact hh.2 a5⟩
      refine ⟨fun a4 => idle (fun q rec hr => mod2 q rec ⟨fun _ => hr, fun h9 => absurd a4 h9⟩), fun a4 S13 e13 => ?_⟩
      rw [← q2] at e13
      have J13 : JJ u n (M_state T) 60 b S13 (Ms_turns T (upd (M_turns T) p (4 : Int32))) := by
        rw [e13]; exact JJ_P J' (JP_turn (k := 4) ⟨⟨q1, q2, q3⟩, h4⟩ hp7 (by omega))
      have s13 : M_state (Ms_turns T (upd (M_turns T) p (4 : Int32))) = M_state T := by simp only [ac_Ms_turns]
      refine ih (p + 1) (by omega) S13 _ (by rw [s13]; exact J13) post (fun S1 T1 hr J1 eS => hk S1 T1 (fun q hq => ?_) J1 (eS.trans s13))
      obtain ⟨m, hm⟩ := hr q hq
      exact ⟨m + 1, mod2 q _ ⟨fun h9 => absurd h9 a4, fun _ => hm⟩⟩
end POINTS
