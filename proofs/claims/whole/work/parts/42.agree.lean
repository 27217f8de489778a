section AGREE
variable {j : Nat} {S : HS} {T : MS}
def JI (j : Nat) (S : HS) (T : MS) : Prop := ∃ u n : Nat, JJ u n (M_state T) 60 (120000 * j) S (Ms_code T 0)
/-- the same, seen at T itself -/
def JX (u n : Nat) (sr : Nat → Int32) (e b : Nat) (S : HS) (T : MS) : Prop := JC n S T ∧ JD n S T ∧ True ∧ JL n e T ∧ JP S T ∧ JW S T ∧ JF S T ∧ JS n S T ∧ JE b S T ∧ JR u n sr S ∧ JK n S T
theorem jx (J : JI j S T) : ∃ u n : Nat, JX u n (M_state T) 60 (120000 * j) S T ∧ JI j S T := by
  have J' := J
  obtain ⟨u, n, hC, hD, hN, hL, hP, hW, hF, hS, hE, hR, hK⟩ := J
  exact ⟨u, n, ⟨by simpa only [fr_JC] using hC, by simpa only [fr_JD] using hD, trivial, by simpa only [fr_JL] using hL, by simpa only [fr_JP] using hP, by simpa only [fr_JW] using hW, by simpa only [fr_JF] using hF, by simpa only [fr_JS] using hS, by simpa only [fr_JE] using hE, hR, by simpa only [fr_JK] using hK⟩, J'⟩
theorem Ms_cc (T : MS) (c d : Int32) : Ms_code (Ms_code T c) d = Ms_code T d ∧ True := ⟨rfl, trivial⟩
theorem Ms_c0 (T : MS) : Ms_code T (M_code T) = T ∧ True := ⟨rfl, trivial⟩
def agI (j : Nat) (k : Int32) (S1 : HS) (o : Int64) : Int32 → MS → Prop := fun b T1 => M_code T1 = k ∧ (k = 0 → o = b.toInt64) ∧ JI (j + 1) S1 T1
def agZ (j : Nat) (k : Int32) (S1 : HS) (o : Int64) : Int32 → MS → Prop := fun b T1 => M_code T1 = k ∧ (k = 0 → o = if b = 0 then 0 else 1) ∧ JI (j + 1) S1 T1
def agD (j : Nat) (k : Int32) (S1 : HS) (o : UInt64) : UInt64 → MS → Prop := fun b T1 => M_code T1 = k ∧ (k = 0 → o = b) ∧ JI (j + 1) S1 T1
theorem JI_code (J : JI j S T) {c : Int32} : JI (j + 1) S (Ms_code T c) := by
  obtain ⟨u, n, J⟩ := J
  refine ⟨u, n, ?_⟩
  rw [(Ms_cc T c 0).1]
  simp only [ac_Ms_code]
  exact JJ_b J (by omega)
theorem ref_no {c : Int32} {X Y : MS → Prop} (hc : ¬ c ≤ 0) (h : Y (Ms_code T c)) : wp_X3_refuses c T (fun r S2 => (r = 0 → X S2) ∧ (¬ r = 0 → Y S2)) := by
  intro S1 e
  subst e
  exact ⟨fun h9 => absurd h9 hc, fun _ => ⟨fun h9 => absurd h9 (by decide), fun _ => h⟩⟩
theorem ref_ok {X Y : MS → Prop} (h : X (Ms_code T 0)) : wp_X3_refuses 0 T (fun r S2 => (r = 0 → X S2) ∧ (¬ r = 0 → Y S2)) := by
  intro S1 e
  subst e
  exact ⟨fun _ => ⟨fun _ => h, fun h9 => absurd rfl h9⟩, fun h9 => absurd (by decide) h9⟩
theorem n1le : ¬ (1 : Int32) ≤ 0 := by decide
theorem n2le : ¬ (2 : Int32) ≤ 0 := by decide
theorem agD_no (J : JI j S T) {k : Int32} (hk : ¬ k ≤ 0) {o b : UInt64} : agD j k S o b (Ms_code T k) := ⟨by simp only [ac_Ms_code], fun h9 => absurd (by rw [h9]; decide) hk, JI_code J⟩
theorem agI_no (J : JI j S T) {k : Int32} (hk : ¬ k ≤ 0) {o : Int64} {b : Int32} : agI j k S o b (Ms_code T k) := ⟨by simp only [ac_Ms_code], fun h9 => absurd (by rw [h9]; decide) hk, JI_code J⟩
theorem agZ_no (J : JI j S T) {k : Int32} (hk : ¬ k ≤ 0) {o : Int64} {b : Int32} : agZ j k S o b (Ms_code T k) := ⟨by simp only [ac_Ms_code], fun h9 => absurd (by rw [h9]; decide) hk, JI_code J⟩
/-- 0 to a bound -/
def inP (x m : UInt64) : Prop := (dG x FP.dconst0 ∨ dE x FP.dconst0) ∧ (dL x m ∨ dE x m)
theorem wc_within {x m : UInt64} {k : Int32} (e : FP.i2d k = m) {post : Int32 → Prop} (h1 : inP x m → post 1) (h0 : ¬ inP x m → post 0) : wp_X2_isWithin x k post := by
  unfold wp_X2_isWithin
  rw [e]
  exact ⟨fun g => h0 (fun h9 => g h9.1), fun g => ⟨fun g2 => h0 (fun h9 => g2 h9.2), fun g2 => h1 ⟨g, g2⟩⟩⟩
theorem wm_isIn {x m : UInt64} {post : Int32 → Prop} (h1 : inP x m → post 1) (h0 : ¬ inP x m → post 0) : wp_X3_isIn x FP.dconst0 m post :=
  ⟨fun g => h0 (fun h9 => g h9.1), fun g => ⟨fun g2 => h0 (fun h9 => g2 h9.2), fun g2 => h1 ⟨g, g2⟩⟩⟩
theorem idx {x : Int32} {m : Nat} (hm : m < 2 ^ 31) (h0 : ¬ x < 0) (h1 : x < nI m) : ∃ r, r < m ∧ x = nI r := by
  obtain ⟨r, hr, rfl⟩ := nI_of h0
  exact ⟨r, (nI_ltI hr hm).mp h1, rfl⟩
/-- the state but for one group -/
theorem JI_W (J : JI j S T) {S1 : HS} {T1 : MS} (h0 : M_code T1 = 0) (h : ∀ u n, JJ u n (M_state T) 60 (120000 * (j + 1)) S (Ms_code T 0) → JJ u n (M_state T1) 60 (120000 * (j + 1)) S1 T1) : JI (j + 1) S1 T1 := by
  obtain ⟨u, n, J⟩ := J
  refine ⟨u, n, ?_⟩
  rw [← h0, (Ms_c0 T1).1]
  exact h u n (JJ_b J (by omega))
theorem ag_push (J : JI j S T) {a0 o : UInt64} : wp_X2_push a0 S (fun r S1 => wp_X3_push a0 T (agD j 0 S1 r)) (fun E => (E = xIAE ∧ wp_X3_push a0 T (agD j 1 S o))) := by
  have e4 : FP.i2d 4 = 4616189618054758400 := by decide +kernel
  unfold wp_X2_push
  refine wc_within e4 (fun g => ⟨fun _ x3 e3 S4 e4 => ?_, fun h9 => absurd h9 (by decide)⟩) (fun g => ⟨fun h9 => absurd rfl h9, fun _ => ⟨rfl, ?_⟩⟩)
  · refine wm_isIn (fun _ => ⟨fun h9 => absurd h9 (by decide), fun _ => ref_ok (fun x11 e11 S12 e12 => ?_)⟩) (fun h9 => absurd g h9)
    subst e3 e4 e11 e12
    simp only [ac_Ms_code]
    refine ⟨by simp only [ac_Ms_push, ac_Ms_code], fun _ => ?_, JI_W J (by simp only [ac_Ms_push, ac_Ms_code]) (fun u n J => ?_)⟩
    · obtain ⟨u, n, J, _⟩ := jx J
      exact J.2.2.2.2.2.1.1.1
    · simp only [ac_Ms_push, ac_Ms_code]
      obtain ⟨hC, hD, hN, hL, hP, hW, hF, hS, hE, hR, hK⟩ := J
      refine ⟨by simpa only [fr_JC] using hC, by simpa only [fr_JD] using hD, by simpa only [fr_JN] using hN, by simpa only [fr_JL] using hL, by simpa only [fr_JP] using hP, ?_, by simpa only [fr_JF] using hF, by simpa only [fr_JS] using hS, by simpa only [fr_JE] using hE, by simpa only [fr_JR] using hR, by simpa only [fr_JK] using hK⟩
      unfold JW
      simp only [ac_Hs_push, ac_Ms_push, ac_Ms_code]
      exact ⟨⟨trivial, hW.1.2⟩, (within_ok (by decide) g.1 g.2).2, hW.2.2⟩
  · exact wm_isIn (fun h9 => absurd h9 g) (fun _ => ⟨fun _ => ref_no n1le (agD_no J n1le), fun h9 => absurd rfl h9⟩)
theorem ag_wish (J : JI j S T) {a0 : Int32} {a1 o : UInt64} : wp_X2_wish a0 a1 S (fun r S1 => wp_X3_wish a0 a1 T (agD j 0 S1 r)) (fun E => (E = xIOB ∧ wp_X3_wish a0 a1 T (agD j 1 S o)) ∨ (E = xIAE ∧ wp_X3_wish a0 a1 T (agD j 2 S o))) := by
  have e4 : FP.i2d 20 = 4626322717216342016 := by decide +kernel
  unfold wp_X2_wish
  refine ⟨fun g0 => .inl ⟨rfl, ?_⟩, fun g0 => ⟨fun g1 => wc_within e4 (fun g => ⟨fun _ => ?_, fun h9 => absurd h9 (by decide)⟩) (fun g => ⟨fun h9 => absurd rfl h9, fun _ => .inr ⟨rfl, ?_⟩⟩), fun g1 => .inl ⟨rfl, ?_⟩⟩⟩
  · exact ⟨fun _ => ref_no n1le (agD_no J n1le), fun h9 => absurd g0 h9⟩
  · obtain ⟨r, hr, rfl⟩ := idx (m := 9) (by omega) g0 g1
    rw [nI_clamp (by omega)]
    refine ⟨vp_in_nI hr (by omega), fun x6 e6 S7 e7 => ?_⟩
    refine ⟨fun h9 => absurd h9 g0, fun _ => ⟨fun _ => wm_isIn (fun _ => ⟨fun h9 => absurd h9 (by decide), fun _ => ref_ok ?_⟩) (fun h9 => absurd g h9), fun h9 => absurd g1 h9⟩⟩
    rw [nI_clamp (by omega)]
    refine ⟨vp_in_nI hr (by omega), fun x11 e11 S12 e12 => ?_⟩
    subst e6 e7 e11 e12
    simp only [ac_Ms_code]
    refine ⟨by simp only [ac_Ms_wishes, ac_Ms_code], fun _ => ?_, JI_W J (by simp only [ac_Ms_wishes, ac_Ms_code]) (fun u n J => ?_)⟩
    · obtain ⟨u, n, J, _⟩ := jx J
      exact (J.2.2.2.2.2.1.2.2.2 r hr).1
    · simp only [ac_Ms_wishes, ac_Ms_code]
      obtain ⟨hC, hD, hN, hL, hP, hW, hF, hS, hE, hR, hK⟩ := J
      refine ⟨by simpa only [fr_JC] using hC, by simpa only [fr_JD] using hD, by simpa only [fr_JN] using hN, by simpa only [fr_JL] using hL, by simpa only [fr_JP] using hP, ?_, by simpa only [fr_JF] using hF, by simpa only [fr_JS] using hS, by simpa only [fr_JE] using hE, by simpa only [fr_JR] using hR, by simpa only [fr_JK] using hK⟩
      unfold JW
      simp only [ac_Hs_wishes, ac_Ms_wishes, ac_Ms_code]
      refine ⟨hW.1, hW.2.1, hW.2.2.1, fun r' hr' => ?_⟩
      by_cases e : r' = r
      · subst e
        rw [vu_self, vu_self]
        refine ⟨rfl, mb_fin (K := 1040) ?_ (by omega)⟩
        have := (within_ok (by decide) g.1 g.2).1
        exact Nat.lt_of_le_of_lt this (by decide)
      · rw [vu_ne e, vu_ne e]; exact hW.2.2.2 r' hr'
  · exact ⟨fun h9 => absurd h9 g0, fun _ => ⟨fun _ => wm_isIn (fun h9 => absurd h9 g) (fun _ => ⟨fun _ => ref_no n2le (agD_no J n2le), fun h9 => absurd rfl h9⟩), fun h9 => absurd g1 h9⟩⟩
  · exact ⟨fun h9 => absurd h9 g0, fun _ => ⟨fun h9 => absurd h9 g1, fun _ => ref_no n1le (agD_no J n1le)⟩⟩
theorem ag_fill (J : JI j S T) {a0 : Int32} {a1 o : UInt64} : wp_X2_fill a0 a1 S (fun r S1 => wp_X3_fill a0 a1 T (agD j 0 S1 r)) (fun E => (E = xIOB ∧ wp_X3_fill a0 a1 T (agD j 1 S o)) ∨ (E = xIAE ∧ wp_X3_fill a0 a1 T (agD j 2 S o))) := by
  have e4 : FP.i2d 800 = 4650248090236747776 := by decide +kernel
  unfold wp_X2_fill wp_X2_isTrack
  refine ⟨fun g0 => ⟨fun h9 => absurd rfl h9, fun _ => .inl ⟨rfl, ?_⟩⟩, fun g0 => ⟨fun g1 => ⟨fun h9 => absurd rfl h9, fun _ => .inl ⟨rfl, ?_⟩⟩, fun g1 => ⟨fun _ => wc_within e4 (fun g => ⟨fun _ => ?_, fun h9 => absurd h9 (by decide)⟩) (fun g => ⟨fun h9 => absurd rfl h9, fun _ => .inr ⟨rfl, ?_⟩⟩), fun h9 => absurd h9 (by decide)⟩⟩⟩
  · exact ⟨fun _ => ref_no n1le (agD_no J n1le), fun h9 => absurd g0 h9⟩
  · exact ⟨fun h9 => absurd h9 g0, fun _ => ⟨fun h9 => absurd g1 (Int32.not_le.mpr h9), fun _ => ref_no n1le (agD_no J n1le)⟩⟩
  · have g1' := Int32.not_le.mp g1
    obtain ⟨r, hr, rfl⟩ := idx (m := 8) (by omega) g0 g1'
    rw [nI_clamp (by omega)]
    refine ⟨vp_in_nI hr (by omega), fun x6 e6 S7 e7 => ?_⟩
    refine ⟨fun h9 => absurd h9 g0, fun _ => ⟨fun _ => wm_isIn (fun _ => ⟨fun h9 => absurd h9 (by decide), fun _ => ref_ok ?_⟩) (fun h9 => absurd g h9), fun h9 => absurd g1' h9⟩⟩
    rw [nI_clamp (by omega)]
    refine ⟨vp_in_nI hr (by omega), fun x11 e11 S12 e12 => ?_⟩
    subst e6 e7 e11 e12
    simp only [ac_Ms_code]
    refine ⟨by simp only [ac_Ms_free, ac_Ms_code], fun _ => ?_, JI_W J (by simp only [ac_Ms_free, ac_Ms_code]) (fun u n J => ?_)⟩
    · obtain ⟨u, n, J, _⟩ := jx J
      exact (J.2.2.2.2.2.2.1 r hr).1
    · simp only [ac_Ms_free, ac_Ms_code]
      obtain ⟨hC, hD, hN, hL, hP, hW, hF, hS, hE, hR, hK⟩ := J
      refine ⟨by simpa only [fr_JC] using hC, by simpa only [fr_JD] using hD, by simpa only [fr_JN] using hN, by simpa only [fr_JL] using hL, by simpa only [fr_JP] using hP, by simpa only [fr_JW] using hW, ?_, by simpa only [fr_JS] using hS, by simpa only [fr_JE] using hE, by simpa only [fr_JR] using hR, by simpa only [fr_JK] using hK⟩
      unfold JF
      simp only [ac_Hs_free, ac_Ms_free, ac_Ms_code]
      exact JF_up hF (within_ok (by decide) g.1 g.2).2.1
  · have g1' := Int32.not_le.mp g1
    exact ⟨fun h9 => absurd h9 g0, fun _ => ⟨fun _ => wm_isIn (fun h9 => absurd h9 g) (fun _ => ⟨fun _ => ref_no n2le (agD_no J n2le), fun h9 => absurd rfl h9⟩), fun h9 => absurd g1' h9⟩⟩
theorem nar01 (x : Int32) : vp_nar .boolean x = 0 ∨ vp_nar .boolean x = 1 := by
  show x &&& 1 = 0 ∨ x &&& 1 = 1
  have e : (x &&& 1).toBitVec.toNat = x.toBitVec.toNat % 2 := by
    rw [Int32.toBitVec_and, BitVec.toNat_and]
    exact Nat.and_one_is_mod _
  rcases Nat.mod_two_eq_zero_or_one x.toBitVec.toNat with h | h
  · refine .inl (Int32.toBitVec_inj.mp (BitVec.eq_of_toNat_eq ?_))
    rw [e, h]; rfl
  · refine .inr (Int32.toBitVec_inj.mp (BitVec.eq_of_toNat_eq ?_))
    rw [e, h]; rfl
theorem ag_stick (J : JI j S T) {a0 a1 : Int32} {o : Int64} : wp_X2_stick a0 a1 S (fun r S1 => wp_X3_stick a0 a1 T (agZ j 0 S1 (if r = 0 then 0 else 1))) (fun E => (E = xIOB ∧ wp_X3_stick a0 a1 T (agZ j 1 S o))) := by
  unfold wp_X2_stick wp_X2_isPoint
  refine ⟨fun g0 => ⟨fun h9 => absurd rfl h9, fun _ => ⟨rfl, ?_⟩⟩, fun g0 => ⟨fun g1 => ⟨fun h9 => absurd rfl h9, fun _ => ⟨rfl, ?_⟩⟩, fun g1 => ⟨fun _ => ?_, fun h9 => absurd h9 (by decide)⟩⟩⟩
  · exact ⟨fun _ => ref_no n1le (agZ_no J n1le), fun h9 => absurd g0 h9⟩
  · exact ⟨fun h9 => absurd h9 g0, fun _ => ⟨fun h9 => absurd g1 (Int32.not_le.mpr h9), fun _ => ref_no n1le (agZ_no J n1le)⟩⟩
  · have g1' := Int32.not_le.mp g1
    obtain ⟨r, hr, rfl⟩ := idx (m := 7) (by omega) g0 g1'
    obtain ⟨u, n, J0, J⟩ := jx J
    have hPP := J0.2.2.2.2.1
    have h01 := (hPP.2 r hr).2.2
    rw [nI_clamp (by omega), hPP.1.2.2]
    have hnar : narrow .boolean (.int (M_stuck T r)) = .int (M_stuck T r) := by rcases h01 with h | h <;> rw [h] <;> decide
    refine ⟨vp_in_nI hr (by omega), fun x6 e6 S7 e7 => ?_⟩
    subst e6
    refine ⟨hnar, fun h9 => absurd h9 g0, fun _ => ⟨fun _ => ref_ok ?_, fun h9 => absurd g1' h9⟩⟩
    rw [nI_clamp (by omega)]
    refine ⟨vp_in_nI hr (by omega), fun x11 e11 S12 e12 => ?_⟩
    simp only [ac_Ms_code] at e11 e12
    subst e7 e11 e12
    refine ⟨hnar, by simp only [ac_Ms_stuck, ac_Ms_code], fun _ => rfl, JI_W J (by simp only [ac_Ms_stuck, ac_Ms_code]) (fun u n J => ?_)⟩
    simp only [ac_Ms_stuck, ac_Ms_code]
    obtain ⟨hC, hD, hN, hL, hP, hW, hF, hS, hE, hR, hK⟩ := J
    refine ⟨by simpa only [fr_JC] using hC, by simpa only [fr_JD] using hD, by simpa only [fr_JN] using hN, by simpa only [fr_JL] using hL, ?_, by simpa only [fr_JW] using hW, by simpa only [fr_JF] using hF, by simpa only [fr_JS] using hS, by simpa only [fr_JE] using hE, by simpa only [fr_JR] using hR, by simpa only [fr_JK] using hK⟩
    unfold JP
    simp only [ac_Hs_stuck, ac_Ms_stuck, ac_Ms_code]
    refine ⟨⟨hP.1.1, hP.1.2.1, trivial⟩, fun p hp => ⟨(hP.2 p hp).1, (hP.2 p hp).2.1, ?_⟩⟩
    by_cases e : p = r
    · subst e; rw [up_self]; exact nar01 a1
    · rw [up_ne e]; exact (hP.2 p hp).2.2
end AGREE
