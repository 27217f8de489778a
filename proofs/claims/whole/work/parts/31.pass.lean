section PASS
variable {u n : Nat} {S : HS} {T : MS} {sr : Nat → Int32} {b c : Nat}
theorem cpl_nn : ∀ pa, pa < 3 → (FP.dmul 4630826316843712512 (FP.i2d (nI pa))).toNat % 2 ^ 63 < 1040 * 2 ^ 52 ∧ (cpl pa).toNat % 2 ^ 63 < 1040 * 2 ^ 52 := by decide +kernel
theorem cpl_n {pa : Nat} (h : pa < 3) : nn (cpl pa) := fin_nn (mb_fin (K := 1040) (cpl_nn pa h).2 (by omega))
theorem cpl_le : ∀ pa, pa < 3 → ∀ pb, pb < 3 → pa ≤ pb → zv (cpl pa) ≤ zv (cpl pb) := by
  have : ∀ pa, pa < 3 → ∀ pb, pb < 3 → pa ≤ pb → FP.Core.zval FP.Core.b64 (FP.Core.val64 (cpl pa)) ≤ FP.Core.zval FP.Core.b64 (FP.Core.val64 (cpl pb)) := by decide +kernel
  exact this
theorem dL_cpl {x : UInt64} {pa pb : Nat} (h : dL x (cpl pa)) (hb : pb < 3) (hab : pa ≤ pb) : dL x (cpl pb) := by
  have hx := (dL_nn h).1
  have h1 := (dL_iff hx (cpl_n (by omega))).mp h
  exact (dL_iff hx (cpl_n hb)).mpr (Int.lt_of_lt_of_le h1 (cpl_le pa (by omega) pb hb hab))
/-- the model passes point p with side sd -/
def psT (T : MS) (c pa si sd : Nat) : MS := Ms_passed (Ms_sides T (upd (M_sides T) c (nI (2 * si + sd)))) (upd (M_passed T) c (nI (pa + 1)))
theorem wm_pass (hn : c < 60) {pa si sd d : Nat} (hpa : pa < 3) (hsi : si < 2 ^ pa) (hsd : sd < 2) (hd : d < 8) (e1 : M_passed T c = nI pa) (e2 : M_sides T c = nI si) (e3 : M_lies T (ndN pa si) = nI sd) (e4 : M_wished T c = nI d) (hG : dG (M_place T c) (cpl pa) ∨ dE (M_place T c) (cpl pa)) {q rec : MS → Prop} (h0 : (ldsI (nI (ndN pa si)) (nI d) = 0 ∨ ((nI d >>> (((2 : Int32) - lvI (nI (ndN pa si))) &&& 31)) &&& 1) = nI sd) → rec (psT T c pa si sd)) (h1 : ¬ ldsI (nI (ndN pa si)) (nI d) = 0 → ¬ ((nI d >>> (((2 : Int32) - lvI (nI (ndN pa si))) &&& 31)) &&& 1) = nI sd → wp_X3_notes 0 (nI c) (nI (ndN pa si)) (psT T c pa si sd) rec) : wb_X3_rolls_156 (nI c) q rec T := by
  have h8 := si8 (show pa < 4 by omega) hsi
  obtain ⟨t1, t2, t3⟩ := t_node1 pa hpa si h8 hsi
  obtain ⟨t4, t5⟩ := t_node2 pa hpa si h8 sd hsd hsi
  have t6 := t_side2 pa hpa si h8 hsi d hd
  unfold wb_X3_rolls_156
  rw [nI_clamp (by omega), e1, e2, e4]
  refine ⟨vp_in_nI (by omega) (by omega), fun h9 => absurd h9 (nI_ge (b := 3) hpa (by decide)), fun _ => ⟨n64_iff.mpr (fin_nn (mb_fin (K := 1040) (cpl_nn pa hpa).1 (by omega))), fun x4 ex4 => ?_⟩⟩
  subst ex4
  refine ⟨n64_iff.mpr (cpl_n hpa), fun x6 ex6 => ?_⟩
  have ex6 : x6 = cpl pa := ex6
  subst ex6
  refine ⟨fun h9 => absurd hG h9, fun _ x8 ex8 => ?_⟩
  rw [t1] at ex8
  subst ex8
  rw [nI_clamp (by omega), e3]
  refine ⟨vp_in_nI t2 (by omega), fun x10 ex10 => wm_leads (fun x12 ex12 S13 eS13 x14 ex14 S15 eS15 => ?_)⟩
  subst ex10
  rw [t5] at ex12
  subst ex12 eS13
  simp only [ac_Ms_sides, e1] at ex14 eS15
  have ex14 : x14 = nI (pa + 1) := by rw [ex14]; exact nI_1 pa
  subst ex14
  have eS15 : S15 = psT T c pa si sd := eS15
  have f1 : M_wished S15 c = nI d := by rw [eS15]; unfold psT; simp only [ac_Ms_passed, ac_Ms_sides]; exact e4
  have f2 : M_passed S15 c = nI pa + 1 := by rw [eS15]; unfold psT; simp only [ac_Ms_passed, ac_Ms_sides, up_self]; exact (nI_1 pa).symm
  rw [f1, f2, t6, eS15]
  exact ⟨fun h9 => h0 (.inl h9), fun h9 => ⟨fun h7 => h0 (.inr h7), fun h7 => h1 h9 h7⟩⟩
theorem JL_fin (hL : JL n c T) (h : ∀ pa, pa < 3 → M_passed T c = nI pa → dL (M_place T c) (cpl pa)) : JL n 60 T := by
  intro d hd _ pa hpa e
  by_cases hdc : d = c
  · subst hdc; exact h pa hpa e
  · exact hL d hd hdc pa hpa e
theorem pass_one (J : JJ u n sr c b S T) (hc : c < n) (hb : b + 1 < 2 ^ 30) {pa : Nat} (hpa : pa < 3) (e1 : M_passed T c = nI pa) (hG : dG (M_place T c) (cpl pa) ∨ dE (M_place T c) (cpl pa)) {post : HS → Prop}
    (hk : ∀ S1 T1, (∀ (q : MS → Prop) (m : Nat), wl_X3_rolls_156 (nI c) q m T1 → wl_X3_rolls_156 (nI c) q (m + 1) T) → JJ u n sr c (b + 1) S1 T1 → M_passed T1 c = nI (pa + 1) → M_place T1 = M_place T → M_state T1 = M_state T → H_L S1 = H_L S → post S1) : wp_X2_pass (aT (H_L S) c) (H_nd S (aT (H_L S) c)) S post := by
  obtain ⟨hC, hD, hN, hL, hP, hW, hF, hS, hE, hR, hK⟩ := J
  have hn := jc_n hC
  obtain ⟨v, pa', si, ⟨hv, hpa', hsi⟩, _, e1', e2, _, e3⟩ := (hD c hc).1
  have hpe : pa' = pa := (nI_eq (by omega) (by omega)).mp (e1'.symm.trans e1)
  subst hpe
  obtain ⟨w, t, d, hbd, hm, hnum, _, _, _, hw⟩ := hC.2.2.2.2.2.2 c hc
  have h8 := si8 hpa' hsi
  obtain ⟨t1, t2, t3⟩ := t_node1 pa' hpa si h8 hsi
  obtain ⟨sd, hsd, e4⟩ : ∃ sd : Nat, sd < 2 ∧ M_lies T (ndN pa' si) = nI sd := by
    rcases (hP.2 (ndN pa' si) t2).1 with h | h
    · exact ⟨0, by omega, h⟩
    · exact ⟨1, by omega, h⟩
  obtain ⟨t4, t5⟩ := t_node2 pa' hpa si h8 sd hsd hsi
  have tl := t_leads (ndN pa' si) t2 d hbd.2.2.2.2
  have hwm := fun (q rec : MS → Prop) => wm_pass (T := T) (c := c) (q := q) (rec := rec) (by omega) hpa hsi hsd hbd.2.2.2.2 e1 e2 e4 hm.2.2.1 hG
  have eL : M_passed (psT T c pa' si sd) c = nI (pa' + 1) := by unfold psT; simp only [ac_Ms_passed, up_self]
  have eP : M_place (psT T c pa' si sd) = M_place T := by unfold psT; simp only [ac_Ms_passed, ac_Ms_sides]
  have eS : M_state (psT T c pa' si sd) = M_state T := by unfold psT; simp only [ac_Ms_passed, ac_Ms_sides]
  unfold wp_X2_pass
  have e3 : H_nd S (aT (H_L S) c) = nI (ndN pa' si) := e3
  rw [e3, nI_clamp (by omega), hP.1.1, e4]
  have J1 : JJ u n sr c (b + 1) (Hs_nd S (upd (H_nd S) (aT (H_L S) c) (nI (ndN (pa' + 1) (2 * si + sd))))) (psT T c pa' si sd) := by
    unfold psT
    refine ⟨by simpa only [fr_JC] using hC, JD_ps hC hD hc hpa hsi hsd, JN_ps hN hc, JL_ps hL, by simpa only [fr_JP] using hP, by simpa only [fr_JW] using hW, by simpa only [fr_JF] using hF, by simpa only [fr_JS] using hS, by simpa only [fr_JE] using JE_mono hE (by omega), by simpa only [fr_JR] using hR, by simpa only [fr_JK] using hK⟩
  have leaf : (ldsI (nI (ndN pa' si)) (nI d) = 0 ∨ ((nI d >>> (((2 : Int32) - lvI (nI (ndN pa' si))) &&& 31)) &&& 1) = nI sd) → wp_X2_nodeBehind (nI (ndN pa' si)) (nI sd) (fun r6 => ∀ S7 : HS, S7 = Hs_nd S (upd (H_nd S) (aT (H_L S) c) r6) → post S7) := by
    intro hz
    unfold wp_X2_nodeBehind
    rw [t4]
    intro S7 e7
    subst e7
    exact hk _ _ (fun q m hq => hwm q _ (fun _ => hq) (fun g1 g2 => by rcases hz with hz | hz; exact absurd hz g1; exact absurd hz g2)) J1 eL eP eS (by simp only [ac_Hs_nd])
  refine ⟨vp_in_nI t2 (by omega), fun x2 ex2 => ⟨jc_mem hC hc, ?_⟩⟩
  subst ex2
  rw [hw]
  refine wc_leadsTo ?_
  rw [← tl]
  refine ⟨fun h9 => leaf (.inl h9), fun h9 => wc_side hC t2 hc (by rw [hm.2.2.1]; exact h9) ?_⟩
  rw [hm.2.2.1]
  refine ⟨fun h7 => leaf (.inr h7), fun h7 => ?_⟩
  obtain ⟨ec, hec, hc1, hc2⟩ := JE_ec hE
  refine wc_note hc1 (by omega) ?_
  unfold wp_X2_nodeBehind
  rw [t4, hnum]
  refine ⟨by simp only [ac_Hs_count, ac_Hs_rows]; exact jc_mem hC hc, fun S16 e16 => ?_⟩
  simp only [ac_Hs_count, ac_Hs_rows, sw_nc, sw_nr] at e16
  subst e16
  have f2 : M_eventCount (psT T c pa' si sd) = nI ec := by unfold psT; simp only [ac_Ms_passed, ac_Ms_sides]; exact hc2
  have f3 : M_events (psT T c pa' si sd) = M_events T := by unfold psT; simp only [ac_Ms_passed, ac_Ms_sides]
  have f4 : M_ticks (psT T c pa' si sd) = M_ticks T := by unfold psT; simp only [ac_Ms_passed, ac_Ms_sides]
  refine hk _ (Ms_eventCount (Ms_events (psT T c pa' si sd) (ev4 (M_events T) (ec % 200 * 4) 0 (nI c) (nI (ndN pa' si)) (M_ticks T))) (nI (ec + 1))) (fun q m hq => hwm q _ (fun g => ?_) (fun _ _ => ?_)) ?_ ?_ ?_ ?_ ?_
  · rcases g with g | g
    · exact absurd g h9
    · exact absurd g h7
  · refine wm_notes f2 (by omega) ?_
    rw [f3, f4]; exact hq
  · obtain ⟨hC1, hD1, hN1, hL1, hP1, hW1, hF1, hS1, hE1, hR1, hK1⟩ := J1
    refine ⟨by simpa only [fr_JC] using hC1, by simpa only [fr_JD] using hD1, by simpa only [fr_JN] using hN1, by simpa only [fr_JL] using hL1, by simpa only [fr_JP] using hP1, by simpa only [fr_JW] using hW1, by simpa only [fr_JF] using hF1, by simpa only [fr_JS] using hS1, ?_, by simpa only [fr_JR] using hR1, by simpa only [fr_JK] using hK1⟩
    unfold psT
    unfold JE
    simp only [ac_Hs_count, ac_Hs_rows, ac_Hs_nd, ac_Ms_eventCount, ac_Ms_events, ac_Ms_passed, ac_Ms_sides]
    exact ⟨by rw [hE.1, hE.2.1], hE.2.1, ec + 1, by omega, rfl, rfl⟩
  · simp only [ac_Ms_eventCount, ac_Ms_events]; exact eL
  · simp only [ac_Ms_eventCount, ac_Ms_events]; exact eP
  · simp only [ac_Ms_eventCount, ac_Ms_events]; exact eS
  · simp only [ac_Hs_count, ac_Hs_rows, ac_Hs_nd]
theorem wc_pass_at (hC : JC n S T) (hD : JD n S T) (hc : c < n) {pa : Nat} (hpa : pa < 3) (e1 : M_passed T c = nI pa) {bf : UInt64} (hbf : dL bf (cpl pa)) {lv : Nat} (hlv : lv < 3) {post : HS → Prop} {rec : Int32 → HS → Prop} (h0 : ¬ (dG (M_place T c) (cpl pa) ∨ dE (M_place T c) (cpl pa)) → rec (nI (lv + 1)) S) (h1 : (dG (M_place T c) (cpl pa) ∨ dE (M_place T c) (cpl pa)) → wp_X2_pass (aT (H_L S) c) (H_nd S (aT (H_L S) c)) S (fun S8 => rec (nI (lv + 1)) S8)) : wb_X2_passPoints_3 (aT (H_L S) c) bf post rec (nI lv) S := by
  have hn := jc_n hC
  obtain ⟨v, pa', si, ⟨hv, hpa', hsi⟩, _, e1', e2, _, e3⟩ := (hD c hc).1
  have hpe : pa' = pa := (nI_eq (by omega) (by omega)).mp (e1'.symm.trans e1)
  subst hpe
  have h8 := si8 hpa' hsi
  obtain ⟨t1, t2, t3⟩ := t_node1 pa' hpa si h8 hsi
  have tt := (t_track pa' hpa' si h8 hsi).2.2
  rw [if_neg (show ¬ pa' = 3 by omega)] at tt
  unfold wb_X2_passPoints_3
  rw [nI_1, (hD c hc).2.1.1]
  refine ⟨fun h9 => absurd h9 (nI_ge (b := 3) hlv (by decide)), fun _ => ⟨jc_mem hC hc, wc_isPoint ?_⟩⟩
  rw [e3] at h1 ⊢
  rw [tt]
  refine ⟨fun h9 => absurd h9 (by decide), fun _ => wc_pointPlace ?_⟩
  rw [t3]
  exact ⟨fun h9 => absurd hbf h9, fun _ => ⟨h0, h1⟩⟩
theorem pass_idle (hC : JC n S T) (hD : JD n S T) (hc : c < n) {pa : Nat} (hpa : pa < 3) (e1 : M_passed T c = nI pa) {bf : UInt64} (hbf : dL bf (cpl pa)) (hG : ¬ (dG (M_place T c) (cpl pa) ∨ dE (M_place T c) (cpl pa))) {post : HS → Prop} (hp : post S) : ∀ j lv, lv + j = 3 → wl_X2_passPoints_3 (aT (H_L S) c) bf post (j + 1) (nI lv) S := by
  intro j
  induction j with
  | zero =>
    intro lv hlv
    have : lv = 3 := by omega
    subst this
    exact ⟨fun _ => hp, fun h9 => absurd (by decide) h9⟩
  | succ j ih =>
    intro lv hlv
    exact wc_pass_at hC hD hc hpa e1 hbf (by omega) (fun _ => ih (lv + 1) (by omega)) (fun h9 => absurd h9 hG)
theorem pass_loop (hc : c < n) {bf : UInt64} : ∀ j lv, lv + j = 3 → ∀ (b : Nat) (S : HS) (T : MS) (pa : Nat), JJ u n sr c b S T → M_passed T c = nI pa → pa < 4 → lv ≤ pa → b + j < 2 ^ 30 → (∀ p', pa ≤ p' → p' < 3 → dL bf (cpl p')) → ∀ post : HS → Prop, (∀ S1 T1, (∀ q : MS → Prop, q T1 → ∃ m, wl_X3_rolls_156 (nI c) q m T) → JJ u n sr 60 (b + j) S1 T1 → M_state T1 = M_state T → post S1) → wl_X2_passPoints_3 (aT (H_L S) c) bf post (j + 1) (nI lv) S := by
  intro j
  induction j with
  | zero =>
    intro lv hlv b S T pa J e1 hpa4 hle hb hbf post hk
    have h3 : lv = 3 := by omega
    have h4 : pa = 3 := by omega
    subst h3 h4
    obtain ⟨hC, hD, hN, hL, hrest⟩ := J
    have hn := jc_n hC
    refine ⟨fun _ => hk S T (fun q hq => ⟨1, ?_⟩) ⟨hC, hD, hN, JL_fin hL (fun pa hpa e => absurd ((nI_eq (by omega) (by omega)).mp (e1.symm.trans e)) (by omega)), hrest⟩ rfl, fun h9 => absurd (by decide) h9⟩
    refine ⟨vp_in_nI (by omega) (by omega), fun _ => hq, fun h9 => absurd ?_ h9⟩
    rw [nI_clamp (by omega), e1]; decide
  | succ j ih =>
    intro lv hlv b S T pa J e1 hpa4 hle hb hbf post hk
    have J' := J
    obtain ⟨hC, hD, hN, hL, hrest⟩ := J
    have hn := jc_n hC
    by_cases h3 : pa = 3
    · subst h3
      have hfin : post S := hk S T (fun q hq => ⟨1, vp_in_nI (by omega) (by omega), fun _ => hq, fun h9 => absurd (by rw [nI_clamp (by omega), e1]; decide) h9⟩) ⟨hC, hD, hN, JL_fin hL (fun pa hpa e => absurd ((nI_eq (by omega) (by omega)).mp (e1.symm.trans e)) (by omega)), by
        obtain ⟨hP, hW, hF, hS, hE, hR⟩ := hrest
        exact ⟨hP, hW, hF, hS, JE_mono hE (by omega), hR⟩⟩ rfl
      obtain ⟨v, pa', si, ⟨hv, hpa', hsi⟩, _, e1', e2, _, e3⟩ := (hD c hc).1
      have hpe : pa' = 3 := (nI_eq (by omega) (by omega)).mp (e1'.symm.trans e1)
      subst hpe
      have tt := (t_track 3 hpa' si (si8 hpa' hsi) hsi).2.2
      rw [if_pos rfl] at tt
      refine ⟨fun _ => hfin, fun _ => ⟨jc_mem hC hc, wc_isPoint ?_⟩⟩
      rw [e3, tt]
      exact ⟨fun _ => hfin, fun h9 => absurd rfl h9⟩
    · have hpa : pa < 3 := by omega
      by_cases hG : dG (M_place T c) (cpl pa) ∨ dE (M_place T c) (cpl pa)
      · refine wc_pass_at hC hD hc hpa e1 (hbf pa (Nat.le_refl _) hpa) (by omega) (fun h9 => absurd hG h9) (fun _ => ?_)
        refine pass_one J' hc (by omega) hpa e1 hG (fun S1 T1 hrun J1 e1' eP eS eLL => ?_)
        rw [← eLL]
        refine ih (lv + 1) (by omega) (b + 1) S1 T1 (pa + 1) J1 e1' (by omega) (by omega) (by omega) (fun p' h1 h2 => hbf p' (by omega) h2) post (fun S2 T2 hr2 J2 eS2 => ?_)
        refine hk S2 T2 (fun q hq => ?_) (by rw [show b + (j + 1) = b + 1 + j by omega]; exact J2) (eS2.trans eS)
        obtain ⟨m, hm⟩ := hr2 q hq
        exact ⟨m + 1, hrun q m hm⟩
      · have hg2 := (nge (hD c hc).2.2.2.1 (cpl_n hpa)).mp hG
        have hfin : post S := hk S T (fun q hq => ⟨1, ?_⟩) ⟨hC, hD, hN, JL_fin hL (fun pb hpb e => by
            have : pa = pb := (nI_eq (by omega) (by omega)).mp (e1.symm.trans e)
            subst this; exact hg2), by
          obtain ⟨hP, hW, hF, hS, hE, hR⟩ := hrest
          exact ⟨hP, hW, hF, hS, JE_mono hE (by omega), hR⟩⟩ rfl
        · exact pass_idle hC hD hc hpa e1 (hbf pa (Nat.le_refl _) hpa) hG hfin (j + 1) lv hlv
        · show wb_X3_rolls_156 (nI c) q _ T
          unfold wb_X3_rolls_156
          rw [nI_clamp (by omega), e1]
          refine ⟨vp_in_nI (by omega) (by omega), fun h9 => absurd h9 (nI_ge (b := 3) hpa (by decide)), fun _ => ⟨n64_iff.mpr (fin_nn (mb_fin (K := 1040) (cpl_nn pa hpa).1 (by omega))), fun x4 ex4 => ?_⟩⟩
          subst ex4
          refine ⟨n64_iff.mpr (cpl_n hpa), fun x6 ex6 => ?_⟩
          have ex6 : x6 = cpl pa := ex6
          subst ex6
          exact ⟨fun _ => hq, fun h9 => absurd h9 hG⟩
end PASS
