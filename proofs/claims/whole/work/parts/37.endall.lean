section ENDALL
variable {u n : Nat} {S : HS} {T : MS} {b c : Nat} {sr : Nat → Int32}
theorem end_step (J : JJ u n sr 60 b S T) (hc : c < n) (hsr : sr c = 1) (hs : M_state T c = 1) (hb : b + 1 < 2 ^ 30) {post : HS → Prop} {rec : Int32 → HS → Prop}
    (hk : ∀ S1 T1, (∀ q : MS → Prop, q T1 → wp_X3_ends (nI c) T q) → JJ u n sr 60 (b + 1) S1 T1 → (∀ d, d ≠ c → M_state T1 d = M_state T d) → rec (nI (cn sr 1 (c + 1))) S1) : wb_X2_endAll_2 post rec (nI (cn sr 1 c)) S := by
  have J' := J
  obtain ⟨hC, hD, hN, hL, hP, hW, hF, hS, hE, hR, hK⟩ := J
  have hn := jc_n hC
  obtain ⟨g1, g2⟩ := jr_get hn hR hc hsr
  have J0 : JJ u n sr 60 (b + 1) S T := ⟨hC, hD, hN, hL, hP, hW, hF, hS, JE_mono hE (by omega), hR, hK⟩
  obtain ⟨v, pa, si, ⟨_, hpa, hsi⟩, _, e1, e2, _, e3⟩ := (hD c hc).1
  have h8 := si8 hpa hsi
  have tt := (t_track pa hpa si h8 hsi).1
  have npl := (hD c hc).2.2.2.1
  have nrr := rr_nn hC hD hc
  have f200 : FP.Core.DFin 4641240890982006784 := mb_fin (K := 1040) (by unfold mb; decide) (by omega)
  have n200 : nn 4641240890982006784 := fin_nn f200
  have e2' : M_passed T c = nI 3 → M_sides T c = nI si := fun _ => e2
  have stay := fun (q : MS → Prop) => wm_stay (q := q) hC hD hF hc h8 e2'
  unfold wb_X2_endAll_2
  rw [nI_1, ← cn_s1 hsr]
  refine ⟨fun h9 => absurd h9 g2, fun _ => ⟨aT (H_L S) c, g1, jc_mem hC hc, wc_trackOf ?_⟩⟩
  rw [e3, tt]
  by_cases h3 : pa = 3
  · subst h3
    rw [if_pos rfl, (hD c hc).2.1.1]
    refine ⟨fun h9 => absurd h9 (eI_some (d := si) (by omega)), fun _ => ⟨fun g => hk S T (fun q hq => stay q ⟨.inr (.inl ((nge npl n200).mp g)), hq⟩) J0 (fun _ _ => rfl), fun g => ?_⟩⟩
    have hG : ¬ dL (M_place T c) 4641240890982006784 := fun h9 => (nge npl n200).mpr h9 g
    have nad : nn (FP.dadd 4641240890982006784 (M_free T si)) := add_Fnn f200 (hF si h8).2
    -- the sidings
    obtain ⟨k, hk0, hk1⟩ := hS.2 si h8
    have c1 := cn_lt hc hs
    have c2 := cn_sum (M_state T) n
    unfold wp_X2_endOnTrack
    rw [nI_clamp (show si < 2 ^ 31 by omega), (hF si h8).1, (hD c hc).2.1.1, (hD c hc).2.1.2.1]
    refine ⟨jc_mem hC hc, vp_in_nI h8 (by omega), n64_iff.mpr nad, fun x4 e4 => ?_⟩
    subst e4
    refine ⟨fun g3 => ⟨fun g4 => hk S T (fun q hq => stay q ⟨.inr (.inr ⟨e1, g3, .inl g4⟩), hq⟩) J0 (fun _ _ => rfl), fun g4 => wc_rear hC hD hc ⟨fun g5 => hk S T (fun q hq => stay q ⟨.inr (.inr ⟨e1, g3, .inr g5⟩), hq⟩) J0 (fun _ _ => rfl), fun g5 => ?_⟩⟩, fun g3 => ?_⟩
    · -- it stands
      obtain ⟨e2c, e3c⟩ := cn_end (n := n) hc hs (v := 3) (.inr rfl)
      have hl := hK.2.2
      have JX := JJ_stand (t := si) J' hc hs (fr := FP.dsub (rrM T c) 4641240890982006784) (sub_nnF nrr f200) hl rfl
      have b1 : H_L (sdS S c si (cn (M_state T) 3 n) (FP.dsub (rrM T c) 4641240890982006784)) = H_L S := by unfold sdS; simp only [ac_Hs_standing, ac_Hs_st, ac_Hs_free]
      have b2 : M_state (sdT T c si (FP.dsub (rrM T c) 4641240890982006784)) = upd (M_state T) c 3 := by unfold sdT; simp only [ac_Ms_free, ac_Ms_state]
      have b3 : M_sided (sdT T c si (FP.dsub (rrM T c) 4641240890982006784)) = M_sided T := by unfold sdT; simp only [ac_Ms_free, ac_Ms_state]
      have ht := end_tail (post := fun S17 => rec (nI (cn sr 1 (c + 1))) S17) (v := 3) JX hc h8 (k := k) (by rw [b3]; exact hk0) (by omega) (by rw [b2, e2c, e3c, if_neg (by decide), if_pos rfl]; omega) hb (by rw [b2, up_self]) (fun S1 T1 hr J1 eS => hk S1 T1 (fun q hq => wm_stand hC hD hF hc h8 e1 e2 hG g3 g4 g5 (hr q hq)) J1 (fun d hd => by rw [eS, b2, up_ne hd]))
      rw [b1] at ht
      exact wc_stand hC hD hc h8 hl ht
    · -- it lands
      obtain ⟨e2c, e3c⟩ := cn_end (n := n) hc hs (v := 2) (.inl rfl)
      have hl := hK.2.1
      obtain ⟨fr, nfr, hfr⟩ : ∃ fr : UInt64, nn fr ∧ ((dL (lfM T c si) FP.dconst0 → fr = FP.dconst0) ∧ (¬ dL (lfM T c si) FP.dconst0 → fr = lfM T c si)) := by
        by_cases hx : dL (lfM T c si) FP.dconst0
        · exact ⟨FP.dconst0, (dL_nn hx).2, fun _ => rfl, fun h9 => absurd hx h9⟩
        · exact ⟨lfM T c si, lf_nn hC hF hc h8, fun h9 => absurd h9 hx, fun _ => rfl⟩
      obtain ⟨top, ntop, htop⟩ : ∃ top : UInt64, nn top ∧ ((dG (M_speed T c) (M_fastest T) → top = M_speed T c) ∧ (¬ dG (M_speed T c) (M_fastest T) → top = M_fastest T)) := by
        by_cases hx : dG (M_speed T c) (M_fastest T)
        · exact ⟨_, (hD c hc).2.2.1.1, fun _ => rfl, fun h9 => absurd hx h9⟩
        · exact ⟨_, hW.2.2.1, fun h9 => absurd h9 hx, fun _ => rfl⟩
      have JX := JJ_land (t := si) J' hc hs (fr := fr) (top := top) nfr ntop hl rfl
      have b1 : H_L (laS S c si (cn (M_state T) 2 n) fr top) = H_L S := by unfold laS; simp only [ac_Hs_landed, ac_Hs_st, ac_Hs_top, ac_Hs_free]
      have b2 : M_state (laT T c si fr top) = upd (M_state T) c 2 := by unfold laT; simp only [ac_Ms_fastest, ac_Ms_free, ac_Ms_state]
      have b3 : M_sided (laT T c si fr top) = M_sided T := by unfold laT; simp only [ac_Ms_fastest, ac_Ms_free, ac_Ms_state]
      have ht := end_tail (post := fun S17 => rec (nI (cn sr 1 (c + 1))) S17) (v := 2) JX hc h8 (k := k) (by rw [b3]; exact hk0) (by omega) (by rw [b2, e2c, e3c, if_pos rfl, if_neg (by decide)]; omega) hb (by rw [b2, up_self]) (fun S1 T1 hr J1 eS => hk S1 T1 (fun q hq => wm_land hC hD hF hc h8 e1 e2 hG g3 hfr htop (hr q hq)) J1 (fun d hd => by rw [eS, b2, up_ne hd]))
      rw [b1] at ht
      exact wc_land hC hD hF hW hc h8 hl hfr htop ht
  · rw [if_neg h3]
    refine ⟨fun _ => hk S T (fun q hq => stay q ⟨.inl ?_, hq⟩) J0 (fun _ _ => rfl), fun h9 => absurd rfl h9⟩
    rw [e1]; exact nI_lt (b := 3) (by omega) (by decide)
theorem end_all {post : HS → Prop} : ∀ j k, k + j = n → ∀ (b : Nat) (S : HS) (T : MS), JJ u n sr 60 b S T → (∀ d, M_state T d = sr d ∨ (sr d = 1 ∧ d < k)) → b + j < 2 ^ 30 → (∀ S1 T1, run125 k T T1 → JJ u n sr 60 (b + j) S1 T1 → (∀ d, M_state T1 d = sr d ∨ sr d = 1) → ∃ m, wl_X2_endAll_71 post m (H_rs S1 - 1) S1) → wl_X2_endAll_2 post (cn sr 1 n - cn sr 1 k + 1) (nI (cn sr 1 k)) S := by
  intro j
  induction j with
  | zero =>
    intro k hk b S T J hI hb hpost
    have : k = n := by omega
    subst this
    have hC := J.1
    have hR := J.2.2.2.2.2.2.2.2.2.1
    refine ⟨fun _ x10 e10 => ?_, fun h9 => absurd (jr_end hR (jc_n hC)) h9⟩
    rw [e10]
    exact hpost S T (r125_end hC.2.1 (jc_n hC)) J (fun d => by rcases hI d with h | h; exact .inl h; exact .inr h.1)
  | succ j ih =>
    intro k hk b S T J hI hb hpost
    have hC := J.1
    have hkn : k < n := by omega
    have hst : M_state T k = sr k := by
      rcases hI k with h | h
      · exact h
      · omega
    by_cases hs : sr k = 1
    · have h1 := cn_lt hkn hs
      have h2 := cn_s1 hs
      have h3 := cn_mono sr 1 (show k + 1 ≤ n from hkn)
      rw [show cn sr 1 n - cn sr 1 k + 1 = (cn sr 1 n - cn sr 1 (k + 1) + 1) + 1 by omega]
      refine end_step J hkn hs (by rw [hst]; exact hs) (by omega) (fun S1 T1 hr J1 eS => ?_)
      refine ih (k + 1) (by omega) (b + 1) S1 T1 J1 (fun d => ?_) (by omega) (fun S2 T2 hr2 J2 hI2 => hpost S2 T2 (r125_do hC.2.1 (jc_n hC) hkn (by rw [hst]; exact hs) hr hr2) (by rw [show b + (j + 1) = b + 1 + j by omega]; exact J2) hI2)
      by_cases e : d = k
      · subst e; exact .inr ⟨hs, by omega⟩
      · rw [eS d e]
        rcases hI d with h | h
        · exact .inl h
        · exact .inr ⟨h.1, by omega⟩
    · rw [← cn_s0 hs]
      refine ih (k + 1) (by omega) b S T J (fun d => ?_) (by omega) (fun S2 T2 hr2 J2 hI2 => hpost S2 T2 (r125_skip hC.2.1 (jc_n hC) hkn (by rw [hst]; exact hs) hr2) ?_ hI2)
      · rcases hI d with h | h
        · exact .inl h
        · exact .inr ⟨h.1, by omega⟩
      · obtain ⟨a1, a2, a3, a4, a5, a6, a7, a8, a9, a10⟩ := J2
        exact ⟨a1, a2, a3, a4, a5, a6, a7, a8, JE_mono a9 (by omega), a10⟩
/-- the list while cuts are taken out of it from its end -/
def mix (sr st : Nat → Int32) (k : Nat) : Nat → Int32 := fun d => if d < k then sr d else st d
theorem mix_lt {sr st : Nat → Int32} {k d : Nat} (h : d < k) : mix sr st k d = sr d := by unfold mix; rw [if_pos h]
theorem mix_ge {sr st : Nat → Int32} {k d : Nat} (h : ¬ d < k) : mix sr st k d = st d := by unfold mix; rw [if_neg h]
theorem mix_same {sr st : Nat → Int32} {k : Nat} (h : sr k = st k) : mix sr st (k + 1) = mix sr st k := by
  funext d
  by_cases h1 : d < k
  · rw [mix_lt h1, mix_lt (by omega)]
  · by_cases h2 : d = k
    · subst h2; rw [mix_lt (by omega), mix_ge (by omega), h]
    · rw [mix_ge (by omega), mix_ge (by omega)]
theorem mix_upd {sr st : Nat → Int32} {k : Nat} : mix sr st k = upd (mix sr st (k + 1)) k (st k) := by
  funext d
  unfold upd
  by_cases h2 : d = k
  · subst h2; rw [if_pos rfl, mix_ge (by omega)]
  · rw [if_neg h2]
    by_cases h1 : d < k
    · rw [mix_lt h1, mix_lt (by omega)]
    · rw [mix_ge (by omega), mix_ge (by omega)]
theorem lrem_at {f : Nat → Option Nat} {i C j : Nat} (hi : i < C) (hC : C < 2 ^ 30) : lrem f (nI i) (nI C) j = if j = C - 1 then none else if i ≤ j ∧ j < C - 1 then f (j + 1) else f j := by
  have e1 : nI C - 1 = nI (C - 1) := by
    have := nI_pred (C - 1)
    rw [show C - 1 + 1 = C by omega] at this
    exact this
  unfold lrem
  rw [e1, nI_clamp (n := C - 1) (by omega), nI_1]
  unfold va_up
  by_cases hj : j = C - 1
  · rw [if_pos hj, if_pos hj]
  · rw [if_neg hj, if_neg hj]
    by_cases h : i < C - 1
    · rw [if_pos (nI_lt h (by omega))]
      have e2 : nI (C - 1) - nI i = nI (C - 1 - i) := by
        refine Int32.toInt_inj.mp ?_
        rw [Int32.toInt_sub, nI_toInt (by omega), nI_toInt (by omega), nI_toInt (by omega), Int.bmod_eq_of_le (by omega) (by omega)]
        omega
      rw [e2, nI_clamp (n := i + 1) (by omega), nI_clamp (n := i) (by omega), nI_clamp (n := C - 1 - i) (by omega)]
      unfold va_cpy
      by_cases h2 : i ≤ j ∧ j < C - 1
      · rw [if_pos h2, if_pos (by omega), show i + 1 + (j - i) = j + 1 by omega]
      · rw [if_neg h2, if_neg (by omega)]
    · rw [if_neg (by intro h9; exact h ((nI_ltI (by omega) (by omega)).mp h9)), if_neg (by omega)]
theorem JR_remove (hn : n ≤ 60) {g : Nat → Int32} {k : Nat} {x : Int32} (hR : JR u n g S) (hk : k < n) (hg : g k = 1) (hx : ¬ x = 1) : JR u n (upd g k x) (Hremove S (nI (cn g 1 k))) ∧ lrm (H_ra S) (H_L S) (H_rs S) (nI (cn g 1 k)) (aT (H_L S) k) := by
  have c1 := cn_lt hk hg
  have c2 := cn_le g 1 n
  have c3 := cn_upd (st := g) (v := 1) (x := x) (c := k) n hk
  rw [if_pos hg, if_neg hx] at c3
  obtain ⟨hrs, h⟩ := hR
  rcases h with ⟨_, h⟩ | ⟨a, N, f, ha, hN, hcap, hf, hm, hu⟩
  · omega
  · have hN2 : N < 100 := by
      have : ∀ x ∈ caps, x < 100 := by decide
      exact this N hcap
    have eS : Hremove S (nI (cn g 1 k)) = Hs_ra (Hs_rs (Hs_rm S (H_rm S + 1)) (H_rs S - 1)) (some (a, N, lrem f (nI (cn g 1 k)) (H_rs S))) := by unfold Hremove; rw [ha]
    have el : ∀ j, lrem f (nI (cn g 1 k)) (H_rs S) j = if j = cn g 1 n - 1 then none else if cn g 1 k ≤ j ∧ j < cn g 1 n - 1 then f (j + 1) else f j := fun j => by rw [hrs]; exact lrem_at c1 (by omega)
    refine ⟨⟨?_, .inr ⟨a, N, lrem f (nI (cn g 1 k)) (H_rs S), ?_, by omega, hcap, fun d hd hgd => ?_, fun q z hq => ?_, hu⟩⟩, a, N, cn g 1 n, cn g 1 k, f, ha, hrs, rfl, c1, hN, by omega, hf k hk hg, hm⟩
    · rw [eS]
      simp only [ac_Hs_ra, ac_Hs_rs]
      rw [hrs]
      have := nI_pred (cn g 1 n - 1)
      rw [show cn g 1 n - 1 + 1 = cn g 1 n by omega] at this
      rw [this, show cn (upd g k x) 1 n = cn g 1 n - 1 by omega]
    · rw [eS]
      simp only [ac_Hs_ra]
    · rw [eS]
      simp only [ac_Hs_ra, ac_Hs_rs, ac_Hs_rm]
      have hdk : d ≠ k := fun e => by subst e; rw [up_self] at hgd; exact hx hgd
      rw [up_ne hdk] at hgd
      have c4 := cn_lt hd hgd
      rw [el]
      by_cases h1 : d < k
      · rw [cn_upd_ge (by omega)]
        have c5 := cn_lt h1 hgd
        rw [if_neg (by omega), if_neg (by omega)]
        exact hf d hd hgd
      · have c5 := cn_upd (st := g) (v := 1) (x := x) (c := k) d (by omega)
        rw [if_pos hg, if_neg hx] at c5
        have c6 := cn_lt (n := d) (show k < d by omega) hg
        rw [if_neg (by omega), if_pos (by omega), show cn (upd g k x) 1 d + 1 = cn g 1 d by omega]
        exact hf d hd hgd
    · rw [eS]
      simp only [ac_Hs_ra, ac_Hs_rs, ac_Hs_rm]
      rw [el] at hq
      split at hq
      · cases hq
      · split at hq
        · exact hm _ _ hq
        · exact hm _ _ hq
theorem rem_loop {post : HS → Prop} (hI : ∀ d, M_state T d = sr d ∨ sr d = 1) : ∀ k, k ≤ n → ∀ S : HS, JJ u n (mix sr (M_state T) k) 60 b S T → (∀ S1, JJ u n (M_state T) 60 b S1 T → post S1) → ∃ m, wl_X2_endAll_71 post m (nI (cn sr 1 k) - 1) S := by
  intro k
  induction k with
  | zero =>
    intro hk S J hp
    have e : nI 0 - 1 < 0 := by decide
    have em : mix sr (M_state T) 0 = M_state T := by funext d; exact mix_ge (by omega)
    rw [em] at J
    exact ⟨1, fun _ => hp S J, fun h9 => absurd e h9⟩
  | succ k ih =>
    intro hk S J hp
    have hkn : k < n := by omega
    by_cases hs : sr k = 1
    · have hC := J.1
      have hn := jc_n hC
      have hR := J.2.2.2.2.2.2.2.2.2.1
      have hD := J.2.1
      have hck := cn_le sr 1 k
      rw [cn_s1 hs, show nI (cn sr 1 k + 1) - 1 = nI (cn sr 1 k) from nI_pred _]
      have hm : mix sr (M_state T) (k + 1) k = 1 := by rw [mix_lt (by omega)]; exact hs
      have ecn : cn (mix sr (M_state T) (k + 1)) 1 k = cn sr 1 k := cn_congr 1 k (fun i hi => mix_lt (by omega))
      obtain ⟨g1, g2⟩ := jr_get hn hR hkn hm
      rw [ecn] at g1 g2
      obtain ⟨v, pa, si, _, e4, _, _, e5, _⟩ := (hD k hkn).1
      have eidx : nI (cn sr 1 k) + (-1) = nI (cn sr 1 k) - 1 := (Int32.sub_eq_add_neg _ _).symm
      by_cases h1 : M_state T k = 1
      · obtain ⟨m, hm2⟩ := ih (by omega) S (by rw [← mix_same (by rw [hs, h1])]; exact J) hp
        refine ⟨m + 1, fun h9 => absurd h9 (nI_pos (by omega)), fun _ => ⟨aT (H_L S) k, g1, jc_mem hC hkn, fun _ => ?_, fun h9 => absurd ?_ h9⟩⟩
        · rw [eidx]; exact hm2
        · rw [e5, ← e4]; exact h1
      · obtain ⟨hR2, hlr⟩ := JR_remove hn hR hkn hm h1
        rw [ecn] at hR2 hlr
        rw [← mix_upd] at hR2
        have J2 : JJ u n (mix sr (M_state T) k) 60 b (Hremove S (nI (cn sr 1 k))) T := by
          obtain ⟨hC, hD, hN, hL, hP, hW, hF, hS, hE, hR, hK⟩ := J
          obtain ⟨a, N, c, i0, f, ha, _⟩ := hlr
          have eS : Hremove S (nI (cn sr 1 k)) = Hs_ra (Hs_rs (Hs_rm S (H_rm S + 1)) (H_rs S - 1)) (some (a, N, lrem f (nI (cn sr 1 k)) (H_rs S))) := by unfold Hremove; rw [ha]
          rw [eS] at hR2 ⊢
          exact ⟨by simpa only [fr_JC] using hC, by simpa only [fr_JD] using hD, by simpa only [fr_JN] using hN, by simpa only [fr_JL] using hL, by simpa only [fr_JP] using hP, by simpa only [fr_JW] using hW, by simpa only [fr_JF] using hF, by simpa only [fr_JS] using hS, by simpa only [fr_JE] using hE, hR2, by simpa only [fr_JK] using hK⟩
        obtain ⟨m, hm2⟩ := ih (by omega) _ J2 hp
        refine ⟨m + 1, fun h9 => absurd h9 (nI_pos (by omega)), fun _ => ⟨aT (H_L S) k, g1, jc_mem hC hkn, fun h9 => absurd ?_ h1, fun _ => ⟨aT (H_L S) k, hlr, fun S8 e8 => ?_⟩⟩⟩
        · rw [e4, ← e5]; exact h9
        · rw [e8, eidx]; exact hm2
    · have hst : M_state T k = sr k := by
        rcases hI k with h | h
        · exact h
        · exact absurd h hs
      rw [cn_s0 hs]
      exact ih (by omega) S (by rw [← mix_same hst.symm]; exact J) hp
end ENDALL
