section ROLL
variable {u n : Nat} {S : HS} {T : MS} {sr : Nat → Int32} {b : Nat}
theorem pf98 : pf 4621713564472705024 := pf_ofB (by decide +kernel)
theorem pf18 : pf 4593671619917905920 := pf_ofB (by decide +kernel)
theorem pf1024 : pf 4652218415073722368 := pf_ofB (by decide +kernel)
theorem grade_sim {x : UInt64} : ∃ g : UInt64, mb 1019 g ∧ (∀ (c : Int32) (post : MS → Prop), vp_in c 60 → M_place T c.toNatClampNeg = x → wj_X3_rolls_41 c post g T → wp_X3_rolls c T post) ∧ (∀ post : UInt64 → Prop, post g → wp_X2_grade x post) := by
  by_cases h1 : dL x 4633641066610819072
  · refine ⟨4586916220476850176, by unfold mb; decide, fun c post hv e h => ?_, fun post h => ⟨fun h9 => absurd h1 h9, fun _ => h⟩⟩
    unfold wp_X3_rolls
    rw [e]
    exact ⟨hv, fun h9 => absurd h1 h9, fun _ => h⟩
  · by_cases h2 : dL x 4641240890982006784
    · refine ⟨4578359381184846234, by unfold mb; decide, fun c post hv e h => ?_, fun post h => ⟨fun _ => ⟨fun h9 => absurd h2 h9, fun _ => h⟩, fun h9 => absurd h9 h1⟩⟩
      unfold wp_X3_rolls
      rw [e]
      exact ⟨hv, fun _ => ⟨fun h9 => absurd h2 h9, fun _ => h⟩, fun h9 => absurd h9 h1⟩
    · refine ⟨4562254508917369340, by unfold mb; decide, fun c post hv e h => ?_, fun post h => ⟨fun _ => ⟨fun _ => h, fun h9 => absurd h9 h2⟩, fun h9 => absurd h9 h1⟩⟩
      unfold wp_X3_rolls
      rw [e]
      exact ⟨hv, fun _ => ⟨fun _ => h, fun h9 => absurd h9 h2⟩, fun h9 => absurd h9 h1⟩
theorem acc_sim (h : JC n S T) (hD : JD n S T) (hW : JW S T) {c : Nat} (hc : c < n) : ∃ a : UInt64, mb 1061 a ∧ (∀ post : MS → Prop, wj_X3_rolls_99 (nI c) post a T → wp_X3_rolls (nI c) T post) ∧ (∀ post : UInt64 → Prop, post a → wp_X2_acceleration S (aT (H_L S) c) post) := by
  have hn := jc_n h
  obtain ⟨g, hg, gm, gc⟩ := grade_sim (T := T) (x := M_place T c)
  obtain ⟨w, t, d, hb, hm, _, _, _, hres, _⟩ := h.2.2.2.2.2.2 c hc
  have m1 : mb 1019 (FP.ddiv (M_resistance T c) 4652218415073722368) := FP.Core.ddiv_mag (K := 1028) (L := 1033) hm.2.2.2 (by decide) (by decide) (by omega) (by omega)
  have m2 : mb 1021 (FP.dsub g (FP.ddiv (M_resistance T c) 4652218415073722368)) := FP.Core.dsub_mag hg m1 (by omega)
  have m3 : mb 1026 (FP.dmul 4621713564472705024 (FP.dsub g (FP.ddiv (M_resistance T c) 4652218415073722368))) := by
    have := FP.Core.dmul_mag (Ka := 1027) (Kb := 1021) (a := 4621713564472705024) (by decide) m2 (by omega) (by omega)
    exact Nat.lt_of_lt_of_le this (by decide)
  obtain ⟨a1, ha1⟩ : ∃ a1, a1 = FP.dmul 4621713564472705024 (FP.dsub g (FP.ddiv (M_resistance T c) 4652218415073722368)) := ⟨_, rfl⟩
  rw [← ha1] at m3
  obtain ⟨x, xm, xc⟩ := brk_sim h hD hW hc (show 0 < 9 by omega) (a2 := 30) (bg := 4629137466983448576) (en := 4632233691727265792) (by decide +kernel) (by decide +kernel) (.inl ⟨rfl, rfl, rfl⟩)
  have m4 : mb 1059 (FP.dsub a1 (FP.dmul 4598175219545276416 (FP.i2d x))) := FP.Core.dsub_mag (K := 1057) (mb_le m3 (by omega)) (q25_mb x) (by omega)
  obtain ⟨v, pa, si, ⟨_, hpa, hsi⟩, _, e1, e2, _, e3⟩ := (hD c hc).1
  have h8 := si8 hpa hsi
  have tt := t_track pa hpa si h8 hsi
  have nF : ∀ {K : Nat} {z : UInt64}, mb K z → K ≤ 2047 → vf_n64 z := fun h1 h2 => n64_iff.mpr (fin_nn (mb_fin h1 h2))
  by_cases h3 : pa = 3
  · subst h3
    obtain ⟨x', xm', xc'⟩ := brk_sim h hD hW hc (show 1 + si < 9 by omega) (a2 := 210) (bg := 4641592734702895104) (en := 4642296422144671744) (by decide +kernel) (by decide +kernel) (.inr ⟨by omega, rfl, rfl⟩)
    have m5 : mb 1061 (FP.dsub (FP.dsub a1 (FP.dmul 4598175219545276416 (FP.i2d x))) (FP.dmul 4598175219545276416 (FP.i2d x'))) := FP.Core.dsub_mag (K := 1059) m4 (mb_le (q25_mb x') (by omega)) (by omega)
    refine ⟨_, m5, fun post hp => gm (nI c) post (vp_in_nI (by omega) (by omega)) (by rw [nI_clamp (by omega)]) ?_, fun post hp => ?_⟩
    · unfold wj_X3_rolls_41
      rw [nI_clamp (by omega)]
      refine ⟨vp_in_nI (by omega) (by omega), nF m1 (by omega), fun x35 e35 => ?_⟩
      subst e35
      refine ⟨nF m2 (by omega), fun x37 e37 => ?_⟩
      subst e37
      refine ⟨by rw [← ha1]; exact nF m3 (by omega), fun x39 e39 => ?_⟩
      rw [← ha1] at e39
      subst e39
      refine xm _ ⟨nF m4 (by omega), fun x42 e42 => ?_⟩
      subst e42
      refine ⟨fun h9 => absurd (by rw [e1]; rfl) h9, fun _ => ?_⟩
      rw [e2, show (1 : Int32) + nI si = nI (1 + si) from nI_add 1 si]
      refine xm' _ ⟨nF m5 (by omega), fun x46 e46 => ?_⟩
      subst e46
      exact hp
    · unfold wp_X2_acceleration
      rw [(hD c hc).2.1.1, hres]
      refine ⟨jc_mem h hc, gc _ ⟨nF m1 (by omega), fun x4 e4 => ?_⟩⟩
      subst e4
      refine ⟨nF m2 (by omega), fun x6 e6 => ?_⟩
      subst e6
      refine ⟨by rw [← ha1]; exact nF m3 (by omega), fun x8 e8 => ?_⟩
      rw [← ha1] at e8
      subst e8
      refine xc _ ⟨q25_n x, fun x11 e11 => ?_⟩
      subst e11
      refine ⟨nF m4 (by omega), fun x13 e13 => ?_⟩
      subst e13
      refine wc_trackOf ?_
      rw [e3, tt.1, if_pos rfl]
      refine ⟨fun h9 => absurd h9 (eI_some (d := si) (by omega)), fun _ => ?_⟩
      rw [show (1 : Int32) + nI si = nI (1 + si) from nI_add 1 si]
      refine xc' _ ⟨q25_n x', fun x18 e18 => ?_⟩
      subst e18
      refine ⟨nF m5 (by omega), fun x20 e20 => ?_⟩
      subst e20
      exact hp
  · refine ⟨_, mb_le m4 (by omega), fun post hp => gm (nI c) post (vp_in_nI (by omega) (by omega)) (by rw [nI_clamp (by omega)]) ?_, fun post hp => ?_⟩
    · unfold wj_X3_rolls_41
      rw [nI_clamp (by omega)]
      refine ⟨vp_in_nI (by omega) (by omega), nF m1 (by omega), fun x35 e35 => ?_⟩
      subst e35
      refine ⟨nF m2 (by omega), fun x37 e37 => ?_⟩
      subst e37
      refine ⟨by rw [← ha1]; exact nF m3 (by omega), fun x39 e39 => ?_⟩
      rw [← ha1] at e39
      subst e39
      refine xm _ ⟨nF m4 (by omega), fun x42 e42 => ?_⟩
      subst e42
      refine ⟨fun _ => hp, fun h9 => absurd h9 ?_⟩
      rw [e1]
      exact fun h9 => h3 ((nI_eq (b := 3) (by omega) (by omega)).mp h9)
    · unfold wp_X2_acceleration
      rw [(hD c hc).2.1.1, hres]
      refine ⟨jc_mem h hc, gc _ ⟨nF m1 (by omega), fun x4 e4 => ?_⟩⟩
      subst e4
      refine ⟨nF m2 (by omega), fun x6 e6 => ?_⟩
      subst e6
      refine ⟨by rw [← ha1]; exact nF m3 (by omega), fun x8 e8 => ?_⟩
      rw [← ha1] at e8
      subst e8
      refine xc _ ⟨q25_n x, fun x11 e11 => ?_⟩
      subst e11
      refine ⟨nF m4 (by omega), fun x13 e13 => ?_⟩
      subst e13
      refine wc_trackOf ?_
      rw [e3, tt.1, if_neg h3]
      exact ⟨fun _ => hp, fun h9 => absurd rfl h9⟩
/-- a cut moves -/
theorem JD_mv (h : JC n S T) (hD : JD n S T) {c : Nat} (hc : c < n) {v x : UInt64} (hv : pp v) (hx : lbd c x) : JD n (Hs_pl (Hs_sp S (vf_upd (H_sp S) (aT (H_L S) c) v)) (vf_upd (H_pl S) (aT (H_L S) c) x)) (Ms_place (Ms_speed T (vf_upd (M_speed T) c v)) (vf_upd (M_place T) c x)) := by
  intro d hd
  have hd' := hD d hd
  simp only [ac_Hs_pl, ac_Hs_sp, ac_Ms_place, ac_Ms_speed]
  by_cases e : d = c
  · subst e
    rw [vu_self, vu_self, vu_self, vu_self]
    exact ⟨hd'.1, ⟨rfl, rfl, hd'.2.1.2.2⟩, hv, hx⟩
  · have e2 : aT (H_L S) d ≠ aT (H_L S) c := fun h9 => e (jc_inj h hd hc h9)
    rw [vu_ne e2, vu_ne e2, vu_ne e, vu_ne e]
    exact hd'
theorem JN_mv (hN : JN n T) {c : Nat} (hc : c < n) {v x : UInt64} : JN n (Ms_place (Ms_speed T (vf_upd (M_speed T) c v)) (vf_upd (M_place T) c x)) := by
  intro d hd
  have hd' := hN d hd
  simp only [ac_Ms_place, ac_Ms_speed]
  rw [vu_ne (show d ≠ c by omega), vu_ne (show d ≠ c by omega)]
  exact hd'
theorem JL_mv (hL : JL n 60 T) (hn : n ≤ 60) {c : Nat} {v x : UInt64} : JL n c (Ms_place (Ms_speed T (vf_upd (M_speed T) c v)) (vf_upd (M_place T) c x)) := by
  intro d hd hdc pa hpa e
  simp only [ac_Ms_place, ac_Ms_speed] at e ⊢
  rw [vu_ne hdc]
  exact hL d hd (by omega) pa hpa e
/-- a cut passes a point -/
theorem JD_ps (h : JC n S T) (hD : JD n S T) {c pa si sd : Nat} (hc : c < n) (hpa : pa < 3) (hsi : si < 2 ^ pa) (hsd : sd < 2) : JD n (Hs_nd S (upd (H_nd S) (aT (H_L S) c) (nI (ndN (pa + 1) (2 * si + sd))))) (Ms_passed (Ms_sides T (upd (M_sides T) c (nI (2 * si + sd)))) (upd (M_passed T) c (nI (pa + 1)))) := by
  intro d hd
  have hd' := hD d hd
  simp only [ac_Hs_nd, ac_Ms_passed, ac_Ms_sides]
  by_cases e : d = c
  · subst e
    rw [up_self, up_self, up_self]
    obtain ⟨v, pb, sj, ⟨hv, _, _⟩, e4, _, _, e5, _⟩ := hd'.1
    have : 2 * si + sd < 2 ^ (pa + 1) := by rw [Nat.pow_succ]; omega
    exact ⟨⟨v, pa + 1, 2 * si + sd, ⟨hv, by omega, this⟩, e4, rfl, rfl, e5, rfl⟩, hd'.2⟩
  · have e2 : aT (H_L S) d ≠ aT (H_L S) c := fun h9 => e (jc_inj h hd hc h9)
    rw [up_ne e2, up_ne e, up_ne e]
    exact hd'
theorem JN_ps (hN : JN n T) {c : Nat} (hc : c < n) {v x : Int32} : JN n (Ms_passed (Ms_sides T (upd (M_sides T) c v)) (upd (M_passed T) c x)) := by
  intro d hd
  have hd' := hN d hd
  simp only [ac_Ms_passed, ac_Ms_sides]
  rw [up_ne (show d ≠ c by omega), up_ne (show d ≠ c by omega)]
  exact hd'
theorem JL_ps {c : Nat} (hL : JL n c T) {v x : Int32} : JL n c (Ms_passed (Ms_sides T (upd (M_sides T) c v)) (upd (M_passed T) c x)) := by
  intro d hd hdc pa hpa e
  simp only [ac_Ms_passed, ac_Ms_sides] at e ⊢
  rw [up_ne hdc] at e
  exact hL d hd hdc pa hpa e
theorem sw_nc (S : HS) (v : Int32) (f : Nat → Int32) : Hs_nd (Hs_count S v) f = Hs_count (Hs_nd S f) v := rfl
theorem sw_nr (S : HS) (g f : Nat → Int32) : Hs_nd (Hs_rows S g) f = Hs_rows (Hs_nd S f) g := rfl
end ROLL
