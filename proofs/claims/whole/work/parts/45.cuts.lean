section CUTS
variable {j u n : Nat} {S : HS} {T : MS} {b q : Nat} {a1 a2 a3 a4 a5 : Int32} {x1 x2 x3 x4 x5 : UInt64}
theorem ac_Hnew (S : HS) (q : Nat) (a1 : Int32) (x1 x2 x3 : UInt64) (a2 a3 : Int32) (x4 x5 : UInt64) (a4 a5 : Int32) : H_push (Hnew S q a1 x1 x2 x3 a2 a3 x4 x5 a4 a5) = H_push S ∧ H_top (Hnew S q a1 x1 x2 x3 a2 a3 x4 x5 a4 a5) = H_top S ∧ H_started (Hnew S q a1 x1 x2 x3 a2 a3 x4 x5 a4 a5) = H_started S ∧ H_landed (Hnew S q a1 x1 x2 x3 a2 a3 x4 x5 a4 a5) = H_landed S ∧ H_standing (Hnew S q a1 x1 x2 x3 a2 a3 x4 x5 a4 a5) = H_standing S ∧ H_ticks (Hnew S q a1 x1 x2 x3 a2 a3 x4 x5 a4 a5) = H_ticks S ∧ H_count (Hnew S q a1 x1 x2 x3 a2 a3 x4 x5 a4 a5) = H_count S ∧ H_rows (Hnew S q a1 x1 x2 x3 a2 a3 x4 x5 a4 a5) = H_rows S ∧ H_sides (Hnew S q a1 x1 x2 x3 a2 a3 x4 x5 a4 a5) = H_sides S ∧ H_turning (Hnew S q a1 x1 x2 x3 a2 a3 x4 x5 a4 a5) = H_turning S ∧ H_stuck (Hnew S q a1 x1 x2 x3 a2 a3 x4 x5 a4 a5) = H_stuck S ∧ H_wishes (Hnew S q a1 x1 x2 x3 a2 a3 x4 x5 a4 a5) = H_wishes S ∧ H_free (Hnew S q a1 x1 x2 x3 a2 a3 x4 x5 a4 a5) = H_free S ∧ H_ended (Hnew S q a1 x1 x2 x3 a2 a3 x4 x5 a4 a5) = H_ended S ∧ H_sidings (Hnew S q a1 x1 x2 x3 a2 a3 x4 x5 a4 a5) = H_sidings S ∧ H_cm (Hnew S q a1 x1 x2 x3 a2 a3 x4 x5 a4 a5) = H_cm S ∧ H_cs (Hnew S q a1 x1 x2 x3 a2 a3 x4 x5 a4 a5) = H_cs S ∧ H_ca (Hnew S q a1 x1 x2 x3 a2 a3 x4 x5 a4 a5) = H_ca S ∧ H_rm (Hnew S q a1 x1 x2 x3 a2 a3 x4 x5 a4 a5) = H_rm S ∧ H_rs (Hnew S q a1 x1 x2 x3 a2 a3 x4 x5 a4 a5) = H_rs S ∧ H_ra (Hnew S q a1 x1 x2 x3 a2 a3 x4 x5 a4 a5) = H_ra S ∧ H_L (Hnew S q a1 x1 x2 x3 a2 a3 x4 x5 a4 a5) = H_L S ++ [q] ∧ H_num (Hnew S q a1 x1 x2 x3 a2 a3 x4 x5 a4 a5) = upd (H_num S) q a1 ∧ H_len (Hnew S q a1 x1 x2 x3 a2 a3 x4 x5 a4 a5) = vf_upd (H_len S) q x1 ∧ H_mass (Hnew S q a1 x1 x2 x3 a2 a3 x4 x5 a4 a5) = vf_upd (H_mass S) q x2 ∧ H_res (Hnew S q a1 x1 x2 x3 a2 a3 x4 x5 a4 a5) = vf_upd (H_res S) q x3 ∧ H_wish (Hnew S q a1 x1 x2 x3 a2 a3 x4 x5 a4 a5) = upd (H_wish S) q a2 ∧ H_st (Hnew S q a1 x1 x2 x3 a2 a3 x4 x5 a4 a5) = upd (H_st S) q a3 ∧ H_pl (Hnew S q a1 x1 x2 x3 a2 a3 x4 x5 a4 a5) = vf_upd (H_pl S) q x4 ∧ H_sp (Hnew S q a1 x1 x2 x3 a2 a3 x4 x5 a4 a5) = vf_upd (H_sp S) q x5 ∧ H_nd (Hnew S q a1 x1 x2 x3 a2 a3 x4 x5 a4 a5) = upd (H_nd S) q a4 ∧ H_cb (Hnew S q a1 x1 x2 x3 a2 a3 x4 x5 a4 a5) = upd (H_cb S) q a5 := ⟨rfl, rfl, rfl, rfl, rfl, rfl, rfl, rfl, rfl, rfl, rfl, rfl, rfl, rfl, rfl, rfl, rfl, rfl, rfl, rfl, rfl, rfl, rfl, rfl, rfl, rfl, rfl, rfl, rfl, rfl, rfl, rfl⟩
theorem nw_JP : JP (Hnew S q a1 x1 x2 x3 a2 a3 x4 x5 a4 a5) T ↔ JP S T := Iff.rfl
theorem nw_JW : JW (Hnew S q a1 x1 x2 x3 a2 a3 x4 x5 a4 a5) T ↔ JW S T := Iff.rfl
theorem nw_JF : JF (Hnew S q a1 x1 x2 x3 a2 a3 x4 x5 a4 a5) T ↔ JF S T := Iff.rfl
theorem nw_JE : JE b (Hnew S q a1 x1 x2 x3 a2 a3 x4 x5 a4 a5) T ↔ JE b S T := Iff.rfl
theorem code0 {X : MS} (h : M_code X = 0) : Ms_code X 0 = X := by
  have := (Ms_c0 X).1
  rw [h] at this
  exact this
def cuT (T : MS) (n w t d : Nat) (a2 : UInt64) : MS := Ms_cuts (Ms_caught (Ms_wished (Ms_resistance (Ms_tons (Ms_wagons T (upd (M_wagons T) n (nI w))) (upd (M_tons T) n (nI t))) (vf_upd (M_resistance T) n a2)) (upd (M_wished T) n (nI d))) (upd (M_caught T) n (-1))) (nI (n + 1))
def cuN (S : HS) (q n w t d : Nat) (a2 : UInt64) : HS := Hnew S q (nI n) (FP.dmul 4623226492472524800 (FP.i2d (nI w))) (FP.i2d (nI w * nI t)) a2 (7 + nI d) 0 FP.dconst0 FP.dconst0 0 (-1)
theorem aT_app_lt {L : List Nat} {c : Nat} (h : c < L.length) : aT (L ++ [q]) c = aT L c := by unfold aT; rw [List.getD_eq_getElem?_getD, List.getD_eq_getElem?_getD, List.getElem?_append_left h]
theorem aT_app_n {L : List Nat} : aT (L ++ [q]) L.length = q := by unfold aT; rw [List.getD_eq_getElem?_getD, List.getElem?_append_right (Nat.le_refl _), Nat.sub_self]; rfl
theorem JJ_cut (J : JJ u n (M_state T) 60 b S T) (hn60 : n < 60) (hq : q ∉ H_L S) {w t d : Nat} {a2 : UInt64} (hw : (1 ≤ w ∧ w ≤ 20 ∧ 1 ≤ t ∧ t ≤ 90 ∧ d < 8)) (hm : mb 1028 a2) {A N : Nat} {f : Nat → Option Nat} {x : Int32} (hcap : N ∈ caps) (hN : n + 1 ≤ N) (hf : ∀ i, i < n → f i = some (aT (H_L S) i)) (hfn : f n = some q) (hfm : ∀ q' z : Nat, f q' = some z → z ∈ H_L S ++ [q]) : JJ u (n + 1) (M_state (cuT T n w t d a2)) 60 b (Hs_cs (Hs_ca (Hs_cm (cuN S q n w t d a2) x) (some (A, N, f))) (nI (n + 1))) (cuT T n w t d a2) := by
  obtain ⟨hC, hD, hN', hL, hP, hW, hF, hS, hE, hR, hK⟩ := J
  have hlen := hC.2.2.2.1
  have em : M_state (cuT T n w t d a2) = M_state T := by unfold cuT; simp only [ac_Ms_cuts, ac_Ms_caught, ac_Ms_wished, ac_Ms_resistance, ac_Ms_tons, ac_Ms_wagons]
  have new := hN' n (Nat.le_refl n)
  have c1 : ∀ v : Int32, ¬ (0 : Int32) = v → cn (M_state T) v (n + 1) = cn (M_state T) v n := fun v hv => cn_s0 (by rw [new.1]; exact hv)
  have ne : ∀ c, c < n → aT (H_L S) c ≠ q := fun c hc e => hq (by rw [← e]; exact jc_mem hC hc)
  have at1 : ∀ c, c < n → aT (H_L S ++ [q]) c = aT (H_L S) c := fun c hc => aT_app_lt (by omega)
  have at2 : aT (H_L S ++ [q]) n = q := by rw [← hlen]; exact aT_app_n
  rw [em]
  refine ⟨?_, ?_, ?_, ?_, ?_, ?_, ?_, ?_, ?_, ?_, ?_⟩
  · -- JC
    unfold JC cuT cuN
    simp only [ac_Hs_cs, ac_Hs_ca, ac_Hs_cm, ac_Hnew, ac_Ms_cuts, ac_Ms_caught, ac_Ms_wished, ac_Ms_resistance, ac_Ms_tons, ac_Ms_wagons]
    refine ⟨by omega, trivial, trivial, by rw [List.length_append, hlen]; rfl, ?_, .inr ⟨A, N, f, rfl, hN, hcap, fun i hi => ?_, hfm⟩, fun c hc => ?_⟩
    · refine List.nodup_append.mpr ⟨hC.2.2.2.2.1, List.nodup_cons.mpr ⟨List.not_mem_nil, List.nodup_nil⟩, fun a ha b hb e => ?_⟩
      rw [List.mem_singleton.mp hb] at e
      exact hq (by rw [← e]; exact ha)
    · by_cases e : i = n
      · subst e; rw [at2]; exact hfn
      · rw [at1 i (by omega)]; exact hf i (by omega)
    · by_cases e : c = n
      · subst e
        rw [at2, up_self, up_self, up_self, vu_self, vu_self, vu_self, vu_self, up_self, up_self]
        exact ⟨w, t, d, hw, ⟨rfl, rfl, rfl, hm⟩, rfl, rfl, rfl, rfl, rfl⟩
      · have hc' : c < n := by omega
        rw [at1 c hc', up_ne e, up_ne e, up_ne e, vu_ne e, up_ne (ne c hc'), vu_ne (ne c hc'), vu_ne (ne c hc'), vu_ne (ne c hc'), up_ne (ne c hc')]
        exact hC.2.2.2.2.2.2 c hc'
  · -- JD
    intro c hc
    unfold cuT cuN
    simp only [ac_Hs_cs, ac_Hs_ca, ac_Hs_cm, ac_Hnew, ac_Ms_cuts, ac_Ms_caught, ac_Ms_wished, ac_Ms_resistance, ac_Ms_tons, ac_Ms_wagons]
    by_cases e : c = n
    · subst e
      rw [at2, up_self, up_self, vu_self, vu_self, up_self, up_self, new.1, new.2.1, new.2.2.1, new.2.2.2.1, new.2.2.2.2.1]
      exact ⟨⟨0, 0, 0, ⟨by omega, by omega, by decide⟩, rfl, rfl, rfl, rfl, rfl⟩, ⟨rfl, rfl, rfl⟩, dc0_pp, dc0_lb c⟩
    · have hc' : c < n := by omega
      rw [at1 c hc', up_ne (ne c hc'), up_ne (ne c hc'), vu_ne (ne c hc'), vu_ne (ne c hc'), up_ne (ne c hc'), up_ne e]
      exact hD c hc'
  · -- JN
    unfold cuT
    simp only [fr_JN]
    exact fun c hc => hN' c (by omega)
  · -- JL
    unfold cuT
    simp only [fr_JL]
    intro c hc h60 pa hpa e
    by_cases ec : c = n
    · subst ec
      rw [new.2.2.2.1]
      exact dc0_lt pa hpa
    · exact hL c (by omega) h60 pa hpa e
  · unfold cuT cuN; simp only [fr_JP, nw_JP]; exact hP
  · unfold cuT cuN; simp only [fr_JW, nw_JW]; exact hW
  · unfold cuT cuN; simp only [fr_JF, nw_JF]; exact hF
  · -- JS
    unfold JS
    rw [em, c1 2 (by decide), c1 3 (by decide)]
    unfold cuT cuN
    simp only [ac_Hs_cs, ac_Hs_ca, ac_Hs_cm, ac_Hnew, ac_Ms_cuts, ac_Ms_caught, ac_Ms_wished, ac_Ms_resistance, ac_Ms_tons, ac_Ms_wagons]
    exact hS
  · unfold cuT cuN; simp only [fr_JE, nw_JE]; exact hE
  · -- JR
    unfold JR cuN
    simp only [ac_Hs_cs, ac_Hs_ca, ac_Hs_cm, ac_Hnew]
    rw [c1 1 (by decide)]
    obtain ⟨h1, h2⟩ := hR
    refine ⟨h1, ?_⟩
    rcases h2 with h2 | ⟨a, N2, g, k1, k2, k3, k4, k5, k6⟩
    · exact .inl h2
    · refine .inr ⟨a, N2, g, k1, k2, k3, fun c hc hs => ?_, fun q' z hz => List.mem_append_left _ (k5 q' z hz), k6⟩
      by_cases e : c = n
      · subst e; rw [new.1] at hs; exact absurd hs (by decide)
      · rw [at1 c (by omega)]; exact k4 c (by omega) hs
  · -- JK
    unfold JK
    rw [em, c1 2 (by decide), c1 3 (by decide)]
    unfold cuN
    simp only [ac_Hs_cs, ac_Hs_ca, ac_Hs_cm, ac_Hnew]
    obtain ⟨⟨s, k1, k2, k3⟩, k4⟩ := hK
    refine ⟨⟨s, by omega, k2, fun c hc => ?_⟩, k4⟩
    by_cases e : c = n
    · subst e; exact ⟨fun _ => k1, fun _ => new.1⟩
    · exact k3 c (by omega)
/-- cut, in the model -/
theorem wm_cut (hM : M_cuts T = nI n) (hn : n ≤ 60) {a0 a1 a3 : Int32} {a2 : UInt64} {post : Int32 → MS → Prop} (hbad : (a0 < 1 ∨ 20 < a0 ∨ a1 < 1 ∨ 90 < a1 ∨ ¬ inP a2 4625196817309499392 ∨ a3 < 0 ∨ 8 ≤ a3) → post 0 (Ms_code T 1)) (hfull : ¬ (a0 < 1 ∨ 20 < a0 ∨ a1 < 1 ∨ 90 < a1 ∨ ¬ inP a2 4625196817309499392 ∨ a3 < 0 ∨ 8 ≤ a3) → n = 60 → post 0 (Ms_code T 2)) (hok : ∀ w t d : Nat, n < 60 → a0 = nI w → a1 = nI t → a3 = nI d → (1 ≤ w ∧ w ≤ 20 ∧ 1 ≤ t ∧ t ≤ 90 ∧ d < 8) → inP a2 4625196817309499392 → post (nI n) (cuT (Ms_code T 0) n w t d a2)) : wp_X3_cut a0 a1 a2 a3 T post := by
  have e1 : (1 : Int32).toInt = 1 := by decide
  have e20 : (20 : Int32).toInt = 20 := by decide
  have e90 : (90 : Int32).toInt = 90 := by decide
  have e0 : (0 : Int32).toInt = 0 := by decide
  refine ⟨fun g => ref_no n1le (hbad (.inl g)), fun g1 => ⟨fun g => ref_no n1le (hbad (.inr (.inl g))), fun g2 => ⟨fun g => ref_no n1le (hbad (.inr (.inr (.inl g)))), fun g3 => ⟨fun g => ref_no n1le (hbad (.inr (.inr (.inr (.inl g))))), fun g4 => wm_isIn (fun g5 => ⟨fun h9 => absurd h9 (by decide), fun _ => ⟨fun g => ref_no n1le (hbad (.inr (.inr (.inr (.inr (.inr (.inl g))))))), fun g6 => ⟨fun g => ref_no n1le (hbad (.inr (.inr (.inr (.inr (.inr (.inr g))))))), fun g7 => ⟨fun g8 => ref_ok ?_, fun g8 => ref_no n2le (hfull (fun h => by
    rcases h with h | h | h | h | h | h | h
    · exact g1 h
    · exact g2 h
    · exact g3 h
    · exact g4 h
    · exact h g5
    · exact g6 h
    · exact g7 h) ?_)⟩⟩⟩⟩) (fun g => ⟨fun _ => ref_no n1le (hbad (.inr (.inr (.inr (.inr (.inl g)))))), fun h9 => absurd rfl h9⟩)⟩⟩⟩⟩
  · have hn60 : n < 60 := by
      refine Nat.lt_of_le_of_ne hn (fun h9 => g8 ?_)
      rw [hM, h9]; rfl
    rw [Int32.lt_iff_toInt_lt] at g1 g2 g3 g4
    obtain ⟨w, hw, rfl⟩ := idx (m := 21) (x := a0) (by omega) (fun h9 => by rw [Int32.lt_iff_toInt_lt] at h9; omega) (by rw [Int32.lt_iff_toInt_lt, nI_toInt (by omega)]; omega)
    obtain ⟨t, ht, rfl⟩ := idx (m := 91) (x := a1) (by omega) (fun h9 => by rw [Int32.lt_iff_toInt_lt] at h9; omega) (by rw [Int32.lt_iff_toInt_lt, nI_toInt (by omega)]; omega)
    obtain ⟨d, hd, rfl⟩ := idx (m := 8) (x := a3) (by omega) g6 (Int32.not_le.mp g7)
    rw [nI_toInt (by omega), e1] at g1 g3
    have hpost := hok w t d hn60 rfl rfl rfl ⟨by omega, by omega, by omega, by omega, hd⟩ g5
    have k0 : M_cuts (Ms_code T 0) = nI n := by simp only [ac_Ms_code]; exact hM
    generalize Ms_code T 0 = T0 at hpost k0
    rw [k0, nI_clamp (by omega)]
    refine ⟨vp_in_nI hn60 (by omega), fun S6 e6 => ?_⟩
    have k6 : M_cuts S6 = nI n := by rw [e6]; simp only [ac_Ms_wagons]; exact k0
    rw [k6, nI_clamp (by omega)]
    refine ⟨vp_in_nI hn60 (by omega), fun S8 e8 => ?_⟩
    have k8 : M_cuts S8 = nI n := by rw [e8]; simp only [ac_Ms_tons]; exact k6
    rw [k8, nI_clamp (by omega)]
    refine ⟨vp_in_nI hn60 (by omega), fun S10 e10 => ?_⟩
    have k10 : M_cuts S10 = nI n := by rw [e10]; simp only [ac_Ms_resistance]; exact k8
    rw [k10, nI_clamp (by omega)]
    refine ⟨vp_in_nI hn60 (by omega), fun S12 e12 => ?_⟩
    have k12 : M_cuts S12 = nI n := by rw [e12]; simp only [ac_Ms_wished]; exact k10
    rw [k12, nI_clamp (by omega)]
    refine ⟨vp_in_nI hn60 (by omega), fun S14 e14 x15 e15 S16 e16 => ?_⟩
    have k14 : M_cuts S14 = nI n := by rw [e14]; simp only [ac_Ms_caught]; exact k12
    rw [k14, nI_1] at e15
    have e16' : S16 = cuT T0 n w t d a2 := by
      have m1 : M_tons S6 = M_tons T0 := by rw [e6]; simp only [ac_Ms_wagons]
      have m2 : M_resistance S8 = M_resistance T0 := by rw [e8, e6]; simp only [ac_Ms_tons, ac_Ms_wagons]
      have m3 : M_wished S10 = M_wished T0 := by rw [e10, e8, e6]; simp only [ac_Ms_resistance, ac_Ms_tons, ac_Ms_wagons]
      have m4 : M_caught S12 = M_caught T0 := by rw [e12, e10, e8, e6]; simp only [ac_Ms_wished, ac_Ms_resistance, ac_Ms_tons, ac_Ms_wagons]
      rw [m1] at e8
      rw [m2] at e10
      rw [m3] at e12
      rw [m4] at e14
      rw [e15] at e16
      subst e16 e14 e12 e10 e8 e6
      rfl
    have k16 : M_cuts S16 = nI (n + 1) := by rw [e16, e15]; simp only [ac_Ms_cuts]
    rw [k16, show nI (n + 1) - 1 = nI n from nI_pred n, e16']
    exact hpost
  · exact (nI_eq (b := 60) (by omega) (by omega)).mp (hM.symm.trans g8)
theorem ag_cut (J : JI j S T) {a0 a1 a3 : Int32} {a2 : UInt64} {o : Int64} : wp_X2_cut a0 a1 a2 a3 S (fun r S1 => wp_X3_cut a0 a1 a2 a3 T (agI j 0 S1 r.toInt64)) (fun E => (E = xIAE ∧ wp_X3_cut a0 a1 a2 a3 T (agI j 1 S o)) ∨ (E = xUOE ∧ wp_X3_cut a0 a1 a2 a3 T (agI j 2 S o))) := by
  obtain ⟨u, n, J0, J⟩ := jx J
  have hC := J0.1
  have hn := jc_n hC
  have e16 : FP.i2d 16 = 4625196817309499392 := by decide +kernel
  have bad : (a0 < 1 ∨ 20 < a0 ∨ a1 < 1 ∨ 90 < a1 ∨ ¬ inP a2 4625196817309499392 ∨ a3 < 0 ∨ 8 ≤ a3) → wp_X3_cut a0 a1 a2 a3 T (agI j 1 S o) := fun hbad => by
    refine wm_cut hC.2.1 hn (fun _ => agI_no J n1le) (fun hg _ => absurd hbad hg) (fun w t d h1 h2 h3 h4 h5 h6 => absurd hbad ?_)
    subst h2 h3 h4
    rintro (h | h | h | h | h | h | h)
    · exact nI_nlt (b := 1) h5.1 (by omega) h
    · exact nI_nlt (a := 20) h5.2.1 (by omega) h
    · exact nI_nlt (b := 1) h5.2.2.1 (by omega) h
    · exact nI_nlt (a := 90) h5.2.2.2.1 (by omega) h
    · exact h h6
    · exact nI_pos (by omega) h
    · exact nI_ge (b := 8) h5.2.2.2.2 (by decide) h
  unfold wp_X2_cut
  refine ⟨fun g => .inl ⟨rfl, bad (.inl g)⟩, fun g1 => ⟨fun g2 => ⟨fun g => .inl ⟨rfl, bad (.inr (.inr (.inl g)))⟩, fun g3 => ⟨fun g4 => wc_within e16 (fun g5 => ⟨fun _ => ?_, fun h9 => absurd h9 (by decide)⟩) (fun g => ⟨fun h9 => absurd rfl h9, fun _ => .inl ⟨rfl, bad (.inr (.inr (.inr (.inr (.inl g)))))⟩⟩), fun g => .inl ⟨rfl, bad (.inr (.inr (.inr (.inl (Int32.not_le.mp g)))))⟩⟩⟩, fun g => .inl ⟨rfl, bad (.inr (.inl (Int32.not_le.mp g)))⟩⟩⟩
  unfold wp_X2_isTrack
  refine ⟨fun g => ⟨fun h9 => absurd rfl h9, fun _ => .inl ⟨rfl, bad (.inr (.inr (.inr (.inr (.inr (.inl g))))))⟩⟩, fun g6 => ⟨fun g => ⟨fun h9 => absurd rfl h9, fun _ => .inl ⟨rfl, bad (.inr (.inr (.inr (.inr (.inr (.inr g))))))⟩⟩, fun g7 => ⟨fun _ => ?_, fun h9 => absurd h9 (by decide)⟩⟩⟩
  have good : ¬ (a0 < 1 ∨ 20 < a0 ∨ a1 < 1 ∨ 90 < a1 ∨ ¬ inP a2 4625196817309499392 ∨ a3 < 0 ∨ 8 ≤ a3) := by
    rintro (h | h | h | h | h | h | h)
    · exact g1 h
    · exact Int32.not_le.mpr h g2
    · exact g3 h
    · exact Int32.not_le.mpr h g4
    · exact h g5
    · exact g6 h
    · exact g7 h
  rw [hC.2.2.1]
  refine ⟨fun g8 q hq S12 e12 => ?_, fun g8 => .inr ⟨rfl, ?_⟩⟩
  · have hn60 : n < 60 := (nI_ltI (b := 60) (by omega) (by omega)).mp g8
    have e1 : (1 : Int32).toInt = 1 := by decide
    have e20 : (20 : Int32).toInt = 20 := by decide
    have e90 : (90 : Int32).toInt = 90 := by decide
    have e0 : (0 : Int32).toInt = 0 := by decide
    rw [Int32.lt_iff_toInt_lt] at g1 g3
    rw [Int32.le_iff_toInt_le] at g2 g4
    obtain ⟨w, hw, rfl⟩ := idx (m := 21) (x := a0) (by omega) (fun h9 => by rw [Int32.lt_iff_toInt_lt] at h9; omega) (by rw [Int32.lt_iff_toInt_lt, nI_toInt (by omega)]; omega)
    obtain ⟨t, ht, rfl⟩ := idx (m := 91) (x := a1) (by omega) (fun h9 => by rw [Int32.lt_iff_toInt_lt] at h9; omega) (by rw [Int32.lt_iff_toInt_lt, nI_toInt (by omega)]; omega)
    obtain ⟨d, hd, rfl⟩ := idx (m := 8) (x := a3) (by omega) g6 (Int32.not_le.mp g7)
    rw [nI_toInt (by omega), e1] at g1 g3
    have hwt : (1 ≤ w ∧ w ≤ 20 ∧ 1 ≤ t ∧ t ≤ 90 ∧ d < 8) := ⟨by omega, by omega, by omega, by omega, hd⟩
    have hmb : mb 1028 a2 := by
      have := (within_ok (by decide) g5.1 g5.2).1
      exact Nat.lt_of_le_of_lt this (by decide)
    have c12 : H_cs S12 = nI n := by rw [e12]; simp only [ac_Hnew]; exact hC.2.2.1
    refine ⟨n64_iff.mpr (fin_nn (len_ok (by omega)).1), fun S13 e13 => ?_⟩
    rw [c12] at e13
    have e13 : S13 = cuN S q n w t d a2 := e13
    have f1 : H_ca S13 = H_ca S := by rw [e13]; unfold cuN; simp only [ac_Hnew]
    have f2 : H_L S13 = H_L S ++ [q] := by rw [e13]; unfold cuN; simp only [ac_Hnew]
    have f3 : H_cs S13 = nI n := by rw [e13]; unfold cuN; simp only [ac_Hnew]; exact hC.2.2.1
    have f4 : H_num S13 q = nI n := by rw [e13]; unfold cuN; simp only [ac_Hnew, up_self]
    have qm : q ∈ H_L S ++ [q] := List.mem_append_right _ (List.mem_singleton.mpr rfl)
    -- the rest, for what the list asks
    have walk : ∀ (mc ms : Nat), (mc ≤ 2 ∧ ms ≤ 100) → ladd (H_ca S) (H_L S ++ [q]) (nI n) q mc ms → (∀ qa : Nat, ∃ (A N : Nat) (f : Nat → Option Nat), lnew (H_ca S) n q qa = (A, N, f) ∧ N ∈ caps ∧ n + 1 ≤ N ∧ (∀ i, i < n → f i = some (aT (H_L S) i)) ∧ f n = some q ∧ ∀ q' z : Nat, f q' = some z → z ∈ H_L S ++ [q]) → ∃ (mc19 ms20 : Nat), (mc19 ≤ 2 ∧ ms20 ≤ 100) ∧ ladd (H_ca S13) (H_L S13) (H_cs S13) q mc19 ms20 ∧ (∀ (qa17 : Nat) (S18 : HS), S18 = Haddc S13 q qa17 → (q ∈ H_L S18) ∧ wp_X3_cut (nI w) (nI t) a2 (nI d) T (agI j 0 S18 (H_num S18 q).toInt64)) := by
      intro mc ms hms hla hln
      refine ⟨mc, ms, hms, by rw [f1, f2, f3]; exact hla, fun qa S18 e18 => ?_⟩
      obtain ⟨A, N, f, k1, k2, k3, k4, k5, k6⟩ := hln qa
      have e18' : S18 = Hs_cs (Hs_ca (Hs_cm S13 (H_cm S13 + 1)) (some (A, N, f))) (nI (n + 1)) := by
        rw [e18]; unfold Haddc; rw [f1, f3, nI_clamp (by omega), k1, nI_1]
      have l18 : H_L S18 = H_L S ++ [q] := by rw [e18']; simp only [ac_Hs_cs, ac_Hs_ca, ac_Hs_cm]; exact f2
      have n18 : H_num S18 q = nI n := by rw [e18']; simp only [ac_Hs_cs, ac_Hs_ca, ac_Hs_cm]; exact f4
      rw [l18, n18]
      refine ⟨qm, wm_cut hC.2.1 hn (fun h9 => absurd h9 good) (fun _ h9 => absurd h9 (by omega)) (fun w' t' d' _ h2 h3 h4 h5 _ => ?_)⟩
      have ew : w' = w := (nI_eq (by omega) (by omega)).mp h2.symm
      have et : t' = t := (nI_eq (by omega) (by omega)).mp h3.symm
      have ed : d' = d := (nI_eq (by omega) (by omega)).mp h4.symm
      subst ew et ed
      obtain ⟨u', n', J1⟩ := J
      have en : n' = n := by
        have h1 := J1.1.2.1
        simp only [ac_Ms_code] at h1
        exact (nI_eq (by have := J1.1.1; omega) (by omega)).mp (h1.symm.trans hC.2.1)
      subst en
      have cd : M_code (cuT (Ms_code T 0) n' w' t' d' a2) = 0 := by unfold cuT; simp only [ac_Ms_cuts, ac_Ms_caught, ac_Ms_wished, ac_Ms_resistance, ac_Ms_tons, ac_Ms_wagons, ac_Ms_code]
      refine ⟨cd, fun _ => rfl, u', n' + 1, ?_⟩
      rw [code0 cd, e18', e13]
      exact JJ_cut (T := Ms_code T 0) (JJ_b (by simp only [ac_Ms_code]; exact J1) (by omega)) hn60 hq hwt hmb k2 k3 k4 k5 k6
    obtain ⟨_, _, _, hlen, _, hca, _⟩ := hC
    rcases hca with ⟨hca, hz⟩ | ⟨a, N, f, hca, hN, hcap, hf, hfm⟩
    · subst hz
      refine walk 1 10 (by omega) ?_ (fun qa => ?_)
      · rw [hca]
        exact ⟨0, rfl, qm, rfl, rfl, rfl⟩
      · rw [hca]
        refine ⟨qa, 10, va_up (fun _ => none) 0 (some q), rfl, by decide, by decide, fun c hc => absurd hc (by omega), by unfold va_up; rw [if_pos rfl], fun q' z hz => ?_⟩
        unfold va_up at hz
        split at hz
        · cases hz; exact qm
        · cases hz
    · have hN2 : 10 ≤ N ∧ N < 100 := by
        have : ∀ x ∈ caps, 10 ≤ x ∧ x < 100 := by decide
        exact this N hcap
      by_cases hfull : n < N
      · refine walk 0 0 (by omega) ?_ (fun qa => ?_)
        · rw [hca]
          exact ⟨n, rfl, qm, fun q' z hz => List.mem_append_left _ (hfm q' z hz), .inl ⟨hfull, by omega, rfl, rfl⟩⟩
        · refine ⟨a, N, va_up f n (some q), ?_, hcap, by omega, fun c hc => ?_, by unfold va_up; rw [if_pos rfl], fun q' z hz => ?_⟩
          · rw [hca]; show (if _ then _ else _) = _; rw [if_pos hfull]
          · unfold va_up; rw [if_neg (by omega)]; exact hf c hc
          · unfold va_up at hz
            split at hz
            · cases hz; exact qm
            · exact List.mem_append_left _ (hfm q' z hz)
      · have hnN : n = N := by omega
        obtain ⟨k1, k2, k3⟩ := us_grow N hcap (by omega)
        have hle : N + N / 2 ≤ 100 := by omega
        refine walk 1 (N + N / 2) (by omega) ?_ (fun qa => ?_)
        · rw [hca]
          exact ⟨n, rfl, qm, fun q' z hz => List.mem_append_left _ (hfm q' z hz), .inr ⟨hnN, by omega, by omega, rfl, rfl⟩⟩
        · refine ⟨qa, N + N / 2, va_up (va_cpy f (fun _ => none) 0 0 N) N (some q), ?_, k1, by omega, fun c hc => ?_, by unfold va_up; rw [if_pos hnN], fun q' z hz => ?_⟩
          · rw [hca]; show (if _ then _ else _) = _; rw [if_neg hfull]
          · unfold va_up va_cpy
            rw [if_neg (by omega), if_pos (by omega), show 0 + (c - 0) = c by omega]
            exact hf c hc
          · unfold va_up at hz
            split at hz
            · cases hz; exact qm
            · unfold va_cpy at hz
              split at hz
              · exact List.mem_append_left _ (hfm _ z hz)
              · cases hz
  · have hn60 : n = 60 := by
      have : ¬ n < 60 := fun h9 => g8 (nI_lt (b := 60) h9 (by decide))
      omega
    exact wm_cut hC.2.1 hn (fun h9 => absurd h9 good) (fun _ _ => agI_no J n2le) (fun w t d h9 => absurd hn60 (by omega))
end CUTS
