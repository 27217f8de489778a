section STEPS
variable {u n : Nat} {S : HS} {T : MS}
/-- whole numbers -/
theorem nI_mod200 {a : Nat} (h : a < 2 ^ 31) : nI a - nI a / 200 * 200 = nI (a % 200) := by
  refine Int32.toInt_inj.mp ?_
  have e1 : (nI a / 200).toInt = ((a / 200 : Nat) : Int) := by
    rw [Int32.toInt_div_of_ne_right _ _ (by decide), nI_toInt h, show (200 : Int32).toInt = 200 from by decide]
    exact (Int.ofNat_tdiv a 200).symm
  have e2 : (nI a / 200 * 200).toInt = ((a / 200 * 200 : Nat) : Int) := by
    rw [Int32.toInt_mul, e1, show (200 : Int32).toInt = 200 from by decide, Int.bmod_eq_of_le (by omega) (by omega)]; omega
  rw [Int32.toInt_sub, e2, nI_toInt h, nI_toInt (by omega), Int.bmod_eq_of_le (by omega) (by omega)]
  omega
theorem nI_mul4 (a b : Nat) : nI a * nI b = nI (a * b) := (Int32.ofNat_mul a b).symm
theorem xor_pos {a : Nat} (h : a < 2 ^ 31) : (0 : Int32) ≤ (nI a ^^^ 200) := by
  rw [Int32.le_iff_toInt_le]
  have e : (nI a ^^^ 200).toBitVec.toNat < 2 ^ 31 := by
    rw [Int32.toBitVec_xor, BitVec.toNat_xor]
    refine Nat.xor_lt_two_pow ?_ (by decide)
    show (BitVec.ofNat 32 a).toNat < 2 ^ 31
    rw [BitVec.toNat_ofNat]
    exact Nat.lt_of_le_of_lt (Nat.mod_le _ _) h
  show (0 : Int) ≤ (nI a ^^^ 200).toBitVec.toInt
  rw [BitVec.toInt_eq_toNat_of_lt (by omega)]
  omega
theorem wc_floorMod {a : Nat} (h : a < 2 ^ 31) {post : Int32 → Prop} (hp : post (nI (a % 200))) : wp_J9_floorMod_7cf53 (nI a) 200 post := by
  unfold wp_J9_floorMod_7cf53
  refine ⟨by decide, fun x2 e2 => ⟨fun _ => ?_, fun h9 => absurd (xor_pos h) h9⟩⟩
  rw [e2, nI_mod200 h]; exact hp
/-- the row of an event -/
def ev4 (f : Nat → Int32) (r : Nat) (k x y t : Int32) : Nat → Int32 := upd (upd (upd (upd f r k) (r + 1) x) (r + 2) y) (r + 3) t
theorem Hs_rr (S : HS) (f g : Nat → Int32) : Hs_rows (Hs_rows S f) g = Hs_rows S g := rfl
theorem Ms_ee (T : MS) (f g : Nat → Int32) : Ms_events (Ms_events T f) g = Ms_events T g := rfl
theorem wc_note {ec : Nat} (he : H_count S = nI ec) (h31 : ec < 2 ^ 30) {k x y t : Int32} {post : HS → Prop} (hp : post (Hs_count (Hs_rows S (ev4 (H_rows S) (ec % 200 * 4) k x y t)) (nI (ec + 1)))) : wp_X1_note k x y t S post := by
  unfold wp_X1_note
  rw [he]
  refine wc_floorMod (by omega) (fun x2 e2 => ?_)
  have e2 : x2 = nI (ec % 200 * 4) := by rw [e2]; exact nI_mul4 _ 4
  subst e2
  have a1 : ∀ j : Nat, nI (ec % 200 * 4) + nI j = nI (ec % 200 * 4 + j) := fun j => nI_add _ j
  have b1 := a1 1
  have b2 := a1 2
  have b3 := a1 3
  rw [show nI 1 = 1 from rfl] at b1
  rw [show nI 2 = 2 from rfl] at b2
  rw [show nI 3 = 3 from rfl] at b3
  rw [b1, b2, b3, nI_clamp (by omega), nI_clamp (by omega), nI_clamp (by omega), nI_clamp (by omega)]
  refine ⟨vp_in_nI (by omega) (by omega), fun S4 e4 => ⟨vp_in_nI (by omega) (by omega), fun S6 e6 => ⟨vp_in_nI (by omega) (by omega), fun S8 e8 => ⟨vp_in_nI (by omega) (by omega), fun S10 e10 x11 e11 S12 e12 => ?_⟩⟩⟩⟩
  subst e4 e6 e8 e10 e11 e12
  simp only [ac_Hs_rows, Hs_rr, he, nI_1]
  exact hp
theorem wm_notes {ec : Nat} (he : M_eventCount T = nI ec) (h31 : ec < 2 ^ 30) {k x y : Int32} {post : MS → Prop} (hp : post (Ms_eventCount (Ms_events T (ev4 (M_events T) (ec % 200 * 4) k x y (M_ticks T))) (nI (ec + 1)))) : wp_X3_notes k x y T post := by
  unfold wp_X3_notes
  rw [he, nI_mod200 (by omega)]
  intro x2 e2
  have e2 : x2 = nI (ec % 200 * 4) := by rw [e2, Nat.mul_comm]; exact nI_mul4 4 _
  subst e2
  have a1 : ∀ j : Nat, nI (ec % 200 * 4) + nI j = nI (ec % 200 * 4 + j) := fun j => nI_add _ j
  have b1 := a1 1
  have b2 := a1 2
  have b3 := a1 3
  rw [show nI 1 = 1 from rfl] at b1
  rw [show nI 2 = 2 from rfl] at b2
  rw [show nI 3 = 3 from rfl] at b3
  rw [b1, b2, b3, nI_clamp (by omega), nI_clamp (by omega), nI_clamp (by omega), nI_clamp (by omega)]
  refine ⟨vp_in_nI (by omega) (by omega), fun S4 e4 => ⟨vp_in_nI (by omega) (by omega), fun S6 e6 => ⟨vp_in_nI (by omega) (by omega), fun S8 e8 x8 ex8 => ⟨vp_in_nI (by omega) (by omega), fun S10 e10 x11 e11 S12 e12 => ?_⟩⟩⟩⟩
  subst e4 e6 e8 ex8 e10 e11 e12
  simp only [ac_Ms_events, Ms_ee, he, nI_1]
  exact hp
theorem JE_note {b ec : Nat} (h : JE b S T) (he : H_count S = nI ec) (hb : ec ≤ b) {r : Nat} {k x y : Int32} : JE (b + 1) (Hs_count (Hs_rows S (ev4 (H_rows S) r k x y (H_ticks S))) (nI (ec + 1))) (Ms_eventCount (Ms_events T (ev4 (M_events T) r k x y (M_ticks T))) (nI (ec + 1))) := by
  obtain ⟨h1, h2, _⟩ := h
  unfold JE
  simp only [ac_Hs_rows, ac_Hs_count, ac_Ms_events, ac_Ms_eventCount]
  exact ⟨by rw [h1, h2], h2, ec + 1, by omega, rfl, rfl⟩
theorem JE_ec {b : Nat} (h : JE b S T) : ∃ ec, ec ≤ b ∧ H_count S = nI ec ∧ M_eventCount T = nI ec := h.2.2
theorem JE_mono {b b' : Nat} (h : JE b S T) (hb : b ≤ b') : JE b' S T := by
  obtain ⟨h1, h2, ec, h3, h4⟩ := h
  exact ⟨h1, h2, ec, by omega, h4⟩
/-- the brakes -/
theorem q25 : FP.dmul 4598175219545276416 (FP.i2d 0) = FP.dconst0 := by decide +kernel
theorem q25_mb (x : Int32) : mb 1057 (FP.dmul 4598175219545276416 (FP.i2d x)) := by
  have h := FP.Core.dmul_mag (a := 4598175219545276416) (b := FP.i2d x) (Ka := 1022) (Kb := 1056) (by decide) (FP.Core.i2d_mag x) (by omega) (by omega)
  exact Nat.lt_of_lt_of_le h (by decide)
theorem q25_n (x : Int32) : vf_n64 (FP.dmul 4598175219545276416 (FP.i2d x)) := n64_iff.mpr (fin_nn (mb_fin (q25_mb x) (by omega)))
theorem pf8 : pf 4620693217682128896 := pf_ofB (by decide +kernel)
theorem brk_sim (h : JC n S T) (hD : JD n S T) (hW : JW S T) {c r : Nat} (hc : c < n) (hr : r < 9) {bg en : UInt64} {a2 : Int32} (e1 : FP.i2d a2 = bg) (e2 : FP.i2d (a2 + 20) = en) (e3 : (r = 0 ∧ bg = 4629137466983448576 ∧ en = 4632233691727265792) ∨ (¬ r = 0 ∧ bg = 4641592734702895104 ∧ en = 4642296422144671744)) : ∃ x : Int32, (∀ post : UInt64 → Prop, post (FP.dmul 4598175219545276416 (FP.i2d x)) → wp_X3_brakes T (nI r) (nI c) post) ∧ (∀ post : Int32 → Prop, post x → wp_X2_brakeSteps S (aT (H_L S) c) (nI r) a2 post) := by
  have hn := jc_n h
  have nbg : nn bg := by rw [← e1]; exact fin_nn (FP.Core.i2d_fin _)
  have nen : nn en := by rw [← e2]; exact fin_nn (FP.Core.i2d_fin _)
  have npl : nn (M_place T c) := (hD c hc).2.2.2.1
  have nrr := rr_nn h hD hc
  have nsp : nn (M_speed T c) := (hD c hc).2.2.1.1
  have fwi := (hW.2.2.2 r hr).2
  have nsub : nn (FP.dsub (M_speed T c) (M_wishes T r)) := sub_nnF nsp fwi
  have n8 := mul_nnP nsub pf8
  obtain ⟨out, hout⟩ : ∃ out : Prop, out = (dL (M_place T c) bg ∨ dG (rrM T c) en ∨ (dL (M_speed T c) (M_wishes T r) ∨ dE (M_speed T c) (M_wishes T r))) := ⟨_, rfl⟩
  obtain ⟨x0, hx0⟩ : ∃ x0 : Int32, x0 = FP.d2i (FP.dmul (FP.dsub (M_speed T c) (M_wishes T r)) 4620693217682128896) + 1 := ⟨_, rfl⟩
  obtain ⟨x, hx1, hx2⟩ : ∃ x : Int32, (out → x = 0) ∧ (¬ out → (x0 ≤ 15 → x = x0) ∧ (¬ x0 ≤ 15 → x = 15)) := by
    by_cases ho : out
    · exact ⟨0, fun _ => rfl, fun h9 => absurd ho h9⟩
    · by_cases h15 : x0 ≤ 15
      · exact ⟨x0, fun h9 => absurd h9 ho, fun _ => ⟨fun _ => rfl, fun h9 => absurd h15 h9⟩⟩
      · exact ⟨15, fun h9 => absurd h9 ho, fun _ => ⟨fun h9 => absurd h9 h15, fun _ => rfl⟩⟩
  rw [hout] at hx1 hx2
  have inner : ∀ post : UInt64 → Prop, post (FP.dmul 4598175219545276416 (FP.i2d x)) → (vp_in (nI c) 60 ∧ ((dL (M_place T c) bg → post FP.dconst0) ∧ (¬ dL (M_place T c) bg → wp_X3_rear T (nI c) (fun r4 => ((dG r4 en → post FP.dconst0) ∧ (¬ dG r4 en → vp_in (nI r) 9 ∧ ((¬ (dL (M_speed T c) (M_wishes T r) ∨ dE (M_speed T c) (M_wishes T r)) → vf_n64 (FP.dsub (M_speed T c) (M_wishes T r)) ∧ (∀ x9 : UInt64, x9 = FP.dsub (M_speed T c) (M_wishes T r) → vf_n64 (FP.dmul x9 4620693217682128896) ∧ (∀ x11 : UInt64, x11 = FP.dmul x9 4620693217682128896 → ∀ x12 : Int32, x12 = FP.d2i x11 + 1 → ((x12 ≤ 15 → vf_n64 (FP.dmul 4598175219545276416 (FP.i2d x12)) ∧ (∀ x15 : UInt64, x15 = FP.dmul 4598175219545276416 (FP.i2d x12) → post x15)) ∧ (¬ x12 ≤ 15 → vf_n64 (FP.dmul 4598175219545276416 (FP.i2d 15)) ∧ (∀ x17 : UInt64, x17 = FP.dmul 4598175219545276416 (FP.i2d 15) → post x17)))))) ∧ ((dL (M_speed T c) (M_wishes T r) ∨ dE (M_speed T c) (M_wishes T r)) → post FP.dconst0)))))))) := by
    intro post hp
    have p0 : (dL (M_place T c) bg ∨ dG (rrM T c) en ∨ (dL (M_speed T c) (M_wishes T r) ∨ dE (M_speed T c) (M_wishes T r))) → post FP.dconst0 := fun ho => by
      rw [hx1 ho, q25] at hp; exact hp
    refine ⟨vp_in_nI (by omega) (by omega), fun g => p0 (.inl g), fun g1 => wm_rear h hD hc ⟨fun g => p0 (.inr (.inl g)), fun g2 => ⟨vp_in_nI hr (by omega), fun g3 => ⟨n64_iff.mpr nsub, fun x9 e9 => ?_⟩, fun g => p0 (.inr (.inr g))⟩⟩⟩
    subst e9
    refine ⟨n64_iff.mpr n8, fun x11 e11 x12 e12 => ?_⟩
    subst e11
    rw [← hx0] at e12
    subst e12
    have hno : ¬ (dL (M_place T c) bg ∨ dG (rrM T c) en ∨ (dL (M_speed T c) (M_wishes T r) ∨ dE (M_speed T c) (M_wishes T r))) := fun ho => by
      rcases ho with ho | ho | ho
      · exact g1 ho
      · exact g2 ho
      · exact g3 ho
    refine ⟨fun g4 => ⟨q25_n _, fun x15 e15 => ?_⟩, fun g4 => ⟨q25_n _, fun x15 e15 => ?_⟩⟩
    · rw [e15, ← (hx2 hno).1 g4]; exact hp
    · rw [e15, ← (hx2 hno).2 g4]; exact hp
  refine ⟨x, fun post hp => ?_, fun post hp => ?_⟩
  · unfold wp_X3_brakes
    have hi := inner post hp
    rw [nI_clamp (by omega), nI_clamp (by omega)]
    rcases e3 with ⟨e3, e4, e5⟩ | ⟨e3, e4, e5⟩
    · rw [e4, e5] at hi
      exact ⟨fun h9 => absurd (by rw [e3]; rfl) h9, fun _ => hi⟩
    · rw [e4, e5] at hi
      exact ⟨fun _ => hi, fun h9 => absurd h9 (nI_ne0 (by omega) (by omega))⟩
  · unfold wp_X2_brakeSteps
    rw [nI_clamp (by omega), (hW.2.2.2 r hr).1, (hD c hc).2.1.1, (hD c hc).2.1.2.1, e1, e2]
    have p0 : (dL (M_place T c) bg ∨ dG (rrM T c) en ∨ (dL (M_speed T c) (M_wishes T r) ∨ dE (M_speed T c) (M_wishes T r))) → post 0 := fun ho => by
      rw [hx1 ho] at hp; exact hp
    refine ⟨fun h9 => absurd h9 (nI_pos (by omega)), fun _ => ⟨fun _ => ⟨vp_in_nI hr (by omega), fun x4 e4 => ⟨jc_mem h hc, ?_⟩⟩, fun h9 => absurd (nI_lt hr (by omega)) h9⟩⟩
    subst e4
    refine ⟨fun g => p0 (.inl ((nge npl nbg).mp g)), fun g1 => wc_rear h hD hc ⟨fun g => p0 (.inr (.inl ((nle nrr nen).mp g))), fun g2 => ⟨fun g3 => ⟨n64_iff.mpr nsub, fun x14 e14 => ?_⟩, fun g => p0 (.inr (.inr g))⟩⟩⟩
    subst e14
    refine ⟨n64_iff.mpr n8, fun x16 e16 => ?_⟩
    subst e16
    have hno : ¬ (dL (M_place T c) bg ∨ dG (rrM T c) en ∨ (dL (M_speed T c) (M_wishes T r) ∨ dE (M_speed T c) (M_wishes T r))) := fun ho => by
      rcases ho with ho | ho | ho
      · exact (nge npl nbg).mpr ho g1
      · exact (nle nrr nen).mpr ho g2
      · exact g3 ho
    rw [← hx0]
    refine ⟨fun g4 => ?_, fun g4 => ?_⟩
    · rw [← (hx2 hno).2 (Int32.not_le.mpr g4)]; exact hp
    · rw [← (hx2 hno).1 (Int32.not_lt.mp g4)]; exact hp
end STEPS
