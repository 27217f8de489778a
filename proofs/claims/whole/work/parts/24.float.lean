section FLOATS
/-- no NaN -/
def nn (x : UInt64) : Prop := FP.Core.val64 x ≠ .nan
/-- in units of the least number -/
def zv (x : UInt64) : Int := FP.Core.zval FP.Core.b64 (FP.Core.val64 x)
/-- zero or more, the infinity too -/
def pp (x : UInt64) : Prop := nn x ∧ 0 ≤ zv x
def mb (K : Nat) (x : UInt64) : Prop := x.toNat % 2 ^ 63 < K * 2 ^ 52
/-- a finite number above zero -/
def pf (x : UInt64) : Prop := ∃ c q, FP.Core.val64 x = .fin false c q ∧ 0 < c
theorem n64_iff {x : UInt64} : vf_n64 x ↔ nn x := by
  unfold vf_n64 nn
  rw [FP.Core.ne_nan, UInt64.le_iff_toNat_le, UInt64.toNat_and]
  have h : (0x7fffffffffffffff : UInt64).toNat = 2 ^ 63 - 1 := by decide
  rw [h, Nat.and_two_pow_sub_one_eq_mod]
  exact Iff.rfl
theorem nn_not {x : UInt64} (h : ¬ FP.Core.dIsNaN x = true) : nn x := (FP.Core.notNaN_iff x).mp (by cases h9 : FP.Core.dIsNaN x with
  | false => rfl
  | true => exact absurd h9 h)
theorem fin_nn {x : UInt64} (h : FP.Core.DFin x) : nn x := h.ne_nan
theorem mb_fin {K : Nat} {x : UInt64} (h : mb K x) (hK : K ≤ 2047) : FP.Core.DFin x := FP.Core.fin_of_lt h hK
theorem mb_le {K L : Nat} {x : UInt64} (h : mb K x) (hK : K ≤ L) : mb L x := Nat.lt_of_lt_of_le h (Nat.mul_le_mul_right _ hK)
theorem pf_fin {x : UInt64} (h : pf x) : FP.Core.DFin x := by obtain ⟨c, q, h, _⟩ := h; exact ⟨_, _, _, h⟩
theorem pf_nz {x : UInt64} (h : pf x) : ¬ FP.Core.DZero x := by
  obtain ⟨c, q, h, h0⟩ := h
  rintro ⟨s, r, h2⟩
  rw [h] at h2; cases h2; omega
theorem add_nnF {a b : UInt64} (ha : nn a) (hb : FP.Core.DFin b) : nn (FP.dadd a b) := nn_not (by
  rw [FP.Core.dadd_nan_iff]
  rintro (h | h | ⟨s, _, h⟩)
  · exact ha h
  · exact hb.ne_nan h
  · exact hb.ne_inf _ h)
theorem add_Fnn {a b : UInt64} (ha : FP.Core.DFin a) (hb : nn b) : nn (FP.dadd a b) := nn_not (by
  rw [FP.Core.dadd_nan_iff]
  rintro (h | h | ⟨s, h, _⟩)
  · exact ha.ne_nan h
  · exact hb h
  · exact ha.ne_inf _ h)
theorem sub_nnF {a b : UInt64} (ha : nn a) (hb : FP.Core.DFin b) : nn (FP.dsub a b) := nn_not (by
  rw [FP.Core.dsub_nan_iff]
  rintro (h | h | ⟨s, _, h⟩)
  · exact ha h
  · exact hb.ne_nan h
  · exact hb.ne_inf _ h)
theorem sub_Fnn {a b : UInt64} (ha : FP.Core.DFin a) (hb : nn b) : nn (FP.dsub a b) := nn_not (by
  rw [FP.Core.dsub_nan_iff]
  rintro (h | h | ⟨s, h, _⟩)
  · exact ha.ne_nan h
  · exact hb h
  · exact ha.ne_inf _ h)
theorem mul_nnP {a b : UInt64} (ha : nn a) (hb : pf b) : nn (FP.dmul a b) := nn_not (by
  rw [FP.Core.dmul_nan_iff]
  rintro (h | h | ⟨s, _, h⟩ | ⟨s, _, h⟩)
  · exact ha h
  · exact (pf_fin hb).ne_nan h
  · exact pf_nz hb h
  · exact (pf_fin hb).ne_inf _ h)
theorem mul_Pnn {a b : UInt64} (ha : pf a) (hb : nn b) : nn (FP.dmul a b) := nn_not (by
  rw [FP.Core.dmul_nan_iff]
  rintro (h | h | ⟨s, h, _⟩ | ⟨s, h, _⟩)
  · exact (pf_fin ha).ne_nan h
  · exact hb h
  · exact (pf_fin ha).ne_inf _ h
  · exact pf_nz ha h)
theorem div_nnP {a b : UInt64} (ha : nn a) (hb : pf b) : nn (FP.ddiv a b) := nn_not (by
  rw [FP.Core.ddiv_nan_iff]
  rintro (h | h | ⟨s, t, _, h⟩ | ⟨_, h⟩)
  · exact ha h
  · exact (pf_fin hb).ne_nan h
  · exact (pf_fin hb).ne_inf _ h
  · exact pf_nz hb h)
/-- the order -/
theorem dL_iff {x y : UInt64} (hx : nn x) (hy : nn y) : dL x y ↔ zv x < zv y := by
  unfold dL
  exact ⟨fun h => (FP.Core.dcmp_lt.mp h).2.2, fun h => FP.Core.dcmp_lt.mpr ⟨hx, hy, h⟩⟩
theorem dG_iff {x y : UInt64} (hx : nn x) (hy : nn y) : dG x y ↔ zv y < zv x := by
  unfold dG
  exact ⟨fun h => (FP.Core.dcmp_gt.mp h).2.2, fun h => FP.Core.dcmp_gt.mpr ⟨hx, hy, h⟩⟩
theorem dE_iff {x y : UInt64} (hx : nn x) (hy : nn y) : dE x y ↔ zv x = zv y := by
  unfold dE
  exact ⟨fun h => (FP.Core.dcmp_eq.mp h).2.2, fun h => FP.Core.dcmp_eq.mpr ⟨hx, hy, h⟩⟩
theorem nge {x y : UInt64} (hx : nn x) (hy : nn y) : ¬ (dG x y ∨ dE x y) ↔ dL x y := by
  rw [dL_iff hx hy, dG_iff hx hy, dE_iff hx hy]; omega
theorem nle {x y : UInt64} (hx : nn x) (hy : nn y) : ¬ (dL x y ∨ dE x y) ↔ dG x y := by
  rw [dL_iff hx hy, dG_iff hx hy, dE_iff hx hy]; omega
theorem ngt {x y : UInt64} (hx : nn x) (hy : nn y) : ¬ dG x y ↔ (dL x y ∨ dE x y) := by
  rw [dL_iff hx hy, dG_iff hx hy, dE_iff hx hy]; omega
theorem nlt {x y : UInt64} (hx : nn x) (hy : nn y) : ¬ dL x y ↔ (dG x y ∨ dE x y) := by
  rw [dL_iff hx hy, dG_iff hx hy, dE_iff hx hy]; omega
theorem dL_nn {x y : UInt64} (h : dL x y) : nn x ∧ nn y := FP.Core.dcmp_some h
theorem dG_nn {x y : UInt64} (h : dG x y) : nn x ∧ nn y := FP.Core.dcmp_some h
theorem dE_nn {x y : UInt64} (h : dE x y) : nn x ∧ nn y := FP.Core.dcmp_some h
/-- the signs -/
theorem zv_inf (s : Bool) : FP.Core.zval FP.Core.b64 (.inf s) = FP.Core.signed s (2 ^ 52 * 2 ^ 2046) := by cases s <;> decide +kernel
theorem zv_lt (x : UInt64) : zv x ≤ 2 ^ 52 * 2 ^ 2046 := by
  have h := FP.Core.zmag_le_top FP.Core.good_b64 (FP.Core.val64_fits x)
  have h2 : (FP.Core.b64.tails * 2 ^ (FP.Core.b64.exps - 2) : Nat) = 2 ^ 52 * 2 ^ 2046 := by decide +kernel
  rw [h2] at h
  unfold zv FP.Core.zval FP.Core.signed
  generalize FP.Core.zmag FP.Core.b64 (FP.Core.val64 x) = m at h
  generalize hk : (2 ^ 52 * 2 ^ 2046 : Nat) = k at h
  have hk2 : ((2 ^ 52 * 2 ^ 2046 : Int)) = (k : Int) := by rw [← hk]; decide +kernel
  rw [hk2]
  split <;> omega
theorem zval_rr (s : Bool) (A B : Nat) (e : Int) : FP.Core.zval FP.Core.b64 (FP.Core.roundRatio FP.Core.b64 s A B e) = FP.Core.signed s (FP.Core.zmag FP.Core.b64 (FP.Core.roundRatio FP.Core.b64 s A B e)) := by
  unfold FP.Core.zval
  rw [FP.Core.sgn_roundRatio]
theorem sg0 (m : Nat) : 0 ≤ FP.Core.signed false m := by unfold FP.Core.signed; simp
theorem zval_rr0 (s : Bool) (B : Nat) (e : Int) : FP.Core.zval FP.Core.b64 (FP.Core.roundRatio FP.Core.b64 s 0 B e) = 0 := by
  unfold FP.Core.roundRatio
  rw [if_pos rfl]
  unfold FP.Core.zval FP.Core.zmag FP.Core.inUnits
  simp [FP.Core.signed]
theorem pp_cases {x : UInt64} (h : pp x) : FP.Core.val64 x = .inf false ∨ ∃ s c q, FP.Core.val64 x = .fin s c q ∧ (s = false ∨ c = 0) := by
  obtain ⟨h1, h2⟩ := h
  unfold nn at h1
  unfold zv at h2
  cases h3 : FP.Core.val64 x with
  | nan => exact absurd h3 h1
  | inf s =>
    cases s with
    | false => exact .inl rfl
    | true =>
      rw [h3, zv_inf] at h2
      exact absurd h2 (by decide +kernel)
  | fin s c q =>
    refine .inr ⟨s, c, q, rfl, ?_⟩
    rw [h3] at h2
    cases s with
    | false => exact .inl rfl
    | true =>
      refine .inr ?_
      unfold FP.Core.zval FP.Core.sgn FP.Core.zmag FP.Core.inUnits FP.Core.signed at h2
      simp only [if_true] at h2
      have h4 : c * 2 ^ (q - FP.Core.b64.qmin).toNat = 0 := by omega
      rcases Nat.mul_eq_zero.mp h4 with h | h
      · exact h
      · have := Nat.two_pow_pos (q - FP.Core.b64.qmin).toNat; omega
theorem pp_of {x : UInt64} (h : FP.Core.val64 x = .inf false ∨ ∃ s c q, FP.Core.val64 x = .fin s c q ∧ (s = false ∨ c = 0)) : pp x := by
  unfold pp nn zv
  rcases h with h | ⟨s, c, q, h, h2⟩
  · rw [h]
    exact ⟨by decide, by rw [zv_inf]; exact sg0 _⟩
  · rw [h]
    refine ⟨by simp, ?_⟩
    unfold FP.Core.zval FP.Core.sgn FP.Core.zmag FP.Core.inUnits
    rcases h2 with rfl | rfl
    · exact sg0 _
    · show 0 ≤ FP.Core.signed s (0 * 2 ^ (q - FP.Core.b64.qmin).toNat)
      rw [Nat.zero_mul, FP.Core.signed_zero]; exact Int.le_refl 0
theorem mul_ppP {a b : UInt64} (ha : pf a) (hb : pp b) : pp (FP.dmul a b) := by
  have hn := mul_Pnn ha hb.1
  refine ⟨hn, ?_⟩
  obtain ⟨c, q, ha, h0⟩ := ha
  unfold zv
  rw [FP.Core.val64_dmul, ha]
  rcases pp_cases hb with h | ⟨s, d, r, h, h2⟩
  · rw [h]
    show 0 ≤ FP.Core.zval FP.Core.b64 (FP.Core.round FP.Core.b64 (if c = 0 then .nan else .inf (false != false)))
    rw [if_neg (by omega)]
    show 0 ≤ FP.Core.zval FP.Core.b64 (.inf false)
    rw [zv_inf]; exact sg0 _
  · rw [h]
    show 0 ≤ FP.Core.zval FP.Core.b64 (FP.Core.roundRatio FP.Core.b64 (false != s) (c * d) 1 (q + r))
    rcases h2 with rfl | rfl
    · rw [zval_rr]; exact sg0 _
    · rw [Nat.mul_zero, zval_rr0]; exact Int.le_refl 0
theorem mul_Ppp {a b : UInt64} (ha : pp a) (hb : pf b) : pp (FP.dmul a b) := by
  rw [show FP.dmul a b = FP.dmul b a from FP.Core.dmul_comm a b]; exact mul_ppP hb ha
theorem div_ppP {a b : UInt64} (ha : pp a) (hb : pf b) : pp (FP.ddiv a b) := by
  refine ⟨div_nnP ha.1 hb, ?_⟩
  obtain ⟨d, r, hb, h0⟩ := hb
  unfold zv
  rw [FP.Core.val64_ddiv, hb]
  rcases pp_cases ha with h | ⟨s, c, q, h, h2⟩
  · rw [h]
    show 0 ≤ FP.Core.zval FP.Core.b64 (.inf (false != false))
    rw [show (false != false) = false from rfl, zv_inf]; exact sg0 _
  · rw [h]
    show 0 ≤ FP.Core.zval FP.Core.b64 (if d = 0 then (if c = 0 then .nan else .inf (s != false)) else FP.Core.roundRatio FP.Core.b64 (s != false) c d (q - r))
    rw [if_neg (by omega)]
    rcases h2 with rfl | rfl
    · rw [zval_rr]; exact sg0 _
    · rw [zval_rr0]; exact Int.le_refl 0
/-- a sum with what is zero or more is no less -/
theorem add_ge {a b : UInt64} (ha : nn a) (hm : FP.Core.val64 a ≠ .inf true) (hb : pp b) : nn (FP.dadd a b) ∧ zv a ≤ zv (FP.dadd a b) := by
  have hn : nn (FP.dadd a b) := nn_not (by
    rw [FP.Core.dadd_nan_iff]
    rintro (h | h | ⟨s, h, h2⟩)
    · exact ha h
    · exact hb.1 h
    · rcases pp_cases hb with h3 | ⟨_, _, _, h3, _⟩
      · rw [h3] at h2; cases s
        · simp at h2
        · exact hm h
      · rw [h3] at h2; simp at h2)
  refine ⟨hn, ?_⟩
  cases h3 : FP.Core.val64 a with
  | nan => exact absurd h3 ha
  | inf s =>
    cases s with
    | true => exact absurd h3 hm
    | false =>
      have : FP.Core.val64 (FP.dadd a b) = .inf false := by
        rw [FP.Core.val64_dadd, h3]
        rcases pp_cases hb with h | ⟨_, _, _, h, _⟩ <;> rw [h] <;> rfl
      unfold zv; rw [this, h3]; exact Int.le_refl _
  | fin s c q =>
    rcases pp_cases hb with h | ⟨t, d, r, h, h2⟩
    · have : FP.Core.val64 (FP.dadd a b) = .inf false := by
        rw [FP.Core.val64_dadd, h3, h]; rfl
      have e : zv (FP.dadd a b) = 2 ^ 52 * 2 ^ 2046 := by unfold zv; rw [this, zv_inf]; decide +kernel
      rw [e]; exact zv_lt a
    · unfold zv
      rw [FP.Core.val64_dadd]
      refine FP.Core.sum_ge FP.Core.good_b64 ⟨s, c, q, h3⟩ ⟨t, d, r, h⟩ (FP.Core.val64_fits a) (FP.Core.val64_fits b) (FP.Core.val64_fits a) ha ?_
      have := hb.2
      unfold zv at this
      omega
theorem add_pp {a b : UInt64} (ha : pp a) (hb : pp b) : pp (FP.dadd a b) := by
  have h := add_ge ha.1 (by rcases pp_cases ha with h | ⟨_, _, _, h, _⟩ <;> rw [h] <;> simp) hb
  exact ⟨h.1, Int.le_trans ha.2 h.2⟩
/-- one metre, in units -/
abbrev uM : Int := ((2 ^ 1074 : Nat) : Int)
/-- at least 250 k below zero -/
def lbd (k : Nat) (x : UInt64) : Prop := nn x ∧ -(250 * (k : Int) * uM) ≤ zv x
theorem zv_i2d (a : Int32) : zv (FP.i2d a) = a.toInt * uM := by
  unfold zv
  have h := FP.Core.whole_zval FP.Core.good_b64 (FP.Core.val64_fits (FP.i2d a)) (FP.Core.i2d_int a)
  rw [h]
  have : (-FP.Core.b64.qmin).toNat = 1074 := by decide +kernel
  rw [this]
theorem lbd_ninf {k : Nat} {x : UInt64} (h : lbd k x) (hk : k ≤ 100) : FP.Core.val64 x ≠ .inf true := by
  intro h2
  have h3 := h.2
  unfold zv at h3
  rw [h2, zv_inf] at h3
  have h4 : FP.Core.signed true (2 ^ 52 * 2 ^ 2046) < -(250 * 100 * uM) := by decide +kernel
  have h5 : 250 * (k : Int) * uM ≤ 250 * 100 * uM := Int.mul_le_mul_of_nonneg_right (by omega) (by decide +kernel)
  omega
theorem lbd_add {k : Nat} {a b : UInt64} (ha : lbd k a) (hk : k ≤ 100) (hb : pp b) : lbd k (FP.dadd a b) := by
  have h := add_ge ha.1 (lbd_ninf ha hk) hb
  exact ⟨h.1, Int.le_trans ha.2 h.2⟩
theorem lbd_mono {k j : Nat} {a : UInt64} (ha : lbd k a) (h : k ≤ j) : lbd j a := by
  refine ⟨ha.1, Int.le_trans ?_ ha.2⟩
  have h5 : 250 * (k : Int) * uM ≤ 250 * (j : Int) * uM := Int.mul_le_mul_of_nonneg_right (by omega) (by decide +kernel)
  omega
/-- a length: up to 250 metres -/
def lnt (x : UInt64) : Prop := FP.Core.DFin x ∧ zv x ≤ 250 * uM
theorem lbd_sub {k : Nat} {a b : UInt64} (ha : lbd k a) (hk : k ≤ 99) (hb : lnt b) : lbd (k + 1) (FP.dsub a b) := by
  have hn : nn (FP.dsub a b) := sub_nnF ha.1 hb.1
  refine ⟨hn, ?_⟩
  have hni := lbd_ninf ha (by omega)
  obtain ⟨t, d, r, h⟩ := hb.1
  cases h3 : FP.Core.val64 a with
  | nan => exact absurd h3 ha.1
  | inf s =>
    cases s with
    | true => exact absurd h3 hni
    | false =>
      have : FP.Core.val64 (FP.dsub a b) = .inf false := by
        rw [FP.Core.val64_dsub, h3, h]; rfl
      unfold zv; rw [this, zv_inf]
      have h6 := sg0 (2 ^ 52 * 2 ^ 2046)
      have h5 : 0 ≤ 250 * ((k + 1 : Nat) : Int) * uM := Int.mul_nonneg (by omega) (by decide +kernel)
      omega
  | fin s c q =>
    have hk31 : (250 * (k + 1)) < 2 ^ 31 := by omega
    have e1 : zv (FP.i2d (-(nI (250 * (k + 1))))) = -(250 * ((k + 1 : Nat) : Int) * uM) := by
      rw [zv_i2d]
      have : (-(nI (250 * (k + 1)))).toInt = -(250 * ((k + 1 : Nat) : Int)) := by
        rw [Int32.toInt_neg, nI_toInt hk31, Int.bmod_eq_of_le (by omega) (by omega)]; omega
      rw [this, Int.neg_mul]
    rw [← e1]
    unfold zv
    rw [FP.Core.val64_dsub]
    refine FP.Core.sum_ge FP.Core.good_b64 ⟨s, c, q, h3⟩ ⟨!t, d, r, by rw [h]; rfl⟩ (FP.Core.val64_fits a) (FP.Core.negate_fits (FP.Core.val64_fits b)) (FP.Core.val64_fits _) (FP.Core.i2d_fin _).ne_nan ?_
    rw [FP.Core.zval_negate]
    show zv (FP.i2d (-(nI (250 * (k + 1))))) ≤ zv a + -zv b
    rw [e1]
    have := ha.2
    have := hb.2
    have e2 : 250 * ((k + 1 : Nat) : Int) * uM = 250 * (k : Int) * uM + 250 * uM := by
      rw [← Int.add_mul]; congr 1
    omega
/-- the constants -/
def pfB (x : UInt64) : Bool := match FP.Core.val64 x with
  | .fin false c _ => decide (0 < c)
  | _ => false
theorem pf_ofB {x : UInt64} (h : pfB x = true) : pf x := by
  unfold pfB at h
  unfold pf
  split at h
  · rename_i c q h2
    exact ⟨c, q, h2, of_decide_eq_true h⟩
  · exact absurd h (by simp)
theorem len_ok {w : Nat} (h1 : w < 21) : lnt (FP.dmul 4623226492472524800 (FP.i2d (nI w))) := by
  have h : ∀ w : Nat, w < 21 → (FP.Core.dmul 4623226492472524800 (FP.Core.i2d (nI w))).toNat % 2 ^ 63 < 1040 * 2 ^ 52 ∧ FP.Core.zval FP.Core.b64 (FP.Core.val64 (FP.Core.dmul 4623226492472524800 (FP.Core.i2d (nI w)))) ≤ 250 * uM := by decide +kernel
  exact ⟨mb_fin (K := 1040) (h w h1).1 (by omega), (h w h1).2⟩
theorem pf_of {x : UInt64} (h : FP.Core.DFin x) (h0 : 0 < zv x) : pf x := by
  obtain ⟨s, c, q, h⟩ := h
  unfold zv FP.Core.zval FP.Core.sgn FP.Core.zmag FP.Core.inUnits at h0
  rw [h] at h0
  obtain ⟨h1, h2⟩ := FP.Core.signed_pos (s := s) h0
  have hs : s = false := by
    cases s with
    | false => rfl
    | true => rw [show FP.Core.signed true (c * 2 ^ (q - FP.Core.b64.qmin).toNat) = -((c * 2 ^ (q - FP.Core.b64.qmin).toNat : Nat) : Int) from rfl] at h1; omega
  subst hs
  exact ⟨c, q, h, Nat.pos_of_ne_zero (fun h3 => by
    subst h3
    have h4 : 0 < 0 * 2 ^ (q - FP.Core.b64.qmin).toNat := h2
    rw [Nat.zero_mul] at h4; omega)⟩
theorem mass_ok {k : Nat} (h1 : k < 2 ^ 31) (h0 : 0 < k) : pf (FP.i2d (nI k)) := pf_of (FP.Core.i2d_fin _) (by
  rw [zv_i2d, nI_toInt h1]
  exact Int.mul_pos (by omega) (by decide +kernel))
theorem i2d_l (k : Nat) (h : k < 2 ^ 31) : FP.i2d (nI k) = FP.Core.l2d (lN k) := by
  rw [show FP.i2d (nI k) = FP.Core.i2d (nI k) from rfl, FP.Core.i2d_l2d, nI_l h]
theorem mass_add {j k : Nat} (hj : j < 1801) (hk : k < 1801) : FP.dadd (FP.i2d (nI j)) (FP.i2d (nI k)) = FP.i2d (nI (j + k)) := by
  rw [i2d_l j (by omega), i2d_l k (by omega), i2d_l (j + k) (by omega)]
  have e : lN (j + k) = lN j + lN k := Int64.ofNat_add j k
  rw [e]
  refine FP.Core.dadd_l2d ?_ ?_ <;> (unfold FP.Core.Small53; rw [lN_toInt (by omega)]; omega)
/-- 0 to a bound -/
theorem within_ok {x m : UInt64} (hm : m.toNat < 1050 * 2 ^ 52) (h1 : dG x FP.dconst0 ∨ dE x FP.dconst0) (h2 : dL x m ∨ dE x m) : x.toNat % 2 ^ 63 ≤ m.toNat ∧ pp x := by
  have nx : nn x := by rcases h1 with h | h; exact (dG_nn h).1; exact (dE_nn h).1
  have n0 : nn FP.dconst0 := by unfold nn; decide +kernel
  have nm : nn m := by rcases h2 with h | h; exact (dL_nn h).2; exact (dE_nn h).2
  have z0 : zv FP.dconst0 = 0 := by decide +kernel
  refine ⟨?_, nx, ?_⟩
  · have k1 : FP.Core.dkey FP.dconst0 ≤ FP.Core.dkey x := by
      rcases h1 with h | h
      · have := (FP.Core.dcmp_gt_key nx n0).mp h; omega
      · have := (FP.Core.dcmp_eq_key nx n0).mp h; omega
    have k2 : FP.Core.dkey x ≤ FP.Core.dkey m := by
      rcases h2 with h | h
      · have := (FP.Core.dcmp_lt_key nx nm).mp h; omega
      · have := (FP.Core.dcmp_eq_key nx nm).mp h; omega
    have k0 : FP.Core.dkey FP.dconst0 = 0 := by decide +kernel
    rw [k0] at k1
    have := x.toNat_lt
    unfold FP.Core.dkey at k1 k2
    rw [if_neg (show ¬ 2 ^ 63 ≤ m.toNat by omega)] at k2
    split at k1 <;> rename_i h <;> simp only [h, if_true, if_false] at k2 <;> omega
  · rcases h1 with h | h
    · have := (dG_iff nx n0).mp h; omega
    · have := (dE_iff nx n0).mp h; omega
end FLOATS
