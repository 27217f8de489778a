section PUSH
variable {u n : Nat} {S : HS} {T : MS} {b : Nat}
/-- the crest is clear of the cuts from k on -/
def clP (n : Nat) (T : MS) (k : Nat) : Prop := ∀ c, k ≤ c → c < n → M_state T c = 1 → ¬ dL (rrM T c) 4612811918334230528
theorem n25 : nn 4612811918334230528 := fin_nn (mb_fin (K := 1040) (by unfold mb; decide) (by omega))
theorem wc_clear (hC : JC n S T) (hD : JD n S T) (hR : JR u n (M_state T) S) {post : Int32 → Prop} (h1 : clP n T 0 → post 1) (h0 : ¬ clP n T 0 → post 0) : wp_X2_isCrestClear S post := by
  have hn := jc_n hC
  have go : ∀ j k, k + j = n → (clP n T k → post 1) → (¬ clP n T k → post 0) → wl_X2_isCrestClear_2 S post (cn (M_state T) 1 n - cn (M_state T) 1 k + 1) (nI (cn (M_state T) 1 k)) := by
    intro j
    induction j with
    | zero =>
      intro k hk h1 h0
      have : k = n := by omega
      subst this
      exact ⟨fun _ => h1 (fun c g1 g2 => by omega), fun h9 => absurd (jr_end hR hn) h9⟩
    | succ j ih =>
      intro k hk h1 h0
      have hkn : k < n := by omega
      by_cases hs : M_state T k = 1
      · have a1 := cn_lt hkn hs
        have a2 := cn_s1 hs
        have a3 := cn_mono (M_state T) 1 (show k + 1 ≤ n from hkn)
        obtain ⟨g1, g2⟩ := jr_get hn hR hkn hs
        rw [show cn (M_state T) 1 n - cn (M_state T) 1 k + 1 = (cn (M_state T) 1 n - cn (M_state T) 1 (k + 1) + 1) + 1 by omega]
        refine ⟨fun h9 => absurd h9 g2, fun _ => ⟨aT (H_L S) k, g1, jc_mem hC hkn, wc_rear hC hD hkn ⟨fun g3 => ?_, fun g3 => h0 (fun h9 => h9 k (Nat.le_refl k) hkn hs g3)⟩⟩⟩
        rw [nI_1, ← a2]
        refine ih (k + 1) (by omega) (fun hc => h1 (fun c q1 q2 q3 => ?_)) (fun hc => h0 (fun h9 => hc (fun c q1 q2 q3 => h9 c (by omega) q2 q3)))
        by_cases e : c = k
        · subst e; exact g3
        · exact hc c (by omega) q2 q3
      · rw [← cn_s0 hs]
        refine ih (k + 1) (by omega) (fun hc => h1 (fun c q1 q2 q3 => ?_)) (fun hc => h0 (fun h9 => hc (fun c q1 q2 q3 => h9 c (by omega) q2 q3)))
        by_cases e : c = k
        · subst e; exact absurd q3 hs
        · exact hc c (by omega) q2 q3
  exact ⟨_, go n 0 (by omega) h1 h0⟩
/-- the first cut from k on that waits -/
def fsI (n s k : Nat) : Int32 := if max s k < n then nI (max s k) else -1
def goT (T : MS) (s : Nat) : MS := Ms_speed (Ms_place (Ms_state T (upd (M_state T) s 1)) (vf_upd (M_place T) s FP.dconst0)) (vf_upd (M_speed T) s (M_push T))
theorem wm_push_loop (hC : JC n S T) (hD : JD n S T) {s : Nat} (hs : s ≤ n) (hw : ∀ c, c < n → (M_state T c = 0 ↔ s ≤ c)) {P : Prop} {q : MS → Prop} (h1 : P → clP n T 0 → s < n → q (goT T s)) (h0 : (¬ P ∨ ¬ clP n T 0 ∨ ¬ s < n) → q T) : ∀ k, k ≤ n → ∀ x2 : Int32, ((x2 = 0 ∧ ¬ (P ∧ clP n T k)) ∨ (x2 = 1 ∧ P ∧ clP n T k)) → ∃ m, wl_X3_pushes_24 q m (fsI n s k) x2 (nI k - 1) T := by
  have hn := jc_n hC
  intro k
  induction k with
  | zero =>
    intro hk x2 hx
    have e : nI 0 - 1 < 0 := by decide
    refine ⟨1, fun _ => ⟨fun hz => ?_, fun hz => ⟨fun hf => ?_, fun hf => ?_⟩⟩, fun h9 => absurd e h9⟩
    · rcases hx with ⟨_, hx⟩ | ⟨hx, _⟩
      · refine h0 ?_
        by_cases hP : P
        · exact .inr (.inl (fun h9 => hx ⟨hP, h9⟩))
        · exact .inl hP
      · rw [hx] at hz; exact absurd hz (by decide)
    · refine h0 (.inr (.inr (fun h9 => ?_)))
      unfold fsI at hf
      rw [if_pos (by omega)] at hf
      exact eI_some (d := max s 0) (by omega) hf
    · have hsn : s < n := by
        unfold fsI at hf
        by_cases h9 : max s 0 < n
        · omega
        · rw [if_neg h9] at hf; exact absurd rfl hf
      have ef : fsI n s 0 = nI s := by unfold fsI; rw [if_pos (by omega), show max s 0 = s by omega]
      rw [ef, nI_clamp (show s < 2 ^ 31 by omega)]
      refine ⟨vp_in_nI (by omega) (by omega), fun S5 e5 x6 e6 S7 e7 x8 e8 S9 e9 => ?_⟩
      have e9 : S9 = goT T s := by
        have a1 : M_place S5 = M_place T := by rw [e5]; simp only [ac_Ms_state]
        have a2 : M_speed S7 = M_speed T := by rw [e7, e5]; simp only [ac_Ms_place, ac_Ms_state]
        have a3 : M_push S7 = M_push T := by rw [e7, e5]; simp only [ac_Ms_place, ac_Ms_state]
        rw [a3] at e8
        rw [a2, e8] at e9
        rw [a1, e6] at e7
        subst e9 e7 e5
        rfl
      rw [e9]
      rcases hx with ⟨hx, _⟩ | ⟨_, hP, hcl⟩
      · exact absurd hx hz
      · exact h1 hP hcl hsn
  | succ k ih =>
    intro hk x2 hx
    have hkn : k < n := by omega
    have hst := hw k hkn
    rw [show nI (k + 1) - 1 = nI k from nI_pred k]
    have eidx : nI k + (-1) = nI k - 1 := (Int32.sub_eq_add_neg _ _).symm
    have f1 : s ≤ k → fsI n s k = nI k := fun h => by unfold fsI; rw [show max s k = k by omega, if_pos hkn]
    have f0 : ¬ s ≤ k → fsI n s k = fsI n s (k + 1) := fun h => by unfold fsI; rw [show max s k = s by omega, show max s (k + 1) = s by omega]
    have nrr := rr_nn hC hD hkn
    have hcl : (M_state T k = 1 → ¬ dL (rrM T k) 4612811918334230528) → clP n T (k + 1) → clP n T k := fun g1 g2 c q1 q2 q3 => by
      by_cases e : c = k
      · subst e; exact g1 q3
      · exact g2 c (by omega) q2 q3
    have hcl2 : clP n T k → clP n T (k + 1) := fun g c q1 q2 q3 => g c (by omega) q2 q3
    -- with 0, and with 1
    have z0 : ¬ (P ∧ clP n T k) → ∃ m, wl_X3_pushes_24 q m (fsI n s k) 0 (nI k - 1) T := fun h => ih (by omega) 0 (.inl ⟨rfl, h⟩)
    have z1 : P ∧ clP n T k → ∃ m, wl_X3_pushes_24 q m (fsI n s k) 1 (nI k - 1) T := fun h => ih (by omega) 1 (.inr ⟨rfl, h⟩)
    obtain ⟨m, hm0, hm1⟩ : ∃ m, (¬ (P ∧ clP n T k) → wl_X3_pushes_24 q m (fsI n s k) 0 (nI k - 1) T) ∧ (P ∧ clP n T k → wl_X3_pushes_24 q m (fsI n s k) 1 (nI k - 1) T) := by
      by_cases h : P ∧ clP n T k
      · obtain ⟨m, hm⟩ := z1 h
        exact ⟨m, fun h9 => absurd h h9, fun _ => hm⟩
      · obtain ⟨m, hm⟩ := z0 h
        exact ⟨m, fun _ => hm, fun h9 => absurd h9 h⟩
    have x0 : x2 = 0 → ¬ (P ∧ clP n T k) := fun h => by
      rcases hx with ⟨_, hx⟩ | ⟨hx, _⟩
      · exact fun h9 => hx ⟨h9.1, hcl2 h9.2⟩
      · rw [hx] at h; exact absurd h (by decide)
    have x1 : ¬ x2 = 0 → P ∧ clP n T (k + 1) := fun h => by
      rcases hx with ⟨hx, _⟩ | ⟨_, hx⟩
      · exact absurd hx h
      · exact hx
    refine ⟨m + 1, fun h9 => absurd h9 (nI_pos (by omega)), fun _ => ⟨vp_in_nI (by omega) (by omega), ?_⟩⟩
    rw [nI_clamp (show k < 2 ^ 31 by omega), eidx]
    refine ⟨fun g => ?_, fun g => ?_⟩
    · rw [f0 (fun h9 => g (hst.mpr h9))] at hm0 hm1
      refine ⟨fun g2 => hm0 (x0 g2), fun g2 => ⟨fun g3 => hm1 ⟨(x1 g2).1, hcl (fun h9 => absurd h9 g3) (x1 g2).2⟩, fun g3 => wm_rear hC hD hkn ⟨fun g4 => hm0 (fun h9 => ?_), fun g4 => hm1 ⟨(x1 g2).1, hcl (fun _ => ?_) (x1 g2).2⟩⟩⟩⟩
      · exact h9.2 k (Nat.le_refl k) hkn g3 ((nge nrr n25).mp g4)
      · exact (nlt nrr n25).mpr g4
    · rw [f1 (hst.mp g)] at hm0 hm1
      have g3' : ¬ M_state T k = 1 := by rw [g]; decide
      refine ⟨fun g2 => hm0 (x0 g2), fun g2 => ⟨fun g3 => hm1 ⟨(x1 g2).1, hcl (fun h9 => absurd h9 g3) (x1 g2).2⟩, fun g3 => absurd g3 g3'⟩⟩
theorem wm_pushes (hC : JC n S T) (hD : JD n S T) {s : Nat} (hs : s ≤ n) (hw : ∀ c, c < n → (M_state T c = 0 ↔ s ≤ c)) {q : MS → Prop} (h1 : dG (M_push T) FP.dconst0 → clP n T 0 → s < n → q (goT T s)) (h0 : (¬ dG (M_push T) FP.dconst0 ∨ ¬ clP n T 0 ∨ ¬ s < n) → q T) : wp_X3_pushes T q := by
  have ef : fsI n s n = -1 := by unfold fsI; rw [if_neg (by omega)]
  unfold wp_X3_pushes
  rw [hC.2.1]
  refine ⟨fun g x21 e21 => ?_, fun g x21 e21 => ?_⟩
  · have := wm_push_loop hC hD hs hw h1 h0 n (Nat.le_refl n) 0 (.inl ⟨rfl, fun h9 => g h9.1⟩)
    rw [ef] at this
    rw [e21]; exact this
  · have := wm_push_loop hC hD hs hw h1 h0 n (Nat.le_refl n) 1 (.inr ⟨rfl, g, fun c q1 q2 => by omega⟩)
    rw [ef] at this
    rw [e21]; exact this
/-- what a list of so many places has cost -/
def usC (u : Nat) : Nat := if u = 0 then 0 else if u = 10 then 1 else if u = 15 then 2 else if u = 22 then 3 else if u = 33 then 4 else if u = 49 then 5 else 6
def usS (u : Nat) : Nat := if u = 0 then 0 else if u = 10 then 10 else if u = 15 then 25 else if u = 22 then 47 else if u = 33 then 80 else if u = 49 then 129 else 202
theorem us_le (u : Nat) : usC u ≤ 6 ∧ usS u ≤ 202 := by
  unfold usC usS
  repeat' split
  all_goals omega
theorem us_grow : ∀ N ∈ caps, N < 60 → N + N / 2 ∈ caps ∧ usC N + 1 ≤ usC (N + N / 2) ∧ usS N + (N + N / 2) ≤ usS (N + N / 2) := by decide
/-- the next cut at the crest, in the class -/
def goS (S : HS) (s : Nat) : HS := Hs_sp (Hs_pl (Hs_st (Hs_started S (nI (s + 1))) (upd (H_st S) (aT (H_L S) s) 1)) (vf_upd (H_pl S) (aT (H_L S) s) FP.dconst0)) (vf_upd (H_sp S) (aT (H_L S) s) (H_push S))
theorem cn_const {st : Nat → Int32} {s : Nat} : ∀ k, s ≤ k → (∀ c, s ≤ c → c < k → ¬ st c = 1) → cn st 1 k = cn st 1 s := by
  intro k
  induction k with
  | zero =>
    intro h _
    have : s = 0 := by omega
    subst this; rfl
  | succ k ih =>
    intro h hz
    by_cases e : s = k + 1
    · subst e; rfl
    · rw [cn_s0 (hz k (by omega) (by omega))]
      exact ih (by omega) (fun c q1 q2 => hz c q1 (by omega))
theorem dc0_lt : ∀ pa, pa < 3 → FP.dcmp FP.dconst0 (cpl pa) = some .lt := by decide +kernel
theorem dc0_pp : pp FP.dconst0 := ⟨by unfold nn; decide +kernel, by decide +kernel⟩
theorem dc0_lb (c : Nat) : lbd c FP.dconst0 := by
  refine ⟨dc0_pp.1, ?_⟩
  have h1 := dc0_pp.2
  have h2 : 0 ≤ 250 * (c : Int) * uM := Int.mul_nonneg (by omega) (by decide +kernel)
  omega
theorem sw_t1 (S : HS) (v : Int32) (f : Nat → Int32) : Hs_st (Hs_started S v) f = Hs_started (Hs_st S f) v ∧ True := ⟨rfl, trivial⟩
theorem sw_t2 (S : HS) (v : Int32) (f : Nat → UInt64) : Hs_pl (Hs_started S v) f = Hs_started (Hs_pl S f) v ∧ True := ⟨rfl, trivial⟩
theorem sw_t3 (S : HS) (v : Int32) (f : Nat → UInt64) : Hs_sp (Hs_started S v) f = Hs_started (Hs_sp S f) v ∧ True := ⟨rfl, trivial⟩
end PUSH
