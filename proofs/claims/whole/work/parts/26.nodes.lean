section NODES
/-- counting -/
theorem cn_le (st : Nat → Int32) (v : Int32) : ∀ k, cn st v k ≤ k
  | 0 => Nat.le_refl 0
  | k + 1 => by
    have := cn_le st v k
    unfold cn
    split <;> omega
theorem cn_mono (st : Nat → Int32) (v : Int32) {k n : Nat} (h : k ≤ n) : cn st v k ≤ cn st v n := by
  induction n with
  | zero =>
    have : k = 0 := by omega
    subst this; exact Nat.le_refl _
  | succ n ih =>
    by_cases e : k = n + 1
    · subst e; exact Nat.le_refl _
    · have := ih (by omega)
      show _ ≤ cn st v n + _
      omega
theorem cn_lt {st : Nat → Int32} {v : Int32} {c n : Nat} (h : c < n) (hv : st c = v) : cn st v c < cn st v n := by
  have h1 := cn_mono st v (show c + 1 ≤ n from h)
  have h2 : cn st v (c + 1) = cn st v c + 1 := by show cn st v c + _ = _; rw [if_pos hv]
  omega
theorem cn_s1 {st : Nat → Int32} {v : Int32} {c : Nat} (hv : st c = v) : cn st v (c + 1) = cn st v c + 1 := by show cn st v c + _ = _; rw [if_pos hv]
theorem cn_s0 {st : Nat → Int32} {v : Int32} {c : Nat} (hv : ¬ st c = v) : cn st v (c + 1) = cn st v c := by show cn st v c + _ = _; rw [if_neg hv]; rfl
theorem cn_congr {f g : Nat → Int32} (v : Int32) : ∀ k, (∀ i, i < k → f i = g i) → cn f v k = cn g v k
  | 0, _ => rfl
  | k + 1, h => by
    have h1 := cn_congr v k (fun i hi => h i (by omega))
    show cn f v k + _ = cn g v k + _
    rw [h1, h k (by omega)]
theorem cn_upd {st : Nat → Int32} {v x : Int32} {c : Nat} : ∀ n, c < n → cn (upd st c x) v n + (if st c = v then 1 else 0) = cn st v n + (if x = v then 1 else 0)
  | 0, h => absurd h (by omega)
  | n + 1, h => by
    show cn (upd st c x) v n + _ + _ = cn st v n + _ + _
    by_cases e : c = n
    · subst e
      have h1 : cn (upd st c x) v c = cn st v c := cn_congr v c (fun i hi => by unfold upd; rw [if_neg (by omega)])
      have h2 : upd st c x c = x := by unfold upd; rw [if_pos rfl]
      rw [h1, h2]; omega
    · have h1 := cn_upd (st := st) (v := v) (x := x) (c := c) n (by omega)
      have h2 : upd st c x n = st n := by unfold upd; rw [if_neg (by omega)]
      rw [h2]; omega
theorem cn_upd_ge {st : Nat → Int32} {v x : Int32} {c n : Nat} (h : n ≤ c) : cn (upd st c x) v n = cn st v n := cn_congr v n (fun i hi => by unfold upd; rw [if_neg (by omega)])
theorem cn_sum (st : Nat → Int32) : ∀ n, cn st 1 n + cn st 2 n + cn st 3 n ≤ n
  | 0 => Nat.le_refl 0
  | n + 1 => by
    have h := cn_sum st n
    show (cn st 1 n + _) + (cn st 2 n + _) + (cn st 3 n + _) ≤ n + 1
    by_cases h1 : st n = 1
    · rw [if_pos h1, if_neg (by rw [h1]; decide), if_neg (by rw [h1]; decide)]; omega
    · by_cases h2 : st n = 2
      · rw [if_neg h1, if_pos h2, if_neg (by rw [h2]; decide)]; omega
      · rw [if_neg h1, if_neg h2]; split <;> omega
theorem cn_zero {st : Nat → Int32} {s n : Nat} (hs : s ≤ n) (h : ∀ c, c < n → (st c = 0 ↔ s ≤ c)) : cn st 0 n = n - s := by
  induction n with
  | zero =>
    have : s = 0 := by omega
    subst this; rfl
  | succ n ih =>
    show cn st 0 n + _ = _
    by_cases e : s ≤ n
    · rw [ih e (fun c hc => h c (by omega)), if_pos ((h n (by omega)).mpr e)]; omega
    · have hz : cn st 0 n = 0 := by
        have : ∀ k, k ≤ n → cn st 0 k = 0 := by
          intro k
          induction k with
          | zero => intro _; rfl
          | succ k ih2 =>
            intro hk
            show cn st 0 k + _ = 0
            rw [ih2 (by omega), if_neg (fun h3 => by have := (h k (by omega)).mp h3; omega)]
        exact this n (Nat.le_refl n)
      rw [hz, if_neg (fun h3 => by have := (h n (by omega)).mp h3; omega)]; omega
/-- addresses -/
theorem aT_get {L : List Nat} {c : Nat} (h : c < L.length) : aT L c = L[c] := by unfold aT; rw [List.getD_eq_getElem?_getD, List.getElem?_eq_getElem h]; rfl
theorem aT_mem {L : List Nat} {c : Nat} (h : c < L.length) : aT L c ∈ L := by rw [aT_get h]; exact List.getElem_mem h
theorem aT_inj {L : List Nat} {c d : Nat} (hn : L.Nodup) (hc : c < L.length) (hd : d < L.length) (h : aT L c = aT L d) : c = d := by
  rw [aT_get hc, aT_get hd] at h
  exact (List.getElem_inj hn).mp h
theorem up_self {f : Nat → Int32} {a : Nat} {x : Int32} : upd f a x a = x := by unfold upd; rw [if_pos rfl]
theorem up_ne {f : Nat → Int32} {a b : Nat} {x : Int32} (h : b ≠ a) : upd f a x b = f b := by unfold upd; rw [if_neg h]
theorem vu_self {f : Nat → UInt64} {a : Nat} {x : UInt64} : vf_upd f a x a = x := by unfold vf_upd; rw [if_pos rfl]
theorem vu_ne {f : Nat → UInt64} {a b : Nat} {x : UInt64} (h : b ≠ a) : vf_upd f a x b = f b := by unfold vf_upd; rw [if_neg h]
/-- the model's tree -/
def lvI (p : Int32) : Int32 := if p = 0 then 0 else if 3 ≤ p then 2 else 1
def wyI (p : Int32) : Int32 := (p + 1) - ((1 : Int32) <<< (lvI p &&& 31))
def ldsI (p t : Int32) : Int32 := if (t >>> (((3 : Int32) - lvI p) &&& 31)) = wyI p then 1 else 0
def gbI (pa si p : Int32) : Int32 := if pa < lvI p then (if si = (wyI p >>> ((lvI p - pa) &&& 31)) then 1 else 0) else (if (si >>> ((pa - lvI p) &&& 31)) = wyI p then 1 else 0)
theorem wm_level {p : Int32} {post : Int32 → Prop} (h : post (lvI p)) : wp_X3_level p post := by
  unfold wp_X3_level
  unfold lvI at h
  refine ⟨fun h1 => ⟨fun h2 => ?_, fun h2 => ?_⟩, fun h1 => ?_⟩
  · rw [if_neg h1, if_pos h2] at h; exact h
  · rw [if_neg h1, if_neg h2] at h; exact h
  · rw [if_pos h1] at h; exact h
theorem wm_wayTo {p : Int32} {post : Int32 → Prop} (h : post (wyI p)) : wp_X3_wayTo p post := wm_level h
theorem wm_leads {p t : Int32} {post : Int32 → Prop} (h : post (ldsI p t)) : wp_X3_leads p t post := by
  unfold wp_X3_leads
  refine wm_level (wm_wayTo ⟨fun h1 => ?_, fun h1 => ?_⟩)
  · unfold ldsI at h; rw [if_neg h1] at h; exact h
  · unfold ldsI at h; rw [if_pos h1] at h; exact h
theorem wm_goesBy {T : MS} {c : Nat} {p : Int32} {post : Int32 → Prop} (hc : c < 60) (h : post (gbI (M_passed T c) (M_sides T c) p)) : wp_X3_goesBy T (nI c) p post := by
  unfold wp_X3_goesBy
  rw [nI_clamp (by omega)]
  unfold gbI at h
  refine wm_level ⟨vp_in_nI hc (by omega), fun h1 => wm_wayTo ⟨fun h2 => ?_, fun h2 => ?_⟩, fun h1 => wm_wayTo ⟨fun h2 => ?_, fun h2 => ?_⟩⟩
  · rw [if_pos h1, if_neg h2] at h; exact h
  · rw [if_pos h1, if_pos h2] at h; exact h
  · rw [if_neg h1, if_neg h2] at h; exact h
  · rw [if_neg h1, if_pos h2] at h; exact h
/-- the class's tree -/
def itI (a b : Int32) : Nat → Int32
  | 0 => b
  | k + 1 => if itI a b k ≤ a then itI a b k else (itI a b k - 1) / 2
def ldI (a b : Int32) : Int32 := if itI a b 3 = a then 1 else 0
def owI (a b : Int32) : Int32 := if ldI a b = 0 then ldI b a else 1
theorem it_stop {a b : Int32} {k : Nat} (h : itI a b k ≤ a) : ∀ j, itI a b (k + j) = itI a b k
  | 0 => rfl
  | j + 1 => by
    show (if itI a b (k + j) ≤ a then itI a b (k + j) else (itI a b (k + j) - 1) / 2) = _
    rw [it_stop h j, if_pos h]
theorem wc_ldl {a b : Int32} {post : Int32 → Prop} (h : post (ldI a b)) : ∀ k, k ≤ 3 → wl_X2_leadsTo_4 a b post (4 - k) (itI a b k) (nI k) := by
  have fin : ∀ x, x = itI a b 3 → ((¬ x = a → post 0) ∧ (x = a → post 1)) := by
    intro x hx
    unfold ldI at h
    refine ⟨fun h1 => ?_, fun h1 => ?_⟩
    · rw [← hx, if_neg h1] at h; exact h
    · rw [← hx, if_pos h1] at h; exact h
  have go : ∀ j k, k + j = 3 → wl_X2_leadsTo_4 a b post (4 - k) (itI a b k) (nI k) := by
    intro j
    induction j with
    | zero =>
      intro k hk
      have : k = 3 := by omega
      subst this
      exact ⟨fun _ => fin _ rfl, fun h2 => absurd (by decide : (3 : Int32) ≤ nI 3) h2⟩
    | succ j ih =>
      intro k hk
      rw [show 4 - k = (4 - (k + 1)) + 1 by omega]
      refine ⟨fun h2 => absurd h2 (by have : k < 3 := by omega
                                      exact nI_ge (b := 3) this (by decide)), fun _ => ⟨fun h2 => fin _ ?_, fun h2 x5 e5 => ?_⟩⟩
      · have := it_stop h2 (3 - k)
        rw [show k + (3 - k) = 3 by omega] at this
        exact this.symm
      · have e : itI a b (k + 1) = x5 := by
          rw [e5]
          show (if itI a b k ≤ a then itI a b k else (itI a b k - 1) / 2) = _
          rw [if_neg h2]
        rw [← e, show nI k + 1 = nI (k + 1) from nI_1 k]
        exact ih (k + 1) (by omega)
  intro k hk
  exact go (3 - k) k (by omega)
theorem wc_leadsTo {a b : Int32} {post : Int32 → Prop} (h : post (ldI a b)) : wp_X2_leadsTo a b post := ⟨4, wc_ldl h 0 (by omega)⟩
theorem ld01 (a b : Int32) : ldI a b = 0 ∨ ldI a b = 1 := by unfold ldI; split; exact .inr rfl; exact .inl rfl
theorem wc_isOneWay {a b : Int32} {post : Int32 → Prop} (h : post (owI a b)) : wp_X2_isOneWay a b post := by
  unfold wp_X2_isOneWay
  unfold owI at h
  refine wc_leadsTo ⟨fun h1 => ?_, fun h1 => wc_leadsTo ⟨fun h2 => ?_, fun h2 => ?_⟩⟩
  · rw [if_neg h1] at h; exact h
  · rw [if_pos h1, h2] at h; exact h
  · rw [if_pos h1] at h
    rcases ld01 b a with h3 | h3
    · exact absurd h3 h2
    · rw [h3] at h; exact h
theorem wc_isTrack {t : Int32} {post : Int32 → Prop} (h : post (if t < 0 then 0 else if 8 ≤ t then 0 else 1)) : wp_X2_isTrack t post := by
  unfold wp_X2_isTrack
  refine ⟨fun h1 => ?_, fun h1 => ⟨fun h2 => ?_, fun h2 => ?_⟩⟩
  · rw [if_pos h1] at h; exact h
  · rw [if_neg h1, if_pos h2] at h; exact h
  · rw [if_neg h1, if_neg h2] at h; exact h
theorem wc_isPoint {t : Int32} {post : Int32 → Prop} (h : post (if t < 0 then 0 else if 7 ≤ t then 0 else 1)) : wp_X2_isPoint t post := by
  unfold wp_X2_isPoint
  refine ⟨fun h1 => ?_, fun h1 => ⟨fun h2 => ?_, fun h2 => ?_⟩⟩
  · rw [if_pos h1] at h; exact h
  · rw [if_neg h1, if_pos h2] at h; exact h
  · rw [if_neg h1, if_neg h2] at h; exact h
def tkI (x : Int32) : Int32 := if (if x - 7 < 0 then (0 : Int32) else if 8 ≤ x - 7 then 0 else 1) = 0 then -1 else x - 7
theorem wc_trackOf {x : Int32} {post : Int32 → Prop} (h : post (tkI x)) : wp_X2_trackOf x post := by
  unfold wp_X2_trackOf
  intro x1 e1
  subst e1
  unfold tkI at h
  refine wc_isTrack ⟨fun h1 => ?_, fun h1 => ?_⟩
  · rw [if_pos h1] at h; exact h
  · rw [if_neg h1] at h; exact h
def lfI (x : Int32) : Int32 := if 1 ≤ x then (if 3 ≤ x then (if 7 ≤ x then 3 else 2) else 1) else 0
theorem wc_levelOf {x : Int32} {post : Int32 → Prop} (h : post (lfI x)) : wp_X2_levelOf x post := by
  unfold wp_X2_levelOf
  unfold lfI at h
  refine ⟨fun h1 => ⟨fun h2 => ⟨fun h3 => ?_, fun h3 => ?_⟩, fun h2 => ?_⟩, fun h1 => ?_⟩
  · rw [if_pos h1, if_pos h2, if_pos h3] at h; exact h
  · rw [if_pos h1, if_pos h2, if_neg h3] at h; exact h
  · rw [if_pos h1, if_neg h2] at h; exact h
  · rw [if_neg h1] at h; exact h
theorem wc_pointPlace {x : Int32} {post : Int32 → Prop} (h : post (80 + 40 * lfI x)) : wp_X2_pointPlace x post := wc_levelOf h
/-- a node -/
abbrev ndN (pa si : Nat) : Nat := 2 ^ pa - 1 + si
theorem t_oneWay : ∀ p, p < 7 → ∀ pa, pa < 4 → ∀ si, si < 8 → si < 2 ^ pa → owI (nI (ndN pa si)) (nI p) = gbI (nI pa) (nI si) (nI p) := by decide +kernel
theorem t_bound : ∀ p, p < 7 → ∀ pa, pa < 4 → ∀ si, si < 8 → si < 2 ^ pa → (ldI (nI (ndN pa si)) (nI p) = 0 ↔ (lvI (nI p) < nI pa ∨ gbI (nI pa) (nI si) (nI p) = 0)) := by decide +kernel
theorem t_leads : ∀ p, p < 7 → ∀ d, d < 8 → ldsI (nI p) (nI d) = ldI (nI p) (7 + nI d) := by decide +kernel
theorem t_side : ∀ p, p < 7 → ∀ d, d < 8 → ¬ ldI (nI p) (7 + nI d) = 0 → ldI (2 * nI p + 1 + 1) (7 + nI d) = ((nI d >>> (((2 : Int32) - lvI (nI p)) &&& 31)) &&& 1) := by decide +kernel
theorem t_side2 : ∀ pa, pa < 3 → ∀ si, si < 8 → si < 2 ^ pa → ∀ d, d < 8 → ((nI d >>> (((3 : Int32) - (nI pa + 1)) &&& 31)) &&& 1) = ((nI d >>> (((2 : Int32) - lvI (nI (ndN pa si))) &&& 31)) &&& 1) := by decide +kernel
theorem t_node1 : ∀ pa, pa < 3 → ∀ si, si < 8 → si < 2 ^ pa → (nI si + ((1 : Int32) <<< (nI pa &&& 31))) - 1 = nI (ndN pa si) ∧ ndN pa si < 7 ∧ FP.i2d (80 + 40 * lfI (nI (ndN pa si))) = cpl pa := by decide +kernel
theorem t_node2 : ∀ pa, pa < 3 → ∀ si, si < 8 → ∀ sd, sd < 2 → si < 2 ^ pa → 2 * nI (ndN pa si) + 1 + nI sd = nI (ndN (pa + 1) (2 * si + sd)) ∧ 2 * nI si + nI sd = nI (2 * si + sd) := by decide +kernel
theorem t_track : ∀ pa, pa < 4 → ∀ si, si < 8 → si < 2 ^ pa → tkI (nI (ndN pa si)) = (if pa = 3 then nI si else -1) ∧ lfI (nI (ndN pa si)) = nI pa ∧ (if nI (ndN pa si) < 0 then (0 : Int32) else if 7 ≤ nI (ndN pa si) then 0 else 1) = (if pa = 3 then 0 else 1) := by decide +kernel
def ahB (pa si pb sj : Nat) : Bool := decide ((¬ owI (nI (ndN pa si)) (nI (ndN pb sj)) = 0) ↔ (nI sj >>> ((nI pb - (if nI pa ≤ nI pb then nI pa else nI pb)) &&& 31)) = (nI si >>> ((nI pa - (if nI pa ≤ nI pb then nI pa else nI pb)) &&& 31)))
theorem t_ahead0 : ∀ pa, pa < 4 → ∀ si, si < 2 ^ pa → ∀ pb, pb < 4 → ∀ sj, sj < 2 ^ pb → ahB pa si pb sj = true := by decide +kernel
theorem t_ahead {pa si pb sj : Nat} (h1 : pa < 4) (h2 : si < 2 ^ pa) (h3 : pb < 4) (h4 : sj < 2 ^ pb) : ((¬ owI (nI (ndN pa si)) (nI (ndN pb sj)) = 0) ↔ (nI sj >>> ((nI pb - (if nI pa ≤ nI pb then nI pa else nI pb)) &&& 31)) = (nI si >>> ((nI pa - (if nI pa ≤ nI pb then nI pa else nI pb)) &&& 31))) := of_decide_eq_true (t_ahead0 pa h1 si h2 pb h3 sj h4)
theorem t_place : ∀ p, p < 7 → FP.dsub (FP.dadd 4635329916471083008 (FP.dmul 4630826316843712512 (FP.i2d (lvI (nI p))))) 4624633867356078080 = FP.i2d (80 + 40 * lfI (nI p) - 15) ∧ FP.dadd 4635329916471083008 (FP.dmul 4630826316843712512 (FP.i2d (lvI (nI p)))) = FP.i2d (80 + 40 * lfI (nI p)) := by decide +kernel
end NODES
