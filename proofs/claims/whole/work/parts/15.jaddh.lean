section JADH
variable {l : Launch} {G : GT} {Z : State}
theorem va_D_nd {A : Nat → Prop} {w : va_W} (h : va_D A w) : (w.map Prod.fst).Nodup := by
  unfold List.Nodup
  rw [List.pairwise_iff_getElem]
  intro i j hi hj hij e
  have hi' : i < w.length := by rw [List.length_map] at hi; exact hi
  have hj' : j < w.length := by rw [List.length_map] at hj; exact hj
  rw [List.getElem_map, List.getElem_map] at e
  have := h.1 i j _ _ (List.getElem?_eq_getElem hi') (List.getElem?_eq_getElem hj') e
  omega
theorem va_D_of {A : Nat → Prop} {w : va_W} (hn : (w.map Prod.fst).Nodup) (hA : ∀ q ∈ w, A q.1) : va_D A w := by
  refine ⟨fun i j x y hi hj hxy => ?_, fun k q hk => hA q (List.mem_of_getElem? hk)⟩
  unfold List.Nodup at hn
  rw [List.pairwise_iff_getElem] at hn
  obtain ⟨li, ei⟩ := List.getElem?_eq_some_iff.mp hi
  obtain ⟨lj, ej⟩ := List.getElem?_eq_some_iff.mp hj
  rcases Nat.lt_trichotomy i j with h | h | h
  · refine absurd ?_ (hn i j (by rw [List.length_map]; exact li) (by rw [List.length_map]; exact lj) h)
    rw [List.getElem_map, List.getElem_map, ei, ej]; exact hxy
  · exact h
  · refine absurd ?_ (hn j i (by rw [List.length_map]; exact lj) (by rw [List.length_map]; exact li) h)
    rw [List.getElem_map, List.getElem_map, ei, ej]; exact hxy.symm
theorem CM_sub {y : MethodName} {cc : ByteArray} {n : Nat} {ret : Option FieldType} {rm : Room} {av : List Value} {ws : va_W} {post post' : Option Value → va_W → Prop} (hM : CM l G Z y cc n ret rm av ws post) (h : ∀ v w, post v w → ∃ w', (∀ q ∈ w', q ∈ w) ∧ ((w.map Prod.fst).Nodup → (w'.map Prod.fst).Nodup) ∧ post' v w') : CM l G Z y cc n ret rm av ws post' := by
  intro sz p e ha hc hk s m args below hf h1 h2 h3
  obtain ⟨k, o, s1, s2, s3, ⟨⟨v, w, ho, hp, hI, hD⟩, hF⟩, hL⟩ := hM sz p e ha hc hk s m args below hf h1 h2 h3
  obtain ⟨w', hs, hn, hp'⟩ := h v w hp
  have nd := va_D_nd hD
  refine ⟨k, o, s1, s2, s3, ⟨⟨v, w', ho, hp', ⟨?_, ?_, hI.2.2⟩, ?_⟩, hF⟩, hL⟩
  · intro k q hq
    obtain ⟨i, hi⟩ := List.getElem?_of_mem (hs q (List.mem_of_getElem? hq))
    exact hI.1 i q hi
  · refine va_D_of (hn nd) (fun q hq => ?_)
    obtain ⟨i, hi⟩ := List.getElem?_of_mem (hs q hq)
    exact hI.2.1.2 i q hi
  · refine va_D_of (hn nd) (fun q hq => ?_)
    obtain ⟨i, hi⟩ := List.getElem?_of_mem (hs q hq)
    exact hD.2 i q hi
theorem nd_r {α : Type} (A B C P : List α) (x : α) (h : (((A ++ (B ++ C)) ++ P) ++ [x]).Nodup) : ((A ++ (B ++ [x])) ++ P).Nodup := by
  have h1 : (((A ++ B) ++ P) ++ [x]).Nodup := by
    refine List.Pairwise.sublist ?_ h
    refine List.Sublist.append (List.Sublist.append ?_ (List.Sublist.refl P)) (List.Sublist.refl [x])
    exact List.Sublist.append (List.Sublist.refl A) (List.sublist_append_left B C)
  refine (List.Perm.nodup_iff ?_).mp h1
  rw [show (A ++ (B ++ [x])) ++ P = (A ++ B) ++ ([x] ++ P) by simp, List.append_assoc (A ++ B) P [x]]
  exact List.Perm.append_left _ List.perm_append_comm
theorem nd_c {α : Type} (A B C P : List α) (x : α) (h : (((A ++ (B ++ C)) ++ P) ++ [x]).Nodup) : ((A ++ ([x] ++ C)) ++ P).Nodup := by
  have h1 : (((A ++ C) ++ P) ++ [x]).Nodup := by
    refine List.Pairwise.sublist ?_ h
    refine List.Sublist.append (List.Sublist.append ?_ (List.Sublist.refl P)) (List.Sublist.refl [x])
    exact List.Sublist.append (List.Sublist.refl A) (List.sublist_append_right B C)
  refine (List.Perm.nodup_iff ?_).mp h1
  rw [show (A ++ ([x] ++ C)) ++ P = A ++ ([x] ++ (C ++ P)) by simp, show ((A ++ C) ++ P) ++ [x] = A ++ ((C ++ P) ++ [x]) by simp]
  exact List.Perm.append_left _ List.perm_append_comm
theorem set_app4 {α : Type} {u : List α} {k : Nat} (h : k < u.length) (a b c d : α) : (((u ++ [a]).set k b).set u.length c).set k d = u.set k d ++ [c] := by
  apply List.ext_getElem?
  intro i
  simp only [List.getElem?_set, List.getElem?_append, List.length_set, List.length_append, List.length_singleton]
  by_cases h1 : k = i
  · subst h1; simp [h]; omega
  · by_cases h2 : u.length = i
    · subst h2; simp [h1]
    · simp only [h1, h2, if_false]
      by_cases h3 : i < u.length
      · simp [h3]
      · rw [if_neg h3, if_neg h3, List.getElem?_eq_none (by simp; omega), List.getElem?_eq_none (by simp; omega)]
/-- the list's array behind an add -/
def lnew (ca : Option (Nat × Nat × (Nat → Option Nat))) (c x q : Nat) : Nat × Nat × (Nat → Option Nat) := match ca with
  | none => (q, 10, va_up (fun _ => none) 0 (some x))
  | some (a, n, f) => if c < n then (a, n, va_up f c (some x)) else (q, n + n / 2, va_up (va_cpy f (fun _ => none) 0 0 n) n (some x))
/-- what an add asks; mc cells of ms places are made -/
def ladd (ca : Option (Nat × Nat × (Nat → Option Nat))) (L : List Nat) (sz : Int32) (x mc ms : Nat) : Prop := ∃ c : Nat, sz = nI c ∧ x ∈ L ∧ match ca with
  | none => c = 0 ∧ mc = 1 ∧ ms = 10
  | some (_, n, f) => (∀ q z : Nat, f q = some z → z ∈ L) ∧ ((c < n ∧ n < 2 ^ 30 ∧ mc = 0 ∧ ms = 0) ∨ (c = n ∧ 2 ≤ n ∧ n ≤ 40000 ∧ mc = 1 ∧ ms = n + n / 2))
theorem wH_caj {E0 : Nat} {ad : Nat → Nat} {S : HS} {a n : Nat} {f : Nat → Option Nat} (hca : H_ca S = some (a, n, f)) : ∃ j : Nat, 12 ≤ j ∧ j < (hX G E0 ad S).length ∧ (wH G E0 ad S)[j]? = some (a, .inl (G.2 3, n, .inr (.inr (.inr (.inr f))))) ∧ ∀ f' : Nat → Option Nat, (wH G E0 ad S).set j (a, .inl (G.2 3, n, .inr (.inr (.inr (.inr f'))))) = wH G E0 ad (Hs_ca S (some (a, n, f'))) := by
  have e1 : ∀ f', hB G E0 ad (Hs_ca S (some (a, n, f'))) = hB G E0 ad S := by
    intro f'
    have e0 : ala E0 (H_ca S) = a := by rw [hca]; rfl
    unfold hB
    rw [e0]
    rfl
  have e2 : ∀ f', wH G E0 ad (Hs_ca S (some (a, n, f'))) = (hB G E0 ad S ++ ([(a, .inl (G.2 3, n, .inr (.inr (.inr (.inr f')))))] ++ alc G (H_ra S))) ++ va_pl (H_L S) (cutE S) := by
    intro f'
    rw [← e1 f']; rfl
  refine ⟨12, by omega, ?_, ?_, fun f' => ?_⟩
  · unfold hX; rw [hca]; show 12 < (hB G E0 ad S ++ ([_] ++ alc G (H_ra S))).length; simp [hB]
  · unfold wH hX; rw [hca]; rfl
  · rw [e2]; unfold wH hX; rw [hca]; rfl

theorem cE_rm {S : HS} {v : Int32} : cutE (Hs_rm S v) = cutE S := rfl
theorem cE_rs {S : HS} {v : Int32} : cutE (Hs_rs S v) = cutE S := rfl
theorem cE_ra {S : HS} {v : Option (Nat × Nat × (Nat → Option Nat))} : cutE (Hs_ra S v) = cutE S := rfl
theorem hB_rm {E0 : Nat} {ad : Nat → Nat} {S : HS} {v : Int32} : hB G E0 ad (Hs_rm S v) = (hB G E0 ad S).set 4 (ad 2, .inr (4, [.int v, .ref (ala E0 (H_ra S)), .int (H_rs S)])) := rfl
theorem hB_rs {E0 : Nat} {ad : Nat → Nat} {S : HS} {v : Int32} : hB G E0 ad (Hs_rs S v) = (hB G E0 ad S).set 4 (ad 2, .inr (4, [.int (H_rm S), .ref (ala E0 (H_ra S)), .int v])) := rfl
theorem hB_ra {E0 : Nat} {ad : Nat → Nat} {S : HS} {v : Option (Nat × Nat × (Nat → Option Nat))} : hB G E0 ad (Hs_ra S v) = (hB G E0 ad S).set 4 (ad 2, .inr (4, [.int (H_rm S), .ref (ala E0 v), .int (H_rs S)])) := rfl
theorem hB_3r {E0 : Nat} {ad : Nat → Nat} {S : HS} {a b : Int32} {v : Option (Nat × Nat × (Nat → Option Nat))} : hB G E0 ad (Hs_rs (Hs_ra (Hs_rm S a) v) b) = (hB G E0 ad (Hs_rm S a)).set 4 (ad 2, .inr (4, [.int a, .ref (ala E0 v), .int b])) := by
  rw [hB_rs, hB_ra, List.set_set]
  rfl
theorem wH_1r {E0 : Nat} {ad : Nat → Nat} {S : HS} {v : Int32} : wH G E0 ad (Hs_rm S v) = (hB G E0 ad (Hs_rm S v) ++ (alc G (H_ca S) ++ alc G (H_ra S))) ++ va_pl (H_L S) (cutE S) := rfl
theorem wH_3r {E0 : Nat} {ad : Nat → Nat} {S : HS} {a b : Int32} {v : Option (Nat × Nat × (Nat → Option Nat))} : wH G E0 ad (Hs_rs (Hs_ra (Hs_rm S a) v) b) = (hB G E0 ad (Hs_rs (Hs_ra (Hs_rm S a) v) b) ++ (alc G (H_ca S) ++ alc G v)) ++ va_pl (H_L S) (cutE S) := by
  have e1 : cutE (Hs_rs (Hs_ra (Hs_rm S a) v) b) = cutE S := by rw [cE_rs, cE_ra, cE_rm]
  have e2 : H_L (Hs_rs (Hs_ra (Hs_rm S a) v) b) = H_L S := rfl
  have e3 : H_ca (Hs_rs (Hs_ra (Hs_rm S a) v) b) = H_ca S := rfl
  have e4 : H_ra (Hs_rs (Hs_ra (Hs_rm S a) v) b) = v := rfl
  unfold wH hX
  rw [e1, e2, e3, e4]
theorem wH_sr {E0 : Nat} {ad : Nat → Nat} {T : HS} {b : Int32} : wH G E0 ad (Hs_rs T b) = (wH G E0 ad T).set 4 (ad 2, .inr (4, [.int (H_rm T), .ref (ala E0 (H_ra T)), .int b])) := rfl
theorem set_l3 {A B P : va_W} {k : Nat} (h : k < A.length) (x : Nat × va_E) : ((A ++ B) ++ P).set k x = (A.set k x ++ B) ++ P := by
  rw [List.set_append_left _ _ (by rw [List.length_append]; omega), List.set_append_left _ _ h]

def Haddr (S : HS) (x q : Nat) : HS := Hs_rs (Hs_ra (Hs_rm S (H_rm S + 1)) (some (lnew (H_ra S) (H_rs S).toNatClampNeg x q))) (H_rs S + 1)
set_option maxHeartbeats 400000 in
theorem c_addR {E0 : Nat} {ad : Nat → Nat} {S : HS} {x mc ms : Nat} (hZ : ZOK G Z) (h9 : ZO2 l E0 Z) (hg : ladd (H_ra S) (H_L S) (H_rs S) x mc ms) : CM l G Z yJx4a65c_add_9ea2d cJx4a65c_add_9ea2d 2 (some .boolean) (rmB 6 200 mc ms) [.ref (ad 2), .ref x] (wH G E0 ad S) (fun v w' => v = some (.int 1) ∧ ∃ q : Nat, w' = wH G E0 ad (Haddr S x q)) := by
  obtain ⟨c, hsz, hxL, hm⟩ := hg
  have hk : (wH G E0 ad S)[4]? = some (ad 2, .inr (4, [.int (H_rm S), .ref (ala E0 (H_ra S)), .int (H_rs S)])) := rfl
  have hw1 : wH G E0 ad (Hs_rm S (H_rm S + 1)) = (wH G E0 ad S).set 4 (ad 2, .inr (4, [.int (H_rm S + 1), .ref (ala E0 (H_ra S)), .int (H_rs S)])) := rfl
  have hk1 : (wH G E0 ad (Hs_rm S (H_rm S + 1)))[4]? = some (ad 2, .inr (4, [.int (H_rm S + 1), .ref (ala E0 (H_ra S)), .int (H_rs S)])) := rfl
  have hlen : ∀ S : HS, 12 ≤ (hX G E0 ad S).length := fun S => by unfold hX; rw [List.length_append]; show 12 ≤ 12 + _; omega
  obtain ⟨kx, hkx1, hkx⟩ := pool_get (X := hX G E0 ad (Hs_rm S (H_rm S + 1))) (g := cutE (Hs_rm S (H_rm S + 1))) hxL
  have hkx12 := hlen (Hs_rm S (H_rm S + 1))
  have hL12 : 4 < (wH G E0 ad (Hs_rm S (H_rm S + 1))).length := by
    unfold wH; rw [List.length_append]; omega
  -- behind a growth: the old array is left out, the new one takes its place
  have fin : ∀ (q : Nat) (n1 : Nat) (f1 : Nat → Option Nat) (b : Nat × va_E), lnew (H_ra S) (H_rs S).toNatClampNeg x q = (q, n1, f1) → ∃ w', (∀ z ∈ w', z ∈ (wH G E0 ad (Hs_rm S (H_rm S + 1))).set 4 (ad 2, .inr (4, [.int (H_rm S + 1), .ref q, .int (H_rs S + 1)])) ++ [((q, .inl (G.2 3, n1, .inr (.inr (.inr (.inr f1))))) : Nat × va_E)]) ∧ (((((wH G E0 ad (Hs_rm S (H_rm S + 1))).set 4 (ad 2, .inr (4, [.int (H_rm S + 1), .ref q, .int (H_rs S + 1)])) ++ [((q, .inl (G.2 3, n1, .inr (.inr (.inr (.inr f1))))) : Nat × va_E)]).map Prod.fst)).Nodup → (w'.map Prod.fst).Nodup) ∧ w' = wH G E0 ad (Haddr S x q) := by
    intro q n1 f1 b hl
    have e1 : (wH G E0 ad (Hs_rm S (H_rm S + 1))).set 4 (ad 2, .inr (4, [.int (H_rm S + 1), .ref q, .int (H_rs S + 1)])) = (hB G E0 ad (Haddr S x q) ++ (alc G (H_ca S) ++ alc G (H_ra S))) ++ va_pl (H_L S) (cutE S) := by
      unfold Haddr
      rw [hl, hB_3r, wH_1r, set_l3 (by show 4 < 12; omega)]
      rfl
    have e3 : wH G E0 ad (Haddr S x q) = (hB G E0 ad (Haddr S x q) ++ (alc G (H_ca S) ++ [((q, .inl (G.2 3, n1, .inr (.inr (.inr (.inr f1))))) : Nat × va_E)])) ++ va_pl (H_L S) (cutE S) := by
      unfold Haddr
      rw [hl, wH_3r]
      rfl
    refine ⟨wH G E0 ad (Haddr S x q), ?_, ?_, rfl⟩
    · rw [e1, e3]
      intro z hz
      simp only [List.mem_append] at hz ⊢
      rcases hz with (h | (h | h)) | h
      · exact Or.inl (Or.inl (Or.inl h))
      · exact Or.inl (Or.inl (Or.inr (Or.inl h)))
      · exact Or.inr h
      · exact Or.inl (Or.inr h)
    · rw [e1, e3]
      simp only [List.map_append]
      exact nd_r _ _ _ _ _
  rcases hr : H_ra S with _ | ⟨a, n, f⟩
  · rw [hr] at hm
    obtain ⟨rfl, rfl, rfl⟩ := hm
    have hsz0 : H_rs S = 0 := hsz
    have e0 : ala E0 (H_ra S) = E0 := by rw [hr]; rfl
    rw [e0] at hk hk1 hw1
    have hgrow := c_grow0 (post := fun v w' => ∃ q : Nat, v = some (.ref q) ∧ w' = ((wH G E0 ad (Hs_rm S (H_rm S + 1))) ++ [((q, .inl (G.2 3, 10, .inr (.inr (.inr (.inr (fun _ => none)))))) : Nat × va_E)]).set 4 (ad 2, .inr (4, [.int (H_rm S + 1), .ref q, .int (H_rs S)]))) hZ hk1 (N := 10) (by
      have := c_growB (l := l) hZ h9 hk1
      rw [hsz0] at this ⊢
      refine CM_sub this (fun v w h => ?_)
      obtain ⟨q, h1, h2⟩ := h
      exact ⟨w, fun _ h => h, fun h => h, q, h1, q, h1, h2⟩)
    have hadd := c_add2G (l := l) (x := x) (n1 := 10) (f1 := fun _ => none) (j1 := (wH G E0 ad (Hs_rm S (H_rm S + 1))).length) (kx := kx) (W1 := fun q => ((wH G E0 ad (Hs_rm S (H_rm S + 1))) ++ [((q, .inl (G.2 3, 10, .inr (.inr (.inr (.inr (fun _ => none)))))) : Nat × va_E)]).set 4 (ad 2, .inr (4, [.int (H_rm S + 1), .ref q, .int (H_rs S)]))) hZ h9 (by omega) hk1 (Or.inl ⟨rfl, hsz0⟩) (CM_sub hgrow (fun v w h => by
        obtain ⟨q, h1, q', h2, h3⟩ := h
        have : q = q' := by rw [h1] at h2; cases h2; rfl
        subst this
        exact ⟨w, fun _ h => h, fun h => h, q, h1, h3⟩)) (fun q => gset_self (app_l hk1)) (fun q => gset_ne (by omega) app_r) (fun q => gset_ne (by omega) (app_l hkx)) (by rw [hsz0]; unfold vp_in; decide)
    refine CM_sub (c_add1 (x := x) (post := fun w' => ∃ q : Nat, w' = (((((wH G E0 ad (Hs_rm S (H_rm S + 1))) ++ [((q, .inl (G.2 3, 10, .inr (.inr (.inr (.inr (fun _ => none)))))) : Nat × va_E)]).set 4 (ad 2, .inr (4, [.int (H_rm S + 1), .ref q, .int (H_rs S)]))).set (wH G E0 ad (Hs_rm S (H_rm S + 1))).length (q, .inl (G.2 3, 10, .inr (.inr (.inr (.inr (va_up (fun _ => none) (H_rs S).toNatClampNeg (some x)))))))).set 4 (ad 2, .inr (4, [.int (H_rm S + 1), .ref q, .int (H_rs S + 1)])))) hZ hk (by rw [← hw1]; exact hadd)) ?_
    rintro v w ⟨h1, q, rfl⟩
    rw [set_app4 hL12]
    have hln : lnew (H_ra S) (H_rs S).toNatClampNeg x q = (q, 10, va_up (fun _ => none) (H_rs S).toNatClampNeg (some x)) := by
      rw [hr, hsz0]; rfl
    obtain ⟨w', g1, g2, g3⟩ := fin q _ _ (0, .inr (0, [])) hln
    exact ⟨w', g1, g2, h1, q, g3⟩
  · rw [hr] at hm
    obtain ⟨hel, hm⟩ := hm
    have e0 : ala E0 (H_ra S) = a := by rw [hr]; rfl
    rw [e0] at hk hk1 hw1
    have hra1 : H_ra (Hs_rm S (H_rm S + 1)) = some (a, n, f) := hr
    obtain ⟨j, hj1, hj2, hj, hset⟩ := wH_raj (G := G) (E0 := E0) (ad := ad) hra1
    have hjl : j < (wH G E0 ad (Hs_rm S (H_rm S + 1))).length := (List.getElem?_eq_some_iff.mp hj).1
    rcases hm with ⟨hcn, hn, rfl, rfl⟩ | ⟨rfl, h2, hn, rfl, rfl⟩
    · have hadd := c_add2A (l := l) hZ h9 (by omega : 4 ≠ j) hk1 hj hkx (by rw [hsz]; exact vp_in_nI hcn (by omega)) (by rw [hsz]; intro h; exact absurd ((nI_eq (by omega) (by omega)).mp h) (by omega))
      refine CM_sub (c_add1 (post := fun w' => w' = wH G E0 ad (Haddr S x 0)) hZ hk (by
        rw [← hw1]
        refine CM_sub hadd (fun v w h => ⟨w, fun _ h => h, fun h => h, h.1, ?_⟩)
        rw [h.2, hset]
        have hln : lnew (H_ra S) (H_rs S).toNatClampNeg x 0 = (a, n, va_up f (H_rs S).toNatClampNeg (some x)) := by
          rw [hr, hsz, nI_clamp (by omega)]
          show (if c < n then _ else _) = _
          rw [if_pos hcn]
        unfold Haddr
        rw [hln, wH_sr]
        rfl)) ?_
      rintro v w ⟨h1, rfl⟩
      exact ⟨_, fun _ h => h, fun h => h, h1, 0, rfl⟩
    · have hgrow := c_grow0 (post := fun v w' => ∃ q : Nat, v = some (.ref q) ∧ w' = ((wH G E0 ad (Hs_rm S (H_rm S + 1))) ++ [((q, .inl (G.2 3, c + c / 2, .inr (.inr (.inr (.inr (va_cpy f (fun _ => none) 0 0 c)))))) : Nat × va_E)]).set 4 (ad 2, .inr (4, [.int (H_rm S + 1), .ref q, .int (H_rs S)]))) hZ hk1 (N := c + c / 2) (by
        have := c_growC (l := l) hZ h9 (by omega : 4 ≠ j) hk1 hj h2 hn (fun q z hz => by
          obtain ⟨k', -, hk'⟩ := pool_get (X := hX G E0 ad (Hs_rm S (H_rm S + 1))) (g := cutE (Hs_rm S (H_rm S + 1))) (hel q z hz)
          exact ⟨k', _, hk'⟩)
        rw [hsz, nI_1]
        rw [hsz] at this
        refine CM_sub this (fun v w h => ?_)
        obtain ⟨q, h1, h2⟩ := h
        exact ⟨w, fun _ h => h, fun h => h, q, h1, q, h1, h2⟩)
      have hadd := c_add2G (l := l) (x := x) (n1 := c + c / 2) (f1 := va_cpy f (fun _ => none) 0 0 c) (j1 := (wH G E0 ad (Hs_rm S (H_rm S + 1))).length) (kx := kx) (W1 := fun q => ((wH G E0 ad (Hs_rm S (H_rm S + 1))) ++ [((q, .inl (G.2 3, c + c / 2, .inr (.inr (.inr (.inr (va_cpy f (fun _ => none) 0 0 c)))))) : Nat × va_E)]).set 4 (ad 2, .inr (4, [.int (H_rm S + 1), .ref q, .int (H_rs S)]))) hZ h9 (by omega) hk1 (Or.inr ⟨j, c, f, hj, hsz⟩) (CM_sub hgrow (fun v w h => by
          obtain ⟨q, h1, q', h2, h3⟩ := h
          have : q = q' := by rw [h1] at h2; cases h2; rfl
          subst this
          exact ⟨w, fun _ h => h, fun h => h, q, h1, h3⟩)) (fun q => gset_self (app_l hk1)) (fun q => gset_ne (by omega) app_r) (fun q => gset_ne (by omega) (app_l hkx)) (by rw [hsz]; exact vp_in_nI (by omega) (by omega))
      refine CM_sub (c_add1 (x := x) (post := fun w' => ∃ q : Nat, w' = (((((wH G E0 ad (Hs_rm S (H_rm S + 1))) ++ [((q, .inl (G.2 3, c + c / 2, .inr (.inr (.inr (.inr (va_cpy f (fun _ => none) 0 0 c)))))) : Nat × va_E)]).set 4 (ad 2, .inr (4, [.int (H_rm S + 1), .ref q, .int (H_rs S)]))).set (wH G E0 ad (Hs_rm S (H_rm S + 1))).length (q, .inl (G.2 3, c + c / 2, .inr (.inr (.inr (.inr (va_up (va_cpy f (fun _ => none) 0 0 c) (H_rs S).toNatClampNeg (some x)))))))).set 4 (ad 2, .inr (4, [.int (H_rm S + 1), .ref q, .int (H_rs S + 1)])))) hZ hk (by rw [← hw1]; exact hadd)) ?_
      rintro v w ⟨h1, q, rfl⟩
      rw [set_app4 hL12]
      have hln : lnew (H_ra S) (H_rs S).toNatClampNeg x q = (q, c + c / 2, va_up (va_cpy f (fun _ => none) 0 0 c) (H_rs S).toNatClampNeg (some x)) := by
        rw [hr, hsz, nI_clamp (by omega)]
        show (if c < c then _ else _) = _
        rw [if_neg (by omega)]
      obtain ⟨w', g1, g2, g3⟩ := fin q _ _ (0, .inr (0, [])) hln
      exact ⟨w', g1, g2, h1, q, g3⟩

theorem cE_cm {S : HS} {v : Int32} : cutE (Hs_cm S v) = cutE S := rfl
theorem cE_cs {S : HS} {v : Int32} : cutE (Hs_cs S v) = cutE S := rfl
theorem cE_ca {S : HS} {v : Option (Nat × Nat × (Nat → Option Nat))} : cutE (Hs_ca S v) = cutE S := rfl
theorem hB_cm {E0 : Nat} {ad : Nat → Nat} {S : HS} {v : Int32} : hB G E0 ad (Hs_cm S v) = (hB G E0 ad S).set 3 (ad 1, .inr (4, [.int v, .ref (ala E0 (H_ca S)), .int (H_cs S)])) := rfl
theorem hB_cs {E0 : Nat} {ad : Nat → Nat} {S : HS} {v : Int32} : hB G E0 ad (Hs_cs S v) = (hB G E0 ad S).set 3 (ad 1, .inr (4, [.int (H_cm S), .ref (ala E0 (H_ca S)), .int v])) := rfl
theorem hB_ca {E0 : Nat} {ad : Nat → Nat} {S : HS} {v : Option (Nat × Nat × (Nat → Option Nat))} : hB G E0 ad (Hs_ca S v) = (hB G E0 ad S).set 3 (ad 1, .inr (4, [.int (H_cm S), .ref (ala E0 v), .int (H_cs S)])) := rfl
theorem hB_3c {E0 : Nat} {ad : Nat → Nat} {S : HS} {a b : Int32} {v : Option (Nat × Nat × (Nat → Option Nat))} : hB G E0 ad (Hs_cs (Hs_ca (Hs_cm S a) v) b) = (hB G E0 ad (Hs_cm S a)).set 3 (ad 1, .inr (4, [.int a, .ref (ala E0 v), .int b])) := by
  rw [hB_cs, hB_ca, List.set_set]
  rfl
theorem wH_1c {E0 : Nat} {ad : Nat → Nat} {S : HS} {v : Int32} : wH G E0 ad (Hs_cm S v) = (hB G E0 ad (Hs_cm S v) ++ (alc G (H_ca S) ++ alc G (H_ra S))) ++ va_pl (H_L S) (cutE S) := rfl
theorem wH_3c {E0 : Nat} {ad : Nat → Nat} {S : HS} {a b : Int32} {v : Option (Nat × Nat × (Nat → Option Nat))} : wH G E0 ad (Hs_cs (Hs_ca (Hs_cm S a) v) b) = (hB G E0 ad (Hs_cs (Hs_ca (Hs_cm S a) v) b) ++ (alc G v ++ alc G (H_ra S))) ++ va_pl (H_L S) (cutE S) := by
  have e1 : cutE (Hs_cs (Hs_ca (Hs_cm S a) v) b) = cutE S := by rw [cE_cs, cE_ca, cE_cm]
  have e2 : H_L (Hs_cs (Hs_ca (Hs_cm S a) v) b) = H_L S := rfl
  have e3 : H_ra (Hs_cs (Hs_ca (Hs_cm S a) v) b) = H_ra S := rfl
  have e4 : H_ca (Hs_cs (Hs_ca (Hs_cm S a) v) b) = v := rfl
  unfold wH hX
  rw [e1, e2, e3, e4]
theorem wH_sc {E0 : Nat} {ad : Nat → Nat} {T : HS} {b : Int32} : wH G E0 ad (Hs_cs T b) = (wH G E0 ad T).set 3 (ad 1, .inr (4, [.int (H_cm T), .ref (ala E0 (H_ca T)), .int b])) := rfl

def Haddc (S : HS) (x q : Nat) : HS := Hs_cs (Hs_ca (Hs_cm S (H_cm S + 1)) (some (lnew (H_ca S) (H_cs S).toNatClampNeg x q))) (H_cs S + 1)
set_option maxHeartbeats 400000 in
theorem c_addC {E0 : Nat} {ad : Nat → Nat} {S : HS} {x mc ms : Nat} (hZ : ZOK G Z) (h9 : ZO2 l E0 Z) (hg : ladd (H_ca S) (H_L S) (H_cs S) x mc ms) : CM l G Z yJx4a65c_add_9ea2d cJx4a65c_add_9ea2d 2 (some .boolean) (rmB 6 200 mc ms) [.ref (ad 1), .ref x] (wH G E0 ad S) (fun v w' => v = some (.int 1) ∧ ∃ q : Nat, w' = wH G E0 ad (Haddc S x q)) := by
  obtain ⟨c, hsz, hxL, hm⟩ := hg
  have hk : (wH G E0 ad S)[3]? = some (ad 1, .inr (4, [.int (H_cm S), .ref (ala E0 (H_ca S)), .int (H_cs S)])) := rfl
  have hw1 : wH G E0 ad (Hs_cm S (H_cm S + 1)) = (wH G E0 ad S).set 3 (ad 1, .inr (4, [.int (H_cm S + 1), .ref (ala E0 (H_ca S)), .int (H_cs S)])) := rfl
  have hk1 : (wH G E0 ad (Hs_cm S (H_cm S + 1)))[3]? = some (ad 1, .inr (4, [.int (H_cm S + 1), .ref (ala E0 (H_ca S)), .int (H_cs S)])) := rfl
  have hlen : ∀ S : HS, 12 ≤ (hX G E0 ad S).length := fun S => by unfold hX; rw [List.length_append]; show 12 ≤ 12 + _; omega
  obtain ⟨kx, hkx1, hkx⟩ := pool_get (X := hX G E0 ad (Hs_cm S (H_cm S + 1))) (g := cutE (Hs_cm S (H_cm S + 1))) hxL
  have hkx12 := hlen (Hs_cm S (H_cm S + 1))
  have hL12 : 3 < (wH G E0 ad (Hs_cm S (H_cm S + 1))).length := by
    unfold wH; rw [List.length_append]; omega
  -- behind a growth: the old array is left out, the new one takes its place
  have fin : ∀ (q : Nat) (n1 : Nat) (f1 : Nat → Option Nat) (b : Nat × va_E), lnew (H_ca S) (H_cs S).toNatClampNeg x q = (q, n1, f1) → ∃ w', (∀ z ∈ w', z ∈ (wH G E0 ad (Hs_cm S (H_cm S + 1))).set 3 (ad 1, .inr (4, [.int (H_cm S + 1), .ref q, .int (H_cs S + 1)])) ++ [((q, .inl (G.2 3, n1, .inr (.inr (.inr (.inr f1))))) : Nat × va_E)]) ∧ (((((wH G E0 ad (Hs_cm S (H_cm S + 1))).set 3 (ad 1, .inr (4, [.int (H_cm S + 1), .ref q, .int (H_cs S + 1)])) ++ [((q, .inl (G.2 3, n1, .inr (.inr (.inr (.inr f1))))) : Nat × va_E)]).map Prod.fst)).Nodup → (w'.map Prod.fst).Nodup) ∧ w' = wH G E0 ad (Haddc S x q) := by
    intro q n1 f1 b hl
    have e1 : (wH G E0 ad (Hs_cm S (H_cm S + 1))).set 3 (ad 1, .inr (4, [.int (H_cm S + 1), .ref q, .int (H_cs S + 1)])) = (hB G E0 ad (Haddc S x q) ++ (alc G (H_ca S) ++ alc G (H_ra S))) ++ va_pl (H_L S) (cutE S) := by
      unfold Haddc
      rw [hl, hB_3c, wH_1c, set_l3 (by show 3 < 12; omega)]
      rfl
    have e3 : wH G E0 ad (Haddc S x q) = (hB G E0 ad (Haddc S x q) ++ ([((q, .inl (G.2 3, n1, .inr (.inr (.inr (.inr f1))))) : Nat × va_E)] ++ alc G (H_ra S))) ++ va_pl (H_L S) (cutE S) := by
      unfold Haddc
      rw [hl, wH_3c]
      rfl
    refine ⟨wH G E0 ad (Haddc S x q), ?_, ?_, rfl⟩
    · rw [e1, e3]
      intro z hz
      simp only [List.mem_append] at hz ⊢
      rcases hz with (h | (h | h)) | h
      · exact Or.inl (Or.inl (Or.inl h))
      · exact Or.inr h
      · exact Or.inl (Or.inl (Or.inr (Or.inr h)))
      · exact Or.inl (Or.inr h)
    · rw [e1, e3]
      simp only [List.map_append]
      exact nd_c _ _ _ _ _
  rcases hr : H_ca S with _ | ⟨a, n, f⟩
  · rw [hr] at hm
    obtain ⟨rfl, rfl, rfl⟩ := hm
    have hsz0 : H_cs S = 0 := hsz
    have e0 : ala E0 (H_ca S) = E0 := by rw [hr]; rfl
    rw [e0] at hk hk1 hw1
    have hgrow := c_grow0 (post := fun v w' => ∃ q : Nat, v = some (.ref q) ∧ w' = ((wH G E0 ad (Hs_cm S (H_cm S + 1))) ++ [((q, .inl (G.2 3, 10, .inr (.inr (.inr (.inr (fun _ => none)))))) : Nat × va_E)]).set 3 (ad 1, .inr (4, [.int (H_cm S + 1), .ref q, .int (H_cs S)]))) hZ hk1 (N := 10) (by
      have := c_growB (l := l) hZ h9 hk1
      rw [hsz0] at this ⊢
      refine CM_sub this (fun v w h => ?_)
      obtain ⟨q, h1, h2⟩ := h
      exact ⟨w, fun _ h => h, fun h => h, q, h1, q, h1, h2⟩)
    have hadd := c_add2G (l := l) (x := x) (n1 := 10) (f1 := fun _ => none) (j1 := (wH G E0 ad (Hs_cm S (H_cm S + 1))).length) (kx := kx) (W1 := fun q => ((wH G E0 ad (Hs_cm S (H_cm S + 1))) ++ [((q, .inl (G.2 3, 10, .inr (.inr (.inr (.inr (fun _ => none)))))) : Nat × va_E)]).set 3 (ad 1, .inr (4, [.int (H_cm S + 1), .ref q, .int (H_cs S)]))) hZ h9 (by omega) hk1 (Or.inl ⟨rfl, hsz0⟩) (CM_sub hgrow (fun v w h => by
        obtain ⟨q, h1, q', h2, h3⟩ := h
        have : q = q' := by rw [h1] at h2; cases h2; rfl
        subst this
        exact ⟨w, fun _ h => h, fun h => h, q, h1, h3⟩)) (fun q => gset_self (app_l hk1)) (fun q => gset_ne (by omega) app_r) (fun q => gset_ne (by omega) (app_l hkx)) (by rw [hsz0]; unfold vp_in; decide)
    refine CM_sub (c_add1 (x := x) (post := fun w' => ∃ q : Nat, w' = (((((wH G E0 ad (Hs_cm S (H_cm S + 1))) ++ [((q, .inl (G.2 3, 10, .inr (.inr (.inr (.inr (fun _ => none)))))) : Nat × va_E)]).set 3 (ad 1, .inr (4, [.int (H_cm S + 1), .ref q, .int (H_cs S)]))).set (wH G E0 ad (Hs_cm S (H_cm S + 1))).length (q, .inl (G.2 3, 10, .inr (.inr (.inr (.inr (va_up (fun _ => none) (H_cs S).toNatClampNeg (some x)))))))).set 3 (ad 1, .inr (4, [.int (H_cm S + 1), .ref q, .int (H_cs S + 1)])))) hZ hk (by rw [← hw1]; exact hadd)) ?_
    rintro v w ⟨h1, q, rfl⟩
    rw [set_app4 hL12]
    have hln : lnew (H_ca S) (H_cs S).toNatClampNeg x q = (q, 10, va_up (fun _ => none) (H_cs S).toNatClampNeg (some x)) := by
      rw [hr, hsz0]; rfl
    obtain ⟨w', g1, g2, g3⟩ := fin q _ _ (0, .inr (0, [])) hln
    exact ⟨w', g1, g2, h1, q, g3⟩
  · rw [hr] at hm
    obtain ⟨hel, hm⟩ := hm
    have e0 : ala E0 (H_ca S) = a := by rw [hr]; rfl
    rw [e0] at hk hk1 hw1
    have hra1 : H_ca (Hs_cm S (H_cm S + 1)) = some (a, n, f) := hr
    obtain ⟨j, hj1, hj2, hj, hset⟩ := wH_caj (G := G) (E0 := E0) (ad := ad) hra1
    have hjl : j < (wH G E0 ad (Hs_cm S (H_cm S + 1))).length := (List.getElem?_eq_some_iff.mp hj).1
    rcases hm with ⟨hcn, hn, rfl, rfl⟩ | ⟨rfl, h2, hn, rfl, rfl⟩
    · have hadd := c_add2A (l := l) hZ h9 (by omega : 3 ≠ j) hk1 hj hkx (by rw [hsz]; exact vp_in_nI hcn (by omega)) (by rw [hsz]; intro h; exact absurd ((nI_eq (by omega) (by omega)).mp h) (by omega))
      refine CM_sub (c_add1 (post := fun w' => w' = wH G E0 ad (Haddc S x 0)) hZ hk (by
        rw [← hw1]
        refine CM_sub hadd (fun v w h => ⟨w, fun _ h => h, fun h => h, h.1, ?_⟩)
        rw [h.2, hset]
        have hln : lnew (H_ca S) (H_cs S).toNatClampNeg x 0 = (a, n, va_up f (H_cs S).toNatClampNeg (some x)) := by
          rw [hr, hsz, nI_clamp (by omega)]
          show (if c < n then _ else _) = _
          rw [if_pos hcn]
        unfold Haddc
        rw [hln, wH_sc]
        rfl)) ?_
      rintro v w ⟨h1, rfl⟩
      exact ⟨_, fun _ h => h, fun h => h, h1, 0, rfl⟩
    · have hgrow := c_grow0 (post := fun v w' => ∃ q : Nat, v = some (.ref q) ∧ w' = ((wH G E0 ad (Hs_cm S (H_cm S + 1))) ++ [((q, .inl (G.2 3, c + c / 2, .inr (.inr (.inr (.inr (va_cpy f (fun _ => none) 0 0 c)))))) : Nat × va_E)]).set 3 (ad 1, .inr (4, [.int (H_cm S + 1), .ref q, .int (H_cs S)]))) hZ hk1 (N := c + c / 2) (by
        have := c_growC (l := l) hZ h9 (by omega : 3 ≠ j) hk1 hj h2 hn (fun q z hz => by
          obtain ⟨k', -, hk'⟩ := pool_get (X := hX G E0 ad (Hs_cm S (H_cm S + 1))) (g := cutE (Hs_cm S (H_cm S + 1))) (hel q z hz)
          exact ⟨k', _, hk'⟩)
        rw [hsz, nI_1]
        rw [hsz] at this
        refine CM_sub this (fun v w h => ?_)
        obtain ⟨q, h1, h2⟩ := h
        exact ⟨w, fun _ h => h, fun h => h, q, h1, q, h1, h2⟩)
      have hadd := c_add2G (l := l) (x := x) (n1 := c + c / 2) (f1 := va_cpy f (fun _ => none) 0 0 c) (j1 := (wH G E0 ad (Hs_cm S (H_cm S + 1))).length) (kx := kx) (W1 := fun q => ((wH G E0 ad (Hs_cm S (H_cm S + 1))) ++ [((q, .inl (G.2 3, c + c / 2, .inr (.inr (.inr (.inr (va_cpy f (fun _ => none) 0 0 c)))))) : Nat × va_E)]).set 3 (ad 1, .inr (4, [.int (H_cm S + 1), .ref q, .int (H_cs S)]))) hZ h9 (by omega) hk1 (Or.inr ⟨j, c, f, hj, hsz⟩) (CM_sub hgrow (fun v w h => by
          obtain ⟨q, h1, q', h2, h3⟩ := h
          have : q = q' := by rw [h1] at h2; cases h2; rfl
          subst this
          exact ⟨w, fun _ h => h, fun h => h, q, h1, h3⟩)) (fun q => gset_self (app_l hk1)) (fun q => gset_ne (by omega) app_r) (fun q => gset_ne (by omega) (app_l hkx)) (by rw [hsz]; exact vp_in_nI (by omega) (by omega))
      refine CM_sub (c_add1 (x := x) (post := fun w' => ∃ q : Nat, w' = (((((wH G E0 ad (Hs_cm S (H_cm S + 1))) ++ [((q, .inl (G.2 3, c + c / 2, .inr (.inr (.inr (.inr (va_cpy f (fun _ => none) 0 0 c)))))) : Nat × va_E)]).set 3 (ad 1, .inr (4, [.int (H_cm S + 1), .ref q, .int (H_cs S)]))).set (wH G E0 ad (Hs_cm S (H_cm S + 1))).length (q, .inl (G.2 3, c + c / 2, .inr (.inr (.inr (.inr (va_up (va_cpy f (fun _ => none) 0 0 c) (H_cs S).toNatClampNeg (some x)))))))).set 3 (ad 1, .inr (4, [.int (H_cm S + 1), .ref q, .int (H_cs S + 1)])))) hZ hk (by rw [← hw1]; exact hadd)) ?_
      rintro v w ⟨h1, q, rfl⟩
      rw [set_app4 hL12]
      have hln : lnew (H_ca S) (H_cs S).toNatClampNeg x q = (q, c + c / 2, va_up (va_cpy f (fun _ => none) 0 0 c) (H_cs S).toNatClampNeg (some x)) := by
        rw [hr, hsz, nI_clamp (by omega)]
        show (if c < c then _ else _) = _
        rw [if_neg (by omega)]
      obtain ⟨w', g1, g2, g3⟩ := fin q _ _ (0, .inr (0, [])) hln
      exact ⟨w', g1, g2, h1, q, g3⟩
end JADH

