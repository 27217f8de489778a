section START
theorem JI_start {f g f' g' : Nat → UInt64} (h1 : ∀ i, i < 9 → f i = 4611686018427387904) (h2 : ∀ i, i < 8 → g i = 4645744490609377280) (h3 : ∀ i, i < 9 → f' i = 4611686018427387904) (h4 : ∀ i, i < 8 → g' i = 4645744490609377280) : JI 0 (Hinit f g) (M0 f' g') := by
  refine ⟨0, 0, ?_, ?_, ?_, ?_, ?_, ?_, ?_, ?_, ?_, ?_, ?_⟩
  · exact ⟨by omega, rfl, rfl, rfl, List.nodup_nil, .inl ⟨rfl, rfl⟩, fun c hc => absurd hc (by omega)⟩
  · exact fun c hc => absurd hc (by omega)
  · exact fun c _ => ⟨rfl, rfl, rfl, rfl, rfl, rfl⟩
  · exact fun c hc => absurd hc (by omega)
  · exact ⟨⟨rfl, rfl, rfl⟩, fun p _ => ⟨.inl rfl, ⟨0, by omega, rfl⟩, .inl rfl⟩⟩
  · refine ⟨⟨rfl, rfl⟩, dc0_pp, dc0_pp.1, fun r hr => ⟨?_, ?_⟩⟩
    · show f r = f' r
      rw [h1 r hr, h3 r hr]
    · show FP.Core.DFin (f' r)
      rw [h3 r hr]
      exact mb_fin (K := 1040) (by unfold mb; decide) (by omega)
  · refine fun t ht => ⟨?_, ?_⟩
    · show g t = g' t
      rw [h2 t ht, h4 t ht]
    · show nn (g' t)
      rw [h4 t ht]
      exact fin_nn (mb_fin (K := 1040) (by unfold mb; decide) (by omega))
  · exact ⟨⟨rfl, rfl⟩, fun t _ => ⟨0, rfl, Nat.zero_le _⟩⟩
  · exact ⟨rfl, rfl, 0, by omega, rfl, rfl⟩
  · exact ⟨rfl, .inl ⟨rfl, rfl, rfl⟩⟩
  · exact ⟨⟨0, by omega, rfl, fun c hc => absurd hc (by omega)⟩, rfl, rfl⟩
end START
