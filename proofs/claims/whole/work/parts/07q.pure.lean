/-- the relation at the start: two new objects -/
theorem rr0 : RR F0C G0C F0M G0M := by
  refine ⟨⟨rfl, rfl, rfl, rfl, rfl, rfl, rfl, rfl, rfl, rfl, rfl, rfl⟩, ?_, ⟨rfl, rfl, rfl, ⟨24, by omega, rfl⟩, ?_, ?_, ?_⟩, ⟨rfl, rfl, rfl, 0, 0, 0, by omega, by decide, by decide, rfl, rfl, rfl, fun t ht => absurd ht (by omega), fun t _ _ => ⟨rfl, rfl⟩⟩, ⟨rfl, 0, by omega, rfl, fun j hj => absurd hj (by omega)⟩, ⟨rfl, fun j _ => ⟨rfl, rfl, 0, 0, rfl, rfl, Or.inl ⟨rfl, rfl⟩⟩, fun i j _ _ _ q => absurd rfl q, 0, by omega, rfl, fun j hj => absurd hj (by omega)⟩, ⟨rfl, 0, by omega, rfl, fun j hj => absurd hj (by omega), fun i j _ hj => absurd hj (by omega)⟩, Or.inl rfl⟩
  · refine ⟨?_, ?_, ?_, ?_, ?_, ?_, ?_, ?_, ?_, ?_, ?_, ?_, ?_, ?_⟩ <;> decide
  · intro j hj
    rcases (show j = 0 ∨ j = 1 ∨ j = 2 ∨ j = 3 ∨ j = 4 ∨ j = 5 by omega) with rfl | rfl | rfl | rfl | rfl | rfl <;>
      exact ⟨rfl, Or.inl rfl, fun q => absurd q (by decide), fun _ => ⟨rfl, rfl, rfl⟩, rfl, Or.inl rfl⟩
  · intro j hj
    rcases (show j = 0 ∨ j = 1 ∨ j = 2 by omega) with rfl | rfl | rfl <;> rfl
  · intro h hh
    rcases (show h = 0 ∨ h = 1 ∨ h = 2 by omega) with rfl | rfl | rfl <;> decide
