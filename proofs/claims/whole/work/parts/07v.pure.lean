/-- m is acc, or a value of f at a place of S below it, and no more than any -/
def isMin (S : Nat → Prop) (f : Nat → Nat) (acc m : Nat) : Prop := m ≤ acc ∧ (m = acc ∨ ∃ j, S j ∧ m = f j) ∧ ∀ j, S j → m ≤ f j
theorem behind_L (G : tG) (X Y : Nat → Nat) (hS : Sg G X Y) {s : Nat} (hs : s < 12) : ∀ c i k acc, i + c = 12 → c < k → acc ≤ 1000 → ∃ m, isMin (fun j => i ≤ j ∧ j < 12 ∧ ¬ X j = 0) (fun j => dst (X j) (X s) + dst (Y j) (Y s)) acc m ∧ p_X3_fromSignsBehind_L8 G (nI s) (fun _ z => some z) k (nI i) (nI acc) = some (nI m)
  | 0, i, k, acc, hi, hk, ha => by
    obtain ⟨k, rfl⟩ : ∃ q, k = q + 1 := ⟨k - 1, by omega⟩
    have e : i = 12 := by omega
    subst e
    refine ⟨acc, ⟨Nat.le_refl _, Or.inl rfl, fun j hj => absurd hj.2.1 (by omega)⟩, ?_⟩
    rw [p_X3_fromSignsBehind_L8, if_pos (by decide)]
  | c + 1, i, k, acc, hi, hk, ha => by
    obtain ⟨k, rfl⟩ : ∃ q, k = q + 1 := ⟨k - 1, by omega⟩
    have hlt : i < 12 := by omega
    obtain ⟨g1, g2, g3, g4, g5⟩ := hS i hlt
    obtain ⟨s1, s2, s3, s4, s5⟩ := hS s hs
    rw [p_X3_fromSignsBehind_L8, if_neg (lt12 hlt), isSet_v G hlt, bi1S, g1]
    by_cases z : X i = 0
    · rw [if_pos ((nI0 (by omega)).2 z), if_pos rfl, bi1S, pletE, nI_1]
      obtain ⟨m, ⟨m1, m2, m3⟩, m4⟩ := behind_L G X Y hS hs c (i + 1) k acc (by omega) (by omega) ha
      refine ⟨m, ⟨m1, ?_, fun j hj => ?_⟩, m4⟩
      · rcases m2 with q | ⟨j, q1, q2⟩
        · exact Or.inl q
        · exact Or.inr ⟨j, ⟨by omega, q1.2⟩, q2⟩
      · have nj : j ≠ i := fun w => hj.2.2 (w ▸ z)
        exact m3 j ⟨by omega, hj.2⟩
    · have c1 : ¬ nI (X i) = 0 := fun w => z ((nI0 (by omega)).1 w)
      rw [if_neg c1, if_neg one_nz, inBT hs (by omega), oguardT, oguardT, nI_clamp (by omega), s1, s2, fromSign_v G hlt g1 g2 g3 g4 (by omega) (by omega), bi1S, pletE]
      have hv : dst (X i) (X s) + dst (Y i) (Y s) ≤ 12 := by unfold dst; omega
      by_cases w : dst (X i) (X s) + dst (Y i) (Y s) < acc
      · rw [if_pos (nI_lt w (by omega)), bi1S, pletE, nI_1]
        obtain ⟨m, ⟨m1, m2, m3⟩, m4⟩ := behind_L G X Y hS hs c (i + 1) k (dst (X i) (X s) + dst (Y i) (Y s)) (by omega) (by omega) (by omega)
        refine ⟨m, ⟨by omega, Or.inr ?_, fun j hj => ?_⟩, m4⟩
        · rcases m2 with q | ⟨j, q1, q2⟩
          · exact ⟨i, ⟨Nat.le_refl i, hlt, z⟩, q⟩
          · exact ⟨j, ⟨by omega, q1.2⟩, q2⟩
        · rcases Nat.eq_or_lt_of_le hj.1 with e | e
          · rw [← e]; exact m1
          · exact m3 j ⟨by omega, hj.2⟩
      · rw [if_neg (nI_nlt (by omega) (by omega)), bi1S, pletE, nI_1]
        obtain ⟨m, ⟨m1, m2, m3⟩, m4⟩ := behind_L G X Y hS hs c (i + 1) k acc (by omega) (by omega) ha
        refine ⟨m, ⟨m1, ?_, fun j hj => ?_⟩, m4⟩
        · rcases m2 with q | ⟨j, q1, q2⟩
          · exact Or.inl q
          · exact Or.inr ⟨j, ⟨by omega, q1.2⟩, q2⟩
        · rcases Nat.eq_or_lt_of_le hj.1 with e | e
          · rw [← e]; exact Nat.le_trans m1 (show acc ≤ dst (X i) (X s) + dst (Y i) (Y s) by omega)
          · exact m3 j ⟨by omega, hj.2⟩
