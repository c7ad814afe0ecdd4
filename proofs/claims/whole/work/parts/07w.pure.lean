def isMin2 (S : Nat → Nat → Prop) (f : Nat → Nat → Nat) (acc m : Nat) : Prop := m ≤ acc ∧ (m = acc ∨ ∃ s j, S s j ∧ m = f s j) ∧ ∀ s j, S s j → m ≤ f s j
theorem least_L (n : Nat) (hn : 12 < n) (G : tG) (X Y : Nat → Nat) (hS : Sg G X Y) (K : Int32 → Int32 → Option Int32) : ∀ c i k acc, i + c = 12 → c < k → acc ≤ 1000 → ∃ m, isMin2 (fun s j => i ≤ s ∧ s < j ∧ j < 12 ∧ ¬ X s = 0 ∧ ¬ X j = 0) (fun s j => dst (X j) (X s) + dst (Y j) (Y s)) acc m ∧ p_X3_leastApart_L6 n G K k (nI i) (nI acc) = K (nI 12) (nI m)
  | 0, i, k, acc, hi, hk, ha => by
    obtain ⟨k, rfl⟩ : ∃ q, k = q + 1 := ⟨k - 1, by omega⟩
    have e : i = 12 := by omega
    subst e
    refine ⟨acc, ⟨Nat.le_refl _, Or.inl rfl, fun s j hj => absurd hj.2.2.1 (by omega)⟩, ?_⟩
    rw [p_X3_leastApart_L6, if_pos (by decide)]
  | c + 1, i, k, acc, hi, hk, ha => by
    obtain ⟨k, rfl⟩ : ∃ q, k = q + 1 := ⟨k - 1, by omega⟩
    have hlt : i < 12 := by omega
    obtain ⟨g1, g2, g3, g4, g5⟩ := hS i hlt
    rw [p_X3_leastApart_L6, if_neg (lt12 hlt), isSet_v G hlt, bi1S, g1]
    by_cases z : X i = 0
    · rw [if_pos ((nI0 (by omega)).2 z), if_pos rfl, bi1S, pletE, nI_1]
      obtain ⟨m, ⟨m1, m2, m3⟩, m4⟩ := least_L n hn G X Y hS K c (i + 1) k acc (by omega) (by omega) ha
      refine ⟨m, ⟨m1, ?_, fun s j hj => ?_⟩, m4⟩
      · rcases m2 with q | ⟨s, j, q1, q2⟩
        · exact Or.inl q
        · exact Or.inr ⟨s, j, ⟨by omega, q1.2⟩, q2⟩
      · have ns : s ≠ i := fun w => hj.2.2.2.1 (w ▸ z)
        exact m3 s j ⟨by omega, hj.2⟩
    · have c1 : ¬ nI (X i) = 0 := fun w => z ((nI0 (by omega)).1 w)
      obtain ⟨mi, ⟨b1, b2, b3⟩, b4⟩ := behind_L G X Y hS hlt (11 - i) (i + 1) n 1000 (by omega) (by omega) (by omega)
      have b5 : p_X3_fromSignsBehind n G (nI i) = some (nI mi) := by
        unfold p_X3_fromSignsBehind
        rw [pletE, nI_1]; exact b4
      rw [if_neg c1, if_neg one_nz, b5, bi1S, pletE, bi1S, pletE, nI_1]
      have e1 : (if nI mi < nI acc then nI mi else nI acc) = nI (if mi < acc then mi else acc) := by
        by_cases w : mi < acc
        · rw [if_pos w, if_pos (nI_lt w (by omega))]
        · rw [if_neg w, if_neg (nI_nlt (by omega) (by omega))]
      rw [e1]
      have hle : (if mi < acc then mi else acc) ≤ mi ∧ (if mi < acc then mi else acc) ≤ acc := by
        by_cases w : mi < acc
        · rw [if_pos w]; omega
        · rw [if_neg w]; omega
      obtain ⟨m, ⟨m1, m2, m3⟩, m4⟩ := least_L n hn G X Y hS K c (i + 1) k (if mi < acc then mi else acc) (by omega) (by omega) (by omega)
      refine ⟨m, ⟨by omega, ?_, fun s j hj => ?_⟩, m4⟩
      · rcases m2 with q | ⟨s, j, q1, q2⟩
        · by_cases w : mi < acc
          · rw [if_pos w] at q
            rcases b2 with y | ⟨j, y1, y2⟩
            · omega
            · exact Or.inr ⟨i, j, ⟨Nat.le_refl i, by omega, y1.2.1, z, y1.2.2⟩, q.trans y2⟩
          · rw [if_neg w] at q
            exact Or.inl q
        · exact Or.inr ⟨s, j, ⟨by omega, q1.2⟩, q2⟩
      · rcases Nat.eq_or_lt_of_le hj.1 with e | e
        · rw [← e] at hj ⊢
          exact Nat.le_trans (Nat.le_trans m1 hle.1) (b3 j ⟨by omega, hj.2.2.1, hj.2.2.2.2⟩)
        · exact m3 s j ⟨by omega, hj.2⟩
