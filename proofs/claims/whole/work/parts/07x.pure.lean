/-- the reference's least: -6 for none (1000) -/
def encT (m : Nat) : Int32 := if m = 1000 then -6 else nI m
theorem encT_lt {m : Nat} (h : m ≤ 1000) : encT m < 0 ↔ m = 1000 := by
  unfold encT
  by_cases q : m = 1000
  · rw [if_pos q]; exact ⟨fun _ => q, fun _ => by decide⟩
  · rw [if_neg q]; exact ⟨fun w => absurd w (nI_pos (by omega)), fun w => absurd w q⟩
theorem tight13_L (G2 : tG) (X Y : Nat → Nat) (hX : ∀ j, j < 12 → G2 9 j = nI (X j) ∧ G2 10 j = nI (Y j) ∧ X j ≤ 6 ∧ Y j ≤ 6) {s : Nat} (hs : s < 12) (K : Int32 → Int32 → Option Int32) : ∀ c i k acc, i + c = s → c < k → acc ≤ 1000 → ∃ m, isMin (fun j => i ≤ j ∧ j < s ∧ ¬ X s = 0 ∧ ¬ X j = 0) (fun j => dst (X s) (X j) + dst (Y s) (Y j)) acc m ∧ p_X8_tight_L13 G2 (nI s) K k (nI i) (encT acc) = K (nI s) (encT m)
  | 0, i, k, acc, hi, hk, ha => by
    obtain ⟨k, rfl⟩ : ∃ q, k = q + 1 := ⟨k - 1, by omega⟩
    have e : i = s := by omega
    subst e
    refine ⟨acc, ⟨Nat.le_refl _, Or.inl rfl, fun j hj => absurd hj.2.1 (by omega)⟩, ?_⟩
    rw [p_X8_tight_L13, if_pos (nI_le (Nat.le_refl i) (by omega))]
  | c + 1, i, k, acc, hi, hk, ha => by
    obtain ⟨k, rfl⟩ : ∃ q, k = q + 1 := ⟨k - 1, by omega⟩
    have hlt : i < 12 := by omega
    obtain ⟨g1, g2, g3, g4⟩ := hX i hlt
    obtain ⟨s1, s2, s3, s4⟩ := hX s hs
    have keep : ¬ (¬ X s = 0 ∧ ¬ X i = 0) → ∃ m, isMin (fun j => i ≤ j ∧ j < s ∧ ¬ X s = 0 ∧ ¬ X j = 0) (fun j => dst (X s) (X j) + dst (Y s) (Y j)) acc m ∧ p_X8_tight_L13 G2 (nI s) K k (nI (i + 1)) (encT acc) = K (nI s) (encT m) := by
      intro no
      obtain ⟨m, ⟨m1, m2, m3⟩, m4⟩ := tight13_L G2 X Y hX hs K c (i + 1) k acc (by omega) (by omega) ha
      refine ⟨m, ⟨m1, ?_, fun j hj => ?_⟩, m4⟩
      · rcases m2 with q | ⟨j, q1, q2⟩
        · exact Or.inl q
        · exact Or.inr ⟨j, ⟨by omega, q1.2⟩, q2⟩
      · have nj : j ≠ i := fun w => no ⟨hj.2.2.1, w ▸ hj.2.2.2⟩
        exact m3 j ⟨by omega, hj.2⟩
    rw [p_X8_tight_L13, if_neg (nI_ge (by omega) (by omega)), inBT hs (by omega), oguardT, nI_clamp (by omega), s1]
    by_cases z : X s = 0
    · rw [if_pos ((nI_le0 (by omega)).2 z), bi1S, pletE, nI_1]
      exact keep (fun w => w.1 z)
    have c1 : ¬ nI (X s) ≤ 0 := fun w => z ((nI_le0 (by omega)).1 w)
    rw [if_neg c1, inBT hlt (by omega), oguardT, nI_clamp (by omega), g1]
    by_cases z2 : X i = 0
    · rw [if_pos ((nI_le0 (by omega)).2 z2), bi1S, pletE, nI_1]
      exact keep (fun w => w.2 z2)
    have c2 : ¬ nI (X i) ≤ 0 := fun w => z2 ((nI_le0 (by omega)).1 w)
    rw [if_neg c2, oguardT, oguardT, g2, apart8_v G2 hs s1 s2 s3 s4 (by omega) (by omega), bi1S]
    have hv : dst (X s) (X i) + dst (Y s) (Y i) ≤ 12 := by unfold dst; omega
    have e1 : (if encT acc < 0 then some (nI (dst (X s) (X i) + dst (Y s) (Y i))) else if encT acc ≤ nI (dst (X s) (X i) + dst (Y s) (Y i)) then some (encT acc) else some (nI (dst (X s) (X i) + dst (Y s) (Y i)))) = some (encT (if dst (X s) (X i) + dst (Y s) (Y i) < acc then dst (X s) (X i) + dst (Y s) (Y i) else acc)) := by
      generalize dst (X s) (X i) + dst (Y s) (Y i) = v at hv
      have ev : encT v = nI v := by unfold encT; rw [if_neg (by omega)]
      by_cases q : acc = 1000
      · rw [if_pos ((encT_lt ha).2 q), if_pos (by omega), ev]
      · have ea : encT acc = nI acc := by unfold encT; rw [if_neg q]
        rw [if_neg (fun w => q ((encT_lt ha).1 w)), ea]
        by_cases w : v < acc
        · rw [if_neg (nI_ge w (by omega)), if_pos w, ev]
        · rw [if_pos (nI_le (by omega) (by omega)), if_neg w, ea]
    rw [e1, bi1S, bi1S, pletE, nI_1]
    have hle : (if dst (X s) (X i) + dst (Y s) (Y i) < acc then dst (X s) (X i) + dst (Y s) (Y i) else acc) ≤ dst (X s) (X i) + dst (Y s) (Y i) ∧ (if dst (X s) (X i) + dst (Y s) (Y i) < acc then dst (X s) (X i) + dst (Y s) (Y i) else acc) ≤ acc := by
      by_cases w : dst (X s) (X i) + dst (Y s) (Y i) < acc
      · rw [if_pos w]; omega
      · rw [if_neg w]; omega
    obtain ⟨m, ⟨m1, m2, m3⟩, m4⟩ := tight13_L G2 X Y hX hs K c (i + 1) k (if dst (X s) (X i) + dst (Y s) (Y i) < acc then dst (X s) (X i) + dst (Y s) (Y i) else acc) (by omega) (by omega) (by omega)
    refine ⟨m, ⟨by omega, ?_, fun j hj => ?_⟩, m4⟩
    · rcases m2 with q | ⟨j, q1, q2⟩
      · by_cases w : dst (X s) (X i) + dst (Y s) (Y i) < acc
        · rw [if_pos w] at q
          exact Or.inr ⟨i, ⟨Nat.le_refl i, by omega, z, z2⟩, q⟩
        · rw [if_neg w] at q
          exact Or.inl q
      · exact Or.inr ⟨j, ⟨by omega, q1.2⟩, q2⟩
    · rcases Nat.eq_or_lt_of_le hj.1 with e | e
      · rw [← e]; exact Nat.le_trans m1 hle.1
      · exact m3 j ⟨by omega, hj.2⟩
