theorem tight5_L (n : Nat) (hn : 12 < n) (G2 : tG) (X Y : Nat → Nat) (hX : ∀ j, j < 12 → G2 9 j = nI (X j) ∧ G2 10 j = nI (Y j) ∧ X j ≤ 6 ∧ Y j ≤ 6) (K : Int32 → Int32 → Option Int32) : ∀ c i k acc, i + c = 12 → c < k → acc ≤ 1000 → ∃ m, isMin2 (fun s j => i ≤ s ∧ s < 12 ∧ j < s ∧ ¬ X s = 0 ∧ ¬ X j = 0) (fun s j => dst (X s) (X j) + dst (Y s) (Y j)) acc m ∧ p_X8_tight_L5 n G2 K k (nI i) (encT acc) = K (nI 12) (encT m)
  | 0, i, k, acc, hi, hk, ha => by
    obtain ⟨k, rfl⟩ : ∃ q, k = q + 1 := ⟨k - 1, by omega⟩
    have e : i = 12 := by omega
    subst e
    refine ⟨acc, ⟨Nat.le_refl _, Or.inl rfl, fun s j hj => absurd hj.2.1 (by omega)⟩, ?_⟩
    rw [p_X8_tight_L5, if_pos (by decide)]
  | c + 1, i, k, acc, hi, hk, ha => by
    obtain ⟨k, rfl⟩ : ∃ q, k = q + 1 := ⟨k - 1, by omega⟩
    have hlt : i < 12 := by omega
    have inn := tight13_L G2 X Y hX hlt (fun (z13_0 : Int32) (z13_1 : Int32) => plet (nI i + 1) (fun (x78 : Int32) => p_X8_tight_L5 n G2 K k x78 z13_1)) i 0 n acc (by omega) (by omega) ha
    have e0 : nI 0 = 0 := rfl
    rw [e0] at inn
    obtain ⟨mi, ⟨b1, b2, b3⟩, b4⟩ := inn
    rw [p_X8_tight_L5, if_neg (lt12 hlt), b4, pletE, nI_1]
    obtain ⟨m, ⟨m1, m2, m3⟩, m4⟩ := tight5_L n hn G2 X Y hX K c (i + 1) k mi (by omega) (by omega) (by omega)
    refine ⟨m, ⟨by omega, ?_, fun s j hj => ?_⟩, m4⟩
    · rcases m2 with q | ⟨s, j, q1, q2⟩
      · rcases b2 with y | ⟨j, y1, y2⟩
        · exact Or.inl (q.trans y)
        · exact Or.inr ⟨i, j, ⟨Nat.le_refl i, hlt, y1.2⟩, q.trans y2⟩
      · exact Or.inr ⟨s, j, ⟨by omega, q1.2⟩, q2⟩
    · rcases Nat.eq_or_lt_of_le hj.1 with e | e
      · rw [← e] at hj ⊢
        exact Nat.le_trans m1 (b3 j ⟨Nat.zero_le j, hj.2.2⟩)
      · exact m3 s j ⟨by omega, hj.2⟩
theorem sim_tight {n : Nat} (hn : 5000 ≤ n) : simT_tight n RR := by
  intro F G F2 G2 hR
  obtain ⟨hA, hO, hM, hW, hT, hL, hB, hP⟩ := id hR
  obtain ⟨X, Y, hS, hX⟩ := sgOf hL
  obtain ⟨m, ⟨m1, m2, m3⟩, m4⟩ := least_L n (by omega) G X Y hS (fun (z6_0 : Int32) (z6_1 : Int32) => bi1 ((if z6_1 = 1000 then some ((-6)) else some (z6_1))) (fun (y40_0 : Int32) => some y40_0)) 12 0 n 1000 (by omega) (by omega) (by omega)
  obtain ⟨w, ⟨w1, w2, w3⟩, w4⟩ := tight5_L n (by omega) G2 X Y (fun j hj => ⟨(hX j hj).1, (hX j hj).2, (hS j hj).2.2.1, (hS j hj).2.2.2.1⟩) (fun (z5_0 : Int32) (z5_1 : Int32) => some z5_1) 12 0 n 1000 (by omega) (by omega) (by omega)
  have a : m ≤ w := by
    rcases w2 with q | ⟨s, j, q1, q2⟩
    · omega
    · rw [q2]
      exact m3 j s ⟨Nat.zero_le j, q1.2.2.1, q1.2.1, q1.2.2.2.2, q1.2.2.2.1⟩
  have b : w ≤ m := by
    rcases m2 with q | ⟨s, j, q1, q2⟩
    · omega
    · rw [q2]
      exact w3 j s ⟨Nat.zero_le j, q1.2.2.1, q1.2.1, q1.2.2.2.2, q1.2.2.2.1⟩
  have e : w = m := by omega
  subst e
  unfold p_X7_tight p_X3_leastApart p_X8_tight
  have e7 : p_X3_leastApart_L6 n G (fun (z6_0 : Int32) (z6_1 : Int32) => bi1 ((if z6_1 = 1000 then some ((-6)) else some (z6_1))) (fun (y40_0 : Int32) => some y40_0)) n 0 1000 = some (encT w) := by
    refine m4.trans ?_
    unfold encT
    by_cases q : w = 1000
    · have c : nI w = 1000 := by rw [q]; rfl
      rw [if_pos c, if_pos q, bi1S]
    · have c : ¬ nI w = 1000 := fun z => q ((nI_eq (a := w) (b := 1000) (by omega) (by omega)).1 z)
      rw [if_neg c, if_neg q, bi1S]
  have e8 : p_X8_tight_L5 n G2 (fun (z5_0 : Int32) (z5_1 : Int32) => some z5_1) n 0 (-6) = some (encT w) := w4
  rw [e7, e8, bi1S]
  exact ⟨encT w, rfl, rfl⟩
