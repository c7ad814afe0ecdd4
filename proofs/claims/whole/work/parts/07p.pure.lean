theorem sim_sign {n : Nat} (hn : 5000 ≤ n) : simT_sign n RR := by
  intro F G F2 G2 b1 b2 b3 hR
  obtain ⟨hA, hO, hM, hW, hT, hL, hB, hP⟩ := id hR
  obtain ⟨X, Y, hS, hX⟩ := sgOf hL
  unfold p_X7_sign p_X8_sign
  simp only [withinIf, inIf, tugsIf]
  by_cases h1 : b1 < 0
  · simp only [if_pos h1]
    exact ⟨-1, F, G, F2, G2, rfl, rfl, hR⟩
  by_cases h2 : 11 < b1
  · simp only [if_neg h1, if_pos h2]
    exact ⟨-1, F, G, F2, G2, rfl, rfl, hR⟩
  simp only [if_neg h1, if_neg h2]
  obtain ⟨s, -, hs, es⟩ := ix_of (m := 0) (n := 11) rfl rfl (by omega) (by omega) h1 h2
  subst es
  have hs12 : s < 12 := by omega
  have i1 : inB (nI s) 12 = true := inBT hs12 (by omega)
  by_cases hz : b2 = 0 ∧ b3 = 0
  · obtain ⟨z2, z3⟩ := hz
    subst z2
    subst z3
    obtain ⟨k, rfl⟩ : ∃ q, n = q + 1 := ⟨n - 1, by omega⟩
    rw [if_pos rfl, if_pos rfl, if_pos rfl, if_pos rfl, put7 F G hs12, bi2S, bi1S, if_neg one_nz, p_X8_sign_L58, if_neg (by decide), if_neg one_nz, i1]
    exact ⟨1, F, stG (stG G 16 (nI s) 0) 17 (nI s) 0, F2, stG (stG G2 9 (nI s) 0) 10 (nI s) 0, rfl, rfl, hA, hO, hM, hW, hT, putR (u := 0) (v := 0) hs12 (Or.inl ⟨rfl, rfl⟩) hL (fun w => absurd rfl w), hB, hP⟩
  · have ey : (if b2 = 0 then if b3 = 0 then some (1 : Int32) else some 0 else some 0) = some 0 := by
      by_cases z2 : b2 = 0
      · have z3 : ¬ b3 = 0 := fun w => hz ⟨z2, w⟩
        rw [if_pos z2, if_neg z3]
      · rw [if_neg z2]
    rw [ey, bi1S, if_pos rfl]
    have eif : ∀ (P Q : Option (Int32 × tF × tG)), (if b2 = 0 then if b3 = 0 then P else Q else Q) = Q := by
      intro P Q
      by_cases z2 : b2 = 0
      · have z3 : ¬ b3 = 0 := fun w => hz ⟨z2, w⟩
        rw [if_pos z2, if_neg z3]
      · rw [if_neg z2]
    rw [eif]
    by_cases h3 : b2 < 1
    · rw [if_pos h3, if_pos h3]
      exact ⟨-2, F, G, F2, G2, rfl, rfl, hR⟩
    by_cases h4 : 6 < b2
    · rw [if_neg h3, if_pos h4, if_neg h3, if_pos h4]
      exact ⟨-2, F, G, F2, G2, rfl, rfl, hR⟩
    rw [if_neg h3, if_neg h4, if_neg h3, if_neg h4]
    by_cases h5 : b3 < 1
    · rw [if_pos h5, if_pos h5]
      exact ⟨-2, F, G, F2, G2, rfl, rfl, hR⟩
    by_cases h6 : 6 < b3
    · rw [if_neg h5, if_pos h6, if_neg h5, if_pos h6]
      exact ⟨-2, F, G, F2, G2, rfl, rfl, hR⟩
    rw [if_neg h5, if_neg h6, if_neg h5, if_neg h6]
    obtain ⟨u, u1, u2, u3⟩ := ix_of (m := 1) (n := 6) rfl rfl (by omega) (by omega) h3 h4
    obtain ⟨v, v1, v2, v3⟩ := ix_of (m := 1) (n := 6) rfl rfl (by omega) (by omega) h5 h6
    subst u3
    subst v3
    have so := signOf_L G X Y hS (u := u) (v := v) (by omega) (by omega) 12 0 n (by omega) (by omega)
    have e0 : nI 0 = 0 := rfl
    rw [e0] at so
    have sl := fun K => sign58_L F2 G2 X Y (fun j hj => ⟨(hX j hj).1, (hX j hj).2, (hS j hj).2.2.1, (hS j hj).2.2.2.1⟩) hs12 (u := u) (v := v) (by omega) (by omega) K 12 0 n (by omega) (by omega)
    rw [e0] at sl
    have one : ∀ i j, i < 12 → j < 12 → X i = u → Y i = v → X j = u → Y j = v → i = j := by
      intro i j hi hj a1 a2 a3 a4
      rcases Nat.decEq i j with ne | e
      · exfalso
        have q := hL.2.2.1 i j hi hj ne
        rw [(hS i hi).1, (hS j hj).1, (hS i hi).2.1, (hS j hj).2.1, a1, a2, a3, a4] at q
        exact q (fun w => absurd ((nI0 (by omega)).1 w) (by omega)) ⟨rfl, rfl⟩
      · exact e
    have good : (∀ l, l < 12 → l ≠ s → ¬ (X l = u ∧ Y l = v)) → ¬ u = 0 → ∀ l, l < 12 → l ≠ s → ¬ (G 16 l = nI u ∧ G 17 l = nI v) := by
      intro q _ l hl hls w
      rw [(hS l hl).1, (hS l hl).2.1] at w
      have g3 := (hS l hl).2.2.1
      have g4 := (hS l hl).2.2.2.1
      exact q l hl hls ⟨(nI_eq (by omega) (by omega)).1 w.1, (nI_eq (by omega) (by omega)).1 w.2⟩
    have nm6 : ∀ j, j < 12 → ¬ nI j = -6 := by
      intro j hj q
      have e := congrArg Int32.toInt q
      rw [nI_toInt (by omega)] at e
      have e6 : (-6 : Int32).toInt = -6 := rfl
      rw [e6] at e; omega
    unfold p_X3_signOf
    rcases sl (fun (z58_0 : Int32) => oguard (inB (nI s) 12) (plet (stG G2 9 (nI s) (nI u)) (fun (G113 : tG) => oguard (inB (nI s) 12) (plet (stG G113 10 (nI s) (nI v)) (fun (G120 : tG) => some (1, F2, G120)))))) with ⟨⟨l, l1, l2, l3, l4, l5⟩, l6⟩ | ⟨l1, l2⟩
    · rw [l6]
      rcases so with ⟨j, j1, j2, j3, j4, j5, j6, j7⟩ | ⟨j1, j2⟩
      · have ej := one j l j2 l2 j4 j5 l4 l5
        have c2 : ¬ nI j = nI s := fun w => l3 (ej ▸ (nI_eq (by omega) (by omega)).1 w)
        rw [j7, bi1S, if_neg (nm6 j j2), if_neg c2]
        exact ⟨-5, F, G, F2, G2, rfl, rfl, hR⟩
      · exact absurd ⟨by omega, l4, l5⟩ (j1 l (by omega) l2)
    · rw [l2, i1]
      have q : RR F (stG (stG G 16 (nI s) (nI u)) 17 (nI s) (nI v)) F2 (stG (stG G2 9 (nI s) (nI u)) 10 (nI s) (nI v)) := ⟨hA, hO, hM, hW, hT, putR hs12 (Or.inr ⟨u1, u2, v1, v2⟩) hL (good (fun l hl => l1 l (by omega) hl)), hB, hP⟩
      rcases so with ⟨j, j1, j2, j3, j4, j5, j6, j7⟩ | ⟨j1, j2⟩
      · have ej : j = s := by
          rcases Nat.decEq j s with ne | e
          · exact absurd ⟨j4, j5⟩ (l1 j (by omega) j2 ne)
          · exact e
        rw [j7, bi1S, if_neg (nm6 j j2), ej, if_pos rfl, put7 F G hs12, bi2S]
        exact ⟨1, F, _, F2, _, rfl, rfl, q⟩
      · rw [j2, bi1S, if_pos rfl, put7 F G hs12, bi2S]
        exact ⟨1, F, _, F2, _, rfl, rfl, q⟩
