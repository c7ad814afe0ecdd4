theorem nI_pos0 {k : Nat} (h : k < 2 ^ 31) : (0 : Int32) < nI k ↔ 0 < k := nI_ltI (a := 0) (by omega) h
theorem nI_le0 {k : Nat} (h : k < 2 ^ 31) : nI k ≤ (0 : Int32) ↔ k = 0 := by
  have q := nI_leI (a := k) (b := 0) h (by omega)
  exact ⟨fun z => by have := q.1 z; omega, fun z => q.2 (by omega)⟩
theorem sim_room {n : Nat} (hn : 5000 ≤ n) : simT_room n RR := by
  intro F G F2 G2 b1 hR
  obtain ⟨hA, hO, hM, hW, hT, hL, hB, hP⟩ := id hR
  obtain ⟨a1, a2, a3, a4, a5, a6, a7, a8, a9, a10, a11, a12⟩ := hA
  obtain ⟨o1, o2, o3, o4, o5, o6, o7, o8, o9, o10, o11, o12, o13, o14⟩ := hO
  have hc : cntNZ (G2 0) 6 = cntNZ (G 0) 6 := cntNZ_cong 6 (fun j hj => (hM.2.2.2.2.1 j hj).1.symm)
  unfold p_X7_room p_X8_room
  rw [withinIf, inIf, countBelow_v (by omega), breathing_v (by omega), hc]
  have hle := cntNZ_le (G 0) 6
  generalize cntNZ (G 0) 6 = k at hle ⊢
  by_cases h1 : b1 < 100
  · simp only [if_pos h1]
    exact ⟨-2, F, G, F2, G2, rfl, rfl, hR⟩
  by_cases h2 : 5000 < b1
  · simp only [if_neg h1, if_pos h2]
    exact ⟨-2, F, G, F2, G2, rfl, rfl, hR⟩
  simp only [if_neg h1, if_neg h2, bi1S]
  by_cases h3 : (0 : Int32) < nI k
  · simp only [if_pos h3]
    exact ⟨-3, F, G, F2, G2, rfl, rfl, hR⟩
  simp only [if_neg h3]
  by_cases h4 : F 2 = 0
  · have h5 : F2 1 ≤ 0 := by rw [← a2, h4]; decide
    simp only [if_pos h4, if_pos h5]
    obtain ⟨q1, q2⟩ := rng (l := 100) (u := 5000) rfl rfl h1 h2
    refine ⟨F 1, _, G, _, G2, rfl, by rw [a1]; rfl, ?_⟩
    have z : (F 2).toInt = 0 := by rw [h4]; rfl
    refine ⟨⟨rfl, a2, rfl, rfl, rfl, rfl, rfl, rfl, rfl, rfl, a11, a12⟩, ?_, hM, hW, hT, hL, hB, hP⟩
    refine ⟨q1, q2, o3, o4, ?_, ?_, ?_, ?_, ?_, ?_, o11, o12, o13, o14⟩
    · show 0 ≤ b1.toInt
      omega
    · show (0 : Int) ≤ (0 : Int32).toInt
      decide
    · show b1.toInt + (0 : Int32).toInt ≤ b1.toInt * (10 + (F 2).toInt) / 10
      have e0 : (0 : Int32).toInt = 0 := rfl
      rw [z, e0]; omega
    · show b1.toInt + (0 : Int32).toInt ≤ 5000 + 500 * (0 : Int32).toInt
      have e0 : (0 : Int32).toInt = 0 := rfl
      rw [e0]; omega
    · show (0 : Int) ≤ (0 : Int32).toInt
      decide
    · show (0 : Int32).toInt ≤ (40 : Int)
      decide
  · have h5 : ¬ F2 1 ≤ 0 := by
      rw [← a2, Int32.le_iff_toInt_le]
      have e0 : (0 : Int32).toInt = 0 := rfl
      rw [e0]
      intro q
      exact h4 (Int32.toInt_inj.1 (by rw [e0]; omega))
    simp only [if_neg h4, if_neg h5]
    exact ⟨-3, F, G, F2, G2, rfl, rfl, hR⟩
theorem outOnly (G : tG) : ((if cntEq (G 0) 2 6 = 0 then (0 : Int32) else 1) = 0) ↔ cntEq (G 0) 2 6 = 0 := by
  by_cases h : cntEq (G 0) 2 6 = 0
  · rw [if_pos h]; exact ⟨fun _ => h, fun _ => rfl⟩
  · rw [if_neg h]; exact ⟨fun q => absurd q one_nz, fun q => absurd q h⟩
theorem sim_hang {n : Nat} (hn : 5000 ≤ n) : simT_hang n RR := by
  intro F G F2 G2 b1 hR
  obtain ⟨hA, hO, hM, hW, hT, hL, hB, hP⟩ := id hR
  obtain ⟨m1, m2, m3, m4, m5, m6, m7⟩ := hM
  have hc : cntEq (G2 0) 2 6 = cntEq (G 0) 2 6 := cntEq_cong 6 (fun j hj => (m5 j hj).1.symm)
  unfold p_X7_hang p_X8_hang
  simp only [isSquare7, isSquare8, withinIf, inIf]
  rw [anyOut_v (by omega), outside_v (by omega), hc]
  have hle := cntEq_le (G 0) 2 6
  by_cases h1 : b1 < 0
  · simp only [if_pos h1]
    exact ⟨-1, F, G, F2, G2, rfl, rfl, hR⟩
  by_cases h2 : 48 < b1
  · simp only [if_neg h1, if_pos h2]
    exact ⟨-1, F, G, F2, G2, rfl, rfl, hR⟩
  simp only [if_neg h1, if_neg h2, bi1S]
  obtain ⟨q, -, q2, q3⟩ := ix_of (m := 0) (n := 48) rfl rfl (by omega) (by omega) h1 h2
  by_cases h3 : cntEq (G 0) 2 6 = 0
  · have c1 := (outOnly G).2 h3
    have c2 := (nI_le0 (k := cntEq (G 0) 2 6) (by omega)).2 h3
    simp only [if_pos c1, if_pos c2]
    refine ⟨F 14, upd F 14 b1, G, upd F2 14 b1, G2, rfl, by rw [m2]; rfl, ?_⟩
    exact ⟨hA, hO, ⟨m1, rfl, m3, ⟨q, q2, q3⟩, m5, m6, m7⟩, hW, hT, hL, hB, hP⟩
  · have c1 : ¬ (if cntEq (G 0) 2 6 = 0 then (0 : Int32) else 1) = 0 := fun z => h3 ((outOnly G).1 z)
    have c2 : ¬ nI (cntEq (G 0) 2 6) ≤ 0 := fun z => h3 ((nI_le0 (by omega)).1 z)
    simp only [if_neg c1, if_neg c2]
    exact ⟨-3, F, G, F2, G2, rfl, rfl, hR⟩
theorem thing_ix {a : Int32} {c : Nat} (hc : c ≤ 12) (h1 : ¬ a < 0) (h2 : ¬ nI c - 1 < a) : ∃ t : Nat, t < c ∧ a = nI t := by
  have e1 : (nI c - nI 1).toInt = (c : Int) - 1 := pk_sub_toInt (by omega) (by omega)
  have e1' : (nI c - 1).toInt = (c : Int) - 1 := e1
  rw [Int32.lt_iff_toInt_lt] at h1 h2
  have e0 : (0 : Int32).toInt = 0 := rfl
  rw [e0] at h1
  rw [e1'] at h2
  refine ⟨a.toInt.toNat, by omega, ?_⟩
  apply Int32.toInt_inj.1
  rw [nI_toInt (by omega)]; omega
theorem RMen_task {F : tF} {G : tG} {F2 : tF} {G2 : tG} {k : Nat} {y : Int32} (hk : k < 6) (hM : RMen F G F2 G2) (hy : y = -6 ∨ ∃ t : Nat, nI t < F 15 ∧ t < 12 ∧ y = nI t) : RMen F (stG G 4 (nI k) y) F2 (stG G2 4 (nI k) y) := by
  obtain ⟨m1, m2, m3, m4, m5, m6, m7⟩ := hM
  refine ⟨m1, m2, m3, m4, ?_, m6, m7⟩
  intro j hj
  obtain ⟨r0, r1, r2, r3, r4, r5⟩ := m5 j hj
  have ecl : (nI k).toNatClampNeg = k := nI_clamp (by omega)
  refine ⟨r0, r1, r2, r3, ?_, ?_⟩
  · show upd (G 4) (nI k).toNatClampNeg y j = upd (G2 4) (nI k).toNatClampNeg y j
    rw [ecl]
    by_cases e : j = k
    · rw [e, pk_us, pk_us]
    · rw [pk_un e, pk_un e]; exact r4
  · show upd (G 4) (nI k).toNatClampNeg y j = -6 ∨ ∃ t : Nat, nI t < F 15 ∧ t < 12 ∧ upd (G 4) (nI k).toNatClampNeg y j = nI t
    rw [ecl]
    by_cases e : j = k
    · rw [e, pk_us]; exact hy
    · rw [pk_un e]; exact r5
theorem sim_work (n : Nat) : simT_work n RR := by
  intro F G F2 G2 b1 b2 hR
  obtain ⟨hA, hO, hM, hW, hT, hL, hB, hP⟩ := id hR
  obtain ⟨w1, w2, w3, c, ra, ta, hc, hra, hta, w4, w5, w6, w7, w8⟩ := hW
  unfold p_X7_work p_X8_work
  simp only [isMan7, isMan8, has7, isThing8, withinIf, inIf]
  by_cases h1 : b1 < 0
  · simp only [if_pos h1]
    exact ⟨-1, F, G, F2, G2, rfl, rfl, hR⟩
  by_cases h2 : 5 < b1
  · simp only [if_neg h1, if_pos h2]
    exact ⟨-1, F, G, F2, G2, rfl, rfl, hR⟩
  simp only [if_neg h1, if_neg h2]
  obtain ⟨k, -, hk, ek⟩ := ix_of (m := 0) (n := 5) rfl rfl (by omega) (by omega) h1 h2
  subst ek
  have i1 : inB (nI k) 6 = true := inBT (by omega) (by omega)
  have ecl : (nI k).toNatClampNeg = k := nI_clamp (by omega)
  have r4 : G 4 k = G2 4 k := (hM.2.2.2.2.1 k (by omega)).2.2.2.2.1
  simp only [i1, oguardT, ecl, pletE]
  by_cases h3 : b2 = -1
  · simp only [if_pos h3, bi1S]
    exact ⟨G 4 k, F, stG G 4 (nI k) (-6), F2, stG G2 4 (nI k) (-6), rfl, by rw [r4], hA, hO, RMen_task (by omega) hM (Or.inl rfl), ⟨w1, w2, w3, c, ra, ta, hc, hra, hta, w4, w5, w6, w7, w8⟩, hT, hL, hB, hP⟩
  simp only [if_neg h3, bi1S, ← w1]
  by_cases h4 : b2 < 0
  · simp only [if_pos h4]
    exact ⟨-1, F, G, F2, G2, rfl, rfl, hR⟩
  by_cases h5 : F 15 - 1 < b2
  · simp only [if_neg h4, if_pos h5]
    exact ⟨-1, F, G, F2, G2, rfl, rfl, hR⟩
  simp only [if_neg h4, if_neg h5]
  obtain ⟨t, ht, et⟩ := thing_ix hc h4 (w4 ▸ h5)
  refine ⟨G 4 k, F, stG G 4 (nI k) b2, F2, stG G2 4 (nI k) b2, rfl, by rw [r4], hA, hO, RMen_task (by omega) hM (Or.inr ⟨t, ?_, by omega, et⟩), ⟨w1, w2, w3, c, ra, ta, hc, hra, hta, w4, w5, w6, w7, w8⟩, hT, hL, hB, hP⟩
  rw [w4]; exact nI_lt ht (by omega)
