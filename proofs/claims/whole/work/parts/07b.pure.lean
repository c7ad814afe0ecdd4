theorem isHeard8 (a : Int32) : p_X8_isHeard a = p_X8_in a 0 7 := by
  unfold p_X8_isHeard; rw [inV]; exact congrArg (fun b => oguard b (some (inR a 0 7))) (inR_bt a 0 7)
theorem rng {a lo hi : Int32} {l u : Int} (hl : lo.toInt = l) (hh : hi.toInt = u) (h1 : ¬ a < lo) (h2 : ¬ hi < a) : l ≤ a.toInt ∧ a.toInt ≤ u := by
  rw [Int32.lt_iff_toInt_lt] at h1 h2
  omega
theorem sim_breath (n : Nat) : simT_breath n RR := by
  intro F G F2 G2 b1 hR
  obtain ⟨hA, hO, hM, hW, hT, hL, hB, hP⟩ := id hR
  obtain ⟨a1, a2, a3, a4, a5, a6, a7, a8, a9, a10, a11, a12⟩ := hA
  obtain ⟨o1, o2, o3, o4, o5, o6, o7, o8, o9, o10, o11, o12, o13, o14⟩ := hO
  unfold p_X7_breath p_X8_breath
  rw [withinIf, inIf]
  by_cases h1 : b1 < 1
  · simp only [if_pos h1]
    exact ⟨-2, F, G, F2, G2, rfl, rfl, hR⟩
  by_cases h2 : 30 < b1
  · simp only [if_neg h1, if_pos h2]
    exact ⟨-2, F, G, F2, G2, rfl, rfl, hR⟩
  simp only [if_neg h1, if_neg h2]
  obtain ⟨q1, q2⟩ := rng (l := 1) (u := 30) rfl rfl h1 h2
  refine ⟨F 11, upd F 11 b1, G, upd F2 10 b1, G2, rfl, ?_, ?_⟩
  · rw [a11]; rfl
  · exact ⟨⟨a1, a2, a3, a4, a5, a6, a7, a8, a9, a10, rfl, a12⟩, ⟨o1, o2, o3, o4, o5, o6, o7, o8, o9, o10, q1, q2, o13, o14⟩, hM, hW, hT, hL, hB, hP⟩
theorem sim_limit (n : Nat) : simT_limit n RR := by
  intro F G F2 G2 b1 hR
  obtain ⟨hA, hO, hM, hW, hT, hL, hB, hP⟩ := id hR
  obtain ⟨a1, a2, a3, a4, a5, a6, a7, a8, a9, a10, a11, a12⟩ := hA
  obtain ⟨o1, o2, o3, o4, o5, o6, o7, o8, o9, o10, o11, o12, o13, o14⟩ := hO
  unfold p_X7_limit p_X8_limit
  rw [withinIf, inIf]
  by_cases h1 : b1 < 1
  · simp only [if_pos h1]
    exact ⟨-2, F, G, F2, G2, rfl, rfl, hR⟩
  by_cases h2 : 100 < b1
  · simp only [if_neg h1, if_pos h2]
    exact ⟨-2, F, G, F2, G2, rfl, rfl, hR⟩
  simp only [if_neg h1, if_neg h2]
  obtain ⟨q1, q2⟩ := rng (l := 1) (u := 100) rfl rfl h1 h2
  refine ⟨F 12, upd F 12 b1, G, upd F2 11 b1, G2, rfl, ?_, ?_⟩
  · rw [a12]; rfl
  · exact ⟨⟨a1, a2, a3, a4, a5, a6, a7, a8, a9, a10, a11, rfl⟩, ⟨o1, o2, o3, o4, o5, o6, o7, o8, o9, o10, o11, o12, q1, q2⟩, hM, hW, hT, hL, hB, hP⟩
theorem sim_stay (n : Nat) : simT_stay n RR := by
  intro F G F2 G2 b1 hR
  obtain ⟨hA, hO, hM, hW, hT, hL, hB, hP⟩ := id hR
  obtain ⟨m1, m2, m3, m4, m5, m6, m7⟩ := hM
  unfold p_X7_stay p_X8_stay
  rw [withinIf, inIf]
  by_cases h1 : b1 < 1
  · simp only [if_pos h1]
    exact ⟨-2, F, G, F2, G2, rfl, rfl, hR⟩
  by_cases h2 : 60 < b1
  · simp only [if_neg h1, if_pos h2]
    exact ⟨-2, F, G, F2, G2, rfl, rfl, hR⟩
  simp only [if_neg h1, if_neg h2]
  refine ⟨F 13, upd F 13 b1, G, upd F2 12 b1, G2, rfl, ?_, ?_⟩
  · rw [m1]; rfl
  · exact ⟨hA, hO, ⟨rfl, m2, m3, m4, m5, m6, m7⟩, hW, hT, hL, hB, hP⟩
theorem sim_calm (n : Nat) : simT_calm n RR := by
  intro F G F2 G2 hR
  obtain ⟨hA, hO, hM, hW, hT, hL, hB, hP⟩ := id hR
  obtain ⟨t1, k, hk, t2, t3⟩ := hT
  refine ⟨F 19, upd (upd F 19 0) 18 0, G, upd F2 18 0, G2, rfl, ?_, ?_⟩
  · rw [t1]; rfl
  · exact ⟨hA, hO, hM, hW, ⟨rfl, 0, by omega, rfl, fun j hj => absurd hj (by omega)⟩, hL, hB, Or.inl rfl⟩
theorem sim_tide (n : Nat) : simT_tide n RR := by
  intro F G F2 G2 b1 hR
  obtain ⟨hA, hO, hM, hW, hT, hL, hB, hP⟩ := id hR
  obtain ⟨t1, k, hk, t2, t3⟩ := hT
  unfold p_X7_tide p_X8_tide
  rw [withinIf, inIf]
  by_cases h1 : b1 < 1
  · simp only [if_pos h1]
    exact ⟨-2, F, G, F2, G2, rfl, rfl, hR⟩
  by_cases h2 : 300 < b1
  · simp only [if_neg h1, if_pos h2]
    exact ⟨-2, F, G, F2, G2, rfl, rfl, hR⟩
  simp only [if_neg h1, if_neg h2]
  obtain ⟨q, q1, q2, q3⟩ := ix_of (m := 1) (n := 300) rfl rfl (by omega) (by omega) h1 h2
  have e2 : F2 18 = nI k := t1 ▸ t2
  by_cases h3 : k = 5
  · have c1 : ¬ F 19 < 5 := by rw [t2, h3]; decide
    have c2 : F2 18 = 5 := by rw [e2, h3]; rfl
    simp only [if_neg c1, if_pos c2]
    exact ⟨-4, F, G, F2, G2, rfl, rfl, hR⟩
  · have c1 : F 19 < 5 := by rw [t2]; exact nI_lt (b := 5) (by omega) (by omega)
    have c2 : ¬ F2 18 = 5 := by rw [e2]; exact fun h => h3 ((nI_eq (b := 5) (by omega) (by omega)).1 h)
    have i1 : inB (F 19) 5 = true := by rw [t2]; exact inBT (by omega) (by omega)
    have i2 : inB (F2 18) 5 = true := by rw [e2]; exact inBT (by omega) (by omega)
    simp only [if_pos c1, if_neg c2]
    refine ⟨F 19 + 1, upd (upd F 18 0) 19 (F 19 + 1), stG G 12 (F 19) b1, upd F2 18 (F2 18 + 1), stG G2 8 (F2 18) b1, ?_, ?_, ?_⟩
    · show bi3 (bi3 (oguard (inB (F 19) 5) _) _) _ = _
      rw [i1]; rfl
    · rw [i2, t1]; rfl
    · have ecl : (nI k).toNatClampNeg = k := nI_clamp (by omega)
      refine ⟨hA, hO, hM, hW, ⟨?_, k + 1, by omega, ?_, ?_⟩, hL, hB, Or.inl rfl⟩
      · show F 19 + 1 = F2 18 + 1
        rw [t1]
      · show F 19 + 1 = nI (k + 1)
        rw [t2]; exact nI_1 k
      · intro j hj
        show upd (G 12) (F 19).toNatClampNeg b1 j = upd (G2 8) (F2 18).toNatClampNeg b1 j ∧ ∃ q : Nat, 1 ≤ q ∧ q ≤ 300 ∧ upd (G 12) (F 19).toNatClampNeg b1 j = nI q
        rw [t2, e2, ecl]
        by_cases hjk : j = k
        · rw [hjk, pk_us, pk_us]; exact ⟨rfl, q, q1, q2, q3⟩
        · rw [pk_un hjk, pk_un hjk]; exact t3 j (by omega)
