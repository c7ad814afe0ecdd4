theorem sim_thing (n : Nat) : simT_thing n RR := by
  intro F G F2 G2 b1 b2 b3 b4 hR
  obtain ⟨hA, hO, hM, hW, hT, hL, hB, hP⟩ := id hR
  obtain ⟨w1, w2, w3, c, ra, ta, hc, hra, hta, w4, w5, w6, w7, w8⟩ := hW
  unfold p_X7_thing p_X8_thing
  simp only [isSquare7, isSquare8, withinIf, inIf]
  by_cases h1 : b1 < 0
  · simp only [if_pos h1]
    exact ⟨-1, F, G, F2, G2, rfl, rfl, hR⟩
  by_cases h2 : 48 < b1
  · simp only [if_neg h1, if_pos h2]
    exact ⟨-1, F, G, F2, G2, rfl, rfl, hR⟩
  simp only [if_neg h1, if_neg h2]
  by_cases h3 : b2 < 0
  · simp only [if_pos h3]
    exact ⟨-2, F, G, F2, G2, rfl, rfl, hR⟩
  by_cases h4 : 1000 < b2
  · simp only [if_neg h3, if_pos h4]
    exact ⟨-2, F, G, F2, G2, rfl, rfl, hR⟩
  simp only [if_neg h3, if_neg h4]
  by_cases h5 : b3 < 1
  · simp only [if_pos h5]
    exact ⟨-2, F, G, F2, G2, rfl, rfl, hR⟩
  by_cases h6 : 200 < b3
  · simp only [if_neg h5, if_pos h6]
    exact ⟨-2, F, G, F2, G2, rfl, rfl, hR⟩
  simp only [if_neg h5, if_neg h6]
  by_cases h7 : b4 < 0
  · simp only [if_pos h7]
    exact ⟨-2, F, G, F2, G2, rfl, rfl, hR⟩
  by_cases h8 : 100 < b4
  · simp only [if_neg h7, if_pos h8]
    exact ⟨-2, F, G, F2, G2, rfl, rfl, hR⟩
  simp only [if_neg h7, if_neg h8]
  obtain ⟨wv, -, wv2, wv3⟩ := ix_of (m := 0) (n := 1000) rfl rfl (by omega) (by omega) h3 h4
  obtain ⟨kv, kv1, kv2, kv3⟩ := ix_of (m := 1) (n := 200) rfl rfl (by omega) (by omega) h5 h6
  obtain ⟨ov, -, ov2, ov3⟩ := ix_of (m := 0) (n := 100) rfl rfl (by omega) (by omega) h7 h8
  have e15 : F2 15 = nI c := w1 ▸ w4
  by_cases h9 : c = 12
  · have c1 : ¬ F 15 < 12 := by rw [w4, h9]; decide
    have c2 : F2 15 = 12 := by rw [e15, h9]; rfl
    simp only [if_neg c1, if_pos c2]
    exact ⟨-4, F, G, F2, G2, rfl, rfl, hR⟩
  have c1 : F 15 < 12 := by rw [w4]; exact nI_lt (b := 12) (by omega) (by omega)
  have c2 : ¬ F2 15 = 12 := by rw [e15]; exact fun z => h9 ((nI_eq (b := 12) (by omega) (by omega)).1 z)
  simp only [if_pos c1, if_neg c2]
  have i1 : inB (F 15) 12 = true := by rw [w4]; exact inBT (by omega) (by omega)
  have i2 : inB (F2 15) 12 = true := by rw [e15]; exact inBT (by omega) (by omega)
  have x0 : 5 * F2 15 = nI (5 * c) := by rw [e15]; exact pk_mul 5 c
  have x1 : nI (5 * c) + 1 = nI (5 * c + 1) := nI_add _ 1
  have x2 : nI (5 * c) + 2 = nI (5 * c + 2) := nI_add _ 2
  have x3 : nI (5 * c) + 3 = nI (5 * c + 3) := nI_add _ 3
  have x4 : nI (5 * c) + 4 = nI (5 * c + 4) := nI_add _ 4
  have ea : p_X6_add F G b1 b2 b3 b4 = some (F 15, upd (upd F 15 (F 15 + 1)) 18 0, stG (stG (stG (stG G 6 (F 15) b1) 7 (F 15) b2) 8 (F 15) b3) 9 (F 15) b4) := by
    unfold p_X6_add
    rw [pletE, i1]; rfl
  rw [ea, bi3S, pletE, x0, x1, x2, x3, x4, inBT (by omega) (by omega), inBT (by omega) (by omega), inBT (by omega) (by omega), inBT (by omega) (by omega), inBT (by omega) (by omega), i2]
  obtain ⟨Gc, eGc⟩ : ∃ z : tG, z = stG (stG (stG (stG G 6 (F 15) b1) 7 (F 15) b2) 8 (F 15) b3) 9 (F 15) b4 := ⟨_, rfl⟩
  obtain ⟨Gm, eGm⟩ : ∃ z : tG, z = stG (stG (stG (stG (stG (stG G2 6 (nI (5 * c)) b1) 6 (nI (5 * c + 1)) b2) 6 (nI (5 * c + 2)) b3) 6 (nI (5 * c + 3)) b4) 6 (nI (5 * c + 4)) 0) 7 (F2 15) 0 := ⟨_, rfl⟩
  refine ⟨F 15, upd (upd F 15 (F 15 + 1)) 18 0, Gc, upd F2 15 (F2 15 + 1), Gm, by rw [eGc], ?_, ?_⟩
  · have r : F2 15 + 1 - 1 = F 15 := by rw [e15, nI_1, nI_pred, w4]
    rw [eGm, ← r]; rfl
  have cl : (nI c).toNatClampNeg = c := nI_clamp (by omega)
  have y0 : (nI (5 * c)).toNatClampNeg = 5 * c := nI_clamp (by omega)
  have y1 : (nI (5 * c + 1)).toNatClampNeg = 5 * c + 1 := nI_clamp (by omega)
  have y2 : (nI (5 * c + 2)).toNatClampNeg = 5 * c + 2 := nI_clamp (by omega)
  have y3 : (nI (5 * c + 3)).toNatClampNeg = 5 * c + 3 := nI_clamp (by omega)
  have y4 : (nI (5 * c + 4)).toNatClampNeg = 5 * c + 4 := nI_clamp (by omega)
  have g6 : Gc 6 = upd (G 6) c b1 := by rw [eGc]; show upd (G 6) (F 15).toNatClampNeg b1 = _; rw [w4, cl]
  have g7 : Gc 7 = upd (G 7) c b2 := by rw [eGc]; show upd (G 7) (F 15).toNatClampNeg b2 = _; rw [w4, cl]
  have g8 : Gc 8 = upd (G 8) c b3 := by rw [eGc]; show upd (G 8) (F 15).toNatClampNeg b3 = _; rw [w4, cl]
  have g9 : Gc 9 = upd (G 9) c b4 := by rw [eGc]; show upd (G 9) (F 15).toNatClampNeg b4 = _; rw [w4, cl]
  have g10 : Gc 10 = G 10 := by rw [eGc]; rfl
  have g11 : Gc 11 = G 11 := by rw [eGc]; rfl
  have u6 : Gm 6 = upd (upd (upd (upd (upd (G2 6) (5 * c) b1) (5 * c + 1) b2) (5 * c + 2) b3) (5 * c + 3) b4) (5 * c + 4) 0 := by
    rw [eGm]
    show upd (upd (upd (upd (upd (G2 6) (nI (5 * c)).toNatClampNeg b1) (nI (5 * c + 1)).toNatClampNeg b2) (nI (5 * c + 2)).toNatClampNeg b3) (nI (5 * c + 3)).toNatClampNeg b4) (nI (5 * c + 4)).toNatClampNeg 0 = _
    rw [y0, y1, y2, y3, y4]
  have u7 : Gm 7 = upd (G2 7) c 0 := by rw [eGm]; show upd (G2 7) (F2 15).toNatClampNeg 0 = _; rw [e15, cl]
  have pw : 2 ^ c < 2 ^ (c + 1) := Nat.pow_lt_pow_right (by omega) (by omega)
  refine ⟨hA, hO, ?_, ⟨?_, w2, w3, c + 1, ra, ta, by omega, by omega, by omega, ?_, w5, w6, ?_, ?_⟩, ?_, ?_, ?_, Or.inl rfl⟩
  · obtain ⟨m1, m2, m3, m4, m5, m6, m7⟩ := hM
    rw [eGc, eGm]
    refine ⟨m1, m2, m3, m4, ?_, m6, m7⟩
    intro j hj
    obtain ⟨r0, r1, r2, r3, r4, r5⟩ := m5 j hj
    refine ⟨r0, r1, r2, r3, r4, ?_⟩
    rcases r5 with r5 | ⟨t, t1, t2, t3⟩
    · exact Or.inl r5
    · refine Or.inr ⟨t, ?_, t2, t3⟩
      show nI t < F 15 + 1
      rw [w4] at t1 ⊢
      rw [nI_1]
      exact nI_lt (by have := (nI_ltI (a := t) (b := c) (by omega) (by omega)).1 t1; omega) (by omega)
  · show F 15 + 1 = F2 15 + 1
    rw [w1]
  · show F 15 + 1 = nI (c + 1)
    rw [w4]; exact nI_1 c
  · intro t ht
    unfold RThing
    rw [g6, g7, g8, g9, g10, g11, u6, u7]
    by_cases e : t = c
    · subst e
      obtain ⟨z10, z11⟩ := w8 t (by omega) (by omega)
      rw [pk_us, pk_us, pk_us, pk_us, pk_us]
      rw [pk_un (show 5 * t ≠ 5 * t + 4 by omega), pk_un (show 5 * t ≠ 5 * t + 3 by omega), pk_un (show 5 * t ≠ 5 * t + 2 by omega), pk_un (show 5 * t ≠ 5 * t + 1 by omega), pk_us]
      rw [pk_un (show 5 * t + 1 ≠ 5 * t + 4 by omega), pk_un (show 5 * t + 1 ≠ 5 * t + 3 by omega), pk_un (show 5 * t + 1 ≠ 5 * t + 2 by omega), pk_us]
      rw [pk_un (show 5 * t + 2 ≠ 5 * t + 4 by omega), pk_un (show 5 * t + 2 ≠ 5 * t + 3 by omega), pk_us]
      rw [pk_un (show 5 * t + 3 ≠ 5 * t + 4 by omega), pk_us, pk_us]
      refine ⟨rfl, rfl, rfl, rfl, z10, z11, wv, ov, kv, 0, 0, wv2, ov2, kv1, kv2, by omega, Nat.two_pow_pos _, wv3, ov3, kv3, z10, z11, ?_⟩
      rw [Nat.testBit_lt_two_pow hra]
      exact ⟨fun q => absurd q (by decide), fun q => absurd q (by omega)⟩
    · obtain ⟨s1, s2, s3, s4, s5, s6, w, o, k, d, u, s7, s8, s9, s10, s11, s12, s13⟩ := w7 t (by omega)
      rw [pk_un e, pk_un e, pk_un e, pk_un e, pk_un e]
      rw [pk_un (show 5 * t ≠ 5 * c + 4 by omega), pk_un (show 5 * t ≠ 5 * c + 3 by omega), pk_un (show 5 * t ≠ 5 * c + 2 by omega), pk_un (show 5 * t ≠ 5 * c + 1 by omega), pk_un (show 5 * t ≠ 5 * c by omega)]
      rw [pk_un (show 5 * t + 1 ≠ 5 * c + 4 by omega), pk_un (show 5 * t + 1 ≠ 5 * c + 3 by omega), pk_un (show 5 * t + 1 ≠ 5 * c + 2 by omega), pk_un (show 5 * t + 1 ≠ 5 * c + 1 by omega), pk_un (show 5 * t + 1 ≠ 5 * c by omega)]
      rw [pk_un (show 5 * t + 2 ≠ 5 * c + 4 by omega), pk_un (show 5 * t + 2 ≠ 5 * c + 3 by omega), pk_un (show 5 * t + 2 ≠ 5 * c + 2 by omega), pk_un (show 5 * t + 2 ≠ 5 * c + 1 by omega), pk_un (show 5 * t + 2 ≠ 5 * c by omega)]
      rw [pk_un (show 5 * t + 3 ≠ 5 * c + 4 by omega), pk_un (show 5 * t + 3 ≠ 5 * c + 3 by omega), pk_un (show 5 * t + 3 ≠ 5 * c + 2 by omega), pk_un (show 5 * t + 3 ≠ 5 * c + 1 by omega), pk_un (show 5 * t + 3 ≠ 5 * c by omega)]
      rw [pk_un (show 5 * t + 4 ≠ 5 * c + 4 by omega), pk_un (show 5 * t + 4 ≠ 5 * c + 3 by omega), pk_un (show 5 * t + 4 ≠ 5 * c + 2 by omega), pk_un (show 5 * t + 4 ≠ 5 * c + 1 by omega), pk_un (show 5 * t + 4 ≠ 5 * c by omega)]
      exact ⟨s1, s2, s3, s4, s5, s6, w, o, k, d, u, s7, s8, s9, s10, s11, by omega, s13⟩
  · intro t t1 t2
    rw [g10, g11]
    exact w8 t (by omega) t2
  · rw [eGc, eGm]; exact hT
  · rw [eGc, eGm]; exact hL
  · rw [eGc, eGm]; exact hB
