theorem fa_and (a b : Nat) : nI a &&& nI b = nI (a &&& b) := by
  apply Int32.toBitVec_inj.1
  show BitVec.ofNat 32 a &&& BitVec.ofNat 32 b = BitVec.ofNat 32 (a &&& b)
  apply BitVec.eq_of_getLsbD_eq
  intro i hi
  simp [hi]
theorem fa_or (a b : Nat) : nI a ||| nI b = nI (a ||| b) := by
  apply Int32.toBitVec_inj.1
  show BitVec.ofNat 32 a ||| BitVec.ofNat 32 b = BitVec.ofNat 32 (a ||| b)
  apply BitVec.eq_of_getLsbD_eq
  intro i hi
  simp [hi]
theorem fb_xorI (a b : Nat) : nI a ^^^ nI b = nI (a ^^^ b) := by
  apply Int32.toBitVec_inj.1
  show BitVec.ofNat 32 a ^^^ BitVec.ofNat 32 b = BitVec.ofNat 32 (a ^^^ b)
  apply BitVec.eq_of_getLsbD_eq
  intro i hi
  simp [hi]
theorem s_l : ∀ n, n < 32 → ((nI n &&& 31).toBitVec.smod 32).toNat = n := by decide +kernel
theorem pow12 {c : Nat} (h : c ≤ 12) : 2 ^ c ≤ 4096 := Nat.pow_le_pow_right (n := 2) (by omega) h
/-- one bit, as the class and the reference make it -/
theorem bit1 {t : Nat} (h : t < 12) : (1 : Int32) <<< (nI t &&& 31) = nI (2 ^ t) := by
  have p := pow12 (c := t) (by omega)
  have q := pk_shlN (n := 1) (nI t &&& 31) t (s_l t (by omega)) (by rw [Nat.one_mul]; omega)
  rw [Nat.one_mul] at q
  exact q
theorem m1 : (-1 : Int32) = nI (2 ^ 32 - 1) := by decide
theorem notN (a : Nat) : nI a ^^^ (-1) = nI (a ^^^ (2 ^ 32 - 1)) := by rw [m1, fb_xorI]
/-- a bit taken out -/
theorem bitOut {a t : Nat} (h : t < 12) : nI a &&& (((1 : Int32) <<< (nI t &&& 31)) ^^^ (-1)) = nI (a &&& (2 ^ t ^^^ (2 ^ 32 - 1))) := by rw [bit1 h, notN, fa_and]
theorem bitIn {a t : Nat} (h : t < 12) : nI a ||| ((1 : Int32) <<< (nI t &&& 31)) = nI (a ||| 2 ^ t) := by rw [bit1 h, fa_or]
theorem sim_tangle (n : Nat) : simT_tangle n RR := by
  intro F G F2 G2 b1 b2 hR
  obtain ⟨hA, hO, hM, hW, hT, hL, hB, hP⟩ := id hR
  obtain ⟨w1, w2, w3, c, ra, ta, hc, hra, hta, w4, w5, w6, w7, w8⟩ := hW
  unfold p_X7_tangle p_X8_tangle
  simp only [has7, isThing8, withinIf, inIf, ← w1]
  by_cases h4 : b1 < 0
  · simp only [if_pos h4]
    exact ⟨-1, F, G, F2, G2, rfl, rfl, hR⟩
  by_cases h5 : F 15 - 1 < b1
  · simp only [if_neg h4, if_pos h5]
    exact ⟨-1, F, G, F2, G2, rfl, rfl, hR⟩
  simp only [if_neg h4, if_neg h5]
  obtain ⟨t, ht, et⟩ := thing_ix hc h4 (w4 ▸ h5)
  unfold p_X7_bit p_X6_markTangled
  have pt : 2 ^ t < 2 ^ c := Nat.pow_lt_pow_right (by omega) ht
  by_cases h6 : b2 = 0
  · simp only [if_pos h6, bi1S, bi2S, pletE, ← w3]
    refine ⟨_, _, _, _, _, rfl, rfl, hA, hO, hM, ⟨w1, w2, rfl, c, ra, ta &&& (2 ^ t ^^^ (2 ^ 32 - 1)), hc, hra, Nat.lt_of_le_of_lt Nat.and_le_left hta, w4, w5, ?_, w7, w8⟩, hT, hL, hB, Or.inl rfl⟩
    show F 17 &&& _ = _
    rw [w6, et]; exact bitOut (by omega)
  · simp only [if_neg h6, bi1S, bi2S, pletE, ← w3]
    refine ⟨_, _, _, _, _, rfl, rfl, hA, hO, hM, ⟨w1, w2, rfl, c, ra, ta ||| 2 ^ t, hc, hra, Nat.or_lt_two_pow hta pt, w4, w5, ?_, w7, w8⟩, hT, hL, hB, Or.inl rfl⟩
    show F 17 ||| _ = _
    rw [w6, et]; exact bitIn (by omega)
theorem ix5 {t j : Nat} : 5 * nI t + nI j = nI (5 * t + j) := by
  have e : (5 : Int32) * nI t = nI (5 * t) := pk_mul 5 t
  rw [e, nI_add]
theorem sim_ofThing (n : Nat) : simT_ofThing n RR := by
  intro F G F2 G2 b1 b2 hR
  obtain ⟨hA, hO, hM, hW, hT, hL, hB, hP⟩ := id hR
  obtain ⟨w1, w2, w3, c, ra, ta, hc, hra, hta, w4, w5, w6, w7, w8⟩ := hW
  unfold p_X7_ofThing p_X8_ofThing
  simp only [has7, isThing8, withinIf, inIf, ← w1]
  by_cases h4 : b1 < 0
  · simp only [if_pos h4]
    exact ⟨-1, rfl, rfl⟩
  by_cases h5 : F 15 - 1 < b1
  · simp only [if_neg h4, if_pos h5]
    exact ⟨-1, rfl, rfl⟩
  simp only [if_neg h4, if_neg h5]
  obtain ⟨t, ht, et⟩ := thing_ix hc h4 (w4 ▸ h5)
  subst et
  obtain ⟨g1, g2, g3, g4, g5, g6, -⟩ := w7 t ht
  have i1 : inB (nI t) 12 = true := inBT (by omega) (by omega)
  have ecl : (nI t).toNatClampNeg = t := nI_clamp (by omega)
  unfold p_X7_bit p_X6_isFree p_X8_isFree
  simp only [i1, oguardT, ecl, ← w2, ← w3, ← g6, bi1S]
  by_cases h6 : b2 < 0
  · have c0 : ¬ b2 = 0 := fun e => absurd h6 (by rw [e]; decide)
    have c1 : ¬ b2 = 1 := fun e => absurd h6 (by rw [e]; decide)
    have c2 : ¬ b2 = 2 := fun e => absurd h6 (by rw [e]; decide)
    have c3 : ¬ b2 = 3 := fun e => absurd h6 (by rw [e]; decide)
    have c4 : ¬ b2 = 4 := fun e => absurd h6 (by rw [e]; decide)
    have c5 : ¬ b2 = 5 := fun e => absurd h6 (by rw [e]; decide)
    have c6 : ¬ b2 = 6 := fun e => absurd h6 (by rw [e]; decide)
    have c7 : ¬ b2 = 7 := fun e => absurd h6 (by rw [e]; decide)
    have c8 : ¬ b2 = 8 := fun e => absurd h6 (by rw [e]; decide)
    simp only [if_pos h6, if_neg c0, if_neg c1, if_neg c2, if_neg c3, if_neg c4, if_neg c5, if_neg c6, if_neg c7, if_neg c8]
    exact ⟨-2, rfl, rfl⟩
  by_cases h7 : 4 < b2
  · have c0 : ¬ b2 = 0 := fun e => absurd h7 (by rw [e]; decide)
    have c1 : ¬ b2 = 1 := fun e => absurd h7 (by rw [e]; decide)
    have c2 : ¬ b2 = 2 := fun e => absurd h7 (by rw [e]; decide)
    have c3 : ¬ b2 = 3 := fun e => absurd h7 (by rw [e]; decide)
    have c4 : ¬ b2 = 4 := fun e => absurd h7 (by rw [e]; decide)
    simp only [if_neg h6, if_pos h7, if_neg c0, if_neg c1, if_neg c2, if_neg c3, if_neg c4]
    by_cases hf : (G 11 t &&& (F 16 ^^^ (-1))) = 0
    · simp only [if_pos hf, bi1S, show btB 1 = true from rfl, oguardT, if_neg one_nz, iteS]
      exact ⟨_, rfl, rfl⟩
    · simp only [if_neg hf, bi1S, show btB 0 = true from rfl, oguardT, if_pos (rfl : (0 : Int32) = 0), iteS]
      exact ⟨_, rfl, rfl⟩
  simp only [if_neg h6, if_neg h7]
  obtain ⟨j, -, hj, ej⟩ := ix_of (m := 0) (n := 4) rfl rfl (by omega) (by omega) h6 h7
  subst ej
  have i2 : inB (5 * nI t + nI j) 60 = true := by rw [ix5]; exact inBT (by omega) (by omega)
  have ecl2 : (5 * nI t + nI j).toNatClampNeg = 5 * t + j := by rw [ix5]; exact nI_clamp (by omega)
  simp only [i2, oguardT, ecl2]
  rcases (show j = 0 ∨ j = 1 ∨ j = 2 ∨ j = 3 ∨ j = 4 by omega) with rfl | rfl | rfl | rfl | rfl
  · exact ⟨G 6 t, rfl, by rw [g1]; rfl⟩
  · exact ⟨G 7 t, rfl, by rw [g2]⟩
  · exact ⟨G 8 t, rfl, by rw [g3]⟩
  · exact ⟨G 9 t, rfl, by rw [g4]⟩
  · exact ⟨G 10 t, rfl, by rw [g5]⟩
