theorem underR {F : tF} {G : tG} {F2 : tF} {G2 : tG} {F' : tF} {t c ra ta u : Nat} {y : Int32} (hc : c ≤ 12) (w1 : F 15 = F2 15) (w2 : F 16 = F2 16) (w3 : F 17 = F2 17) (hra : ra < 2 ^ c) (hta : ta < 2 ^ c) (w4 : F 15 = nI c) (w5 : F 16 = nI ra) (w6 : F 17 = nI ta) (w7 : ∀ t : Nat, t < c → RThing G G2 ra c t) (w8 : ∀ t : Nat, c ≤ t → t < 12 → G 10 t = 0 ∧ G 11 t = 0) (ht : t < c) (hu : u < 2 ^ c) (ey : y = nI u) (e15 : F' 15 = F 15) (e16 : F' 16 = F 16) (e17 : F' 17 = F 17) : RWreck F' (stG G 11 (nI t) y) F2 (stG G2 7 (nI t) y) := by
  have ct : (nI t).toNatClampNeg = t := nI_clamp (by omega)
  refine ⟨e15.trans w1, e16.trans w2, e17.trans w3, c, ra, ta, hc, hra, hta, e15.trans w4, e16.trans w5, e17.trans w6, ?_, ?_⟩
  · intro j hj
    obtain ⟨s1, s2, s3, s4, s5, s6, w, o, k, d, v, s7, s8, s9, s10, s11, s12, s13, s14, s15, s16, s17, s18⟩ := w7 j hj
    refine ⟨s1, s2, s3, s4, s5, ?_, ?_⟩
    · show upd (G 11) (nI t).toNatClampNeg y j = upd (G2 7) (nI t).toNatClampNeg y j
      rw [ct]
      by_cases e : j = t
      · rw [e, pk_us, pk_us]
      · rw [pk_un e, pk_un e]; exact s6
    · by_cases e : j = t
      · refine ⟨w, o, k, d, u, s7, s8, s9, s10, s11, hu, s13, s14, s15, s16, ?_, s18⟩
        show upd (G 11) (nI t).toNatClampNeg y j = nI u
        rw [ct, e, pk_us]; exact ey
      · refine ⟨w, o, k, d, v, s7, s8, s9, s10, s11, s12, s13, s14, s15, s16, ?_, s18⟩
        show upd (G 11) (nI t).toNatClampNeg y j = nI v
        rw [ct, pk_un e]; exact s17
  · intro j hj hj2
    show G 10 j = 0 ∧ upd (G 11) (nI t).toNatClampNeg y j = 0
    rw [ct, pk_un (show j ≠ t by omega)]
    exact w8 j hj hj2
theorem sim_under {n : Nat} (hn : 5000 ≤ n) : simT_under n RR := by
  intro F G F2 G2 b1 b2 b3 hR
  obtain ⟨hA, hO, hM, hW, hT, hL, hB, hP⟩ := id hR
  obtain ⟨w1, w2, w3, c, ra, ta, hc, hra, hta, w4, w5, w6, w7, w8⟩ := id hW
  unfold p_X7_under p_X8_under
  simp only [has7, isThing8, withinIf, inIf, ← w1]
  by_cases h1 : b1 < 0
  · simp only [if_pos h1]
    exact ⟨-1, F, G, F2, G2, rfl, rfl, hR⟩
  by_cases h2 : F 15 - 1 < b1
  · simp only [if_neg h1, if_pos h2]
    exact ⟨-1, F, G, F2, G2, rfl, rfl, hR⟩
  simp only [if_neg h1, if_neg h2]
  by_cases h3 : b2 < 0
  · simp only [if_pos h3]
    exact ⟨-1, F, G, F2, G2, rfl, rfl, hR⟩
  by_cases h4 : F 15 - 1 < b2
  · simp only [if_neg h3, if_pos h4]
    exact ⟨-1, F, G, F2, G2, rfl, rfl, hR⟩
  simp only [if_neg h3, if_neg h4]
  by_cases h5 : b1 = b2
  · simp only [if_pos h5]
    exact ⟨-1, F, G, F2, G2, rfl, rfl, hR⟩
  simp only [if_neg h5]
  obtain ⟨t, ht, et⟩ := thing_ix hc h1 (w4 ▸ h2)
  obtain ⟨o, ho, eo⟩ := thing_ix hc h3 (w4 ▸ h4)
  subst et
  subst eo
  have hto : t ≠ o := fun z => h5 (by rw [z])
  clear h1 h2 h3 h4 h5
  have p12 := pow12 hc
  obtain ⟨U, eU⟩ : ∃ U : Nat → Nat, U = fun k => (G 11 k).toNatClampNeg := ⟨_, rfl⟩
  have hGU : ∀ k, k < c → G 11 k = nI (U k) ∧ G2 7 k = nI (U k) ∧ U k < 2 ^ c := by
    intro k hk
    obtain ⟨s1, s2, s3, s4, s5, s6, w, o, kk, d, v, s7, s8, s9, s10, s11, s12, s13, s14, s15, s16, s17, s18⟩ := w7 k hk
    have e : U k = v := by
      rw [eU]
      show (G 11 k).toNatClampNeg = v
      rw [s17, nI_clamp (by omega)]
    rw [e]
    exact ⟨s17, s6 ▸ s17, s12⟩
  have it : inB (nI t) 12 = true := inBT (by omega) (by omega)
  have io : inB (nI o) 12 = true := inBT (by omega) (by omega)
  have ct : (nI t).toNatClampNeg = t := nI_clamp (by omega)
  have co : (nI o).toNatClampNeg = o := nI_clamp (by omega)
  obtain ⟨g1, g2, g3⟩ := hGU t ht
  have po : 2 ^ o < 2 ^ c := Nat.pow_lt_pow_right (by omega) ho
  by_cases h6 : b3 = 0
  · unfold p_X6_layUnder p_X7_bit
    simp only [if_pos h6, it, oguardT, ct, bi1S, pletE, bi2S, g1, g2]
    refine ⟨_, _, _, _, _, rfl, rfl, hA, hO, hM, ?_, hT, hL, hB, Or.inl rfl⟩
    exact underR (u := U t &&& (2 ^ o ^^^ (2 ^ 32 - 1))) hc w1 w2 w3 hra hta w4 w5 w6 w7 w8 ht (Nat.lt_of_le_of_lt Nat.and_le_left g3) (bitOut (by omega)) rfl rfl rfl
  · have lb : p_X6_liesBelow n F G (nI o) (nI t) = some (if (iterP U c c (2 ^ o)).testBit t = true then 1 else 0) := by
      unfold p_X6_liesBelow
      rw [pletE, bit1 (by omega)]
      refine (below7 hn hc w4 (fun k hk => (hGU k hk).1) (fun k hk => (hGU k hk).2.2) _ c 0 n (2 ^ o) (by omega) (by omega) po).trans ?_
      have l := it_lt (fun k hk => (hGU k hk).2.2) c (2 ^ o) po
      unfold p_X7_bit
      rw [bi1S]
      by_cases z : (iterP U c c (2 ^ o)).testBit t = true
      · rw [if_pos z, if_pos ((bitO (by omega) (by omega)).2 z)]; rfl
      · rw [if_neg z, if_neg (fun y => z ((bitO (by omega) (by omega)).1 y))]; rfl
    have ab : p_X8_above n F2 G2 (nI o) = some (nI (iterP U c 12 (U o))) := by
      unfold p_X8_above
      rw [io, oguardT, co, pletE, (hGU o ho).2.1]
      exact above9 hn hc (w1 ▸ w4) (fun k hk => (hGU k hk).2.1) (fun k hk => (hGU k hk).2.2) _ 12 0 n (U o) rfl (by omega) (hGU o ho).2.2
    have l2 := it_lt (fun k hk => (hGU k hk).2.2) 12 (U o) (hGU o ho).2.2
    have ae := above_eq (U := U) (c := c) (m := 12) (o := o) (t := t) (fun k hk => (hGU k hk).2.2) hc ho hto
    simp only [if_neg h6, lb, ab, bi1S]
    by_cases hb : (iterP U c c (2 ^ o)).testBit t = true
    · have z : (nI (iterP U c 12 (U o)) >>> (nI t &&& 31)) &&& 1 = 1 := (bitO (by omega) (by omega)).2 (by rw [← ae]; exact hb)
      simp only [if_pos hb, if_neg one_nz, if_pos z]
      exact ⟨-5, F, G, F2, G2, rfl, rfl, hR⟩
    · have z : ¬ (nI (iterP U c 12 (U o)) >>> (nI t &&& 31)) &&& 1 = 1 := fun y => hb (by rw [ae]; exact (bitO (by omega) (by omega)).1 y)
      unfold p_X6_layUnder p_X7_bit
      simp only [if_neg hb, if_pos (rfl : (0 : Int32) = 0), if_neg z, if_neg h6, it, oguardT, ct, bi1S, pletE, bi2S, g1, g2]
      refine ⟨_, _, _, _, _, rfl, rfl, hA, hO, hM, ?_, hT, hL, hB, Or.inl rfl⟩
      exact underR (u := U t ||| 2 ^ o) hc w1 w2 w3 hra hta w4 w5 w6 w7 w8 ht (Nat.or_lt_two_pow g3 po) (bitIn (by omega)) rfl rfl rfl
