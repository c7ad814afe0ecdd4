/-! best and tideOf -/
theorem RR_plan {F : tF} {G : tG} {F2 : tF} {G2 : tG} {F' : tF} {G' : tG} {F2' : tF} {G2' : tG} (hR : RR F G F2 G2) (e : ∀ j, j < 20 ∨ 22 < j → j ≠ 18 → F' j = F j) (g : ∀ j, j < 13 ∨ 15 < j → G' j = G j) (e2 : ∀ j, j < 21 → F2' j = F2 j) (g2 : ∀ j, j < 16 → G2' j = G2 j) (hP' : RPlan F' G') : RR F' G' F2' G2' := by
  obtain ⟨hA, hO, hM, hW, hT, hL, hB, -⟩ := hR
  refine ⟨?_, ?_, ?_, ?_, ?_, ?_, ?_, hP'⟩
  · unfold RAir at hA ⊢
    rw [e 1 (by omega) (by omega), e 2 (by omega) (by omega), e 3 (by omega) (by omega), e 4 (by omega) (by omega), e 5 (by omega) (by omega), e 6 (by omega) (by omega), e 7 (by omega) (by omega), e 8 (by omega) (by omega), e 9 (by omega) (by omega), e 10 (by omega) (by omega), e 11 (by omega) (by omega), e 12 (by omega) (by omega), e2 0 (by omega), e2 1 (by omega), e2 2 (by omega), e2 3 (by omega), e2 4 (by omega), e2 5 (by omega), e2 6 (by omega), e2 7 (by omega), e2 8 (by omega), e2 9 (by omega), e2 10 (by omega), e2 11 (by omega)]
    exact hA
  · unfold AirOk at hO ⊢
    rw [e 1 (by omega) (by omega), e 2 (by omega) (by omega), e 3 (by omega) (by omega), e 4 (by omega) (by omega), e 8 (by omega) (by omega), e 11 (by omega) (by omega), e 12 (by omega) (by omega)]
    exact hO
  · unfold RMen RMan at hM ⊢
    rw [e 0 (by omega) (by omega), e 13 (by omega) (by omega), e 14 (by omega) (by omega), e 15 (by omega) (by omega), e2 12 (by omega), e2 13 (by omega), e2 14 (by omega), g 0 (by omega), g 1 (by omega), g 2 (by omega), g 3 (by omega), g 4 (by omega), g 5 (by omega), g2 0 (by omega), g2 1 (by omega), g2 2 (by omega), g2 3 (by omega), g2 4 (by omega), g2 5 (by omega)]
    exact hM
  · unfold RWreck RThing at hW ⊢
    rw [e 15 (by omega) (by omega), e 16 (by omega) (by omega), e 17 (by omega) (by omega), e2 15 (by omega), e2 16 (by omega), e2 17 (by omega), g 6 (by omega), g 7 (by omega), g 8 (by omega), g 9 (by omega), g 10 (by omega), g 11 (by omega), g2 6 (by omega), g2 7 (by omega)]
    exact hW
  · unfold RTide at hT ⊢
    rw [e 19 (by omega) (by omega), e2 18 (by omega), g 12 (by omega), g2 8 (by omega)]
    exact hT
  · unfold RLine RSign at hL ⊢
    rw [e 23 (by omega) (by omega), e2 19 (by omega), g 16 (by omega), g 17 (by omega), g 18 (by omega), g 19 (by omega), g2 9 (by omega), g2 10 (by omega), g2 11 (by omega), g2 12 (by omega)]
    exact hL
  · unfold RBook at hB ⊢
    rw [e 24 (by omega) (by omega), e2 20 (by omega), g 20 (by omega), g 21 (by omega), g 22 (by omega), g2 13 (by omega), g2 14 (by omega), g2 15 (by omega)]
    exact hB
theorem dataRR {F : tF} {G : tG} {F2 : tF} {G2 : tG} (hW : RWreck F G F2 G2) (hT : RTide F G F2 G2) : ∃ c ra ta k wo od r U L, DTok c ra ta k wo od r U L ∧ DCl F G c ra ta k wo od r U L ∧ DRf F2 G2 c ra ta k wo od r U L := by
  obtain ⟨w1, w2, w3, c, ra, ta, hc, hra, hta, w4, w5, w6, w7, w8⟩ := hW
  obtain ⟨t1, k, hk, t2, t3⟩ := hT
  have p12 := pow12 hc
  have hth : ∀ t, t < c → (G 7 t = nI (G 7 t).toNatClampNeg ∧ G 9 t = nI (G 9 t).toNatClampNeg ∧ G 8 t - G 10 t = nI (G 8 t - G 10 t).toNatClampNeg ∧ G 11 t = nI (G 11 t).toNatClampNeg) ∧ (G 7 t).toNatClampNeg ≤ 1000 ∧ (G 9 t).toNatClampNeg ≤ 100 ∧ (G 8 t - G 10 t).toNatClampNeg ≤ 200 ∧ (G 11 t).toNatClampNeg < 2 ^ c ∧ G2 6 (5 * t + 1) = G 7 t ∧ G2 6 (5 * t + 3) = G 9 t ∧ G2 6 (5 * t + 2) - G2 6 (5 * t + 4) = G 8 t - G 10 t ∧ G2 7 t = G 11 t := by
    intro t ht
    obtain ⟨s1, s2, s3, s4, s5, s6, w, o, kk, d, u, s7, s8, s9, s10, s11, s12, s13, s14, s15, s16, s17, s18⟩ := w7 t ht
    have sd : G 8 t - G 10 t = nI (kk - d) := by rw [s15, s16, pk_sub s11]
    rw [← s2, ← s3, ← s4, ← s5, ← s6, sd, s13, s14, s17, nI_clamp (by omega), nI_clamp (by omega), nI_clamp (by omega), nI_clamp (by omega)]
    exact ⟨⟨rfl, rfl, rfl, rfl⟩, s7, s8, by omega, s12, rfl, rfl, rfl, rfl⟩
  have htd : ∀ j, j < k → G 12 j = nI (G 12 j).toNatClampNeg ∧ (G 12 j).toNatClampNeg ≤ 300 ∧ G2 8 j = G 12 j := by
    intro j hj
    obtain ⟨q1, q, q2, q3, q4⟩ := t3 j hj
    rw [← q1, q4, nI_clamp (by omega)]
    exact ⟨rfl, q3, rfl⟩
  refine ⟨c, ra, ta, k, fun t => (G 7 t).toNatClampNeg, fun t => (G 9 t).toNatClampNeg, fun t => (G 8 t - G 10 t).toNatClampNeg, fun t => (G 11 t).toNatClampNeg, fun j => (G 12 j).toNatClampNeg, ⟨hc, hra, hta, hk, ?_, ?_⟩, ⟨w4, w5, w6, t2, ?_, ?_⟩, ⟨w1 ▸ w4, w2 ▸ w5, w3 ▸ w6, t1 ▸ t2, ?_, ?_⟩⟩
  · intro t ht
    obtain ⟨-, a, b, c, d, -⟩ := hth t ht
    exact ⟨a, b, c, d⟩
  · intro j hj
    exact (htd j hj).2.1
  · intro t ht
    exact (hth t ht).1
  · intro j hj
    exact (htd j hj).1
  · intro t ht
    obtain ⟨⟨a1, a2, a3, a4⟩, -, -, -, -, b1, b2, b3, b4⟩ := hth t ht
    exact ⟨b1.trans a1, b2.trans a2, b3.trans a3, b4.trans a4⟩
  · intro j hj
    obtain ⟨a, -, b⟩ := htd j hj
    exact b.trans a
theorem best_v {n : Nat} (hn : 5000 ≤ n) {F : tF} {G : tG} {F2 : tF} {G2 : tG} (hR : RR F G F2 G2) : ∃ p F' G' F2' G2', p_X6_bestPlan n F G = some (F', G') ∧ p_X8_layBest n F2 G2 = some (F2', G2') ∧ RR F' G' F2' G2' ∧ RR F G F2' G2' ∧ p ≤ 12 ∧ F' 20 = nI p ∧ F2' 22 = nI p ∧ p_X8_hopeOf n F2' G2' (F2' 21) = some (F' 21) ∧ p_X8_workOfSet n F2' G2' (F2' 21) = some (F' 22) ∧ ∀ i, i < p → G' 13 i = G2' 17 i ∧ G' 14 i = G2' 18 i := by
  obtain ⟨hA, hO, hM, hW, hT, hL, hB, hP⟩ := id hR
  obtain ⟨c, ra, ta, k, wo, od, r, U, L, hD, hC, hRf⟩ := dataRR hW hT
  have fin : ∀ (H : tF) (J : tG) (B : Nat), B < 4096 → DRf H J c ra ta k wo od r U L → p_X8_hopeOf n H J (nI B) = some (nI (hpS (fun t => wo t * od t) B c)) ∧ p_X8_workOfSet n H J (nI B) = some (nI (hpS r B c)) := by
    intro H J B hB hd
    have d1 := hD.1
    exact ⟨hope8_L hD hd hB (fun _ z => some z) c 0 n (by omega) (by omega), work8_L hD hd hB (fun _ z => some z) c 0 n (by omega) (by omega)⟩
  rcases hP with h | ⟨h, n0, F0, G0, F1, G1, p0, ⟨p1, p2, p3, p4, p5, p6, p7, p8, p9, p10⟩, p11, p12, p13, p14, p15, p16⟩
  · obtain ⟨p, B, F', G', H', J', a1, a2, a3, a4, a5, a6, a7, a8, a9, a10, a11, a12, a13, a14⟩ := plan_v hn hn hD hC hRf
    have hd' : DRf H' J' c ra ta k wo od r U L := DRf_cg hRf (fun j _ _ => a13 j (by omega)) (fun j _ _ => a14 j (by omega))
    obtain ⟨f1, f2⟩ := fin H' J' B a4 hd'
    have bp : p_X6_bestPlan n F G = some (upd F' 18 1, G') := by
      unfold p_X6_bestPlan
      rw [if_pos h, a1, bi2S, bi2S, pletE]
    refine ⟨p, upd F' 18 1, G', H', J', bp, a2, ?_, ?_, a3, a5, a6, ?_, ?_, a10⟩
    · refine RR_plan hR ?_ a12 a13 a14 (Or.inr ⟨rfl, n, F, G, F', G', hn, ?_, a1, rfl, rfl, rfl, rfl, rfl⟩)
      · intro j j1 j2
        rw [pk_un j2]; exact a11 j j1
      · refine ⟨?_, ?_, ?_, ?_, a12 7 (by omega), a12 8 (by omega), a12 9 (by omega), a12 10 (by omega), a12 11 (by omega), a12 12 (by omega)⟩
        · rw [pk_un (by omega)]; exact a11 15 (by omega)
        · rw [pk_un (by omega)]; exact a11 16 (by omega)
        · rw [pk_un (by omega)]; exact a11 17 (by omega)
        · rw [pk_un (by omega)]; exact a11 19 (by omega)
    · exact RR_plan hR (fun _ _ _ => rfl) (fun _ _ => rfl) a13 a14 (Or.inl h)
    · rw [a9, f1, pk_un (by omega), a7]
    · rw [a9, f2, pk_un (by omega), a8]
  · have hC0 : DCl F0 G0 c ra ta k wo od r U L := by
      refine DCl_cg hC ?_ ?_
      · intro j j1 j2 j3
        rcases (show j = 15 ∨ j = 16 ∨ j = 17 ∨ j = 19 by omega) with e | e | e | e
        · rw [e]; exact p1.symm
        · rw [e]; exact p2.symm
        · rw [e]; exact p3.symm
        · rw [e]; exact p4.symm
      · intro j j1 j2
        rcases (show j = 7 ∨ j = 8 ∨ j = 9 ∨ j = 10 ∨ j = 11 ∨ j = 12 by omega) with e | e | e | e | e | e
        · rw [e]; exact p5.symm
        · rw [e]; exact p6.symm
        · rw [e]; exact p7.symm
        · rw [e]; exact p8.symm
        · rw [e]; exact p9.symm
        · rw [e]; exact p10.symm
    obtain ⟨p, B, F', G', H', J', a1, a2, a3, a4, a5, a6, a7, a8, a9, a10, a11, a12, a13, a14⟩ := plan_v p0 hn hD hC0 hRf
    rw [p11] at a1
    have eF : F1 = F' := congrArg Prod.fst (Option.some.inj a1)
    have eG : G1 = G' := congrArg Prod.snd (Option.some.inj a1)
    subst eF
    subst eG
    have hd' : DRf H' J' c ra ta k wo od r U L := DRf_cg hRf (fun j _ _ => a13 j (by omega)) (fun j _ _ => a14 j (by omega))
    obtain ⟨f1, f2⟩ := fin H' J' B a4 hd'
    have hu : upd F 18 1 = F := by
      funext j
      by_cases e : j = 18
      · rw [e, pk_us, h]
      · rw [pk_un e]
    have bp : p_X6_bestPlan n F G = some (F, G) := by
      unfold p_X6_bestPlan
      rw [if_neg (by rw [h]; exact one_nz), bi2S, pletE, hu]
    have hR' : RR F G H' J' := RR_plan hR (fun _ _ _ => rfl) (fun _ _ => rfl) a13 a14 hR.2.2.2.2.2.2.2
    refine ⟨p, F, G, H', J', bp, a2, hR', hR', a3, p12.trans a5, a6, ?_, ?_, ?_⟩
    · rw [a9, f1, p13, a7]
    · rw [a9, f2, p14, a8]
    · rw [p15, p16]; exact a10
theorem sim_best {n : Nat} (hn : 5000 ≤ n) : simT_best n RR := by
  intro F G F2 G2 b1 hR
  obtain ⟨p, F', G', F2', G2', a1, a2, a3, a4, a5, a6, a7, a8, a9, a10⟩ := best_v hn hR
  unfold p_X7_best p_X8_best
  by_cases h : (-3 : Int32) ≤ b1
  · rw [if_pos h, if_pos h, a1, a2, bi2S, bi2S]
    by_cases h1 : b1 = -1
    · rw [if_pos h1, if_pos h1, a8, bi1S, bi1S]
      exact ⟨_, _, _, _, _, rfl, rfl, a3⟩
    by_cases h2 : b1 = -2
    · rw [if_neg h1, if_neg h1, if_pos h2, if_pos h2, a9, bi1S, bi1S]
      exact ⟨_, _, _, _, _, rfl, rfl, a3⟩
    by_cases h3 : b1 = -3
    · rw [if_neg h1, if_neg h1, if_neg h2, if_neg h2, if_pos h3, if_pos h3, bi1S, a7, a6]
      exact ⟨_, _, _, _, _, rfl, rfl, a3⟩
    rw [if_neg h1, if_neg h1, if_neg h2, if_neg h2, if_neg h3, if_neg h3, a6, a7]
    rcases pk_ix b1 (n := p) (by omega) with q | q | ⟨i, i1, i2⟩
    · exfalso
      rw [Int32.le_iff_toInt_le] at h
      rw [Int32.lt_iff_toInt_lt] at q
      have n1 : b1.toInt ≠ -1 := fun z => h1 (Int32.toInt_inj.1 z)
      have n2 : b1.toInt ≠ -2 := fun z => h2 (Int32.toInt_inj.1 z)
      have n3 : b1.toInt ≠ -3 := fun z => h3 (Int32.toInt_inj.1 z)
      have e3 : (-3 : Int32).toInt = -3 := rfl
      have e0 : (0 : Int32).toInt = 0 := rfl
      omega
    · rw [if_pos q, if_pos q, bi1S, bi1S]
      exact ⟨_, _, _, _, _, rfl, rfl, a3⟩
    · have z : ¬ nI p ≤ b1 := by rw [i2]; exact nI_ge i1 (by omega)
      rw [if_neg z, if_neg z, i2, inBT (by omega) (by omega), oguardT, oguardT, nI_clamp (by omega), bi1S, bi1S, (a10 i i1).1]
      exact ⟨_, _, _, _, _, rfl, rfl, a3⟩
  · rw [if_neg h, if_neg h]
    exact ⟨-2, F, G, F2, G2, rfl, rfl, hR⟩
theorem sim_tideOf {n : Nat} (hn : 5000 ≤ n) : simT_tideOf n RR := by
  intro F G F2 G2 b1 hR
  obtain ⟨p, F', G', F2', G2', a1, a2, a3, a4, a5, a6, a7, a8, a9, a10⟩ := best_v hn hR
  unfold p_X7_tideOf p_X8_tideOf
  rw [a2, bi2S, inV, bi1S, a7]
  by_cases h : (0 : Int32) ≤ b1
  · rw [if_pos h, a1, bi2S, a6]
    have hn0 : ¬ b1 < 0 := by
      rw [Int32.le_iff_toInt_le] at h
      rw [Int32.lt_iff_toInt_lt]
      omega
    rcases pk_ix b1 (n := p) (by omega) with q | q | ⟨i, i1, i2⟩
    · exact absurd q hn0
    · have z : nI p - 1 < b1 := by
        have e := encP_i (p := p) (by omega)
        have e : (nI p - 1).toInt = (p : Int) - 1 := e
        rw [Int32.le_iff_toInt_le, nI_toInt (by omega)] at q
        rw [Int32.lt_iff_toInt_lt, e]
        omega
      rw [if_pos q, bi1S, if_neg hn0, if_pos z, if_pos rfl, bi1S]
      exact ⟨_, _, _, _, _, rfl, rfl, a3⟩
    · have z : ¬ nI p ≤ b1 := by rw [i2]; exact nI_ge i1 (by omega)
      have z2 : ¬ nI p - 1 < b1 := by
        rw [i2]
        exact fun y => (encP_ltN (by omega) (by omega)).1 y i1
      rw [if_neg z, if_neg hn0, if_neg z2, if_neg one_nz, i2, inBT (by omega) (by omega), oguardT, oguardT, nI_clamp (by omega), bi1S, bi1S, (a10 i i1).2]
      exact ⟨_, _, _, _, _, rfl, rfl, a3⟩
  · have hn0 : b1 < 0 := by
      rw [Int32.le_iff_toInt_le] at h
      rw [Int32.lt_iff_toInt_lt]
      omega
    rw [if_neg h, if_pos hn0, if_pos rfl, bi1S]
    exact ⟨-6, F, G, F2', G2', rfl, rfl, a4⟩
