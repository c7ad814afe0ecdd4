theorem sim_barrel (n : Nat) : simT_barrel n RR := by
  intro F G F2 G2 b1 hR
  obtain ⟨hA, hO, hM, hW, hT, hL, hB, hP⟩ := id hR
  obtain ⟨R, d, f, g, b, hN, k1, k2⟩ := airN hO
  obtain ⟨a1, a2, a3, a4, a5, a6, a7, a8, a9, a10, a11, a12⟩ := id hA
  obtain ⟨r3, d3, f3, g3, b3, r1, r2, d2, b2⟩ := id hN
  unfold p_X7_barrel p_X8_barrel
  rw [withinIf, inIf]
  by_cases h1 : b1 < 1
  · simp only [if_pos h1]
    exact ⟨-2, F, G, F2, G2, rfl, rfl, hR⟩
  by_cases h2 : 500 < b1
  · simp only [if_neg h1, if_pos h2]
    exact ⟨-2, F, G, F2, G2, rfl, rfl, hR⟩
  simp only [if_neg h1, if_neg h2]
  obtain ⟨q, q1, q2, q3⟩ := ix_of (m := 1) (n := 500) rfl rfl (by omega) (by omega) h1 h2
  have e8 : F2 7 = nI b := a8 ▸ b3
  by_cases h3 : b = 40
  · have c1 : ¬ F 8 < 40 := by rw [b3, h3]; decide
    have c2 : F2 7 = 40 := by rw [e8, h3]; rfl
    simp only [if_neg c1, if_pos c2]
    exact ⟨-4, F, G, F2, G2, rfl, rfl, hR⟩
  · have c1 : F 8 < 40 := by rw [b3]; exact nI_lt (b := 40) (by omega) (by omega)
    have c2 : ¬ F2 7 = 40 := by rw [e8]; exact fun z => h3 ((nI_eq (b := 40) (by omega) (by omega)).1 z)
    simp only [if_pos c1, if_neg c2]
    obtain ⟨Fa, eFa⟩ : ∃ z : tF, z = upd (upd (upd F 8 (F 8 + 1)) 5 (F 5 + b1)) 3 (F 3 + b1) := ⟨_, rfl⟩
    obtain ⟨Fb, eFb⟩ : ∃ z : tF, z = upd (upd (upd F2 7 (F2 7 + 1)) 4 (F2 4 + b1)) 2 (F2 2 + b1) := ⟨_, rfl⟩
    have hAa : RAir Fa Fb := by
      rw [eFa, eFb]
      refine ⟨a1, a2, ?_, a4, ?_, a6, a7, ?_, a9, a10, a11, a12⟩
      · show F 3 + b1 = F2 2 + b1
        rw [a3]
      · show F 5 + b1 = F2 4 + b1
        rw [a5]
      · show F 8 + 1 = F2 7 + 1
        rw [a8]
    have hNa : AirN Fa R d (f + q) g (b + 1) := by
      rw [eFa]
      refine ⟨r3, d3, ?_, g3, ?_, r1, r2, d2, by omega⟩
      · show F 3 + b1 = nI (f + q)
        rw [f3, q3, nI_add]
      · show F 8 + 1 = nI (b + 1)
        rw [b3]; exact nI_1 b
    obtain ⟨m, y1, y2, F', F2', y3, y4, y5, y6, y7, y8⟩ := over (G := G) (G2 := G2) hAa hNa (by omega)
    refine ⟨nI m, F', G, F2', G2, ?_, ?_, ?_⟩
    · have e : p_X0_letIn F G b1 = bi3 (p_X0_spillOver Fa G) (fun x31 F31 G31 => some (x31, F31, G31)) := by rw [eFa]; rfl
      rw [e, y3]; rfl
    · rw [pletE, pletE, pletE]
      rw [eFb] at y4
      exact y4
    have hsum := sp_sum y2
    have f11 : F' 11 = F 11 := by rw [y7 11 (by omega) (by omega) (by omega), eFa]; rfl
    have f12 : F' 12 = F 12 := by rw [y7 12 (by omega) (by omega) (by omega), eFa]; rfl
    refine RR_air hR y5 (airMk y6 (by rw [hsum]; exact y1) (by omega) (by rw [f11, f12]; exact hO.2.2.2.2.2.2.2.2.2.2)) ?_ ?_
    · intro k hk
      rw [y7 k (by omega) (by omega) (by omega), eFa, pk_un (by omega), pk_un (by omega), pk_un (by omega)]
    · intro k hk
      rw [y8 k (by omega) (by omega) (by omega), eFb, pk_un (by omega), pk_un (by omega), pk_un (by omega)]
theorem sim_air {n : Nat} (hn : 5000 ≤ n) : simT_air n RR := by
  intro F G F2 G2 b1 hR
  obtain ⟨hA, hO, hM, hW, hT, hL, hB, hP⟩ := id hR
  obtain ⟨R, d, f, g, b, hN, k1, k2⟩ := airN hO
  obtain ⟨a1, a2, a3, a4, a5, a6, a7, a8, a9, a10, a11, a12⟩ := id hA
  have hm := most7 hN
  obtain ⟨r3, d3, f3, g3, b3, r1, r2, d2, b2⟩ := id hN
  have hm8 : p_X8_most F2 = some (nI (R * (10 + d) / 10)) := by
    unfold p_X8_most
    rw [← a1, ← a2]
    exact hm
  have hc : cntNZ (G2 0) 6 = cntNZ (G 0) 6 := cntNZ_cong 6 (fun j hj => (hM.2.2.2.2.1 j hj).1.symm)
  have hcb := countBelow_v (n := n) (by omega) G
  have hbr := breathing_v (n := n) (by omega) G2
  rw [hc] at hbr
  have hkle := cntNZ_le (G 0) 6
  obtain ⟨br, s1, s2, s3⟩ := nat_of (x := F 11) (lo := 1) (hi := 30) hO.2.2.2.2.2.2.2.2.2.2.1 hO.2.2.2.2.2.2.2.2.2.2.2.1 (by omega)
  have hall : p_X0_shares F = some (nI (f + g)) := by unfold p_X0_shares; rw [f3, g3, nI_add]
  have hall8 : p_X8_all F2 = some (nI (f + g)) := by unfold p_X8_all; rw [← a3, ← a4, f3, g3, nI_add]
  have ez : (10 : Int32) + F 2 = nI (10 + d) := by rw [d3]; exact nI_add 10 d
  have z7 : nzB (10 + F 2) = true := by
    rw [ez]
    exact decide_eq_true (fun w => absurd ((nI_eq (a := 10 + d) (b := 0) (by omega) (by omega)).1 w) (by omega))
  have dry7 : p_X0_dry F = some ((nI (f + g) * 10) / (10 + F 2)) := by unfold p_X0_dry; rw [hall, bi1S, z7, oguardT]
  have hq : 100 * g < 2 ^ 31 := by omega
  have fo7 : p_X0_foulness (F 3) (F 4) = some (nI (100 * g / (f + g))) := by
    unfold p_X0_foulness
    rw [f3, g3]
    have e := foulPart_v (m := 100) (f := f) (g := g) (by omega) (by omega) hq
    have e1 : (100 : Int32) = nI 100 := rfl
    rw [e1, e, bi1S]
  have fo8 : p_X8_foulness F2 = some (nI (100 * g / (f + g))) := by
    unfold p_X8_foulness
    rw [hall8, bi1S]
    by_cases h : f + g = 0
    · have c : nI (f + g) = 0 := by rw [h]; rfl
      rw [if_pos c, bi1S, h, Nat.div_zero]; rfl
    · have c : ¬ nI (f + g) = 0 := fun w => h ((nI_eq (a := f + g) (b := 0) (by omega) (by omega)).1 w)
      have zz : nzB (nI (f + g)) = true := decide_eq_true c
      have e1 : (100 : Int32) = nI 100 := rfl
      rw [if_neg c, bi1S, zz, oguardT, bi1S, ← a4, g3, e1, pk_mul, Nat.mul_comm g 100, pk_div hq (by omega) (by omega)]
  have kb : cntNZ (G 0) 6 * br ≤ 6 * 30 := Nat.mul_le_mul (by omega) (by omega)
  generalize cntNZ (G 0) 6 = k at hcb hbr hkle kb
  have la7 : p_X0_lasts F (nI k) = some (if k = 0 then 100000 else nI f / nI (k * br)) := by
    unfold p_X0_lasts
    rw [s3, pk_mul, pletE]
    by_cases h : k = 0
    · have c : ¬ (0 : Int32) < nI (k * br) := by rw [h, Nat.zero_mul]; decide
      rw [if_neg c, bi1S, if_pos h]
    · have p : 0 < k * br := Nat.mul_pos (by omega) (by omega)
      have c : (0 : Int32) < nI (k * br) := (nI_pos0 (by omega)).2 p
      have zz : nzB (nI (k * br)) = true := decide_eq_true (fun w => absurd ((nI_eq (a := k * br) (b := 0) (by omega) (by omega)).1 w) (by omega))
      rw [if_pos c, zz, oguardT, bi1S, if_neg h, f3]
  have la8 : p_X8_last n F2 G2 = some (if k = 0 then 100000 else nI f / nI (k * br)) := by
    unfold p_X8_last
    rw [hbr, bi1S, ← a11, s3, pk_mul]
    by_cases h : k = 0
    · have c : nI k = 0 := by rw [h]; rfl
      rw [if_pos c, if_pos h]
    · have p : 0 < k * br := Nat.mul_pos (by omega) (by omega)
      have c : ¬ nI k = 0 := fun w => h ((nI_eq (a := k) (b := 0) (by omega) (by omega)).1 w)
      have zz : nzB (nI (k * br)) = true := decide_eq_true (fun w => absurd ((nI_eq (a := k * br) (b := 0) (by omega) (by omega)).1 w) (by omega))
      rw [if_neg c, zz, oguardT, if_neg h, ← a3, f3]
  unfold p_X7_air p_X8_air
  rw [hall8, bi1S, ← a2, z7, oguardT, pletE, fo8, la8, hm8, dry7, fo7, hcb, hm]
  simp only [bi1S, la7, ← a1, ← a3, ← a4, ← a5, ← a6, ← a7, ← a8, ← a9, ← a10, iteS]
  exact ⟨_, rfl, rfl⟩
