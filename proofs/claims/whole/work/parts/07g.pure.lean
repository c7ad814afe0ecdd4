/-- within the shares that there can be (25,500) no product passes an int -/
theorem mul_lt {m g s : Nat} (hm : m ≤ s) (hg : g ≤ s) (hs : s ≤ 25500) : m * g < 2 ^ 31 := by
  have a : m * g ≤ 25500 * 25500 := Nat.mul_le_mul (by omega) (by omega)
  omega
theorem most7 {F : tF} {R d f g b : Nat} (h : AirN F R d f g b) : p_X0_most F = some (nI (R * (10 + d) / 10)) := by
  obtain ⟨r3, d3, f3, g3, b3, r1, r2, d2, b2⟩ := h
  unfold p_X0_most
  have p : R * (10 + d) ≤ 5000 * 100 := Nat.mul_le_mul (by omega) (by omega)
  have e10 : (10 : Int32) = nI 10 := rfl
  rw [r3, d3, e10, nI_add, pk_mul, pk_div (by omega) (by omega) (by omega)]
/-- spillOver of the class beside 'spill(all() - most())' of the reference -/
theorem over {F : tF} {G : tG} {F2 : tF} {G2 : tG} {R d f g b : Nat} (hA : RAir F F2) (hN : AirN F R d f g b) (hs : f + g ≤ 25500) :
    ∃ (m : Nat), f + g - m ≤ R * (10 + d) / 10 ∧ m ≤ f + g ∧ ∃ (F' F2' : tF), p_X0_spillOver F G = some (nI m, F', G) ∧ bi1 (p_X8_all F2) (fun x58 => bi1 (p_X8_most F2) (fun x62 => bi3 (p_X8_spill F2 G2 (x58 - x62)) (fun x66 F66 G66 => some (x66, F66, G66)))) = some (nI m, F2', G2) ∧ RAir F' F2' ∧ AirN F' R d (spF m f g) (spG m f g) b ∧ (∀ k, k ≠ 3 → k ≠ 4 → k ≠ 7 → F' k = F k) ∧ (∀ k, k ≠ 2 → k ≠ 3 → k ≠ 6 → F2' k = F2 k) := by
  have hm := most7 hN
  obtain ⟨a1, a2, a3, a4, a5, a6, a7, a8, a9, a10, a11, a12⟩ := hA
  obtain ⟨r3, d3, f3, g3, b3, r1, r2, d2, b2⟩ := hN
  have hm8 : p_X8_most F2 = some (nI (R * (10 + d) / 10)) := by
    unfold p_X8_most
    rw [← a1, ← a2]
    exact hm
  have p : R * (10 + d) ≤ 5000 * 100 := Nat.mul_le_mul (by omega) (by omega)
  have pM : R * (10 + d) / 10 ≤ 50000 := by
    generalize R * (10 + d) = P at p ⊢
    omega
  generalize R * (10 + d) / 10 = M at hm hm8 pM ⊢
  have hall : p_X0_shares F = some (nI (f + g)) := by unfold p_X0_shares; rw [f3, g3, nI_add]
  have hall8 : p_X8_all F2 = some (nI (f + g)) := by unfold p_X8_all; rw [← a3, ← a4, f3, g3, nI_add]
  unfold p_X0_spillOver
  rw [hall, bi1S, hm, bi1S, hall8, bi1S, hm8, bi1S]
  rcases Nat.lt_or_ge M (f + g) with q | q
  · refine ⟨f + g - M, by omega, by omega, ?_⟩
    have e : nI (f + g) - nI M = nI (f + g - M) := pk_sub (by omega)
    have c : (0 : Int32) < nI (f + g - M) := (nI_pos0 (by omega)).2 (by omega)
    rw [e, if_pos c, spill7 f3 g3 (by omega) (by omega) (mul_lt (s := f + g) (by omega) (by omega) hs), spill8 (a3 ▸ f3) (a4 ▸ g3) (by omega) (by omega) (by omega) (mul_lt (s := f + g) (by omega) (by omega) hs)]
    refine ⟨_, _, rfl, rfl, ⟨a1, a2, rfl, rfl, a5, a6, ?_, a8, a9, a10, a11, a12⟩, ⟨r3, d3, rfl, rfl, b3, r1, r2, d2, b2⟩, ?_, ?_⟩
    · show F 7 + _ = F2 6 + _
      rw [a7]
    · intro k k1 k2 k3
      rw [pk_un k3, pk_un k1, pk_un k2]
    · intro k k1 k2 k3
      rw [pk_un k3, pk_un k1, pk_un k2]
  · refine ⟨0, by omega, by omega, ?_⟩
    have c : ¬ (0 : Int32) < nI (f + g) - nI M := by
      rw [Int32.lt_iff_toInt_lt]
      rw [pk_sub_toInt (by omega) (by omega)]
      have e0 : (0 : Int32).toInt = 0 := rfl
      rw [e0]; omega
    have z7 := spill7 (F := F) (G := G) (m := 0) f3 g3 (by omega) (by omega) (by omega)
    rw [if_neg c]
    unfold p_X8_spill
    rw [if_neg c]
    have s0 := sp_0 f g
    rw [s0.1, s0.2] at z7 ⊢
    refine ⟨upd (upd (upd F 4 (nI g)) 3 (nI f)) 7 (F 7 + nI 0), F2, ?_, rfl, ⟨a1, a2, ?_, ?_, a5, a6, ?_, a8, a9, a10, a11, a12⟩, ⟨r3, d3, rfl, rfl, b3, r1, r2, d2, b2⟩, ?_, fun _ _ _ _ => rfl⟩
    · have e0 : (0 : Int32) = nI 0 := rfl
      rw [e0, z7]; rfl
    · show nI f = F2 2
      rw [← a3, f3]
    · show nI g = F2 3
      rw [← a4, g3]
    · show F 7 + nI 0 = F2 6
      rw [← a7]
      apply Int32.toInt_inj.1
      have r := fb_rng (F 7)
      have e0 : (nI 0).toInt = 0 := rfl
      rw [fb_addI (by omega) (by omega)]; omega
    · intro k k1 k2 k3
      rw [pk_un k3, pk_un k1, pk_un k2]
theorem RR_air {F : tF} {G : tG} {F2 : tF} {G2 : tG} {F' F2' : tF} (hR : RR F G F2 G2) (hA : RAir F' F2') (hO : AirOk F') (e : ∀ k, k = 0 ∨ 13 ≤ k → F' k = F k) (e2 : ∀ k, 12 ≤ k → F2' k = F2 k) : RR F' G F2' G2 := by
  obtain ⟨-, -, hM, hW, hT, hL, hB, hP⟩ := hR
  refine ⟨hA, hO, ?_, ?_, ?_, ?_, ?_, ?_⟩
  · unfold RMen at hM ⊢
    rw [e 0 (Or.inl rfl), e 13 (Or.inr (by omega)), e 14 (Or.inr (by omega)), e 15 (Or.inr (by omega)), e2 12 (by omega), e2 14 (by omega), e2 13 (by omega)]
    exact hM
  · unfold RWreck at hW ⊢
    rw [e 15 (Or.inr (by omega)), e 16 (Or.inr (by omega)), e 17 (Or.inr (by omega)), e2 15 (by omega), e2 16 (by omega), e2 17 (by omega)]
    exact hW
  · unfold RTide at hT ⊢
    rw [e 19 (Or.inr (by omega)), e2 18 (by omega)]
    exact hT
  · unfold RLine at hL ⊢
    rw [e 23 (Or.inr (by omega)), e2 19 (by omega)]
    exact hL
  · unfold RBook at hB ⊢
    rw [e 24 (Or.inr (by omega)), e2 20 (by omega)]
    exact hB
  · have e15 := e 15 (Or.inr (by omega))
    have e16 := e 16 (Or.inr (by omega))
    have e17 := e 17 (Or.inr (by omega))
    have e19 := e 19 (Or.inr (by omega))
    have e20 := e 20 (Or.inr (by omega))
    have e21 := e 21 (Or.inr (by omega))
    have e22 := e 22 (Or.inr (by omega))
    rcases hP with h | ⟨h, n, F0, G0, F1, G1, p0, ⟨p1, p2, p3, p4, p5⟩, p6, p7, p8, p9, p10⟩
    · exact Or.inl ((e 18 (Or.inr (by omega))).trans h)
    · exact Or.inr ⟨(e 18 (Or.inr (by omega))).trans h, n, F0, G0, F1, G1, p0, ⟨e15.trans p1, e16.trans p2, e17.trans p3, e19.trans p4, p5⟩, p6, e20.trans p7, e21.trans p8, e22.trans p9, p10⟩
theorem sim_depth {n : Nat} (hn : 5000 ≤ n) : simT_depth n RR := by
  intro F G F2 G2 b1 hR
  obtain ⟨hA, hO, hM, hW, hT, hL, hB, hP⟩ := id hR
  have hc : cntEq (G2 0) 2 6 = cntEq (G 0) 2 6 := cntEq_cong 6 (fun j hj => (hM.2.2.2.2.1 j hj).1.symm)
  unfold p_X7_depth p_X8_depth
  rw [withinIf, inIf, anyOut_v (by omega), outside_v (by omega), hc]
  have hle := cntEq_le (G 0) 2 6
  by_cases h1 : b1 < 0
  · simp only [if_pos h1]
    exact ⟨-2, F, G, F2, G2, rfl, rfl, hR⟩
  by_cases h2 : 90 < b1
  · simp only [if_neg h1, if_pos h2]
    exact ⟨-2, F, G, F2, G2, rfl, rfl, hR⟩
  simp only [if_neg h1, if_neg h2, bi1S]
  obtain ⟨q, -, q2, q3⟩ := ix_of (m := 0) (n := 90) rfl rfl (by omega) (by omega) h1 h2
  by_cases h3 : cntEq (G 0) 2 6 = 0
  · have c1 := (outOnly G).2 h3
    have c2 := (nI_le0 (k := cntEq (G 0) 2 6) (by omega)).2 h3
    simp only [if_pos c1, if_pos c2]
    obtain ⟨R, d, f, g, b, hN, k1, k2⟩ := airN hO
    obtain ⟨a1, a2, a3, a4, a5, a6, a7, a8, a9, a10, a11, a12⟩ := hA
    obtain ⟨r3, d3, f3, g3, b3, r1, r2, d2, b2⟩ := hN
    obtain ⟨m, y1, y2, F', F2', y3, y4, y5, y6, y7, y8⟩ := over (F := upd F 2 b1) (G := G) (F2 := upd F2 1 b1) (G2 := G2) (R := R) (d := q) (f := f) (g := g) (b := b) ⟨a1, rfl, a3, a4, a5, a6, a7, a8, a9, a10, a11, a12⟩ ⟨r3, q3, f3, g3, b3, r1, r2, q2, b2⟩ (by omega)
    refine ⟨nI m, F', G, F2', G2, by rw [pletE, y3]; rfl, by rw [pletE]; exact y4, ?_⟩
    have hsum := sp_sum y2
    have f11 : F' 11 = F 11 := y7 11 (by omega) (by omega) (by omega)
    have f12 : F' 12 = F 12 := y7 12 (by omega) (by omega) (by omega)
    refine RR_air hR y5 (airMk y6 (by rw [hsum]; exact y1) (by omega) (by rw [f11, f12]; exact hO.2.2.2.2.2.2.2.2.2.2)) ?_ ?_
    · intro k hk
      rw [y7 k (by omega) (by omega) (by omega), pk_un (by omega)]
    · intro k hk
      rw [y8 k (by omega) (by omega) (by omega), pk_un (by omega)]
  · have c1 : ¬ (if cntEq (G 0) 2 6 = 0 then (0 : Int32) else 1) = 0 := fun z => h3 ((outOnly G).1 z)
    have c2 : ¬ nI (cntEq (G 0) 2 6) ≤ 0 := fun z => h3 ((nI_le0 (by omega)).1 z)
    simp only [if_neg c1, if_neg c2]
    exact ⟨-3, F, G, F2, G2, rfl, rfl, hR⟩
theorem sim_tip (n : Nat) : simT_tip n RR := by
  intro F G F2 G2 hR
  obtain ⟨hA, hO, hM, hW, hT, hL, hB, hP⟩ := id hR
  obtain ⟨R, d, f, g, b, hN, k1, k2⟩ := airN hO
  obtain ⟨a1, a2, a3, a4, a5, a6, a7, a8, a9, a10, a11, a12⟩ := id hA
  obtain ⟨r3, d3, f3, g3, b3, r1, r2, d2, b2⟩ := id hN
  have hall : p_X0_shares F = some (nI (f + g)) := by unfold p_X0_shares; rw [f3, g3, nI_add]
  have hall8 : p_X8_all F2 = some (nI (f + g)) := by unfold p_X8_all; rw [← a3, ← a4, f3, g3, nI_add]
  unfold p_X7_tip p_X8_tip
  have e2 : nI (f + g) / 2 = nI ((f + g) / 2) := pk_div (d := 2) (by omega) (by omega) (by omega)
  rw [hall, hall8, bi1S, bi1S, e2]
  have hle : (f + g) / 2 ≤ f + g := by omega
  have z7 := spill7 (F := F) (G := G) (m := (f + g) / 2) f3 g3 hle (by omega) (mul_lt (s := f + g) hle (by omega) (by omega))
  rcases Nat.eq_zero_or_pos ((f + g) / 2) with q | q
  · have c : ¬ (0 : Int32) < nI ((f + g) / 2) := by rw [q]; decide
    rw [z7]
    have z8 : p_X8_spill F2 G2 (nI ((f + g) / 2)) = some (0, F2, G2) := by unfold p_X8_spill; rw [if_neg c]
    rw [z8, q]
    have s0 := sp_0 f g
    rw [s0.1, s0.2]
    refine ⟨0, upd (upd (upd F 4 (nI g)) 3 (nI f)) 7 (F 7 + nI 0), G, F2, G2, rfl, rfl, ?_⟩
    have e7 : F 7 + nI 0 = F 7 := by
      apply Int32.toInt_inj.1
      have r := fb_rng (F 7)
      have e0 : (nI 0).toInt = 0 := rfl
      rw [fb_addI (by omega) (by omega)]; omega
    have eF : upd (upd (upd F 4 (nI g)) 3 (nI f)) 7 (F 7 + nI 0) = F := by
      funext k
      by_cases k7 : k = 7
      · rw [k7, pk_us, e7]
      rw [pk_un k7]
      by_cases k3 : k = 3
      · rw [k3, pk_us, f3]
      rw [pk_un k3]
      by_cases k4 : k = 4
      · rw [k4, pk_us, g3]
      rw [pk_un k4]
    rw [eF]; exact hR
  · have z8 := spill8 (F := F2) (G := G2) (m := (f + g) / 2) (a3 ▸ f3) (a4 ▸ g3) hle q (by omega) (mul_lt (s := f + g) hle (by omega) (by omega))
    rw [z7, z8]
    refine ⟨nI ((f + g) / 2), _, G, _, G2, rfl, rfl, ?_⟩
    have hsum := sp_sum hle
    refine RR_air hR ⟨a1, a2, rfl, rfl, a5, a6, ?_, a8, a9, a10, a11, a12⟩ (airMk (R := R) (d := d) (f := spF ((f + g) / 2) f g) (g := spG ((f + g) / 2) f g) (b := b) ⟨r3, d3, rfl, rfl, b3, r1, r2, d2, b2⟩ ?_ (by omega) hO.2.2.2.2.2.2.2.2.2.2) ?_ ?_
    · show F 7 + _ = F2 6 + _
      rw [a7]
    · exact Nat.le_trans (by omega) k1
    · intro k hk
      rw [pk_un (by omega), pk_un (by omega), pk_un (by omega)]
    · intro k hk
      rw [pk_un (by omega), pk_un (by omega), pk_un (by omega)]
