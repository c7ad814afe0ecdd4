/-! fewest -/
theorem foul7_v {f g : Nat} (hs : f + g ≤ 60000) : p_X0_foulness (nI f) (nI g) = some (nI (100 * g / (f + g))) := by
  unfold p_X0_foulness
  have e := foulPart_v (m := 100) (f := f) (g := g) (by omega) (by omega) (by omega)
  have e1 : (100 : Int32) = nI 100 := rfl
  rw [e1, e, bi1S]
theorem foul8_v {F : tF} {f g : Nat} (hf : F 2 = nI f) (hg : F 3 = nI g) (hs : f + g ≤ 60000) : p_X8_foulness F = some (nI (100 * g / (f + g))) := by
  have hall8 : p_X8_all F = some (nI (f + g)) := by unfold p_X8_all; rw [hf, hg, nI_add]
  unfold p_X8_foulness
  rw [hall8, bi1S]
  by_cases h : f + g = 0
  · have c : nI (f + g) = 0 := by rw [h]; rfl
    rw [if_pos c, bi1S, h, Nat.div_zero]; rfl
  · have c : ¬ nI (f + g) = 0 := fun w => h ((nI_eq (a := f + g) (b := 0) (by omega) (by omega)).1 w)
    have zz : nzB (nI (f + g)) = true := decide_eq_true c
    have e1 : (100 : Int32) = nI 100 := rfl
    rw [if_neg c, bi1S, zz, oguardT, bi1S, hg, e1, pk_mul, Nat.mul_comm g 100, pk_div (by omega) (by omega) (by omega)]
def few (M : Nat) (lim : Int32) (b : Nat) : Nat → Nat → Nat → Nat → Int32
  | 0, i, f, g => if lim < nI (100 * g / (f + g)) then -6 else nI i
  | c + 1, i, f, g => if lim < nI (100 * g / (f + g)) then few M lim b c (i + 1) (spF (f + b + g - M) (f + b) g) (spG (f + b + g - M) (f + b) g) else nI i
theorem few_no {M : Nat} {lim : Int32} {b i f g : Nat} (h : ¬ lim < nI (100 * g / (f + g))) : ∀ c, few M lim b c i f g = nI i
  | 0 => by rw [few, if_neg h]
  | c + 1 => by rw [few, if_neg h]
theorem few_mul {m g : Nat} (hm : m ≤ 500) (hg : g ≤ 60000) : m * g < 2 ^ 31 := by
  have a : m * g ≤ 500 * 60000 := Nat.mul_le_mul hm hg
  omega
theorem few7_L (F : tF) {M b : Nat} (hM : p_X0_most F = some (nI M)) (hM5 : M ≤ 50000) (hb : b ≤ 500) : ∀ c i k f g, i + c = 40 → c + 1 < k → f + g ≤ M → f + g ≤ 25000 + 500 * i →
    p_X0_fewestBarrels_L13 F (nI b) (fun _ _ _ => some (-6)) k (nI i) (nI g) (nI f) = some (few M (F 12) b c i f g) := by
  have step : ∀ i k f g, i ≤ 40 → 1 < k → f + g ≤ M → f + g ≤ 25000 + 500 * i → p_X0_fewestBarrels_L13 F (nI b) (fun _ _ _ => some (-6)) k (nI i) (nI g) (nI f) = if F 12 < nI (100 * g / (f + g)) then p_X0_fewestBarrels_L13 F (nI b) (fun _ _ _ => some (-6)) (k - 1) (nI (i + 1)) (nI (spG (f + b + g - M) (f + b) g)) (nI (spF (f + b + g - M) (f + b) g)) else some (nI i) := by
    intro i k f g hi hk h1 h2
    obtain ⟨k, rfl⟩ : ∃ q, k = q + 1 := ⟨k - 1, by omega⟩
    rw [p_X0_fewestBarrels_L13, if_neg (show ¬ (40 : Int32) < nI i from nI_nlt (a := 40) hi (by omega)), foul7_v (by omega), bi1S]
    by_cases hl : F 12 < nI (100 * g / (f + g))
    · rw [if_pos hl, if_pos hl, pletE, hM, bi1S, nI_add, nI_add]
      have hx : (if (0 : Int32) < nI (f + b + g) - nI M then nI (f + b + g) - nI M else 0) = nI (f + b + g - M) := by
        by_cases q : M < f + b + g
        · have c : (0 : Int32) < nI (f + b + g - M) := (nI_pos0 (by omega)).2 (by omega)
          rw [pk_sub (by omega), if_pos c]
        · have c : ¬ (0 : Int32) < nI (f + b + g) - nI M := by
            rw [Int32.lt_iff_toInt_lt]
            rw [pk_sub_toInt (by omega) (by omega)]
            have e0 : (0 : Int32).toInt = 0 := rfl
            rw [e0]; omega
          rw [if_neg c]
          have e : f + b + g - M = 0 := by omega
          rw [e]; rfl
      rw [hx, pletE, foulPart_v (by omega) (by omega) (few_mul (by omega) (by omega)), bi1S, pletE, pletE, pletE, nI_1, pk_sub (bad_le (by omega)), pk_sub bad_m, pk_sub (bad_ge (by omega))]
      rfl
    · rw [if_neg hl, if_neg hl]
  intro c
  induction c with
  | zero =>
    intro i k f g hi hk h1 h2
    rw [step i k f g (by omega) (by omega) h1 h2, few]
    by_cases hl : F 12 < nI (100 * g / (f + g))
    · obtain ⟨k, rfl⟩ : ∃ q, k = q + 2 := ⟨k - 2, by omega⟩
      rw [if_pos hl, if_pos hl, show k + 2 - 1 = k + 1 from rfl, p_X0_fewestBarrels_L13, if_pos (show (40 : Int32) < nI (i + 1) from nI_lt (a := 40) (by omega) (by omega))]
    · rw [if_neg hl, if_neg hl]
  | succ c ih =>
    intro i k f g hi hk h1 h2
    rw [step i k f g (by omega) (by omega) h1 h2, few]
    by_cases hl : F 12 < nI (100 * g / (f + g))
    · have hsum := sp_sum (m := f + b + g - M) (f := f + b) (g := g) (by omega)
      rw [if_pos hl, if_pos hl, ih (i + 1) (k - 1) _ _ (by omega) (by omega) (by omega) (by omega)]
    · rw [if_neg hl, if_neg hl]
def agr (F2 Fc : tF) : Prop := ∀ j, j ≠ 2 → j ≠ 3 → j ≠ 6 → Fc j = F2 j
theorem few8_L (F2 : tF) (G2 : tG) {M b : Nat} (hM : ∀ Fc, agr F2 Fc → p_X8_most Fc = some (nI M)) (hM5 : M ≤ 50000) (hb : b ≤ 500) (K : Int32 → Int32 → tF → tG → Option (Int32 × tF × tG)) (hK : ∀ z0 z1 Fl, agr F2 Fl → K z0 z1 Fl G2 = some (z1, F2, G2)) : ∀ c i k f g Fc, i + c = 40 → c + 1 < k → f + g ≤ M → f + g ≤ 25000 + 500 * i → agr F2 Fc → Fc 2 = nI f → Fc 3 = nI g → F2 11 < nI (100 * g / (f + g)) →
    p_X8_fewest_L52 (nI b) K k (nI (i + 1)) (-6) Fc G2 = some (few M (F2 11) b c i f g, F2, G2) := by
  intro c
  induction c with
  | zero =>
    intro i k f g Fc hi hk h1 h2 ha e2 e3 hl
    obtain ⟨k, rfl⟩ : ∃ q, k = q + 1 := ⟨k - 1, by omega⟩
    rw [p_X8_fewest_L52, if_pos (show (40 : Int32) < nI (i + 1) from nI_lt (a := 40) (by omega) (by omega)), hK _ _ _ ha, few, if_pos hl]
  | succ c ih =>
    intro i k f g Fc hi hk h1 h2 ha e2 e3 hl
    obtain ⟨k, rfl⟩ : ∃ q, k = q + 2 := ⟨k - 2, by omega⟩
    obtain ⟨Fa, eFa⟩ : ∃ z : tF, z = upd Fc 2 (Fc 2 + nI b) := ⟨_, rfl⟩
    have a2 : Fa 2 = nI (f + b) := by rw [eFa, pk_us, e2, nI_add]
    have a3 : Fa 3 = nI g := by rw [eFa, pk_un (by omega), e3]
    have aa : agr F2 Fa := by
      intro j j2 j3 j6
      rw [eFa, pk_un j2]; exact ha j j2 j3 j6
    have hall : p_X8_all Fa = some (nI (f + b + g)) := by unfold p_X8_all; rw [a2, a3, nI_add]
    obtain ⟨x, Fd, d1, d2, d3, d4⟩ : ∃ x Fd, p_X8_spill Fa G2 (nI (f + b + g) - nI M) = some (x, Fd, G2) ∧ Fd 2 = nI (spF (f + b + g - M) (f + b) g) ∧ Fd 3 = nI (spG (f + b + g - M) (f + b) g) ∧ agr F2 Fd := by
      by_cases q : M < f + b + g
      · rw [pk_sub (by omega), spill8 a2 a3 (by omega) (by omega) (by omega) (few_mul (by omega) (by omega))]
        refine ⟨_, _, rfl, rfl, rfl, ?_⟩
        intro j j2 j3 j6
        rw [pk_un j6, pk_un j2, pk_un j3]; exact aa j j2 j3 j6
      · have c : ¬ (0 : Int32) < nI (f + b + g) - nI M := by
          rw [Int32.lt_iff_toInt_lt]
          rw [pk_sub_toInt (by omega) (by omega)]
          have e0 : (0 : Int32).toInt = 0 := rfl
          rw [e0]; omega
        have e : f + b + g - M = 0 := by omega
        have s0 := sp_0 (f + b) g
        unfold p_X8_spill
        rw [if_neg c, e, s0.1, s0.2]
        exact ⟨0, Fa, rfl, a2, a3, aa⟩
    have hsum := sp_sum (m := f + b + g - M) (f := f + b) (g := g) (by omega)
    rw [p_X8_fewest_L52, if_neg (show ¬ (40 : Int32) < nI (i + 1) from nI_nlt (a := 40) (by omega) (by omega)), if_neg (by decide), pletE, ← eFa, hall, bi1S, hM Fa aa, bi1S, d1, bi3S, foul8_v d2 d3 (by omega), bi1S, d4 11 (by omega) (by omega) (by omega), few, if_pos hl]
    by_cases hl2 : F2 11 < nI (100 * spG (f + b + g - M) (f + b) g / (spF (f + b + g - M) (f + b) g + spG (f + b + g - M) (f + b) g))
    · rw [if_pos hl2, bi1S, pletE, nI_1]
      exact ih (i + 1) (k + 1) _ _ Fd (by omega) (by omega) (by omega) (by omega) d4 d2 d3 hl2
    · rw [if_neg hl2, bi1S, pletE, nI_1, few_no hl2, p_X8_fewest_L52]
      have c0 : (0 : Int32) ≤ nI (i + 1) := nI_pos' (by omega)
      rw [if_pos c0, hK _ _ _ d4]
      by_cases q : (40 : Int32) < nI (i + 1 + 1)
      · rw [if_pos q]
      · rw [if_neg q]
theorem sim_fewest {n : Nat} (hn : 5000 ≤ n) : simT_fewest n RR := by
  intro F G F2 G2 b1 hR
  obtain ⟨hA, hO, hM, hW, hT, hL, hB, hP⟩ := id hR
  obtain ⟨R, d, f, g, b, hN, k1, k2⟩ := airN hO
  have hm := most7 hN
  obtain ⟨a1, a2, a3, a4, a5, a6, a7, a8, a9, a10, a11, a12⟩ := id hA
  obtain ⟨r3, d3, f3, g3, b3, r1, r2, d2, b2⟩ := id hN
  have pM : R * (10 + d) / 10 ≤ 50000 := by
    have p : R * (10 + d) ≤ 5000 * 100 := Nat.mul_le_mul (by omega) (by omega)
    generalize R * (10 + d) = P at p ⊢
    omega
  have hm8 : ∀ Fc, agr F2 Fc → p_X8_most Fc = some (nI (R * (10 + d) / 10)) := by
    intro Fc hc
    unfold p_X8_most
    rw [hc 0 (by omega) (by omega) (by omega), hc 1 (by omega) (by omega) (by omega), ← a1, ← a2]
    exact hm
  generalize R * (10 + d) / 10 = M at hm hm8 pM k1
  unfold p_X7_fewest p_X8_fewest
  rw [withinIf, inIf]
  by_cases h1 : b1 < 1
  · rw [if_pos h1, if_pos h1]
    exact ⟨-2, F2, G2, rfl, rfl, hR⟩
  by_cases h2 : 500 < b1
  · rw [if_neg h1, if_neg h1, if_pos h2, if_pos h2]
    exact ⟨-2, F2, G2, rfl, rfl, hR⟩
  rw [if_neg h1, if_neg h1, if_neg h2, if_neg h2]
  obtain ⟨q, q1, q2, q3⟩ := ix_of (m := 1) (n := 500) rfl rfl (by omega) (by omega) h1 h2
  rw [q3]
  have e7 : p_X0_fewestBarrels n F (nI q) = some (few M (F 12) q 40 0 f g) := by
    unfold p_X0_fewestBarrels
    rw [pletE, pletE, f3, g3]
    exact few7_L F hm pM q2 40 0 n f g rfl (by omega) k1 (by omega)
  rw [e7, bi1S]
  refine ⟨_, F2, G2, rfl, ?_, hR⟩
  rw [pletE, pletE, pletE, foul8_v (a3 ▸ f3) (a4 ▸ g3) (by omega), bi1S, a12]
  have hK : ∀ (z0 z1 : Int32) (Fl : tF), agr F2 Fl → (fun (z52_0 : Int32) (z52_1 : Int32) (F52l : tF) (G52l : tG) => plet (upd F52l 2 (F2 2)) (fun (F116 : tF) => plet (upd F116 3 (F2 3)) (fun (F121 : tF) => plet (upd F121 6 (F2 6)) (fun (F127 : tF) => some (z52_1, F127, G52l))))) z0 z1 Fl G2 = some (z1, F2, G2) := by
    intro z0 z1 Fl ha
    show some (z1, upd (upd (upd Fl 2 (F2 2)) 3 (F2 3)) 6 (F2 6), G2) = _
    have e : upd (upd (upd Fl 2 (F2 2)) 3 (F2 3)) 6 (F2 6) = F2 := by
      funext j
      by_cases j6 : j = 6
      · rw [j6, pk_us]
      rw [pk_un j6]
      by_cases j3 : j = 3
      · rw [j3, pk_us]
      rw [pk_un j3]
      by_cases j2 : j = 2
      · rw [j2, pk_us]
      rw [pk_un j2]
      exact ha j j2 j3 j6
    rw [e]
  by_cases hl : F2 11 < nI (100 * g / (f + g))
  · rw [if_pos hl, bi1S]
    exact few8_L F2 G2 hm8 pM q2 _ hK 40 0 n f g F2 rfl (by omega) k1 (by omega) (fun _ _ _ _ => rfl) (a3 ▸ f3) (a4 ▸ g3) hl
  · rw [if_neg hl, bi1S, few_no hl]
    obtain ⟨k, rfl⟩ : ∃ z, n = z + 1 := ⟨n - 1, by omega⟩
    rw [p_X8_fewest_L52, if_neg (by decide), if_pos (by decide)]
    exact hK 1 0 F2 (fun _ _ _ _ => rfl)
