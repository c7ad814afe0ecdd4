theorem one_nz : ¬ (1 : Int32) = 0 := by decide
theorem hearIf {α : Type} (a b : Int32) (X Y : Option α) : bi1 (p_X3_isHearing a b) (fun x => if x = 0 then X else Y) = if a < 0 then X else if 7 < a then X else if b < 0 then X else if 7 < b then X else Y := by
  unfold p_X3_isHearing
  rw [withinV, withinV]
  by_cases h1 : a < 0
  · simp only [if_pos h1]; rfl
  by_cases h2 : 7 < a
  · simp only [if_neg h1, if_pos h2]; rfl
  by_cases h3 : b < 0
  · simp only [if_neg h1, if_neg h2, if_pos h3]; rfl
  by_cases h4 : 7 < b
  · simp only [if_neg h1, if_neg h2, if_neg h3, if_pos h4]; rfl
  · simp only [if_neg h1, if_neg h2, if_neg h3, if_neg h4]; rfl
theorem sim_hear (n : Nat) : simT_hear n RR := by
  intro F G F2 G2 b1 b2 hR
  obtain ⟨hA, hO, hM, hW, hT, hL, hB, hP⟩ := id hR
  obtain ⟨l1, l2, l3, h, hh, l4, l5⟩ := hL
  unfold p_X7_hear p_X8_hear
  simp only [isHeard8, hearIf, inIf]
  by_cases h1 : b1 < 0
  · simp only [if_pos h1]
    exact ⟨-2, F, G, F2, G2, rfl, rfl, hR⟩
  by_cases h2 : 7 < b1
  · simp only [if_neg h1, if_pos h2]
    exact ⟨-2, F, G, F2, G2, rfl, rfl, hR⟩
  by_cases h3 : b2 < 0
  · simp only [if_neg h1, if_neg h2, if_pos h3]
    exact ⟨-2, F, G, F2, G2, rfl, rfl, hR⟩
  by_cases h4 : 7 < b2
  · simp only [if_neg h1, if_neg h2, if_neg h3, if_pos h4]
    exact ⟨-2, F, G, F2, G2, rfl, rfl, hR⟩
  simp only [if_neg h1, if_neg h2, if_neg h3, if_neg h4]
  obtain ⟨u, -, u2, u3⟩ := ix_of (m := 0) (n := 7) rfl rfl (by omega) (by omega) h1 h2
  obtain ⟨v, -, v2, v3⟩ := ix_of (m := 0) (n := 7) rfl rfl (by omega) (by omega) h3 h4
  have e2 : F2 19 = nI h := l1 ▸ l4
  by_cases h5 : h = 4
  · have c1 : ¬ F 23 < 4 := by rw [l4, h5]; decide
    have c2 : F2 19 = 4 := by rw [e2, h5]; rfl
    simp only [if_neg c1, if_pos c2]
    exact ⟨-4, F, G, F2, G2, rfl, rfl, hR⟩
  · have c1 : F 23 < 4 := by rw [l4]; exact nI_lt (b := 4) (by omega) (by omega)
    have c2 : ¬ F2 19 = 4 := by rw [e2]; exact fun q => h5 ((nI_eq (b := 4) (by omega) (by omega)).1 q)
    have i1 : inB (F 23) 4 = true := by rw [l4]; exact inBT (by omega) (by omega)
    have i2 : inB (F2 19) 4 = true := by rw [e2]; exact inBT (by omega) (by omega)
    simp only [if_pos c1, if_neg c2]
    refine ⟨F 23 + 1, upd F 23 (F 23 + 1), stG (stG G 18 (F 23) b1) 19 (F 23) b2, upd F2 19 (F2 19 + 1), stG (stG G2 11 (F2 19) b1) 12 (F2 19) b2, ?_, ?_, ?_⟩
    · unfold p_X3_addHearing
      rw [i1]; rfl
    · rw [i2, l1]; rfl
    · have ecl : (nI h).toNatClampNeg = h := nI_clamp (by omega)
      refine ⟨hA, hO, hM, hW, hT, ⟨?_, l2, l3, h + 1, by omega, ?_, ?_⟩, hB, hP⟩
      · show F 23 + 1 = F2 19 + 1
        rw [l1]
      · show F 23 + 1 = nI (h + 1)
        rw [l4]; exact nI_1 h
      · intro j hj
        show upd (G 18) (F 23).toNatClampNeg b1 j = upd (G2 11) (F2 19).toNatClampNeg b1 j ∧ upd (G 19) (F 23).toNatClampNeg b2 j = upd (G2 12) (F2 19).toNatClampNeg b2 j ∧ ∃ a b : Nat, a ≤ 7 ∧ b ≤ 7 ∧ upd (G 18) (F 23).toNatClampNeg b1 j = nI a ∧ upd (G 19) (F 23).toNatClampNeg b2 j = nI b
        rw [l4, e2, ecl]
        by_cases hjk : j = h
        · rw [hjk, pk_us, pk_us, pk_us, pk_us]; exact ⟨rfl, rfl, u, v, u2, v2, u3, v3⟩
        · rw [pk_un hjk, pk_un hjk, pk_un hjk, pk_un hjk]; exact l5 j (by omega)
theorem sim_man (n : Nat) : simT_man n RR := by
  intro F G F2 G2 b1 b2 hR
  obtain ⟨hA, hO, hM, hW, hT, hL, hB, hP⟩ := id hR
  obtain ⟨m1, m2, m3, m4, m5, m6, m7⟩ := hM
  unfold p_X7_man p_X8_man
  simp only [isMan7, isMan8, withinIf, inIf]
  by_cases h1 : b1 < 0
  · simp only [if_pos h1]
    exact ⟨-1, rfl, rfl⟩
  by_cases h2 : 5 < b1
  · simp only [if_neg h1, if_pos h2]
    exact ⟨-1, rfl, rfl⟩
  simp only [if_neg h1, if_neg h2]
  obtain ⟨k, -, hk, ek⟩ := ix_of (m := 0) (n := 5) rfl rfl (by omega) (by omega) h1 h2
  subst ek
  have i1 : inB (nI k) 6 = true := inBT (by omega) (by omega)
  have ecl : (nI k).toNatClampNeg = k := nI_clamp (by omega)
  obtain ⟨r0, r1, r2, r3, r4, r5⟩ := m5 k (by omega)
  simp only [i1, oguardT, ecl]
  by_cases hq : G 0 k = 2
  · obtain ⟨s1, s2, s3, -⟩ := r2 hq
    have hq2 : G2 0 k = 2 := r0 ▸ hq
    simp only [if_pos hq2, if_pos hq, bi1S, if_neg one_nz, ← s1, ← s2, ← s3, ← r0, ← r4, iteS]
    exact ⟨_, rfl, rfl⟩
  · obtain ⟨s1, s2, s3⟩ := r3 hq
    have hq2 : ¬ G2 0 k = 2 := fun q => hq (r0.trans q)
    simp only [if_neg hq2, if_neg hq, bi1S, if_pos (rfl : (0 : Int32) = 0), s1, s2, s3, ← r0, ← r4, iteS]
    exact ⟨_, rfl, rfl⟩
/-! counts over the men -/
def cntNZ (f : Nat → Int32) : Nat → Nat
  | 0 => 0
  | k + 1 => cntNZ f k + if f k = 0 then 0 else 1
theorem cntNZ_le (f : Nat → Int32) : ∀ k, cntNZ f k ≤ k
  | 0 => Nat.le_refl 0
  | k + 1 => by
    have ih := cntNZ_le f k
    by_cases h : f k = 0
    · simp only [cntNZ, if_pos h]; omega
    · simp only [cntNZ, if_neg h]; omega
theorem cntNZ_cong {f g : Nat → Int32} : ∀ k, (∀ j, j < k → f j = g j) → cntNZ f k = cntNZ g k
  | 0, _ => rfl
  | k + 1, h => by rw [cntNZ, cntNZ, cntNZ_cong k (fun j hj => h j (by omega)), h k (by omega)]
theorem cntEq_le (f : Nat → Int32) (x : Int32) : ∀ k, cntEq f x k ≤ k
  | 0 => Nat.le_refl 0
  | k + 1 => by
    have ih := cntEq_le f x k
    by_cases h : f k = x
    · simp only [cntEq, if_pos h]; omega
    · simp only [cntEq, if_neg h]; omega
theorem cntEq_cong {f g : Nat → Int32} {x : Int32} : ∀ k, (∀ j, j < k → f j = g j) → cntEq f x k = cntEq g x k
  | 0, _ => rfl
  | k + 1, h => by rw [cntEq, cntEq, cntEq_cong k (fun j hj => h j (by omega)), h k (by omega)]
theorem cntEq_mono (f : Nat → Int32) (x : Int32) (i : Nat) : ∀ d, cntEq f x i ≤ cntEq f x (i + d)
  | 0 => Nat.le_refl _
  | d + 1 => by
    have ih := cntEq_mono f x i d
    show cntEq f x i ≤ cntEq f x (i + d) + if f (i + d) = x then 1 else 0
    omega
theorem lt6 {i : Nat} (h : i < 6) : ¬ (6 : Int32) ≤ nI i := nI_ge (b := 6) h (by omega)
theorem countBelow_L (G : tG) (K : Int32 → Int32 → Option Int32) : ∀ c i k, i + c = 6 → c < k → p_X2_countBelow_L4 G K k (nI i) (nI (cntNZ (G 0) i)) = K (nI 6) (nI (cntNZ (G 0) 6))
  | 0, i, k, hi, hk => by
    obtain ⟨k, rfl⟩ : ∃ q, k = q + 1 := ⟨k - 1, by omega⟩
    have e : i = 6 := by omega
    subst e
    rw [p_X2_countBelow_L4, if_pos (by decide)]
  | c + 1, i, k, hi, hk => by
    obtain ⟨k, rfl⟩ : ∃ q, k = q + 1 := ⟨k - 1, by omega⟩
    have hlt : i < 6 := by omega
    rw [p_X2_countBelow_L4, if_neg (lt6 hlt), inBT hlt (by omega), oguardT, nI_clamp (by omega)]
    have ih := countBelow_L G K c (i + 1) k (by omega) (by omega)
    by_cases hz : G 0 i = 0
    · rw [if_pos hz, bi1S, pletE, nI_1]
      have e : cntNZ (G 0) (i + 1) = cntNZ (G 0) i := by rw [cntNZ, if_pos hz]; omega
      rw [e] at ih; exact ih
    · rw [if_neg hz, pletE, bi1S, pletE, nI_1, nI_1]
      have e : cntNZ (G 0) (i + 1) = cntNZ (G 0) i + 1 := by rw [cntNZ, if_neg hz]
      rw [e] at ih; exact ih
theorem countBelow_v {n : Nat} (hn : 6 < n) (G : tG) : p_X2_countBelow n G = some (nI (cntNZ (G 0) 6)) := countBelow_L G _ 6 0 n rfl hn
theorem breathing_L (G : tG) (K : Int32 → Int32 → Option Int32) : ∀ c i k, i + c = 6 → c < k → p_X8_breathing_L4 G K k (nI i) (nI (cntNZ (G 0) i)) = K (nI 6) (nI (cntNZ (G 0) 6))
  | 0, i, k, hi, hk => by
    obtain ⟨k, rfl⟩ : ∃ q, k = q + 1 := ⟨k - 1, by omega⟩
    have e : i = 6 := by omega
    subst e
    rw [p_X8_breathing_L4, if_pos (by decide)]
  | c + 1, i, k, hi, hk => by
    obtain ⟨k, rfl⟩ : ∃ q, k = q + 1 := ⟨k - 1, by omega⟩
    have hlt : i < 6 := by omega
    rw [p_X8_breathing_L4, if_neg (lt6 hlt), inBT hlt (by omega), oguardT, nI_clamp (by omega)]
    have ih := breathing_L G K c (i + 1) k (by omega) (by omega)
    by_cases hz : G 0 i = 0
    · rw [if_pos hz, bi1S, pletE, pletE, nI_1]
      have e : cntNZ (G 0) (i + 1) = cntNZ (G 0) i := by rw [cntNZ, if_pos hz]; omega
      rw [e] at ih
      have e0 : nI (cntNZ (G 0) i) + 0 = nI (cntNZ (G 0) i) := nI_add _ 0
      rw [e0]; exact ih
    · rw [if_neg hz, bi1S, pletE, pletE, nI_1, nI_1]
      have e : cntNZ (G 0) (i + 1) = cntNZ (G 0) i + 1 := by rw [cntNZ, if_neg hz]
      rw [e] at ih; exact ih
theorem breathing_v {n : Nat} (hn : 6 < n) (G : tG) : p_X8_breathing n G = some (nI (cntNZ (G 0) 6)) := breathing_L G _ 6 0 n rfl hn
theorem outside_L (G : tG) (K : Int32 → Int32 → Option Int32) : ∀ c i k, i + c = 6 → c < k → p_X8_outside_L4 G K k (nI i) (nI (cntEq (G 0) 2 i)) = K (nI 6) (nI (cntEq (G 0) 2 6))
  | 0, i, k, hi, hk => by
    obtain ⟨k, rfl⟩ : ∃ q, k = q + 1 := ⟨k - 1, by omega⟩
    have e : i = 6 := by omega
    subst e
    rw [p_X8_outside_L4, if_pos (by decide)]
  | c + 1, i, k, hi, hk => by
    obtain ⟨k, rfl⟩ : ∃ q, k = q + 1 := ⟨k - 1, by omega⟩
    have hlt : i < 6 := by omega
    rw [p_X8_outside_L4, if_neg (lt6 hlt), inBT hlt (by omega), oguardT, nI_clamp (by omega)]
    have ih := outside_L G K c (i + 1) k (by omega) (by omega)
    by_cases hz : G 0 i = 2
    · rw [if_pos hz, bi1S, pletE, pletE, nI_1, nI_1]
      have e : cntEq (G 0) 2 (i + 1) = cntEq (G 0) 2 i + 1 := by rw [cntEq, if_pos hz]
      rw [e] at ih; exact ih
    · rw [if_neg hz, bi1S, pletE, pletE, nI_1]
      have e : cntEq (G 0) 2 (i + 1) = cntEq (G 0) 2 i := by rw [cntEq, if_neg hz]; omega
      rw [e] at ih
      have e0 : nI (cntEq (G 0) 2 i) + 0 = nI (cntEq (G 0) 2 i) := nI_add _ 0
      rw [e0]; exact ih
theorem outside_v {n : Nat} (hn : 6 < n) (G : tG) : p_X8_outside n G = some (nI (cntEq (G 0) 2 6)) := outside_L G _ 6 0 n rfl hn
theorem anyOut_L (G : tG) : ∀ c i k, i + c = 6 → c < k → cntEq (G 0) 2 i = 0 → p_X2_anyOut_L2 G (fun _ => some 0) k (nI i) = some (if cntEq (G 0) 2 6 = 0 then 0 else 1)
  | 0, i, k, hi, hk, h0 => by
    obtain ⟨k, rfl⟩ : ∃ q, k = q + 1 := ⟨k - 1, by omega⟩
    have e : i = 6 := by omega
    subst e
    rw [p_X2_anyOut_L2, if_pos (by decide), if_pos h0]
  | c + 1, i, k, hi, hk, h0 => by
    obtain ⟨k, rfl⟩ : ∃ q, k = q + 1 := ⟨k - 1, by omega⟩
    have hlt : i < 6 := by omega
    rw [p_X2_anyOut_L2, if_neg (lt6 hlt), inBT hlt (by omega), oguardT, nI_clamp (by omega)]
    by_cases hz : G 0 i = 2
    · have e : cntEq (G 0) 2 (i + 1) = 1 := by rw [cntEq, if_pos hz, h0]
      have m := cntEq_mono (G 0) 2 (i + 1) c
      have e6 : i + 1 + c = 6 := by omega
      rw [e6, e] at m
      rw [if_pos hz, if_neg (by omega)]
    · have e : cntEq (G 0) 2 (i + 1) = 0 := by rw [cntEq, if_neg hz, h0]
      rw [if_neg hz, pletE, nI_1]
      exact anyOut_L G c (i + 1) k (by omega) (by omega) e
theorem anyOut_v {n : Nat} (hn : 6 < n) (G : tG) : p_X2_anyOut n G = some (if cntEq (G 0) 2 6 = 0 then 0 else 1) := anyOut_L G 6 0 n rfl hn rfl
