/-- an entry among c ones from i on that bars an entry of minute t for man m -/
def anyB (f g : Nat → Int32) (t m : Int32) : Nat → Nat → Bool
  | 0, _ => false
  | c + 1, i => if t < f i then true else if f i = t ∧ g i = m then true else anyB f g t m c (i + 1)
theorem anyB_no {f g : Nat → Int32} {t m : Int32} : ∀ c i, anyB f g t m c i = false → ∀ j, i ≤ j → j < i + c → ¬ t < f j ∧ ¬ (f j = t ∧ g j = m)
  | 0, _, _, j, h1, h2 => absurd h2 (by omega)
  | c + 1, i, h, j, h1, h2 => by
    rw [anyB] at h
    by_cases q1 : t < f i
    · rw [if_pos q1] at h; cases h
    rw [if_neg q1] at h
    by_cases q2 : f i = t ∧ g i = m
    · rw [if_pos q2] at h; cases h
    rw [if_neg q2] at h
    by_cases e : j = i
    · rw [e]; exact ⟨q1, q2⟩
    · exact anyB_no c (i + 1) h j (by omega) (by omega)
theorem anyB_cong {f g f2 g2 : Nat → Int32} {t m : Int32} : ∀ c i, (∀ j, i ≤ j → j < i + c → f j = f2 j ∧ g j = g2 j) → anyB f2 g2 t m c i = anyB f g t m c i
  | 0, _, _ => rfl
  | c + 1, i, h => by
    obtain ⟨e1, e2⟩ := h i (by omega) (by omega)
    rw [anyB, anyB, ← e1, ← e2, anyB_cong c (i + 1) (fun j h1 h2 => h j (by omega) (by omega))]
theorem mayFollow_L (F : tF) (G : tG) (t m : Int32) (e : Nat) (he : e ≤ 40) (hF : F 24 = nI e) : ∀ c i k, i + c = e → c < k → p_X1_mayFollow_L2 F G t m (fun _ => some 1) k (nI i) = some (if anyB (G 20) (G 21) t m c i = true then 0 else 1)
  | 0, i, k, hi, hk => by
    obtain ⟨k, rfl⟩ : ∃ q, k = q + 1 := ⟨k - 1, by omega⟩
    have e0 : i = e := by omega
    subst e0
    rw [p_X1_mayFollow_L2, hF, if_pos (nI_le (Nat.le_refl i) (by omega)), anyB, if_neg (by decide)]
  | c + 1, i, k, hi, hk => by
    obtain ⟨k, rfl⟩ : ∃ q, k = q + 1 := ⟨k - 1, by omega⟩
    have ih := mayFollow_L F G t m e he hF c (i + 1) k (by omega) (by omega)
    rw [p_X1_mayFollow_L2, hF, if_neg (nI_ge (by omega) (by omega)), inBT (by omega) (by omega), oguardT, oguardT, oguardT, nI_clamp (by omega), anyB]
    by_cases q1 : t < G 20 i
    · have c1 : ¬ G 20 i ≤ t := Int32.not_le.2 q1
      rw [if_neg c1, if_pos q1, if_pos rfl]
    have c1 : G 20 i ≤ t := Int32.not_lt.1 q1
    rw [if_pos c1, if_neg q1]
    by_cases q2 : G 20 i = t
    · rw [if_pos q2]
      by_cases q3 : G 21 i = m
      · have c2 : G 20 i = t ∧ G 21 i = m := ⟨q2, q3⟩
        rw [if_pos q3, if_pos c2, if_pos rfl]
      · have c2 : ¬ (G 20 i = t ∧ G 21 i = m) := fun z => q3 z.2
        rw [if_neg q3, if_neg c2, pletE, nI_1]; exact ih
    · have c2 : ¬ (G 20 i = t ∧ G 21 i = m) := fun z => q2 z.1
      rw [if_neg q2, if_neg c2, pletE, nI_1]; exact ih
theorem entry_L (F : tF) (G : tG) (t m : Int32) (K : Int32 → Option (Int32 × tF × tG)) (e : Nat) (he : e ≤ 40) (hF : F 20 = nI e) : ∀ c i k, i + c = e → c < k → p_X8_entry_L47 F G t m K k (nI i) = if anyB (G 13) (G 14) t m c i = true then some (-5, F, G) else K (nI e)
  | 0, i, k, hi, hk => by
    obtain ⟨k, rfl⟩ : ∃ q, k = q + 1 := ⟨k - 1, by omega⟩
    have e0 : i = e := by omega
    subst e0
    rw [p_X8_entry_L47, hF, if_pos (nI_le (Nat.le_refl i) (by omega)), anyB, if_neg (by decide)]
  | c + 1, i, k, hi, hk => by
    obtain ⟨k, rfl⟩ : ∃ q, k = q + 1 := ⟨k - 1, by omega⟩
    have ih := entry_L F G t m K e he hF c (i + 1) k (by omega) (by omega)
    rw [p_X8_entry_L47, hF, if_neg (nI_ge (by omega) (by omega)), inBT (by omega) (by omega), oguardT, oguardT, oguardT, nI_clamp (by omega), anyB]
    by_cases q1 : t < G 13 i
    · rw [if_pos q1, if_pos q1, if_pos rfl]
    rw [if_neg q1, if_neg q1]
    by_cases q2 : G 13 i = t
    · rw [if_pos q2]
      by_cases q3 : G 14 i = m
      · have c2 : G 13 i = t ∧ G 14 i = m := ⟨q2, q3⟩
        rw [if_pos q3, if_pos c2, if_pos rfl]
      · have c2 : ¬ (G 13 i = t ∧ G 14 i = m) := fun z => q3 z.2
        rw [if_neg q3, if_neg c2, pletE, nI_1]; exact ih
    · have c2 : ¬ (G 13 i = t ∧ G 14 i = m) := fun z => q2 z.1
      rw [if_neg q2, if_neg c2, pletE, nI_1]; exact ih
theorem sim_entry {n : Nat} (hn : 5000 ≤ n) : simT_entry n RR := by
  intro F G F2 G2 b1 b2 b3 hR
  obtain ⟨hA, hO, hM, hW, hT, hL, hB, hP⟩ := id hR
  obtain ⟨k1, e, he, k2, k3, k4⟩ := id hB
  have e20 : F2 20 = nI e := k1 ▸ k2
  unfold p_X7_entry p_X8_entry
  simp only [isMan7, isMan8, withinIf, inIf]
  by_cases h1 : b2 < 0
  · simp only [if_pos h1]
    exact ⟨-1, F, G, F2, G2, rfl, rfl, hR⟩
  by_cases h2 : 5 < b2
  · simp only [if_neg h1, if_pos h2]
    exact ⟨-1, F, G, F2, G2, rfl, rfl, hR⟩
  simp only [if_neg h1, if_neg h2]
  by_cases h3 : b1 < 0
  · simp only [if_pos h3]
    exact ⟨-2, F, G, F2, G2, rfl, rfl, hR⟩
  by_cases h4 : 1000 < b1
  · simp only [if_neg h3, if_pos h4]
    exact ⟨-2, F, G, F2, G2, rfl, rfl, hR⟩
  simp only [if_neg h3, if_neg h4]
  by_cases h5 : b3 < 0
  · simp only [if_pos h5]
    exact ⟨-2, F, G, F2, G2, rfl, rfl, hR⟩
  by_cases h6 : 2 < b3
  · simp only [if_neg h5, if_pos h6]
    exact ⟨-2, F, G, F2, G2, rfl, rfl, hR⟩
  simp only [if_neg h5, if_neg h6]
  obtain ⟨mv, -, mv2, mv3⟩ := ix_of (m := 0) (n := 1000) rfl rfl (by omega) (by omega) h3 h4
  obtain ⟨kv, -, kv2, kv3⟩ := ix_of (m := 0) (n := 5) rfl rfl (by omega) (by omega) h1 h2
  obtain ⟨wv, -, wv2, wv3⟩ := ix_of (m := 0) (n := 2) rfl rfl (by omega) (by omega) h5 h6
  by_cases h7 : e = 40
  · have c1 : ¬ F 24 < 40 := by rw [k2, h7]; decide
    have c2 : F2 20 = 40 := by rw [e20, h7]; rfl
    simp only [if_neg c1, if_pos c2]
    exact ⟨-4, F, G, F2, G2, rfl, rfl, hR⟩
  have c1 : F 24 < 40 := by rw [k2]; exact nI_lt (b := 40) (by omega) (by omega)
  have c2 : ¬ F2 20 = 40 := by rw [e20]; exact fun z => h7 ((nI_eq (b := 40) (by omega) (by omega)).1 z)
  simp only [if_pos c1, if_neg c2]
  have ef : p_X1_mayFollow n F G b1 b2 = some (if anyB (G 20) (G 21) b1 b2 e 0 = true then 0 else 1) := mayFollow_L F G b1 b2 e he k2 e 0 n (by omega) (by omega)
  have ee := fun K => entry_L F2 G2 b1 b2 K e he e20 e 0 n (by omega) (by omega)
  have ec : anyB (G2 13) (G2 14) b1 b2 e 0 = anyB (G 20) (G 21) b1 b2 e 0 := anyB_cong e 0 (fun j _ hj => ⟨(k3 j (by omega)).1, (k3 j (by omega)).2.1⟩)
  have e0 : nI 0 = 0 := rfl
  rw [e0] at ee
  rw [ef, bi1S, ee, ec]
  by_cases q : anyB (G 20) (G 21) b1 b2 e 0 = true
  · rw [if_pos q, if_pos q, if_pos rfl]
    exact ⟨-5, F, G, F2, G2, rfl, rfl, hR⟩
  have qn := anyB_no e 0 (Bool.eq_false_iff.2 q)
  rw [if_neg q, if_neg q, if_neg one_nz]
  have i1 : inB (F 24) 40 = true := by rw [k2]; exact inBT (by omega) (by omega)
  have i2 : inB (F2 20) 40 = true := by rw [e20]; exact inBT (by omega) (by omega)
  have cl : (nI e).toNatClampNeg = e := nI_clamp (by omega)
  have ea : p_X1_add F G b1 b2 b3 = some (F 24, upd F 24 (F 24 + 1), stG (stG (stG G 20 (F 24) b1) 21 (F 24) b2) 22 (F 24) b3) := by
    unfold p_X1_add
    rw [pletE, i1]; rfl
  rw [ea, bi3S, i2]
  refine ⟨F 24, upd F 24 (F 24 + 1), stG (stG (stG G 20 (F 24) b1) 21 (F 24) b2) 22 (F 24) b3, upd F2 20 (F2 20 + 1), stG (stG (stG G2 13 (F2 20) b1) 14 (F2 20) b2) 15 (F2 20) b3, rfl, ?_, hA, hO, hM, hW, hT, hL, ⟨?_, e + 1, by omega, ?_, ?_, ?_⟩, hP⟩
  · have r : F2 20 + 1 - 1 = F 24 := by rw [e20, nI_1, nI_pred, k2]
    rw [← r]; rfl
  · show F 24 + 1 = F2 20 + 1
    rw [k1]
  · show F 24 + 1 = nI (e + 1)
    rw [k2]; exact nI_1 e
  · intro j hj
    show upd (G 20) (F 24).toNatClampNeg b1 j = upd (G2 13) (F2 20).toNatClampNeg b1 j ∧ upd (G 21) (F 24).toNatClampNeg b2 j = upd (G2 14) (F2 20).toNatClampNeg b2 j ∧ upd (G 22) (F 24).toNatClampNeg b3 j = upd (G2 15) (F2 20).toNatClampNeg b3 j ∧ ∃ m k w : Nat, m ≤ 1000 ∧ k ≤ 5 ∧ w ≤ 2 ∧ upd (G 20) (F 24).toNatClampNeg b1 j = nI m ∧ upd (G 21) (F 24).toNatClampNeg b2 j = nI k ∧ upd (G 22) (F 24).toNatClampNeg b3 j = nI w
    rw [k2, e20, cl]
    by_cases ej : j = e
    · rw [ej, pk_us, pk_us, pk_us, pk_us, pk_us, pk_us]
      exact ⟨rfl, rfl, rfl, mv, kv, wv, mv2, kv2, wv2, mv3, kv3, wv3⟩
    · rw [pk_un ej, pk_un ej, pk_un ej, pk_un ej, pk_un ej, pk_un ej]
      exact k3 j (by omega)
  · intro i j hij hj
    show upd (G 20) (F 24).toNatClampNeg b1 i ≤ upd (G 20) (F 24).toNatClampNeg b1 j ∧ (upd (G 21) (F 24).toNatClampNeg b2 i = upd (G 21) (F 24).toNatClampNeg b2 j → upd (G 20) (F 24).toNatClampNeg b1 i < upd (G 20) (F 24).toNatClampNeg b1 j)
    rw [k2, cl]
    have ni : i ≠ e := by omega
    rw [pk_un ni, pk_un ni]
    by_cases ej : j = e
    · rw [ej, pk_us, pk_us]
      obtain ⟨z1, z2⟩ := qn i (by omega) (by omega)
      have z3 : G 20 i ≤ b1 := Int32.not_lt.1 z1
      refine ⟨z3, fun z => ?_⟩
      rw [Int32.lt_iff_toInt_lt]
      rw [Int32.le_iff_toInt_le] at z3
      have z4 : (G 20 i).toInt ≠ b1.toInt := fun w => z2 ⟨Int32.toInt_inj.1 w, z⟩
      omega
    · rw [pk_un ej, pk_un ej]
      exact k4 i j hij (by omega)
