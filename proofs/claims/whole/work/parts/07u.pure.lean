theorem tell_L (n : Nat) (hn : 12 < n) (F : tF) (G : tG) (F2 : tF) (G2 : tG) (X Y A B : Nat → Nat) {h : Nat} (hS : Sg G X Y) (hX : ∀ j, j < 12 → G2 9 j = nI (X j) ∧ G2 10 j = nI (Y j)) (h0 : 0 < h) (hh : h ≤ 4) (hF : F 23 = nI h) (hF2 : F2 19 = nI h) (hA : ∀ j, j < h → G 18 j = nI (A j) ∧ G 19 j = nI (B j) ∧ A j ≤ 7 ∧ B j ≤ 7) (hA2 : ∀ j, j < h → G2 11 j = nI (A j) ∧ G2 12 j = nI (B j) ∧ A j ≤ 7 ∧ B j ≤ 7) (K8 : Int32 → Int32 → Int32 → Option (Int32 × tF × tG)) : ∀ c i k k2 (Lc Lm f : Int32), i + c = 12 → c < k → c < k2 → (Lc = 1000 ∧ Lm = 100000) ∨ (Lc = Lm ∧ ∃ m : Nat, m ≤ 56 ∧ Lc = nI m) → ∃ (r z : Int32), p_X3_nearestToRow_L9 n F G (fun _ _ w => some w) k (nI i) Lc f = some r ∧ p_X8_tell_L8 n F2 G2 K8 k2 (nI i) Lm f = K8 (nI 12) z r
  | 0, i, k, k2, Lc, Lm, f, hi, hk, hk2, hL => by
    obtain ⟨k, rfl⟩ : ∃ q, k = q + 1 := ⟨k - 1, by omega⟩
    obtain ⟨k2, rfl⟩ : ∃ q, k2 = q + 1 := ⟨k2 - 1, by omega⟩
    have e : i = 12 := by omega
    subst e
    rw [p_X3_nearestToRow_L9, if_pos (by decide), p_X8_tell_L8, if_pos (by decide)]
    exact ⟨f, Lm, rfl, rfl⟩
  | c + 1, i, k, k2, Lc, Lm, f, hi, hk, hk2, hL => by
    obtain ⟨k, rfl⟩ : ∃ q, k = q + 1 := ⟨k - 1, by omega⟩
    obtain ⟨k2, rfl⟩ : ∃ q, k2 = q + 1 := ⟨k2 - 1, by omega⟩
    have hlt : i < 12 := by omega
    obtain ⟨g1, g2, g3, g4, g5⟩ := hS i hlt
    have cF : ¬ F2 19 ≤ 0 := by rw [hF2]; exact fun w => absurd ((nI_le0 (by omega)).1 w) (by omega)
    rw [p_X3_nearestToRow_L9, if_neg (lt12 hlt), isSet_v G hlt, bi1S, p_X8_tell_L8, if_neg (lt12 hlt), if_neg cF, inBT hlt (by omega), oguardT, nI_clamp (by omega), (hX i hlt).1, g1]
    by_cases z : X i = 0
    · rw [if_pos ((nI0 (by omega)).2 z), if_pos rfl, if_pos ((nI_le0 (by omega)).2 z), bi2S, bi2S, pletE, pletE, nI_1]
      exact tell_L n hn F G F2 G2 X Y A B hS hX h0 hh hF hF2 hA hA2 K8 c (i + 1) k k2 Lc Lm f (by omega) (by omega) (by omega) hL
    · have c1 : ¬ nI (X i) = 0 := fun w => z ((nI0 (by omega)).1 w)
      have c2 : ¬ nI (X i) ≤ 0 := fun w => z ((nI_le0 (by omega)).1 w)
      have er : p_X3_fromRow n F G (nI i) = some (nI (rowS (X i) (Y i) A B h)) := fromRow_L F G A B hlt g1 g2 g3 g4 hh hF hA _ h 0 n (by omega) (by omega)
      have em := fun K => tell36_L F2 G2 A B hlt (hX i hlt).1 (hX i hlt).2 g3 g4 hh hF2 hA2 K h 0 n (by omega) (by omega)
      have em' : ∀ K, p_X8_tell_L36 F2 G2 (nI i) K n 0 0 = K (nI h) (nI (rowS (X i) (Y i) A B h)) := fun K => em K
      have hr := rowS_le (A := A) (B := B) g3 g4 h (fun j hj => ⟨(hA j hj).2.2.1, (hA j hj).2.2.2⟩)
      rw [if_neg c1, if_neg one_nz, er, bi1S, if_neg c2, em']
      have hr56 : rowS (X i) (Y i) A B h ≤ 56 := by omega
      generalize rowS (X i) (Y i) A B h = r at hr56
      have next := fun (Lc Lm f : Int32) => tell_L n hn F G F2 G2 X Y A B hS hX h0 hh hF hF2 hA hA2 K8 c (i + 1) k k2 Lc Lm f (by omega) (by omega) (by omega)
      rcases hL with ⟨q1, q2⟩ | ⟨q1, m, q2, q3⟩
      · subst q1
        subst q2
        have d1 : ¬ nI r = 1000 := fun w => by have := (nI_eq (a := r) (b := 1000) (by omega) (by omega)).1 w; omega
        have d2 : ¬ (1000 : Int32) ≤ nI r := nI_ge (b := 1000) (by omega) (by omega)
        have d3 : ¬ (100000 : Int32) ≤ nI r := nI_ge (b := 100000) (by omega) (by omega)
        rw [if_neg d1, bi1S, if_neg d2, if_neg d3, if_neg d3, bi1S, bi1S, bi2S, bi2S, pletE, pletE, nI_1]
        exact next (nI r) (nI r) (nI i) (Or.inr ⟨rfl, r, hr56, rfl⟩)
      · subst q1
        subst q3
        by_cases d : m ≤ r
        · have d2 : nI m ≤ nI r := nI_le d (by omega)
          by_cases e : r = m
          · have d1 : nI r = nI m := by rw [e]
            rw [if_pos d1, bi1S, if_pos d2, if_pos d2, if_pos d2, bi1S, bi1S, bi2S, bi2S, pletE, pletE, nI_1]
            exact next (nI m) (nI m) (-6) (Or.inr ⟨rfl, m, q2, rfl⟩)
          · have d1 : ¬ nI r = nI m := fun w => e ((nI_eq (by omega) (by omega)).1 w)
            rw [if_neg d1, bi1S, if_pos d2, if_pos d2, if_pos d2, bi1S, bi1S, bi2S, bi2S, pletE, pletE, nI_1]
            exact next (nI m) (nI m) f (Or.inr ⟨rfl, m, q2, rfl⟩)
        · have d2 : ¬ nI m ≤ nI r := nI_ge (by omega) (by omega)
          have d1 : ¬ nI r = nI m := fun w => by have := (nI_eq (a := r) (b := m) (by omega) (by omega)).1 w; omega
          rw [if_neg d1, bi1S, if_neg d2, if_neg d2, if_neg d2, bi1S, bi1S, bi2S, bi2S, pletE, pletE, nI_1]
          exact next (nI r) (nI r) (nI i) (Or.inr ⟨rfl, r, hr56, rfl⟩)
theorem sim_tell {n : Nat} (hn : 5000 ≤ n) : simT_tell n RR := by
  intro F G F2 G2 hR
  obtain ⟨hA, hO, hM, hW, hT, hL, hB, hP⟩ := id hR
  obtain ⟨X, Y, hS, hX⟩ := sgOf hL
  obtain ⟨l1, l2, l3, h, hh, l4, l5⟩ := id hL
  have e19 : F2 19 = nI h := l1 ▸ l4
  have fin : ∀ r : Int32, RR (upd F 23 0) G (upd F2 19 0) G2 := fun _ => ⟨hA, hO, hM, hW, hT, ⟨rfl, l2, l3, 0, by omega, rfl, fun j hj => absurd hj (by omega)⟩, hB, hP⟩
  unfold p_X7_tell p_X8_tell
  by_cases z : h = 0
  · obtain ⟨k, rfl⟩ : ∃ q, n = q + 1 := ⟨n - 1, by omega⟩
    have c1 : F 23 = 0 := by rw [l4, z]; rfl
    have c2 : F2 19 ≤ 0 := by rw [e19, z]; decide
    rw [if_pos c1, bi1S, p_X8_tell_L8, if_neg (by decide), if_pos c2]
    exact ⟨-6, upd F 23 0, G, upd F2 19 0, G2, rfl, rfl, fin 0⟩
  · have c1 : ¬ F 23 = 0 := by rw [l4]; exact fun w => z ((nI0 (by omega)).1 w)
    have hA1 : ∀ j, j < h → G 18 j = nI (G 18 j).toNatClampNeg ∧ G 19 j = nI (G 19 j).toNatClampNeg ∧ (G 18 j).toNatClampNeg ≤ 7 ∧ (G 19 j).toNatClampNeg ≤ 7 := by
      intro j hj
      obtain ⟨s1, s2, a, b, s3, s4, s5, s6⟩ := l5 j hj
      rw [s5, s6, nI_clamp (by omega), nI_clamp (by omega)]
      exact ⟨rfl, rfl, s3, s4⟩
    have hA2 : ∀ j, j < h → G2 11 j = nI (G 18 j).toNatClampNeg ∧ G2 12 j = nI (G 19 j).toNatClampNeg ∧ (G 18 j).toNatClampNeg ≤ 7 ∧ (G 19 j).toNatClampNeg ≤ 7 := by
      intro j hj
      obtain ⟨s1, s2, -⟩ := l5 j hj
      obtain ⟨t1, t2, t3, t4⟩ := hA1 j hj
      exact ⟨s1.symm.trans t1, s2.symm.trans t2, t3, t4⟩
    obtain ⟨r, w, y1, y2⟩ := tell_L n (by omega) F G F2 G2 X Y (fun j => (G 18 j).toNatClampNeg) (fun j => (G 19 j).toNatClampNeg) hS hX (by omega) hh l4 e19 hA1 hA2 (fun (z8_0 : Int32) (z8_1 : Int32) (z8_2 : Int32) => plet (upd F2 19 0) (fun (F119 : tF) => some (z8_2, F119, G2))) 12 0 n n 1000 100000 (-6) (by omega) (by omega) (by omega) (Or.inl ⟨rfl, rfl⟩)
    have y1' : p_X3_nearestToRow n F G = some r := y1
    have e0 : nI 0 = 0 := rfl
    rw [e0] at y2
    rw [if_neg c1, y1', bi1S, bi1S, y2]
    exact ⟨r, upd F 23 0, G, upd F2 19 0, G2, rfl, rfl, fin r⟩
