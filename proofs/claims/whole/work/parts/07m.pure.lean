theorem lt12 {i : Nat} (h : i < 12) : ¬ (12 : Int32) ≤ nI i := nI_ge (b := 12) h (by omega)
theorem isSet_v (G : tG) {j : Nat} (h : j < 12) : p_X3_isSet G (nI j) = some (if G 16 j = 0 then 0 else 1) := by
  unfold p_X3_isSet
  rw [inBT h (by omega), oguardT, nI_clamp (by omega)]
  by_cases q : G 16 j = 0
  · rw [if_pos q, if_pos q]; rfl
  · rw [if_neg q, if_neg q]; rfl
theorem isSetIf {α : Type} (G : tG) {j : Nat} (h : j < 12) (X Y : Option α) : bi1 (p_X3_isSet G (nI j)) (fun x => if x = 0 then X else Y) = if G 16 j = 0 then X else Y := by
  rw [isSet_v G h, bi1S]
  by_cases q : G 16 j = 0
  · rw [if_pos q, if_pos q, if_pos rfl]
  · rw [if_neg q, if_neg q, if_neg one_nz]
theorem countSigns_L (G : tG) (K : Int32 → Int32 → Option Int32) : ∀ c i k, i + c = 12 → c < k → p_X3_countSigns_L4 G K k (nI i) (nI (cntNZ (G 16) i)) = K (nI 12) (nI (cntNZ (G 16) 12))
  | 0, i, k, hi, hk => by
    obtain ⟨k, rfl⟩ : ∃ q, k = q + 1 := ⟨k - 1, by omega⟩
    have e : i = 12 := by omega
    subst e
    rw [p_X3_countSigns_L4, if_pos (by decide)]
  | c + 1, i, k, hi, hk => by
    obtain ⟨k, rfl⟩ : ∃ q, k = q + 1 := ⟨k - 1, by omega⟩
    have hlt : i < 12 := by omega
    have ih := countSigns_L G K c (i + 1) k (by omega) (by omega)
    rw [p_X3_countSigns_L4, if_neg (lt12 hlt), isSet_v G hlt, bi1S]
    by_cases hz : G 16 i = 0
    · rw [if_pos hz, if_pos rfl, bi1S, pletE, nI_1]
      have e : cntNZ (G 16) (i + 1) = cntNZ (G 16) i := by rw [cntNZ, if_pos hz]; omega
      rw [e] at ih; exact ih
    · rw [if_neg hz, if_neg one_nz, pletE, bi1S, pletE, nI_1, nI_1]
      have e : cntNZ (G 16) (i + 1) = cntNZ (G 16) i + 1 := by rw [cntNZ, if_neg hz]
      rw [e] at ih; exact ih
theorem told88_L (f : Nat → Int32) (G2 : tG) (K : Int32 → Int32 → Option Int32) (hf : ∀ j, j < 12 → (f j = 0 ↔ G2 9 j ≤ 0)) : ∀ c i k, i + c = 12 → c < k → p_X8_told_L88 G2 K k (nI i) (nI (cntNZ f i)) = K (nI 12) (nI (cntNZ f 12))
  | 0, i, k, hi, hk => by
    obtain ⟨k, rfl⟩ : ∃ q, k = q + 1 := ⟨k - 1, by omega⟩
    have e : i = 12 := by omega
    subst e
    rw [p_X8_told_L88, if_pos (by decide)]
  | c + 1, i, k, hi, hk => by
    obtain ⟨k, rfl⟩ : ∃ q, k = q + 1 := ⟨k - 1, by omega⟩
    have hlt : i < 12 := by omega
    have ih := told88_L f G2 K hf c (i + 1) k (by omega) (by omega)
    rw [p_X8_told_L88, if_neg (lt12 hlt), inBT hlt (by omega), oguardT, nI_clamp (by omega)]
    by_cases hz : f i = 0
    · have e0 : nI (cntNZ f i) + 0 = nI (cntNZ f i) := nI_add _ 0
      rw [if_pos ((hf i hlt).1 hz), bi1S, pletE, pletE, nI_1, e0]
      have e : cntNZ f (i + 1) = cntNZ f i := by rw [cntNZ, if_pos hz]; omega
      rw [e] at ih; exact ih
    · rw [if_neg (fun w => hz ((hf i hlt).2 w)), bi1S, pletE, pletE, nI_1, nI_1]
      have e : cntNZ f (i + 1) = cntNZ f i + 1 := by rw [cntNZ, if_neg hz]
      rw [e] at ih; exact ih
/-- a sum of ints as the machine adds them -/
def sumI (f : Nat → Int32) : Nat → Int32
  | 0 => 0
  | k + 1 => sumI f k + f k
theorem sumI_cong {f g : Nat → Int32} : ∀ k, (∀ j, j < k → f j = g j) → sumI f k = sumI g k
  | 0, _ => rfl
  | k + 1, h => by rw [sumI, sumI, sumI_cong k (fun j hj => h j (by omega)), h k (by omega)]
theorem raisedWorth_L (F : tF) (G : tG) (K : Int32 → Int32 → Option Int32) (e : Nat) (he : e ≤ 12) (hF : F 15 = nI e) : ∀ c i k, i + c = e → c < k → p_X6_raisedWorth_L4 F G K k (nI i) (sumI (fun j => ((F 16 >>> (nI j &&& 31)) &&& 1) * G 7 j) i) = K (nI e) (sumI (fun j => ((F 16 >>> (nI j &&& 31)) &&& 1) * G 7 j) e)
  | 0, i, k, hi, hk => by
    obtain ⟨k, rfl⟩ : ∃ q, k = q + 1 := ⟨k - 1, by omega⟩
    have e0 : i = e := by omega
    subst e0
    rw [p_X6_raisedWorth_L4, hF, if_pos (nI_le (Nat.le_refl i) (by omega))]
  | c + 1, i, k, hi, hk => by
    obtain ⟨k, rfl⟩ : ∃ q, k = q + 1 := ⟨k - 1, by omega⟩
    have ih := raisedWorth_L F G K e he hF c (i + 1) k (by omega) (by omega)
    rw [p_X6_raisedWorth_L4, hF, if_neg (nI_ge (by omega) (by omega)), p_X7_bit, bi1S, inBT (by omega) (by omega), oguardT, nI_clamp (by omega), pletE, pletE, nI_1]
    exact ih
theorem told131_L (F : tF) (G : tG) (K : Int32 → Int32 → Option Int32) (e : Nat) (he : e ≤ 12) (hF : F 15 = nI e) : ∀ c i k, i + c = e → c < k → p_X8_told_L131 F G K k (nI i) (sumI (fun j => ((F 16 >>> (nI j &&& 31)) &&& 1) * G 6 (5 * j + 1)) i) = K (nI e) (sumI (fun j => ((F 16 >>> (nI j &&& 31)) &&& 1) * G 6 (5 * j + 1)) e)
  | 0, i, k, hi, hk => by
    obtain ⟨k, rfl⟩ : ∃ q, k = q + 1 := ⟨k - 1, by omega⟩
    have e0 : i = e := by omega
    subst e0
    rw [p_X8_told_L131, hF, if_pos (nI_le (Nat.le_refl i) (by omega))]
  | c + 1, i, k, hi, hk => by
    obtain ⟨k, rfl⟩ : ∃ q, k = q + 1 := ⟨k - 1, by omega⟩
    have ih := told131_L F G K e he hF c (i + 1) k (by omega) (by omega)
    have x1 : (5 : Int32) * nI i + 1 = nI (5 * i + 1) := ix5 (t := i) (j := 1)
    rw [p_X8_told_L131, hF, if_neg (nI_ge (by omega) (by omega)), x1, inBT (by omega) (by omega), oguardT, nI_clamp (by omega), pletE, pletE, nI_1]
    exact ih
theorem sim_told {n : Nat} (hn : 5000 ≤ n) : simT_told n RR := by
  intro F G F2 G2 b1 hR
  obtain ⟨hA, hO, hM, hW, hT, hL, hB, hP⟩ := id hR
  obtain ⟨w1, w2, w3, c, ra, ta, hc, hra, hta, w4, w5, w6, w7, w8⟩ := hW
  have e1 : p_X3_countSigns n G = some (nI (cntNZ (G 16) 12)) := countSigns_L G _ 12 0 n rfl (by omega)
  have e2 : p_X8_told_L88 G2 (fun (z88_0 : Int32) (z88_1 : Int32) => some z88_1) n 0 0 = some (nI (cntNZ (G 16) 12)) := by
    refine told88_L (G 16) G2 _ ?_ 12 0 n rfl (by omega)
    intro j hj
    obtain ⟨s1, s2, a, b, s3, s4, s5⟩ := hL.2.1 j hj
    rw [← s1, s3]
    have q := nI_le0 (k := a) (by omega)
    have q2 := nI_eq (a := a) (b := 0) (by omega) (by omega)
    exact ⟨fun z => q.2 (q2.1 z), fun z => q2.2 (q.1 z)⟩
  have e3 : p_X6_raisedWorth n F G = some (sumI (fun j => ((F 16 >>> (nI j &&& 31)) &&& 1) * G 7 j) c) := raisedWorth_L F G _ c hc w4 c 0 n (by omega) (by omega)
  have e4 : p_X8_told_L131 F2 G2 (fun (z131_0 : Int32) (z131_1 : Int32) => some z131_1) n 0 0 = some (sumI (fun j => ((F 16 >>> (nI j &&& 31)) &&& 1) * G 7 j) c) := by
    have z := told131_L F2 G2 (fun (z131_0 : Int32) (z131_1 : Int32) => some z131_1) c hc (w1 ▸ w4) c 0 n (by omega) (by omega)
    have y : sumI (fun j => ((F2 16 >>> (nI j &&& 31)) &&& 1) * G2 6 (5 * j + 1)) c = sumI (fun j => ((F 16 >>> (nI j &&& 31)) &&& 1) * G 7 j) c := by
      refine sumI_cong c (fun j hj => ?_)
      show ((F2 16 >>> (nI j &&& 31)) &&& 1) * G2 6 (5 * j + 1) = ((F 16 >>> (nI j &&& 31)) &&& 1) * G 7 j
      rw [← w2, (w7 j hj).2.1]
    rw [← y]; exact z
  unfold p_X7_told p_X8_told
  rw [e1, e2, e3, e4]
  simp only [bi1S, ← hM.2.2.1, ← hM.2.1, ← hA.2.1, ← w1, ← w2, ← hT.1, ← hB.1, ← hL.1, iteS]
  exact ⟨_, rfl, rfl⟩
