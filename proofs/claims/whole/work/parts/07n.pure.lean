/-- how far two numbers are from each other -/
def dst (x u : Nat) : Nat := (x - u) + (u - x)
theorem abs7 {x u : Nat} (hx : x < 2 ^ 30) (hu : u < 2 ^ 30) : (if (0 : Int32) ≤ nI x - nI u then nI x - nI u else 0 - (nI x - nI u)) = nI (dst x u) := by
  have e := pk_sub_toInt hx hu
  have e0 : (0 : Int32).toInt = 0 := rfl
  by_cases h : (0 : Int32) ≤ nI x - nI u
  · rw [if_pos h]
    rw [Int32.le_iff_toInt_le, e, e0] at h
    apply Int32.toInt_inj.1
    rw [e, nI_toInt (by unfold dst; omega)]
    unfold dst; omega
  · rw [if_neg h]
    rw [Int32.le_iff_toInt_le, e, e0] at h
    apply Int32.toInt_inj.1
    rw [fb_subI (by omega) (by omega), e, e0, nI_toInt (by unfold dst; omega)]
    unfold dst; omega
theorem size8 {x u : Nat} (hx : x < 2 ^ 30) (hu : u < 2 ^ 30) : p_X8_size (nI x - nI u) = some (nI (dst x u)) := by
  have e := pk_sub_toInt hx hu
  have e0 : (0 : Int32).toInt = 0 := rfl
  unfold p_X8_size
  by_cases h : (0 : Int32) ≤ nI x - nI u
  · rw [if_pos h, bi1S]
    rw [Int32.le_iff_toInt_le, e, e0] at h
    congr 1
    apply Int32.toInt_inj.1
    rw [e, nI_toInt (by unfold dst; omega)]
    unfold dst; omega
  · rw [if_neg h, bi1S]
    rw [Int32.le_iff_toInt_le, e, e0] at h
    congr 1
    apply Int32.toInt_inj.1
    rw [fb_negI (by omega), e, nI_toInt (by unfold dst; omega)]
    unfold dst; omega
theorem dst_comm (x u : Nat) : dst x u = dst u x := by unfold dst; omega
theorem dst_0 {x u : Nat} : dst x u = 0 ↔ x = u := by unfold dst; omega
theorem apart7 {x y u v : Nat} (hx : x < 2 ^ 30) (hy : y < 2 ^ 30) (hu : u < 2 ^ 30) (hv : v < 2 ^ 30) : p_X7_apart (nI x) (nI y) (nI u) (nI v) = some (nI (dst x u + dst y v)) := by
  unfold p_X7_apart
  rw [abs7 hx hu, abs7 hy hv, nI_add]
theorem fromSign_v (G : tG) {j x y u v : Nat} (hj : j < 12) (ex : G 16 j = nI x) (ey : G 17 j = nI y) (hx : x ≤ 6) (hy : y ≤ 6) (hu : u ≤ 7) (hv : v ≤ 7) : p_X3_fromSign G (nI j) (nI u) (nI v) = some (nI (dst x u + dst y v)) := by
  unfold p_X3_fromSign
  rw [inBT hj (by omega), oguardT, oguardT, nI_clamp (by omega), ex, ey, apart7 (by omega) (by omega) (by omega) (by omega), bi1S]
theorem apart8_v (G : tG) {j x y u v : Nat} (hj : j < 12) (ex : G 9 j = nI x) (ey : G 10 j = nI y) (hx : x ≤ 6) (hy : y ≤ 6) (hu : u ≤ 7) (hv : v ≤ 7) : p_X8_apart G (nI j) (nI u) (nI v) = some (nI (dst x u + dst y v)) := by
  unfold p_X8_apart
  rw [inBT hj (by omega), oguardT, nI_clamp (by omega), ex, ey, size8 (by omega) (by omega), bi1S, oguardT, size8 (by omega) (by omega), bi1S, nI_add]
/-- what the signs hold, as natural numbers -/
def Sg (G : tG) (X Y : Nat → Nat) : Prop := ∀ j, j < 12 → G 16 j = nI (X j) ∧ G 17 j = nI (Y j) ∧ X j ≤ 6 ∧ Y j ≤ 6 ∧ (X j = 0 ↔ Y j = 0)
theorem sgOf {F : tF} {G : tG} {F2 : tF} {G2 : tG} (hL : RLine F G F2 G2) : ∃ X Y : Nat → Nat, Sg G X Y ∧ ∀ j, j < 12 → G2 9 j = nI (X j) ∧ G2 10 j = nI (Y j) := by
  refine ⟨fun j => (G 16 j).toNatClampNeg, fun j => (G 17 j).toNatClampNeg, ?_, ?_⟩
  · intro j hj
    obtain ⟨s1, s2, a, b, s3, s4, s5⟩ := hL.2.1 j hj
    show G 16 j = nI (G 16 j).toNatClampNeg ∧ G 17 j = nI (G 17 j).toNatClampNeg ∧ (G 16 j).toNatClampNeg ≤ 6 ∧ (G 17 j).toNatClampNeg ≤ 6 ∧ ((G 16 j).toNatClampNeg = 0 ↔ (G 17 j).toNatClampNeg = 0)
    rw [s3, s4, nI_clamp (by omega), nI_clamp (by omega)]
    exact ⟨rfl, rfl, by omega, by omega, by omega⟩
  · intro j hj
    obtain ⟨s1, s2, a, b, s3, s4, s5⟩ := hL.2.1 j hj
    show G2 9 j = nI (G 16 j).toNatClampNeg ∧ G2 10 j = nI (G 17 j).toNatClampNeg
    rw [← s1, ← s2, s3, s4, nI_clamp (by omega), nI_clamp (by omega)]
    exact ⟨rfl, rfl⟩
theorem nI0 {a : Nat} (h : a < 2 ^ 31) : nI a = 0 ↔ a = 0 := nI_eq (b := 0) h (by omega)
theorem signOf_L (G : tG) (X Y : Nat → Nat) (hS : Sg G X Y) {u v : Nat} (hu : u ≤ 7) (hv : v ≤ 7) : ∀ c i k, i + c = 12 → c < k →
    (∃ j, i ≤ j ∧ j < 12 ∧ ¬ X j = 0 ∧ X j = u ∧ Y j = v ∧ (∀ l, i ≤ l → l < j → ¬ (¬ X l = 0 ∧ X l = u ∧ Y l = v)) ∧ p_X3_signOf_L2 G (nI u) (nI v) (fun _ => some (-6)) k (nI i) = some (nI j)) ∨
    ((∀ l, i ≤ l → l < 12 → ¬ (¬ X l = 0 ∧ X l = u ∧ Y l = v)) ∧ p_X3_signOf_L2 G (nI u) (nI v) (fun _ => some (-6)) k (nI i) = some (-6))
  | 0, i, k, hi, hk => by
    obtain ⟨k, rfl⟩ : ∃ q, k = q + 1 := ⟨k - 1, by omega⟩
    have e : i = 12 := by omega
    subst e
    refine Or.inr ⟨fun l h1 h2 => absurd h2 (by omega), ?_⟩
    rw [p_X3_signOf_L2, if_pos (by decide)]
  | c + 1, i, k, hi, hk => by
    obtain ⟨k, rfl⟩ : ∃ q, k = q + 1 := ⟨k - 1, by omega⟩
    have hlt : i < 12 := by omega
    obtain ⟨g1, g2, g3, g4, g5⟩ := hS i hlt
    have ih := signOf_L G X Y hS hu hv c (i + 1) k (by omega) (by omega)
    rw [p_X3_signOf_L2, if_neg (lt12 hlt), isSetIf G hlt, g1]
    by_cases hit : ¬ X i = 0 ∧ X i = u ∧ Y i = v
    · obtain ⟨t1, t2, t3⟩ := hit
      have c1 : ¬ nI (X i) = 0 := fun w => t1 ((nI0 (by omega)).1 w)
      have c2 : nI (dst (X i) u + dst (Y i) v) = 0 := (nI0 (by unfold dst; omega)).2 (by unfold dst; omega)
      refine Or.inl ⟨i, Nat.le_refl i, hlt, t1, t2, t3, fun l h1 h2 => absurd h2 (by omega), ?_⟩
      rw [if_neg c1, fromSign_v G hlt g1 g2 g3 g4 hu hv, bi1S, if_pos c2]
    · have step : (if nI (X i) = 0 then plet (nI i + 1) (fun (x28 : Int32) => p_X3_signOf_L2 G (nI u) (nI v) (fun _ => some (-6)) k x28) else bi1 (p_X3_fromSign G (nI i) (nI u) (nI v)) (fun x20 => if x20 = 0 then some (nI i) else plet (nI i + 1) (fun (x28 : Int32) => p_X3_signOf_L2 G (nI u) (nI v) (fun _ => some (-6)) k x28))) = p_X3_signOf_L2 G (nI u) (nI v) (fun _ => some (-6)) k (nI (i + 1)) := by
        by_cases z : X i = 0
        · rw [if_pos ((nI0 (by omega)).2 z), pletE, nI_1]
        · have c1 : ¬ nI (X i) = 0 := fun w => z ((nI0 (by omega)).1 w)
          have c2 : ¬ nI (dst (X i) u + dst (Y i) v) = 0 := fun w => by
            have := (nI0 (a := dst (X i) u + dst (Y i) v) (by unfold dst; omega)).1 w
            exact hit ⟨z, by unfold dst at this; omega, by unfold dst at this; omega⟩
          rw [if_neg c1, fromSign_v G hlt g1 g2 g3 g4 hu hv, bi1S, if_neg c2, pletE, nI_1]
      rw [step]
      rcases ih with ⟨j, j1, j2, j3, j4, j5, j6, j7⟩ | ⟨j1, j2⟩
      · refine Or.inl ⟨j, by omega, j2, j3, j4, j5, fun l h1 h2 => ?_, j7⟩
        by_cases e : l = i
        · rw [e]; exact hit
        · exact j6 l (by omega) h2
      · refine Or.inr ⟨fun l h1 h2 => ?_, j2⟩
        by_cases e : l = i
        · rw [e]; exact hit
        · exact j1 l (by omega) h2
