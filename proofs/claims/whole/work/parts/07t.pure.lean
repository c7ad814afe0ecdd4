/-- the sum of aparts of one sign from the first i hearings of the row -/
def rowS (x y : Nat) (A B : Nat → Nat) : Nat → Nat
  | 0 => 0
  | i + 1 => rowS x y A B i + (dst x (A i) + dst y (B i))
theorem rowS_le {x y : Nat} {A B : Nat → Nat} (hx : x ≤ 6) (hy : y ≤ 6) : ∀ i, (∀ j, j < i → A j ≤ 7 ∧ B j ≤ 7) → rowS x y A B i ≤ 14 * i
  | 0, _ => Nat.le_refl 0
  | i + 1, h => by
    have ih := rowS_le (x := x) (y := y) (A := A) (B := B) hx hy i (fun j hj => h j (by omega))
    have q := h i (by omega)
    rw [rowS]; unfold dst; omega
theorem fromRow_L (F : tF) (G : tG) {s x y h : Nat} (A B : Nat → Nat) (hs : s < 12) (ex : G 16 s = nI x) (ey : G 17 s = nI y) (hx : x ≤ 6) (hy : y ≤ 6) (hh : h ≤ 4) (hF : F 23 = nI h) (hA : ∀ j, j < h → G 18 j = nI (A j) ∧ G 19 j = nI (B j) ∧ A j ≤ 7 ∧ B j ≤ 7) (K : Int32 → Int32 → Option Int32) : ∀ c i k, i + c = h → c < k → p_X3_fromRow_L4 F G (nI s) K k (nI i) (nI (rowS x y A B i)) = K (nI h) (nI (rowS x y A B h))
  | 0, i, k, hi, hk => by
    obtain ⟨k, rfl⟩ : ∃ q, k = q + 1 := ⟨k - 1, by omega⟩
    have e : i = h := by omega
    subst e
    rw [p_X3_fromRow_L4, hF, if_pos (nI_le (Nat.le_refl i) (by omega))]
  | c + 1, i, k, hi, hk => by
    obtain ⟨k, rfl⟩ : ∃ q, k = q + 1 := ⟨k - 1, by omega⟩
    have hlt : i < 4 := by omega
    obtain ⟨a1, a2, a3, a4⟩ := hA i (by omega)
    have ih := fromRow_L F G A B hs ex ey hx hy hh hF hA K c (i + 1) k (by omega) (by omega)
    rw [p_X3_fromRow_L4, hF, if_neg (nI_ge (by omega) (by omega)), inBT hlt (by omega), oguardT, oguardT, nI_clamp (by omega), a1, a2, fromSign_v G hs ex ey hx hy a3 a4, bi1S, pletE, pletE, nI_add, nI_1]
    exact ih
theorem tell36_L (F2 : tF) (G2 : tG) {s x y h : Nat} (A B : Nat → Nat) (hs : s < 12) (ex : G2 9 s = nI x) (ey : G2 10 s = nI y) (hx : x ≤ 6) (hy : y ≤ 6) (hh : h ≤ 4) (hF : F2 19 = nI h) (hA : ∀ j, j < h → G2 11 j = nI (A j) ∧ G2 12 j = nI (B j) ∧ A j ≤ 7 ∧ B j ≤ 7) (K : Int32 → Int32 → Option (Int32 × Int32)) : ∀ c i k, i + c = h → c < k → p_X8_tell_L36 F2 G2 (nI s) K k (nI i) (nI (rowS x y A B i)) = K (nI h) (nI (rowS x y A B h))
  | 0, i, k, hi, hk => by
    obtain ⟨k, rfl⟩ : ∃ q, k = q + 1 := ⟨k - 1, by omega⟩
    have e : i = h := by omega
    subst e
    rw [p_X8_tell_L36, hF, if_pos (nI_le (Nat.le_refl i) (by omega))]
  | c + 1, i, k, hi, hk => by
    obtain ⟨k, rfl⟩ : ∃ q, k = q + 1 := ⟨k - 1, by omega⟩
    have hlt : i < 4 := by omega
    obtain ⟨a1, a2, a3, a4⟩ := hA i (by omega)
    have ih := tell36_L F2 G2 A B hs ex ey hx hy hh hF hA K c (i + 1) k (by omega) (by omega)
    rw [p_X8_tell_L36, hF, if_neg (nI_ge (by omega) (by omega)), inBT hlt (by omega), oguardT, oguardT, nI_clamp (by omega), a1, a2, apart8_v G2 hs ex ey hx hy a3 a4, bi1S, pletE, pletE, nI_add, nI_1]
    exact ih
