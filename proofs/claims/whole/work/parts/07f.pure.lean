/-! THE AIR -/
theorem nat_of {x : Int32} {lo hi : Nat} (h1 : (lo : Int) ≤ x.toInt) (h2 : x.toInt ≤ (hi : Int)) (hh : hi < 2 ^ 31) : ∃ k : Nat, lo ≤ k ∧ k ≤ hi ∧ x = nI k := by
  refine ⟨x.toInt.toNat, by omega, by omega, ?_⟩
  apply Int32.toInt_inj.1
  rw [nI_toInt (by omega)]; omega
/-- the air's numbers, as natural ones -/
def AirN (F : tF) (R d f g b : Nat) : Prop := F 1 = nI R ∧ F 2 = nI d ∧ F 3 = nI f ∧ F 4 = nI g ∧ F 8 = nI b ∧ 100 ≤ R ∧ R ≤ 5000 ∧ d ≤ 90 ∧ b ≤ 40
theorem mostZ (R d : Nat) : (R : Int) * (10 + (d : Int)) = ((R * (10 + d) : Nat) : Int) := by rw [Int.natCast_mul, Int.natCast_add]; rfl
theorem airN {F : tF} (h : AirOk F) : ∃ R d f g b : Nat, AirN F R d f g b ∧ f + g ≤ R * (10 + d) / 10 ∧ f + g ≤ 5000 + 500 * b := by
  obtain ⟨o1, o2, o3, o4, o5, o6, o7, o8, o9, o10, o11, o12, o13, o14⟩ := h
  obtain ⟨R, r1, r2, r3⟩ := nat_of (lo := 100) (hi := 5000) o1 o2 (by omega)
  obtain ⟨d, d1, d2, d3⟩ := nat_of (lo := 0) (hi := 90) o3 o4 (by omega)
  obtain ⟨b, b1, b2, b3⟩ := nat_of (lo := 0) (hi := 40) o9 o10 (by omega)
  obtain ⟨f, f1, f2, f3⟩ := nat_of (x := F 3) (lo := 0) (hi := 25000) o5 (by omega) (by omega)
  obtain ⟨g, g1, g2, g3⟩ := nat_of (x := F 4) (lo := 0) (hi := 25000) o6 (by omega) (by omega)
  rw [r3, d3, f3, g3, nI_toInt (by omega), nI_toInt (by omega), nI_toInt (by omega), nI_toInt (by omega), mostZ] at o7
  rw [f3, g3, b3, nI_toInt (by omega), nI_toInt (by omega), nI_toInt (by omega)] at o8
  refine ⟨R, d, f, g, b, ⟨r3, d3, f3, g3, b3, r1, r2, d2, b2⟩, ?_, ?_⟩
  · generalize R * (10 + d) = P at o7 ⊢
    omega
  · omega
theorem airMk {F : tF} {R d f g b : Nat} (h : AirN F R d f g b) (h1 : f + g ≤ R * (10 + d) / 10) (h2 : f + g ≤ 5000 + 500 * b) (h3 : 1 ≤ (F 11).toInt ∧ (F 11).toInt ≤ 30 ∧ 1 ≤ (F 12).toInt ∧ (F 12).toInt ≤ 100) : AirOk F := by
  obtain ⟨r3, d3, f3, g3, b3, r1, r2, d2, b2⟩ := h
  unfold AirOk
  rw [r3, d3, f3, g3, b3, nI_toInt (by omega), nI_toInt (by omega), nI_toInt (by omega), nI_toInt (by omega), nI_toInt (by omega), mostZ]
  refine ⟨by omega, by omega, by omega, by omega, by omega, by omega, ?_, by omega, by omega, by omega, h3⟩
  generalize R * (10 + d) = P at h1 ⊢
  omega
theorem foulPart_v {m f g : Nat} (hm : m < 2 ^ 31) (hf : f + g < 2 ^ 31) (hq : m * g < 2 ^ 31) : p_X0_foulPart (nI m) (nI f) (nI g) = some (nI (m * g / (f + g))) := by
  unfold p_X0_foulPart
  rw [pletE, nI_add]
  by_cases h : f + g = 0
  · have c : ¬ (0 : Int32) < nI (f + g) := fun q => by have := (nI_pos0 (by omega)).1 q; omega
    rw [if_neg c, bi1S, h, Nat.div_zero]; rfl
  · have c : (0 : Int32) < nI (f + g) := (nI_pos0 (by omega)).2 (by omega)
    have z : nzL (lN (f + g)) = true := decide_eq_true (fun q => h ((pk_lEQ (a := f + g) (b := 0) (by omega) (by omega)).1 q))
    rw [if_pos c, nI_l (by omega), nI_l (by omega), nI_l (by omega), z, oguardT, bi1S, lN_mul, pk_lDiv (by omega) (by omega) (by omega), lN_i]
theorem bad_le {m f g : Nat} (h : m ≤ f + g) : m * g / (f + g) ≤ g := by
  rcases Nat.eq_zero_or_pos (f + g) with q | q
  · rw [q, Nat.div_zero]; omega
  · exact Nat.div_le_of_le_mul (Nat.mul_le_mul h (Nat.le_refl g))
theorem bad_ge {m f g : Nat} (h : m ≤ f + g) : m - m * g / (f + g) ≤ f := by
  rcases Nat.lt_or_ge f m with q | q
  · obtain ⟨e, rfl⟩ : ∃ e, m = f + e := ⟨m - f, by omega⟩
    have k : e ≤ (f + e) * g / (f + g) := by
      rw [Nat.le_div_iff_mul_le (by omega)]
      have a : e * f ≤ f * g := by rw [Nat.mul_comm e f]; exact Nat.mul_le_mul (Nat.le_refl f) (by omega)
      rw [Nat.mul_add, Nat.add_mul]
      omega
    omega
  · exact Nat.le_trans (Nat.sub_le _ _) q
/-- what is left behind a spill -/
def spF (m f g : Nat) : Nat := f - (m - m * g / (f + g))
def spG (m f g : Nat) : Nat := g - m * g / (f + g)
theorem sp_sum {m f g : Nat} (h : m ≤ f + g) : spF m f g + spG m f g = f + g - m := by
  have a := bad_le h
  have b := bad_ge h
  have c : m * g / (f + g) ≤ m := by
    rcases Nat.eq_zero_or_pos (f + g) with q | q
    · rw [q, Nat.div_zero]; omega
    · exact Nat.div_le_of_le_mul (by rw [Nat.mul_comm]; exact Nat.mul_le_mul (by omega) (Nat.le_refl m))
  unfold spF spG
  omega
theorem bad_m {m f g : Nat} : m * g / (f + g) ≤ m := by
  rcases Nat.eq_zero_or_pos (f + g) with q | q
  · rw [q, Nat.div_zero]; omega
  · exact Nat.div_le_of_le_mul (by rw [Nat.mul_comm]; exact Nat.mul_le_mul (by omega) (Nat.le_refl m))
theorem spill7 {F : tF} {G : tG} {m f g : Nat} (hf : F 3 = nI f) (hg : F 4 = nI g) (h : m ≤ f + g) (hs : f + g ≤ 45500) (hq : m * g < 2 ^ 31) : p_X0_spill F G (nI m) = some (nI m, upd (upd (upd F 4 (nI (spG m f g))) 3 (nI (spF m f g))) 7 (F 7 + nI m), G) := by
  unfold p_X0_spill
  rw [hf, hg, foulPart_v (by omega) (by omega) hq, bi1S]
  simp only [pletE]
  have e1 : nI g - nI (m * g / (f + g)) = nI (spG m f g) := pk_sub (bad_le h)
  have e2 : upd F 4 (nI (spG m f g)) 3 - (nI m - nI (m * g / (f + g))) = nI (spF m f g) := by
    show F 3 - _ = _
    rw [hf, pk_sub bad_m, pk_sub (bad_ge h)]; rfl
  rw [e1, e2]; rfl
theorem spill8 {F : tF} {G : tG} {m f g : Nat} (hf : F 2 = nI f) (hg : F 3 = nI g) (h : m ≤ f + g) (h0 : 0 < m) (hs : f + g ≤ 45500) (hq : m * g < 2 ^ 31) : p_X8_spill F G (nI m) = some (nI m, upd (upd (upd F 3 (nI (spG m f g))) 2 (nI (spF m f g))) 6 (F 6 + nI m), G) := by
  unfold p_X8_spill p_X8_all
  have c : (0 : Int32) < nI m := (nI_pos0 (by omega)).2 h0
  have z : nzB (nI (f + g)) = true := decide_eq_true (fun q => absurd ((nI_eq (a := f + g) (b := 0) (by omega) (by omega)).1 q) (by omega))
  rw [if_pos c, bi1S, hf, hg, nI_add, z, oguardT, pk_mul, pk_div hq (by omega) (by omega)]
  simp only [pletE]
  have e1 : nI g - nI (m * g / (f + g)) = nI (spG m f g) := pk_sub (bad_le h)
  have e2 : upd F 3 (nI (spG m f g)) 2 - (nI m - nI (m * g / (f + g))) = nI (spF m f g) := by
    show F 2 - _ = _
    rw [hf, pk_sub bad_m, pk_sub (bad_ge h)]; rfl
  rw [e1, e2]; rfl
theorem sp_0 (f g : Nat) : spF 0 f g = f ∧ spG 0 f g = g := by
  unfold spF spG
  rw [Nat.zero_mul, Nat.zero_div]; exact ⟨by omega, by omega⟩
