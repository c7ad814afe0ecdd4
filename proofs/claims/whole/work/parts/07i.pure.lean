theorem cntEq_out {f : Nat → Int32} {x y : Int32} (k : Nat) (h : ¬ x = y) : ∀ n, cntEq (upd f k x) y n ≤ cntEq f y n
  | 0 => Nat.le_refl 0
  | n + 1 => by
    have ih := cntEq_out (f := f) k h n
    rw [cntEq, cntEq]
    by_cases e : n = k
    · rw [e, pk_us, if_neg h]; rw [e] at ih; omega
    · rw [pk_un e]; omega
theorem hose_ne {h : Nat} (hh : h < 3) : ¬ (-6 : Int32) = nI h := by
  rcases (show h = 0 ∨ h = 1 ∨ h = 2 by omega) with rfl | rfl | rfl <;> decide
def gBring (G : tG) (k : Nat) (v : Int32) : tG := stG (stG (stG (stG G 0 (nI k) v) 1 (nI k) (-6)) 2 (nI k) (-6)) 3 (nI k) 0
theorem bring_v (F : tF) (G : tG) {k : Nat} (hk : k < 6) (v : Int32) : p_X2_bring F G (nI k) v = some (F, gBring G k v) := by
  unfold p_X2_bring
  rw [inBT hk (by omega)]; rfl
theorem bringR {F : tF} {G : tG} {F2 : tF} {G2 : tG} {k : Nat} {v : Int32} (hk : k < 6) (hv : v = 0 ∨ v = 1) (hM : RMen F G F2 G2) : RMen F (gBring G k v) F2 (stG G2 0 (nI k) v) := by
  obtain ⟨m1, m2, m3, m4, m5, m6, m7⟩ := hM
  have ecl : (nI k).toNatClampNeg = k := nI_clamp (by omega)
  refine ⟨m1, m2, m3, m4, ?_, m6, ?_⟩
  · intro j hj
    obtain ⟨r0, r1, r2, r3, r4, r5⟩ := m5 j hj
    show upd (G 0) (nI k).toNatClampNeg v j = upd (G2 0) (nI k).toNatClampNeg v j ∧ (upd (G 0) (nI k).toNatClampNeg v j = 0 ∨ upd (G 0) (nI k).toNatClampNeg v j = 1 ∨ upd (G 0) (nI k).toNatClampNeg v j = 2) ∧ (upd (G 0) (nI k).toNatClampNeg v j = 2 → upd (G 1) (nI k).toNatClampNeg (-6) j = G2 1 j ∧ upd (G 2) (nI k).toNatClampNeg (-6) j = G2 2 j ∧ upd (G 3) (nI k).toNatClampNeg 0 j = G2 3 j ∧ ∃ h : Nat, h < 3 ∧ upd (G 2) (nI k).toNatClampNeg (-6) j = nI h) ∧ (¬ upd (G 0) (nI k).toNatClampNeg v j = 2 → upd (G 1) (nI k).toNatClampNeg (-6) j = -6 ∧ upd (G 2) (nI k).toNatClampNeg (-6) j = -6 ∧ upd (G 3) (nI k).toNatClampNeg 0 j = 0) ∧ G 4 j = G2 4 j ∧ (G 4 j = -6 ∨ ∃ t : Nat, nI t < F 15 ∧ t < 12 ∧ G 4 j = nI t)
    rw [ecl]
    by_cases e : j = k
    · subst e
      rw [pk_us, pk_us, pk_us, pk_us, pk_us]
      refine ⟨rfl, ?_, ?_, fun _ => ⟨rfl, rfl, rfl⟩, r4, r5⟩
      · rcases hv with rfl | rfl
        · exact Or.inl rfl
        · exact Or.inr (Or.inl rfl)
      · intro q
        rcases hv with rfl | rfl
        · exact absurd q (by decide)
        · exact absurd q (by decide)
    · simp only [pk_un e]
      exact ⟨r0, r1, r2, r3, r4, r5⟩
  · intro h hh
    show cntEq (upd (G 2) (nI k).toNatClampNeg (-6)) (nI h) 6 ≤ 2
    exact Nat.le_trans (cntEq_out _ (hose_ne hh) 6) (m7 h hh)
theorem sim_go (n : Nat) : simT_go n RR := by
  intro F G F2 G2 b1 b2 hR
  obtain ⟨hA, hO, hM, hW, hT, hL, hB, hP⟩ := id hR
  have a2 := hA.2.1
  unfold p_X7_go p_X8_go
  simp only [isMan7, isMan8, withinIf, inIf]
  by_cases h1 : b1 < 0
  · simp only [if_pos h1]
    exact ⟨-1, F, G, F2, G2, rfl, rfl, hR⟩
  by_cases h2 : 5 < b1
  · simp only [if_neg h1, if_pos h2]
    exact ⟨-1, F, G, F2, G2, rfl, rfl, hR⟩
  simp only [if_neg h1, if_neg h2]
  obtain ⟨k, -, hk, ek⟩ := ix_of (m := 0) (n := 5) rfl rfl (by omega) (by omega) h1 h2
  subst ek
  have i1 : inB (nI k) 6 = true := inBT (by omega) (by omega)
  have ecl : (nI k).toNatClampNeg = k := nI_clamp (by omega)
  obtain ⟨r0, r1, -⟩ := hM.2.2.2.2.1 k (by omega)
  have v0 := bring_v F G (k := k) (by omega) 0
  have v1 := bring_v F G (k := k) (by omega) 1
  have q0 : RR F (gBring G k 0) F2 (stG G2 0 (nI k) 0) := ⟨hA, hO, bringR (by omega) (Or.inl rfl) hM, hW, hT, hL, hB, hP⟩
  have q1 : RR F (gBring G k 1) F2 (stG G2 0 (nI k) 1) := ⟨hA, hO, bringR (by omega) (Or.inr rfl) hM, hW, hT, hL, hB, hP⟩
  have n02 : ¬ (0 : Int32) = 2 := by decide
  have n12 : ¬ (1 : Int32) = 2 := by decide
  have n01 : ¬ (0 : Int32) = 1 := by decide
  have n20 : ¬ (2 : Int32) = 0 := by decide
  have n21 : ¬ (2 : Int32) = 1 := by decide
  have p00 : (0 : Int32) = 0 := rfl
  have p11 : (1 : Int32) = 1 := rfl
  have p22 : (2 : Int32) = 2 := rfl
  simp only [i1, oguardT, ecl, pletE, ← r0]
  by_cases hd : F 2 = 0
  · have c5 : F2 1 ≤ 0 := by rw [← a2, hd]; decide
    by_cases h3 : b2 = 0
    · rcases r1 with w | w | w <;>
        simp only [w, if_pos hd, if_pos c5, if_pos h3, if_pos p00, if_pos p11, if_pos p22, if_neg n02, if_neg n12, if_neg n01, if_neg n20, if_neg n21, if_neg one_nz, bi1S, v0, v1, bi2S]
      · exact ⟨-5, F, G, F2, G2, rfl, rfl, hR⟩
      · exact ⟨1, F, gBring G k 0, F2, stG G2 0 (nI k) 0, rfl, rfl, q0⟩
      · exact ⟨-5, F, G, F2, G2, rfl, rfl, hR⟩
    · rcases r1 with w | w | w <;>
        simp only [w, if_pos hd, if_pos c5, if_neg h3, if_pos p00, if_pos p11, if_pos p22, if_neg n02, if_neg n12, if_neg n01, if_neg n20, if_neg n21, if_neg one_nz, bi1S, v0, v1, bi2S]
      · exact ⟨0, F, gBring G k 1, F2, stG G2 0 (nI k) 1, rfl, rfl, q1⟩
      · exact ⟨-5, F, G, F2, G2, rfl, rfl, hR⟩
      · exact ⟨2, F, gBring G k 1, F2, stG G2 0 (nI k) 1, rfl, rfl, q1⟩
  · have c5 : ¬ F2 1 ≤ 0 := by
      rw [← a2, Int32.le_iff_toInt_le]
      have e0 : (0 : Int32).toInt = 0 := rfl
      rw [e0]
      intro q
      have o3 := hO.2.2.1
      exact hd (Int32.toInt_inj.1 (by rw [e0]; omega))
    by_cases h3 : b2 = 0
    · rcases r1 with w | w | w <;>
        simp only [w, if_neg hd, if_neg c5, if_pos h3, if_pos p00, if_pos p11, if_pos p22, if_neg n02, if_neg n12, if_neg n01, if_neg n20, if_neg n21, if_neg one_nz, bi1S, v0, v1, bi2S]
      · exact ⟨-3, F, G, F2, G2, rfl, rfl, hR⟩
      · exact ⟨-3, F, G, F2, G2, rfl, rfl, hR⟩
      · exact ⟨-3, F, G, F2, G2, rfl, rfl, hR⟩
    · rcases r1 with w | w | w <;>
        simp only [w, if_neg hd, if_neg c5, if_neg h3, if_pos p00, if_pos p11, if_pos p22, if_neg n02, if_neg n12, if_neg n01, if_neg n20, if_neg n21, if_neg one_nz, bi1S, v0, v1, bi2S]
      · exact ⟨-3, F, G, F2, G2, rfl, rfl, hR⟩
      · exact ⟨-5, F, G, F2, G2, rfl, rfl, hR⟩
      · exact ⟨2, F, gBring G k 1, F2, stG G2 0 (nI k) 1, rfl, rfl, q1⟩
