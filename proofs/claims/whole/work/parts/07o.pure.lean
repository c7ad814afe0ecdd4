theorem tugsIf {α : Type} (a b : Int32) (X Y : Option α) : bi1 (p_X3_isTugs a b) (fun x => if x = 0 then X else Y) = if a < 1 then X else if 6 < a then X else if b < 1 then X else if 6 < b then X else Y := by
  unfold p_X3_isTugs
  rw [withinV, withinV]
  by_cases h1 : a < 1
  · simp only [if_pos h1]; rfl
  by_cases h2 : 6 < a
  · simp only [if_neg h1, if_pos h2]; rfl
  by_cases h3 : b < 1
  · simp only [if_neg h1, if_neg h2, if_pos h3]; rfl
  by_cases h4 : 6 < b
  · simp only [if_neg h1, if_neg h2, if_neg h3, if_pos h4]; rfl
  · simp only [if_neg h1, if_neg h2, if_neg h3, if_neg h4]; rfl
theorem sign58_L (F2 : tF) (G2 : tG) (X Y : Nat → Nat) (hX : ∀ j, j < 12 → G2 9 j = nI (X j) ∧ G2 10 j = nI (Y j) ∧ X j ≤ 6 ∧ Y j ≤ 6) {s u v : Nat} (hs : s < 12) (hu : u ≤ 6) (hv : v ≤ 6) (K : Int32 → Option (Int32 × tF × tG)) : ∀ c i k, i + c = 12 → c < k →
    ((∃ l, i ≤ l ∧ l < 12 ∧ l ≠ s ∧ X l = u ∧ Y l = v) ∧ p_X8_sign_L58 F2 G2 (nI s) (nI u) (nI v) 0 K k (nI i) = some (-5, F2, G2)) ∨
    ((∀ l, i ≤ l → l < 12 → l ≠ s → ¬ (X l = u ∧ Y l = v)) ∧ p_X8_sign_L58 F2 G2 (nI s) (nI u) (nI v) 0 K k (nI i) = K (nI 12))
  | 0, i, k, hi, hk => by
    obtain ⟨k, rfl⟩ : ∃ q, k = q + 1 := ⟨k - 1, by omega⟩
    have e : i = 12 := by omega
    subst e
    refine Or.inr ⟨fun l h1 h2 => absurd h2 (by omega), ?_⟩
    rw [p_X8_sign_L58, if_pos (by decide)]
  | c + 1, i, k, hi, hk => by
    obtain ⟨k, rfl⟩ : ∃ q, k = q + 1 := ⟨k - 1, by omega⟩
    have hlt : i < 12 := by omega
    obtain ⟨g1, g2, g3, g4⟩ := hX i hlt
    have ih := sign58_L F2 G2 X Y hX hs hu hv K c (i + 1) k (by omega) (by omega)
    rw [p_X8_sign_L58, if_neg (lt12 hlt), if_pos rfl, inBT hlt (by omega), oguardT, oguardT, nI_clamp (by omega), g1, g2, pletE, nI_1]
    by_cases hit : i ≠ s ∧ X i = u ∧ Y i = v
    · obtain ⟨t1, t2, t3⟩ := hit
      have c1 : ¬ nI i = nI s := fun w => t1 ((nI_eq (by omega) (by omega)).1 w)
      refine Or.inl ⟨⟨i, Nat.le_refl i, hlt, t1, t2, t3⟩, ?_⟩
      rw [if_neg c1, t2, t3, if_pos rfl, if_pos rfl]
    · have step : (if nI i = nI s then p_X8_sign_L58 F2 G2 (nI s) (nI u) (nI v) 0 K k (nI (i + 1)) else if nI (X i) = nI u then if nI (Y i) = nI v then some (-5, F2, G2) else p_X8_sign_L58 F2 G2 (nI s) (nI u) (nI v) 0 K k (nI (i + 1)) else p_X8_sign_L58 F2 G2 (nI s) (nI u) (nI v) 0 K k (nI (i + 1))) = p_X8_sign_L58 F2 G2 (nI s) (nI u) (nI v) 0 K k (nI (i + 1)) := by
        by_cases z : i = s
        · rw [if_pos (by rw [z])]
        · have c1 : ¬ nI i = nI s := fun w => z ((nI_eq (by omega) (by omega)).1 w)
          rw [if_neg c1]
          by_cases z2 : X i = u
          · have c3 : ¬ nI (Y i) = nI v := fun w => hit ⟨z, z2, (nI_eq (by omega) (by omega)).1 w⟩
            rw [if_pos (by rw [z2]), if_neg c3]
          · have c2 : ¬ nI (X i) = nI u := fun w => z2 ((nI_eq (by omega) (by omega)).1 w)
            rw [if_neg c2]
      rw [step]
      rcases ih with ⟨⟨l, l1, l2, l3, l4, l5⟩, l6⟩ | ⟨l1, l2⟩
      · exact Or.inl ⟨⟨l, by omega, l2, l3, l4, l5⟩, l6⟩
      · refine Or.inr ⟨fun l h1 h2 h3 => ?_, l2⟩
        by_cases e : l = i
        · rw [e]; intro w; exact hit ⟨by omega, w.1, w.2⟩
        · exact l1 l (by omega) h2 h3
theorem putR {F : tF} {G : tG} {F2 : tF} {G2 : tG} {s u v : Nat} (hs : s < 12) (huv : (u = 0 ∧ v = 0) ∨ (1 ≤ u ∧ u ≤ 6 ∧ 1 ≤ v ∧ v ≤ 6)) (hL : RLine F G F2 G2) (hn : ¬ u = 0 → ∀ l, l < 12 → l ≠ s → ¬ (G 16 l = nI u ∧ G 17 l = nI v)) : RLine F (stG (stG G 16 (nI s) (nI u)) 17 (nI s) (nI v)) F2 (stG (stG G2 9 (nI s) (nI u)) 10 (nI s) (nI v)) := by
  obtain ⟨l1, l2, l3, h, hh, l4, l5⟩ := hL
  have cl : (nI s).toNatClampNeg = s := nI_clamp (by omega)
  refine ⟨l1, ?_, ?_, h, hh, l4, l5⟩
  · intro j hj
    show upd (G 16) (nI s).toNatClampNeg (nI u) j = upd (G2 9) (nI s).toNatClampNeg (nI u) j ∧ upd (G 17) (nI s).toNatClampNeg (nI v) j = upd (G2 10) (nI s).toNatClampNeg (nI v) j ∧ ∃ a b : Nat, upd (G 16) (nI s).toNatClampNeg (nI u) j = nI a ∧ upd (G 17) (nI s).toNatClampNeg (nI v) j = nI b ∧ ((a = 0 ∧ b = 0) ∨ (1 ≤ a ∧ a ≤ 6 ∧ 1 ≤ b ∧ b ≤ 6))
    rw [cl]
    by_cases e : j = s
    · rw [e, pk_us, pk_us, pk_us, pk_us]; exact ⟨rfl, rfl, u, v, rfl, rfl, huv⟩
    · rw [pk_un e, pk_un e, pk_un e, pk_un e]; exact l2 j hj
  · intro i j hi hj hij
    show ¬ upd (G 16) (nI s).toNatClampNeg (nI u) i = 0 → ¬ (upd (G 16) (nI s).toNatClampNeg (nI u) i = upd (G 16) (nI s).toNatClampNeg (nI u) j ∧ upd (G 17) (nI s).toNatClampNeg (nI v) i = upd (G 17) (nI s).toNatClampNeg (nI v) j)
    rw [cl]
    by_cases e : i = s
    · subst e
      have nj : j ≠ i := fun w => hij w.symm
      rw [pk_us, pk_us, pk_un nj, pk_un nj]
      intro q w
      exact hn (fun z => q ((nI0 (by omega)).2 z)) j hj nj ⟨w.1.symm, w.2.symm⟩
    · rw [pk_un e, pk_un e]
      by_cases e2 : j = s
      · subst e2
        rw [pk_us, pk_us]
        intro q w
        by_cases z : u = 0
        · exact q (by rw [w.1, z]; rfl)
        · exact hn z i hi e w
      · rw [pk_un e2, pk_un e2]
        exact l3 i j hi hj hij
theorem put7 (F : tF) (G : tG) {s : Nat} (hs : s < 12) (a b : Int32) : p_X3_put F G (nI s) a b = some (F, stG (stG G 16 (nI s) a) 17 (nI s) b) := by
  unfold p_X3_put
  rw [inBT hs (by omega)]; rfl
