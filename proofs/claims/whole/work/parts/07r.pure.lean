/-- the one sign that is 1 apart: how many were so, and the last one -/
def scan1 (X Y : Nat → Nat) (u v : Nat) : Nat → Nat → Nat → Int32 → Int32
  | 0, _, cnt, one => if cnt = 1 then one else -6
  | c + 1, i, cnt, one => if ¬ X i = 0 ∧ dst (X i) u + dst (Y i) v = 1 then scan1 X Y u v c (i + 1) (cnt + 1) (nI i) else scan1 X Y u v c (i + 1) cnt one
theorem scan1_two (X Y : Nat → Nat) (u v : Nat) : ∀ c i cnt one, 2 ≤ cnt → scan1 X Y u v c i cnt one = -6
  | 0, i, cnt, one, h => by rw [scan1, if_neg (by omega)]
  | c + 1, i, cnt, one, h => by
    rw [scan1]
    by_cases q : ¬ X i = 0 ∧ dst (X i) u + dst (Y i) v = 1
    · rw [if_pos q]; exact scan1_two X Y u v c (i + 1) (cnt + 1) (nI i) (by omega)
    · rw [if_neg q]; exact scan1_two X Y u v c (i + 1) cnt one h
theorem nI_m6 {j : Nat} (hj : j < 2 ^ 31) : ¬ nI j = -6 := by
  intro q
  have e := congrArg Int32.toInt q
  rw [nI_toInt hj] at e
  have e6 : (-6 : Int32).toInt = -6 := rfl
  rw [e6] at e; omega
theorem nI_1eq {a : Nat} (h : a < 2 ^ 31) : nI a = 1 ↔ a = 1 := nI_eq (b := 1) h (by omega)
theorem onlyOne_L (G : tG) (X Y : Nat → Nat) (hS : Sg G X Y) {u v : Nat} (hu : u ≤ 7) (hv : v ≤ 7) : ∀ c i k cnt (f : Int32), i + c = 12 → c < k → (cnt = 0 ∧ f = -6) ∨ (cnt = 1 ∧ ¬ f = -6) → p_X3_onlyOneApart_L6 G (nI u) (nI v) (fun _ z => some z) k (nI i) f = some (scan1 X Y u v c i cnt f)
  | 0, i, k, cnt, f, hi, hk, hf => by
    obtain ⟨k, rfl⟩ : ∃ q, k = q + 1 := ⟨k - 1, by omega⟩
    have e : i = 12 := by omega
    subst e
    rw [p_X3_onlyOneApart_L6, if_pos (by decide), scan1]
    rcases hf with ⟨h1, h2⟩ | ⟨h1, h2⟩
    · rw [if_neg (by omega), h2]
    · rw [if_pos h1]
  | c + 1, i, k, cnt, f, hi, hk, hf => by
    obtain ⟨k, rfl⟩ : ∃ q, k = q + 1 := ⟨k - 1, by omega⟩
    have hlt : i < 12 := by omega
    obtain ⟨g1, g2, g3, g4, g5⟩ := hS i hlt
    rw [p_X3_onlyOneApart_L6, if_neg (lt12 hlt), isSetIf G hlt, g1, scan1]
    by_cases z : X i = 0
    · have q : ¬ (¬ X i = 0 ∧ dst (X i) u + dst (Y i) v = 1) := fun w => w.1 z
      rw [if_pos ((nI0 (by omega)).2 z), if_neg q, pletE, nI_1]
      exact onlyOne_L G X Y hS hu hv c (i + 1) k cnt f (by omega) (by omega) hf
    · have c1 : ¬ nI (X i) = 0 := fun w => z ((nI0 (by omega)).1 w)
      rw [if_neg c1, fromSign_v G hlt g1 g2 g3 g4 hu hv, bi1S]
      by_cases d : dst (X i) u + dst (Y i) v = 1
      · have q : ¬ X i = 0 ∧ dst (X i) u + dst (Y i) v = 1 := ⟨z, d⟩
        rw [if_pos ((nI_1eq (by omega)).2 d), if_pos q]
        rcases hf with ⟨h1, h2⟩ | ⟨h1, h2⟩
        · rw [if_pos h2, pletE, nI_1]
          exact onlyOne_L G X Y hS hu hv c (i + 1) k (cnt + 1) (nI i) (by omega) (by omega) (Or.inr ⟨by omega, nI_m6 (by omega)⟩)
        · rw [if_neg h2, scan1_two X Y u v c (i + 1) (cnt + 1) (nI i) (by omega)]
      · have q : ¬ (¬ X i = 0 ∧ dst (X i) u + dst (Y i) v = 1) := fun w => d w.2
        have c3 : ¬ nI (dst (X i) u + dst (Y i) v) = 1 := fun w => d ((nI_1eq (by unfold dst; omega)).1 w)
        rw [if_neg c3, if_neg q, pletE, nI_1]
        exact onlyOne_L G X Y hS hu hv c (i + 1) k cnt f (by omega) (by omega) hf
theorem heard_L (G2 : tG) (X Y : Nat → Nat) (hX : ∀ j, j < 12 → G2 9 j = nI (X j) ∧ G2 10 j = nI (Y j) ∧ X j ≤ 6 ∧ Y j ≤ 6) {u v : Nat} (hu : u ≤ 7) (hv : v ≤ 7) : ∀ c i k cnt (one : Int32), i + c = 12 → c < k → cnt ≤ i →
    ((∀ l, i ≤ l → l < 12 → ¬ (¬ X l = 0 ∧ X l = u ∧ Y l = v)) → p_X8_heard_L26 G2 (nI u) (nI v) (fun (z26_0 : Int32) (z26_1 : Int32) (z26_2 : Int32) => bi1 ((if z26_2 = 1 then some (z26_1) else some ((-6)))) (fun (y98_0 : Int32) => some y98_0)) k (nI i) one (nI cnt) = some (scan1 X Y u v c i cnt one)) ∧
    (∀ j, i ≤ j → j < 12 → ¬ X j = 0 → X j = u → Y j = v → (∀ l, i ≤ l → l < j → ¬ (¬ X l = 0 ∧ X l = u ∧ Y l = v)) → p_X8_heard_L26 G2 (nI u) (nI v) (fun (z26_0 : Int32) (z26_1 : Int32) (z26_2 : Int32) => bi1 ((if z26_2 = 1 then some (z26_1) else some ((-6)))) (fun (y98_0 : Int32) => some y98_0)) k (nI i) one (nI cnt) = some (nI j))
  | 0, i, k, cnt, one, hi, hk, hc => by
    obtain ⟨k, rfl⟩ : ∃ q, k = q + 1 := ⟨k - 1, by omega⟩
    have e : i = 12 := by omega
    subst e
    refine ⟨fun _ => ?_, fun j h1 h2 => absurd h2 (by omega)⟩
    rw [p_X8_heard_L26, if_pos (by decide), scan1]
    by_cases q : cnt = 1
    · rw [if_pos ((nI_1eq (by omega)).2 q), if_pos q, bi1S]
    · rw [if_neg (fun w => q ((nI_1eq (by omega)).1 w)), if_neg q, bi1S]
  | c + 1, i, k, cnt, one, hi, hk, hc => by
    obtain ⟨k, rfl⟩ : ∃ q, k = q + 1 := ⟨k - 1, by omega⟩
    have hlt : i < 12 := by omega
    obtain ⟨g1, g2, g3, g4⟩ := hX i hlt
    rw [p_X8_heard_L26, if_neg (lt12 hlt), inBT hlt (by omega), oguardT, nI_clamp (by omega), g1, scan1]
    have e0 : nI cnt + 0 = nI cnt := nI_add _ 0
    by_cases z : X i = 0
    · have q : ¬ (¬ X i = 0 ∧ dst (X i) u + dst (Y i) v = 1) := fun w => w.1 z
      rw [if_pos ((nI_le0 (by omega)).2 z), if_neg q, pletE, nI_1]
      obtain ⟨ih1, ih2⟩ := heard_L G2 X Y hX hu hv c (i + 1) k cnt one (by omega) (by omega) (by omega)
      refine ⟨fun h => ih1 (fun l h1 h2 => h l (by omega) h2), fun j h1 h2 h3 h4 h5 h6 => ?_⟩
      have nj : j ≠ i := fun w => h3 (w ▸ z)
      exact ih2 j (by omega) h2 h3 h4 h5 (fun l a1 a2 => h6 l (by omega) a2)
    · have c1 : ¬ nI (X i) ≤ 0 := fun w => z ((nI_le0 (by omega)).1 w)
      rw [if_neg c1, apart8_v G2 hlt g1 g2 g3 g4 hu hv, bi1S]
      by_cases d0 : dst (X i) u + dst (Y i) v = 0
      · have hit : ¬ X i = 0 ∧ X i = u ∧ Y i = v := ⟨z, by unfold dst at d0; omega, by unfold dst at d0; omega⟩
        rw [if_pos ((nI0 (by omega)).2 d0)]
        refine ⟨fun h => absurd hit (h i (Nat.le_refl i) hlt), fun j h1 h2 h3 h4 h5 h6 => ?_⟩
        rcases Nat.eq_or_lt_of_le h1 with e | e
        · rw [e]
        · exact absurd hit (h6 i (Nat.le_refl i) e)
      · have c2 : ¬ nI (dst (X i) u + dst (Y i) v) = 0 := fun w => d0 ((nI0 (by unfold dst; omega)).1 w)
        rw [if_neg c2]
        have nh : ∀ j, j = i → ¬ (X j = u ∧ Y j = v) := by
          intro j ej w
          rw [ej] at w
          exact d0 (by unfold dst; omega)
        by_cases d : dst (X i) u + dst (Y i) v = 1
        · have q : ¬ X i = 0 ∧ dst (X i) u + dst (Y i) v = 1 := ⟨z, d⟩
          have c3 := (nI_1eq (a := dst (X i) u + dst (Y i) v) (by omega)).2 d
          rw [if_pos c3, if_pos c3, if_pos q, bi1S, pletE, bi1S, pletE, nI_1, nI_1]
          obtain ⟨ih1, ih2⟩ := heard_L G2 X Y hX hu hv c (i + 1) k (cnt + 1) (nI i) (by omega) (by omega) (by omega)
          refine ⟨fun h => ih1 (fun l h1 h2 => h l (by omega) h2), fun j h1 h2 h3 h4 h5 h6 => ?_⟩
          have nj : j ≠ i := fun w => nh j w ⟨h4, h5⟩
          exact ih2 j (by omega) h2 h3 h4 h5 (fun l a1 a2 => h6 l (by omega) a2)
        · have q : ¬ (¬ X i = 0 ∧ dst (X i) u + dst (Y i) v = 1) := fun w => d w.2
          have c3 : ¬ nI (dst (X i) u + dst (Y i) v) = 1 := fun w => d ((nI_1eq (by unfold dst; omega)).1 w)
          rw [if_neg c3, if_neg c3, if_neg q, bi1S, pletE, bi1S, pletE, nI_1, e0]
          obtain ⟨ih1, ih2⟩ := heard_L G2 X Y hX hu hv c (i + 1) k cnt one (by omega) (by omega) (by omega)
          refine ⟨fun h => ih1 (fun l h1 h2 => h l (by omega) h2), fun j h1 h2 h3 h4 h5 h6 => ?_⟩
          have nj : j ≠ i := fun w => nh j w ⟨h4, h5⟩
          exact ih2 j (by omega) h2 h3 h4 h5 (fun l a1 a2 => h6 l (by omega) a2)
theorem sim_heard {n : Nat} (hn : 5000 ≤ n) : simT_heard n RR := by
  intro F G F2 G2 b1 b2 hR
  obtain ⟨hA, hO, hM, hW, hT, hL, hB, hP⟩ := id hR
  obtain ⟨X, Y, hS, hX⟩ := sgOf hL
  unfold p_X7_heard p_X8_heard
  simp only [isHeard8, hearIf, inIf]
  by_cases h1 : b1 < 0
  · simp only [if_pos h1]
    exact ⟨-2, rfl, rfl⟩
  by_cases h2 : 7 < b1
  · simp only [if_neg h1, if_pos h2]
    exact ⟨-2, rfl, rfl⟩
  by_cases h3 : b2 < 0
  · simp only [if_neg h1, if_neg h2, if_pos h3]
    exact ⟨-2, rfl, rfl⟩
  by_cases h4 : 7 < b2
  · simp only [if_neg h1, if_neg h2, if_neg h3, if_pos h4]
    exact ⟨-2, rfl, rfl⟩
  simp only [if_neg h1, if_neg h2, if_neg h3, if_neg h4]
  obtain ⟨u, -, u2, u3⟩ := ix_of (m := 0) (n := 7) rfl rfl (by omega) (by omega) h1 h2
  obtain ⟨v, -, v2, v3⟩ := ix_of (m := 0) (n := 7) rfl rfl (by omega) (by omega) h3 h4
  subst u3
  subst v3
  have so := signOf_L G X Y hS (u := u) (v := v) u2 v2 12 0 n (by omega) (by omega)
  have hl := heard_L G2 X Y (fun j hj => ⟨(hX j hj).1, (hX j hj).2, (hS j hj).2.2.1, (hS j hj).2.2.2.1⟩) (u := u) (v := v) u2 v2 12 0 n 0 (-6) (by omega) (by omega) (by omega)
  have oo := onlyOne_L G X Y hS (u := u) (v := v) u2 v2 12 0 n 0 (-6) (by omega) (by omega) (Or.inl ⟨rfl, rfl⟩)
  have e0 : nI 0 = 0 := rfl
  rw [e0] at so hl oo
  unfold p_X3_signOf p_X3_onlyOneApart
  rcases so with ⟨j, j1, j2, j3, j4, j5, j6, j7⟩ | ⟨j1, j2⟩
  · rw [hl.2 j j1 j2 j3 j4 j5 j6, j7, bi1S, if_neg (nI_m6 (by omega)), bi1S]
    exact ⟨nI j, rfl, rfl⟩
  · rw [hl.1 j1, j2, bi1S, if_pos rfl, oo, bi1S, bi1S]
    exact ⟨_, rfl, rfl⟩
