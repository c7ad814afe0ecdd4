/-- how many of the first k places hold x, but for the place a -/
def cntOn (f : Nat → Int32) (x a : Int32) : Nat → Nat
  | 0 => 0
  | k + 1 => cntOn f x a k + if nI k = a then 0 else if f k = x then 1 else 0
theorem othersOn_L (G : tG) (x a : Int32) (K : Int32 → Int32 → Option Int32) : ∀ c i k, i + c = 6 → c < k → p_X2_othersOn_L5 G x a K k (nI i) (nI (cntOn (G 2) x a i)) = K (nI 6) (nI (cntOn (G 2) x a 6))
  | 0, i, k, hi, hk => by
    obtain ⟨k, rfl⟩ : ∃ q, k = q + 1 := ⟨k - 1, by omega⟩
    have e : i = 6 := by omega
    subst e
    rw [p_X2_othersOn_L5, if_pos (by decide)]
  | c + 1, i, k, hi, hk => by
    obtain ⟨k, rfl⟩ : ∃ q, k = q + 1 := ⟨k - 1, by omega⟩
    have hlt : i < 6 := by omega
    rw [p_X2_othersOn_L5, if_neg (lt6 hlt), inBT hlt (by omega), oguardT, nI_clamp (by omega)]
    have ih := othersOn_L G x a K c (i + 1) k (by omega) (by omega)
    by_cases hz : nI i = a
    · rw [if_pos hz, bi1S, pletE, nI_1]
      have e : cntOn (G 2) x a (i + 1) = cntOn (G 2) x a i := by rw [cntOn, if_pos hz]; omega
      rw [e] at ih; exact ih
    · rw [if_neg hz]
      by_cases hx : G 2 i = x
      · rw [if_pos hx, pletE, bi1S, pletE, nI_1, nI_1]
        have e : cntOn (G 2) x a (i + 1) = cntOn (G 2) x a i + 1 := by rw [cntOn, if_neg hz, if_pos hx]
        rw [e] at ih; exact ih
      · rw [if_neg hx, bi1S, pletE, nI_1]
        have e : cntOn (G 2) x a (i + 1) = cntOn (G 2) x a i := by rw [cntOn, if_neg hz, if_neg hx]; omega
        rw [e] at ih; exact ih
theorem othersOn_v {n : Nat} (hn : 6 < n) (G : tG) (x a : Int32) : p_X2_othersOn n G x a = some (nI (cntOn (G 2) x a 6)) := othersOn_L G x a _ 6 0 n rfl hn
theorem cntOn_none (f : Nat → Int32) (x : Int32) : ∀ k, k ≤ 6 → cntOn f x (-6) k = cntEq f x k
  | 0, _ => rfl
  | k + 1, h => by
    have c : ¬ nI k = -6 := fun q => by
      have e := congrArg Int32.toInt q
      rw [nI_toInt (by omega)] at e
      have e6 : (-6 : Int32).toInt = -6 := rfl
      rw [e6] at e; omega
    rw [cntOn, cntEq, if_neg c, cntOn_none f x k (by omega)]
theorem countOn_v {n : Nat} (hn : 6 < n) (G : tG) (x : Int32) : p_X2_countOn n G x = some (nI (cntEq (G 2) x 6)) := by
  unfold p_X2_countOn
  rw [othersOn_v hn, cntOn_none _ _ 6 (by omega), bi1S]
theorem cntOn_some (f : Nat → Int32) (x : Int32) (m : Nat) (hm : m < 6) : ∀ k, k ≤ 6 → cntOn f x (nI m) k + (if m < k ∧ f m = x then 1 else 0) = cntEq f x k
  | 0, _ => by rw [if_neg (fun q => absurd q.1 (by omega))]; rfl
  | k + 1, h => by
    have ih := cntOn_some f x m hm k (by omega)
    rw [cntOn, cntEq]
    by_cases e : k = m
    · subst e
      rw [if_pos rfl]
      have c : ¬ (k < k ∧ f k = x) := fun q => absurd q.1 (by omega)
      rw [if_neg c] at ih
      by_cases hx : f k = x
      · rw [if_pos ⟨by omega, hx⟩, if_pos hx]; omega
      · rw [if_neg (fun q => hx q.2), if_neg hx]; omega
    · have c : ¬ nI k = nI m := fun q => e ((nI_eq (by omega) (by omega)).1 q)
      rw [if_neg c]
      by_cases hx : m < k ∧ f m = x
      · rw [if_pos hx] at ih
        have c2 : m < k + 1 ∧ f m = x := ⟨by omega, hx.2⟩
        rw [if_pos c2]; omega
      · rw [if_neg hx] at ih
        have c2 : ¬ (m < k + 1 ∧ f m = x) := fun q => hx ⟨by omega, q.2⟩
        rw [if_neg c2]; omega
theorem onHose_L (G G2 : tG) (x : Int32) (K : Int32 → Int32 → Option Int32) (hx : ∀ j, j < 6 → (G 2 j = x ↔ G2 0 j = 2 ∧ G2 2 j = x)) : ∀ c i k, i + c = 6 → c < k → p_X8_onHose_L4 G2 x K k (nI i) (nI (cntEq (G 2) x i)) = K (nI 6) (nI (cntEq (G 2) x 6))
  | 0, i, k, hi, hk => by
    obtain ⟨k, rfl⟩ : ∃ q, k = q + 1 := ⟨k - 1, by omega⟩
    have e : i = 6 := by omega
    subst e
    rw [p_X8_onHose_L4, if_pos (by decide)]
  | c + 1, i, k, hi, hk => by
    obtain ⟨k, rfl⟩ : ∃ q, k = q + 1 := ⟨k - 1, by omega⟩
    have hlt : i < 6 := by omega
    rw [p_X8_onHose_L4, if_neg (lt6 hlt), inBT hlt (by omega), oguardT, oguardT, nI_clamp (by omega)]
    have ih := onHose_L G G2 x K hx c (i + 1) k (by omega) (by omega)
    have e0 : nI (cntEq (G 2) x i) + 0 = nI (cntEq (G 2) x i) := nI_add _ 0
    by_cases hz : G 2 i = x
    · obtain ⟨q1, q2⟩ := (hx i hlt).1 hz
      rw [if_pos q1, if_pos q2, bi1S, pletE, pletE, nI_1, nI_1]
      have e : cntEq (G 2) x (i + 1) = cntEq (G 2) x i + 1 := by rw [cntEq, if_pos hz]
      rw [e] at ih; exact ih
    · have e : cntEq (G 2) x (i + 1) = cntEq (G 2) x i := by rw [cntEq, if_neg hz]; omega
      rw [e] at ih
      by_cases q1 : G2 0 i = 2
      · have q2 : ¬ G2 2 i = x := fun q => hz ((hx i hlt).2 ⟨q1, q⟩)
        rw [if_pos q1, if_neg q2, bi1S, pletE, pletE, nI_1, e0]; exact ih
      · rw [if_neg q1, bi1S, pletE, pletE, nI_1, e0]; exact ih
theorem onHose_v {n : Nat} (hn : 6 < n) (G G2 : tG) (x : Int32) (hx : ∀ j, j < 6 → (G 2 j = x ↔ G2 0 j = 2 ∧ G2 2 j = x)) : p_X8_onHose n G2 x = some (nI (cntEq (G 2) x 6)) := onHose_L G G2 x _ hx 6 0 n rfl hn
theorem onHoseR {F : tF} {G : tG} {F2 : tF} {G2 : tG} (hM : RMen F G F2 G2) {h : Nat} (hh : h < 3) : ∀ j, j < 6 → (G 2 j = nI h ↔ G2 0 j = 2 ∧ G2 2 j = nI h) := by
  intro j hj
  obtain ⟨r0, r1, r2, r3, -⟩ := hM.2.2.2.2.1 j hj
  by_cases q : G 0 j = 2
  · obtain ⟨s1, s2, -⟩ := r2 q
    rw [← s2, ← r0]
    exact ⟨fun z => ⟨q, z⟩, fun z => z.2⟩
  · obtain ⟨s1, s2, -⟩ := r3 q
    rw [s2, ← r0]
    exact ⟨fun z => absurd z (hose_ne hh), fun z => absurd z.1 q⟩
theorem sim_hose {n : Nat} (hn : 5000 ≤ n) : simT_hose n RR := by
  intro F G F2 G2 b1 b2 hR
  obtain ⟨hA, hO, hM, hW, hT, hL, hB, hP⟩ := id hR
  obtain ⟨m1, m2, m3, m4, m5, m6, m7⟩ := id hM
  unfold p_X7_hose p_X8_hose
  simp only [isHose7, isHose8, withinIf, inIf]
  by_cases h1 : b1 < 0
  · simp only [if_pos h1]
    exact ⟨-1, F, G, F2, G2, rfl, rfl, hR⟩
  by_cases h2 : 2 < b1
  · simp only [if_neg h1, if_pos h2]
    exact ⟨-1, F, G, F2, G2, rfl, rfl, hR⟩
  simp only [if_neg h1, if_neg h2]
  by_cases h3 : b2 < 1
  · simp only [if_pos h3]
    exact ⟨-2, F, G, F2, G2, rfl, rfl, hR⟩
  by_cases h4 : 12 < b2
  · simp only [if_neg h3, if_pos h4]
    exact ⟨-2, F, G, F2, G2, rfl, rfl, hR⟩
  simp only [if_neg h3, if_neg h4]
  obtain ⟨h, -, hh, eh⟩ := ix_of (m := 0) (n := 2) rfl rfl (by omega) (by omega) h1 h2
  subst eh
  have hh3 : h < 3 := by omega
  rw [countOn_v (by omega), onHose_v (by omega) G G2 (nI h) (onHoseR hM hh3), bi1S, bi1S]
  by_cases h5 : nI (cntEq (G 2) (nI h) 6) ≤ 0
  · rw [if_pos h5, if_pos h5, inBT hh3 (by omega), oguardT, oguardT, nI_clamp (by omega)]
    have ecl : (nI h).toNatClampNeg = h := nI_clamp (by omega)
    refine ⟨G 5 h, F, stG G 5 (nI h) b2, F2, stG G2 5 (nI h) b2, rfl, by rw [m6 h hh3]; rfl, hA, hO, ⟨m1, m2, m3, m4, m5, ?_, m7⟩, hW, hT, hL, hB, hP⟩
    intro j hj
    show upd (G 5) (nI h).toNatClampNeg b2 j = upd (G2 5) (nI h).toNatClampNeg b2 j
    rw [ecl]
    by_cases e : j = h
    · rw [e, pk_us, pk_us]
    · rw [pk_un e, pk_un e]; exact m6 j hj
  · rw [if_neg h5, if_neg h5]
    exact ⟨-3, F, G, F2, G2, rfl, rfl, hR⟩
