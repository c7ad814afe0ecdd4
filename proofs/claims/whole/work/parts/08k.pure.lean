theorem RR_log {F : tF} {G : tG} {F2 : tF} {G2 : tG} {F' F2' : tF} (hR : RR F G F2 G2) (e : ∀ k, k < 25 → F' k = F k) (e2 : ∀ k, k < 21 → F2' k = F2 k) : RR F' G F2' G2 := by
  obtain ⟨hA, hO, hM, hW, hT, hL, hB, hP⟩ := hR
  refine ⟨?_, ?_, ?_, ?_, ?_, ?_, ?_, ?_⟩
  · unfold RAir at hA ⊢
    rw [e 1 (by omega), e 2 (by omega), e 3 (by omega), e 4 (by omega), e 5 (by omega), e 6 (by omega), e 7 (by omega), e 8 (by omega), e 9 (by omega), e 10 (by omega), e 11 (by omega), e 12 (by omega), e2 0 (by omega), e2 1 (by omega), e2 2 (by omega), e2 3 (by omega), e2 4 (by omega), e2 5 (by omega), e2 6 (by omega), e2 7 (by omega), e2 8 (by omega), e2 9 (by omega), e2 10 (by omega), e2 11 (by omega)]
    exact hA
  · unfold AirOk at hO ⊢
    rw [e 1 (by omega), e 2 (by omega), e 3 (by omega), e 4 (by omega), e 8 (by omega), e 11 (by omega), e 12 (by omega)]
    exact hO
  · unfold RMen at hM ⊢
    rw [e 0 (by omega), e 13 (by omega), e 14 (by omega), e 15 (by omega), e2 12 (by omega), e2 13 (by omega), e2 14 (by omega)]
    exact hM
  · unfold RWreck at hW ⊢
    rw [e 15 (by omega), e 16 (by omega), e 17 (by omega), e2 15 (by omega), e2 16 (by omega), e2 17 (by omega)]
    exact hW
  · unfold RTide at hT ⊢
    rw [e 19 (by omega), e2 18 (by omega)]
    exact hT
  · unfold RLine at hL ⊢
    rw [e 23 (by omega), e2 19 (by omega)]
    exact hL
  · unfold RBook at hB ⊢
    rw [e 24 (by omega), e2 20 (by omega)]
    exact hB
  · have e15 := e 15 (by omega)
    have e16 := e 16 (by omega)
    have e17 := e 17 (by omega)
    have e19 := e 19 (by omega)
    have e20 := e 20 (by omega)
    have e21 := e 21 (by omega)
    have e22 := e 22 (by omega)
    rcases hP with h | ⟨h, n, F0, G0, F1, G1, p0, ⟨p1, p2, p3, p4, p5⟩, p6, p7, p8, p9, p10⟩
    · exact Or.inl ((e 18 (by omega)).trans h)
    · exact Or.inr ⟨(e 18 (by omega)).trans h, n, F0, G0, F1, G1, p0, ⟨e15.trans p1, e16.trans p2, e17.trans p3, e19.trans p4, p5⟩, p6, e20.trans p7, e21.trans p8, e22.trans p9, p10⟩
theorem log57_L (F2 : tF) (G2 : tG) (m : Int32) {e : Nat} (he : e ≤ 40) (hF : F2 20 = nI e) (K : Int32 → Int32 → Option (Int32 × tF × tG)) : ∀ c i k, i + c = e → c < k → p_X8_log_L57 F2 G2 m K k (nI i) (nI (cntEq (G2 14) m i)) = K (nI e) (nI (cntEq (G2 14) m e))
  | 0, i, k, hi, hk => by
    obtain ⟨k, rfl⟩ : ∃ q, k = q + 1 := ⟨k - 1, by omega⟩
    have e : i = e := by omega
    subst e
    rw [p_X8_log_L57, hF, if_pos (nI_le (Nat.le_refl _) (by omega))]
  | c + 1, i, k, hi, hk => by
    obtain ⟨k, rfl⟩ : ∃ q, k = q + 1 := ⟨k - 1, by omega⟩
    have ih := log57_L F2 G2 m he hF K c (i + 1) k (by omega) (by omega)
    rw [p_X8_log_L57, hF, if_neg (nI_ge (by omega) (by omega)), inBT (by omega) (by omega), oguardT, nI_clamp (by omega)]
    by_cases hm : G2 14 i = m
    · have e1 : cntEq (G2 14) m (i + 1) = cntEq (G2 14) m i + 1 := by rw [cntEq, if_pos hm]
      rw [e1] at ih
      rw [if_pos hm, bi1S, pletE, pletE, nI_1, nI_1]; exact ih
    · have e1 : cntEq (G2 14) m (i + 1) = cntEq (G2 14) m i := by rw [cntEq, if_neg hm]; rfl
      rw [e1] at ih
      rw [if_neg hm, bi1S, pletE, pletE, Int32.add_zero, nI_1]; exact ih
theorem sim_log {n : Nat} (hn : 5000 ≤ n) : simT_log n RR := by
  intro F G F2 G2 b1 b2 hR
  obtain ⟨hA, hO, hM, hW, hT, hL, hB, hP⟩ := id hR
  obtain ⟨t1, e, he, t2, t3, t4⟩ := id hB
  have u2 : F2 20 = nI e := t1 ▸ t2
  unfold p_X7_log p_X8_log
  simp only [isMan7, isMan8, withinIf, inIf]
  by_cases h1 : b1 < 0
  · simp only [if_pos h1]
    exact ⟨-1, F, G, F2, G2, rfl, rfl, hR⟩
  by_cases h2 : 5 < b1
  · simp only [if_neg h1, if_pos h2]
    exact ⟨-1, F, G, F2, G2, rfl, rfl, hR⟩
  simp only [if_neg h1, if_neg h2]
  obtain ⟨mm, emm⟩ : ∃ mm : Nat → Nat, mm = fun j => (G2 13 j).toNatClampNeg := ⟨_, rfl⟩
  have hG : ∀ j, j < e → G 20 j = G2 13 j ∧ G 21 j = G2 14 j ∧ G 22 j = G2 15 j := fun j hj => ⟨(t3 j hj).1, (t3 j hj).2.1, (t3 j hj).2.2.1⟩
  have hE : ∀ j, j < e → G2 13 j = nI (mm j) ∧ mm j ≤ 1000 ∧ (G2 15 j = 0 ∨ G2 15 j = 1 ∨ G2 15 j = 2) := by
    intro j hj
    obtain ⟨s1, s2, s3, m, k, w, m1, k1, w1, m2, k2, w2⟩ := t3 j hj
    have em : mm j = m := by
      rw [emm]
      show (G2 13 j).toNatClampNeg = m
      rw [← s1, m2, nI_clamp (by omega)]
    rw [em, ← s1, ← s3, w2]
    refine ⟨m2, m1, ?_⟩
    rcases (show w = 0 ∨ w = 1 ∨ w = 2 by omega) with rfl | rfl | rfl
    · exact Or.inl rfl
    · exact Or.inr (Or.inl rfl)
    · exact Or.inr (Or.inr rfl)
  have hS : ∀ i j, i < j → j < e → G2 14 i = b1 → G2 14 j = b1 → mm i < mm j := by
    intro i j hij hj ei ej
    have q := (t4 i j hij hj).2 (by rw [(hG i (by omega)).2.1, (hG j hj).2.1, ei, ej])
    obtain ⟨a1, a2, -⟩ := hE i (by omega)
    obtain ⟨c1, c2, -⟩ := hE j hj
    rw [(hG i (by omega)).1, (hG j hj).1, a1, c1] at q
    exact (nI_ltI (by omega) (by omega)).1 q
  obtain ⟨Fz, eFz⟩ : ∃ z : tF, z = upd (upd (upd (upd (upd (upd (upd F 25 0) 26 0) 27 0) 28 0) 29 0) 30 0) 31 0 := ⟨_, rfl⟩
  have hz : ∀ j, j < 25 → Fz j = F j := by
    intro j hj
    rw [eFz, pk_un (by omega), pk_un (by omega), pk_un (by omega), pk_un (by omega), pk_un (by omega), pk_un (by omega), pk_un (by omega)]
  have h0 : LGC (G2 13) (G2 14) (G2 15) mm b1 F 0 (-6) Fz := by
    refine ⟨hz, ?_, Or.inl ⟨rfl, fun _ => ⟨rfl, rfl, rfl⟩, ?_, ?_, ?_, ?_, ?_, ?_⟩⟩ <;> rw [eFz] <;> rfl
  obtain ⟨last, F', k1, k2⟩ := read7_L he t2 hG hE hS (fun (_ : Int32) (_ : Int32) (F9l : tF) (G9l : tG) => some (F9l, G9l)) e 0 n (-6) Fz (by omega) (by omega) h0
  have r7 : p_X1_read n F G b1 = some (F', G) := by
    have f7 : p_X1_forgetReading F G = some (Fz, G) := by rw [eFz]; rfl
    unfold p_X1_read
    rw [f7, bi2S]
    exact k1
  obtain ⟨κ, eκ⟩ : ∃ κ : Nat → Nat, κ = kap (G2 13) (G2 14) (G2 15) b1 e := ⟨_, rfl⟩
  obtain ⟨Fy, eFy⟩ : ∃ z : tF, z = upd (upd (upd (upd F2 23 0) 24 0) 25 0) 26 0 := ⟨_, rfl⟩
  obtain ⟨F2', f1, f2, f3, f4, f5, f6⟩ := read_L hn F2 G2 b1 he u2 (fun (_ : Int32) (_ : Int32) (_ : Int32) (F27l : tF) => some (F27l, G2)) κ (fun t _ => by rw [eκ]; rfl) 1001 0 n Fy rfl (by omega) (by
    intro j hj
    rw [eFy, pk_un (by omega), pk_un (by omega), pk_un (by omega), pk_un (by omega)]) (by rw [eFy]; rfl) (by rw [eFy]; rfl) (by rw [eFy]; rfl) (by rw [eFy]; rfl)
  have r8 : p_X8_readLog n F2 G2 b1 = some (F2', G2) := by
    unfold p_X8_readLog
    rw [pletE, pletE, pletE, pletE, ← eFy]
    exact f6
  obtain ⟨q1, q2, q3⟩ := k2
  have hf : F' 26 = F2' 23 ∧ F' 27 = F2' 24 ∧ F' 28 = F2' 25 ∧ F' 29 = F2' 26 := by
    rw [f2, f3, f4, f5]
    rcases q3 with ⟨-, z, z26, z27, z28, z29, -, -⟩ | ⟨p, hp, -, hpm, z, ⟨⟨y1, y2, y3, y4, y5⟩, y6⟩⟩
    · have kz : ∀ j, 0 ≤ j → j < 0 + 1001 → κ j = 0 := by
        intro j _ _
        rw [eκ]
        unfold kap
        rw [(z j).1, (z j).2.1]; exact kd_a _
      obtain ⟨s1, s2, s3, s4, -⟩ := run_z 1001 kz
      rw [Nat.zero_add] at s1 s2 s3 s4
      rw [s1, s2, s3, s4, z26, z27, z28, z29]; exact ⟨rfl, rfl, rfl, rfl⟩
    · obtain ⟨-, p2, p3⟩ := hE p hp
      have kz : ∀ j, mm p + 1 ≤ j → j < mm p + 1 + (1000 - mm p) → κ j = 0 := by
        intro j j1 j2
        obtain ⟨s1, s2, s3⟩ := (z j (by omega)).1 (by omega)
        rw [eκ]
        unfold kap
        rw [s1, s2, s3]; exact kd_b p3
      obtain ⟨s1, s2, s3, s4, -⟩ := run_z (1000 - mm p) kz
      rw [show mm p + 1 + (1000 - mm p) = 1001 by omega] at s1 s2 s3 s4
      rw [← eκ] at y1 y2 y3 y4
      rw [s1, s2, s3, s4]; exact ⟨y1, y2, y3, y4⟩
  obtain ⟨v1, v2, v3, v4⟩ := hf
  have hR' : RR F' G F2' G2 := RR_log hR q1 (fun k hk => f1 k (by omega))
  have hR2 : RR F G F2' G2 := RR_log hR (fun _ _ => rfl) (fun k hk => f1 k (by omega))
  have e13 : F' 13 = F2' 12 := hR'.2.2.1.1
  have l57 := log57_L F2' G2 b1 he ((f1 20 (by omega)).trans u2) (fun (_ : Int32) (z57_1 : Int32) => some (z57_1, F2', G2)) e 0 n (by omega) (by omega)
  have l57' : p_X8_log_L57 F2' G2 b1 (fun (_ : Int32) (z57_1 : Int32) => some (z57_1, F2', G2)) n 0 0 = some (nI (cntEq (G2 14) b1 e), F2', G2) := l57
  by_cases h3 : b2 < 0
  · have c0 : ¬ b2 = 0 := fun e => absurd h3 (by rw [e]; decide)
    have c1 : ¬ b2 = 1 := fun e => absurd h3 (by rw [e]; decide)
    have c2 : ¬ b2 = 2 := fun e => absurd h3 (by rw [e]; decide)
    have c3 : ¬ b2 = 3 := fun e => absurd h3 (by rw [e]; decide)
    have c4 : ¬ b2 = 4 := fun e => absurd h3 (by rw [e]; decide)
    have c5 : ¬ b2 = 5 := fun e => absurd h3 (by rw [e]; decide)
    rw [if_pos h3, r8, bi2S, if_neg c0, if_neg c1, if_neg c2, if_neg c3, if_neg c4, if_neg c5]
    exact ⟨-2, F, G, F2', G2, rfl, rfl, hR2⟩
  by_cases h4 : 5 < b2
  · have c0 : ¬ b2 = 0 := fun e => absurd h4 (by rw [e]; decide)
    have c1 : ¬ b2 = 1 := fun e => absurd h4 (by rw [e]; decide)
    have c2 : ¬ b2 = 2 := fun e => absurd h4 (by rw [e]; decide)
    have c3 : ¬ b2 = 3 := fun e => absurd h4 (by rw [e]; decide)
    have c4 : ¬ b2 = 4 := fun e => absurd h4 (by rw [e]; decide)
    have c5 : ¬ b2 = 5 := fun e => absurd h4 (by rw [e]; decide)
    rw [if_neg h3, if_pos h4, r8, bi2S, if_neg c0, if_neg c1, if_neg c2, if_neg c3, if_neg c4, if_neg c5]
    exact ⟨-2, F, G, F2', G2, rfl, rfl, hR2⟩
  rw [if_neg h3, if_neg h4, r7, r8, bi2S, bi2S]
  obtain ⟨j, -, hj, ej⟩ := ix_of (m := 0) (n := 5) rfl rfl (by omega) (by omega) h3 h4
  subst ej
  rcases (show j = 0 ∨ j = 1 ∨ j = 2 ∨ j = 3 ∨ j = 4 ∨ j = 5 by omega) with rfl | rfl | rfl | rfl | rfl | rfl
  · refine ⟨F' 25, F', G, F2', G2, rfl, ?_, hR'⟩
    rw [q2]; exact l57'
  · exact ⟨F' 28, F', G, F2', G2, rfl, by rw [v3]; rfl, hR'⟩
  · exact ⟨F' 29, F', G, F2', G2, rfl, by rw [v4]; rfl, hR'⟩
  · have d0 : ¬ nI 3 = 0 := by decide
    have d1 : ¬ nI 3 = 1 := by decide
    have d2 : ¬ nI 3 = 2 := by decide
    have d3 : nI 3 = 3 := rfl
    unfold p_X1_verdict
    rw [if_neg d0, if_neg d0, if_neg d1, if_neg d1, if_neg d2, if_neg d2, if_pos d3, if_pos d3, v3, v4, e13]
    by_cases p : F2' 25 ≤ F2' 12
    · rw [if_pos p, if_pos p]
      by_cases r : F2' 26 ≤ F2' 12
      · rw [if_pos r]
        exact ⟨0, F', G, F2', G2, rfl, rfl, hR'⟩
      · rw [if_neg r]
        exact ⟨1, F', G, F2', G2, rfl, rfl, hR'⟩
    · rw [if_neg p, if_neg p]
      exact ⟨2, F', G, F2', G2, rfl, rfl, hR'⟩
  · exact ⟨F' 26, F', G, F2', G2, rfl, by rw [v1]; rfl, hR'⟩
  · exact ⟨F' 27, F', G, F2', G2, rfl, by rw [v2]; rfl, hR'⟩
