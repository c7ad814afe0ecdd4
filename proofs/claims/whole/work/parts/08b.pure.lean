/-! out -/
def gSend (G : tG) (k h s : Nat) : tG := stG (stG (stG G 0 (nI k) 2) 2 (nI k) (nI h)) 1 (nI k) (nI s)
def gSend8 (G : tG) (k : Nat) (c : Int32) (h s : Nat) : tG := stG (stG (stG (stG G 3 (nI k) c) 0 (nI k) 2) 2 (nI k) (nI h)) 1 (nI k) (nI s)
theorem send_v (F : tF) (G : tG) {k h s : Nat} (hk : k < 6) : p_X2_send F G (nI k) (nI h) (nI s) = some (F, gSend G k h s) := by
  unfold p_X2_send
  rw [inBT hk (by omega)]; rfl
theorem sendR {F : tF} {G : tG} {F2 : tF} {G2 : tG} {k h s : Nat} {c : Int32} (hk : k < 6) (hh : h < 3) (hM : RMen F G F2 G2) (hc : (G 0 k = 2 ∧ G 2 k = nI h ∧ c = G2 3 k) ∨ (¬ G 0 k = 2 ∧ c = 0 ∧ cntEq (G 2) (nI h) 6 ≤ 1)) : RMen F (gSend G k h s) F2 (gSend8 G2 k c h s) := by
  obtain ⟨m1, m2, m3, m4, m5, m6, m7⟩ := hM
  have ecl : (nI k).toNatClampNeg = k := nI_clamp (by omega)
  refine ⟨m1, m2, m3, m4, ?_, m6, ?_⟩
  · intro j hj
    obtain ⟨r0, r1, r2, r3, r4, r5⟩ := m5 j hj
    show upd (G 0) (nI k).toNatClampNeg 2 j = upd (G2 0) (nI k).toNatClampNeg 2 j ∧ (upd (G 0) (nI k).toNatClampNeg 2 j = 0 ∨ upd (G 0) (nI k).toNatClampNeg 2 j = 1 ∨ upd (G 0) (nI k).toNatClampNeg 2 j = 2) ∧ (upd (G 0) (nI k).toNatClampNeg 2 j = 2 → upd (G 1) (nI k).toNatClampNeg (nI s) j = upd (G2 1) (nI k).toNatClampNeg (nI s) j ∧ upd (G 2) (nI k).toNatClampNeg (nI h) j = upd (G2 2) (nI k).toNatClampNeg (nI h) j ∧ G 3 j = upd (G2 3) (nI k).toNatClampNeg c j ∧ ∃ h2 : Nat, h2 < 3 ∧ upd (G 2) (nI k).toNatClampNeg (nI h) j = nI h2) ∧ (¬ upd (G 0) (nI k).toNatClampNeg 2 j = 2 → upd (G 1) (nI k).toNatClampNeg (nI s) j = -6 ∧ upd (G 2) (nI k).toNatClampNeg (nI h) j = -6 ∧ G 3 j = 0) ∧ G 4 j = G2 4 j ∧ (G 4 j = -6 ∨ ∃ t : Nat, nI t < F 15 ∧ t < 12 ∧ G 4 j = nI t)
    rw [ecl]
    by_cases e : j = k
    · subst e
      rw [pk_us, pk_us, pk_us, pk_us, pk_us, pk_us, pk_us]
      refine ⟨rfl, Or.inr (Or.inr rfl), fun _ => ⟨rfl, rfl, ?_, h, hh, rfl⟩, fun q => absurd rfl q, r4, r5⟩
      rcases hc with ⟨c1, c2, c3⟩ | ⟨c1, c2, c3⟩
      · rw [c3]; exact (r2 c1).2.2.1
      · rw [c2]; exact (r3 c1).2.2
    · simp only [pk_un e]
      exact ⟨r0, r1, r2, r3, r4, r5⟩
  · intro h2 hh2
    show cntEq (upd (G 2) (nI k).toNatClampNeg (nI h)) (nI h2) 6 ≤ 2
    rw [ecl]
    by_cases e : h = h2
    · subst e
      rcases hc with ⟨c1, c2, c3⟩ | ⟨c1, c2, c3⟩
      · have q : cntEq (upd (G 2) k (nI h)) (nI h) 6 = cntEq (G 2) (nI h) 6 := cntEq_cong 6 (fun j _ => by
          by_cases e : j = k
          · rw [e, pk_us, c2]
          · rw [pk_un e])
        rw [q]; exact m7 h hh
      · have q := cntEq_in (f := G 2) (x := nI h) k 6
        rw [if_pos hk] at q
        omega
    · exact Nat.le_trans (cntEq_out k (fun z => e ((nI_eq (by omega) (by omega)).1 z)) 6) (m7 h2 hh2)
theorem sim_out {n : Nat} (hn : 5000 ≤ n) : simT_out n RR := by
  intro F G F2 G2 b1 b2 b3 hR
  obtain ⟨hA, hO, hM, hW, hT, hL, hB, hP⟩ := id hR
  obtain ⟨m1, m2, m3, ⟨q, hq, eq⟩, m5, m6, m7⟩ := id hM
  unfold p_X7_out p_X8_out
  simp only [isMan7, isMan8, isHose7, isHose8, isSquare7, isSquare8, withinIf, inIf]
  by_cases h1 : b1 < 0
  · simp only [if_pos h1]
    exact ⟨-1, F, G, F2, G2, rfl, rfl, hR⟩
  by_cases h2 : 5 < b1
  · simp only [if_neg h1, if_pos h2]
    exact ⟨-1, F, G, F2, G2, rfl, rfl, hR⟩
  simp only [if_neg h1, if_neg h2]
  by_cases h3 : b2 < 0
  · simp only [if_pos h3]
    exact ⟨-1, F, G, F2, G2, rfl, rfl, hR⟩
  by_cases h4 : 2 < b2
  · simp only [if_neg h3, if_pos h4]
    exact ⟨-1, F, G, F2, G2, rfl, rfl, hR⟩
  simp only [if_neg h3, if_neg h4]
  by_cases h5 : b3 < 0
  · simp only [if_pos h5]
    exact ⟨-1, F, G, F2, G2, rfl, rfl, hR⟩
  by_cases h6 : 48 < b3
  · simp only [if_neg h5, if_pos h6]
    exact ⟨-1, F, G, F2, G2, rfl, rfl, hR⟩
  simp only [if_neg h5, if_neg h6]
  obtain ⟨k, -, hk, ek⟩ := ix_of (m := 0) (n := 5) rfl rfl (by omega) (by omega) h1 h2
  obtain ⟨h, -, hh, eh⟩ := ix_of (m := 0) (n := 2) rfl rfl (by omega) (by omega) h3 h4
  obtain ⟨s, -, hs, es⟩ := ix_of (m := 0) (n := 48) rfl rfl (by omega) (by omega) h5 h6
  clear h1 h2 h3 h4 h5 h6
  subst ek
  subst eh
  subst es
  have hh3 : h < 3 := by omega
  have i1 : inB (nI k) 6 = true := inBT (by omega) (by omega)
  have i3 : inB (nI h) 3 = true := inBT (by omega) (by omega)
  have ecl : (nI k).toNatClampNeg = k := nI_clamp (by omega)
  have ech : (nI h).toNatClampNeg = h := nI_clamp (by omega)
  obtain ⟨r0, r1, r2, r3, r4, r5⟩ := m5 k (by omega)
  have e14 : F2 14 = nI q := m2 ▸ eq
  have z1 : p_X8_size ((nI s - nI s / 7 * 7) - (nI q - nI q / 7 * 7)) = some (nI (dst (q % 7) (s % 7))) := by
    rw [sr7 hs, sr7 hq, size8 (by omega) (by omega), dst_comm]
  have z2 : p_X8_size ((nI s / 7) - (nI q / 7)) = some (nI (dst (q / 7) (s / 7))) := by
    rw [sq7 hs, sq7 hq, size8 (by omega) (by omega), dst_comm]
  have dv := distance7 hq hs
  have ov := othersOn_v (n := n) (by omega) G (nI h) (nI k)
  have oh := onHose_v (n := n) (by omega) G G2 (nI h) (onHoseR hM hh3)
  have sv := send_v F G (k := k) (h := h) (s := s) (by omega)
  have ce := cntOn_some (G 2) (nI h) k (by omega) 6 (by omega)
  have m7h := m7 h hh3
  have n02 : ¬ (0 : Int32) = 2 := by decide
  have n12 : ¬ (1 : Int32) = 2 := by decide
  have n20 : ¬ (2 : Int32) = 0 := by decide
  have n21 : ¬ (2 : Int32) = 1 := by decide
  have p00 : (0 : Int32) = 0 := rfl
  have p11 : (1 : Int32) = 1 := rfl
  have p22 : (2 : Int32) = 2 := rfl
  simp only [i1, i3, oguardT, ecl, ech, pletE, ← r0, ← m6 h hh3, eq, e14, z1, z2, dv, ov, oh, sv, bi1S, bi2S, nI_add]
  generalize nI (dst (q % 7) (s % 7) + dst (q / 7) (s / 7)) = D
  rcases r1 with w | w | w
  · simp only [w, if_pos p00]
    exact ⟨-3, F, G, F2, G2, rfl, rfl, hR⟩
  · have w2 : ¬ G 0 k = 2 := by rw [w]; exact n12
    obtain ⟨s1, s2, s3⟩ := r3 w2
    rw [if_neg (fun z => hose_ne hh3 (s2.symm.trans z.2))] at ce
    simp only [w, if_neg one_nz, if_neg n12, if_pos p11]
    by_cases hf : cntEq (G 2) (nI h) 6 = 2
    · have c1 : ¬ nI (cntOn (G 2) (nI h) (nI k) 6) < 2 := nI_nlt (b := 2) (by omega) (by omega)
      have c2 : nI (cntEq (G 2) (nI h) 6) = 2 := by rw [hf]; rfl
      simp only [if_neg c1, if_pos c2]
      exact ⟨-4, F, G, F2, G2, rfl, rfl, hR⟩
    · have c1 : nI (cntOn (G 2) (nI h) (nI k) 6) < 2 := nI_lt (b := 2) (by omega) (by omega)
      have c2 : ¬ nI (cntEq (G 2) (nI h) 6) = 2 := fun z => hf ((nI_eq (b := 2) (by omega) (by omega)).1 z)
      simp only [if_pos c1, if_neg c2]
      by_cases hd : D ≤ G 5 h
      · simp only [if_pos hd, bi1S]
        exact ⟨1, F, gSend G k h s, F2, gSend8 G2 k 0 h s, rfl, rfl, hA, hO, sendR (by omega) hh3 hM (Or.inr ⟨w2, rfl, by omega⟩), hW, hT, hL, hB, hP⟩
      · simp only [if_neg hd]
        exact ⟨-5, F, G, F2, G2, rfl, rfl, hR⟩
  · obtain ⟨s1, s2, s3, -⟩ := r2 w
    simp only [w, if_neg n20, if_neg n21, if_pos p22, ← s2]
    by_cases hg : G 2 k = nI h
    · rw [if_pos ⟨by omega, hg⟩] at ce
      have c1 : nI (cntOn (G 2) (nI h) (nI k) 6) < 2 := nI_lt (b := 2) (by omega) (by omega)
      simp only [if_pos hg, if_pos c1]
      by_cases hd : D ≤ G 5 h
      · simp only [if_pos hd, bi1S]
        exact ⟨1, F, gSend G k h s, F2, gSend8 G2 k (G2 3 k) h s, rfl, rfl, hA, hO, sendR (by omega) hh3 hM (Or.inl ⟨w, hg, rfl⟩), hW, hT, hL, hB, hP⟩
      · simp only [if_neg hd]
        exact ⟨-5, F, G, F2, G2, rfl, rfl, hR⟩
    · simp only [if_neg hg]
      exact ⟨-3, F, G, F2, G2, rfl, rfl, hR⟩
