theorem i32a (a b c : Int32) : a + c + b = a + b + c := by rw [Int32.add_assoc, Int32.add_comm c b, ← Int32.add_assoc]
theorem i32b (a b c : Int32) : a + c + (b + 1) = a + b + (c + 1) := by rw [← Int32.add_assoc, i32a a b c, Int32.add_assoc]
/-- a breath: the class's beside the first half of the reference's 'live' -/
theorem breathX {F F2 : tF} {G : tG} (hA : RAir F F2) (hO : AirOk F) : ∃ (Fb Fb2 : tF) (y : Int32), p_X0_breathe F G = some (Fb, G) ∧ (∀ (Kk : Int32 → tF → Option (Int32 × tF × tG)), bi1 ((if (F2 10) ≤ (F2 2) then some ((F2 10)) else some ((F2 2)))) (fun (y10_0 : Int32) => plet (upd F2 2 ((F2 2) - y10_0)) (fun (F32 : tF) => plet (upd F32 3 ((F32 3) + y10_0)) (fun (F42 : tF) => plet (upd F42 5 ((F42 5) + y10_0)) (fun (F52 : tF) => bi2 ((if (F52 10) ≤ y10_0 then some (0, F52) else plet (upd F52 8 ((F52 8) + 1)) (fun (F70 : tF) => plet (0 + 1) (fun (x73 : Int32) => some (x73, F70))))) Kk)))) = Kk y Fb2) ∧ RAir Fb Fb2 ∧ AirOk Fb ∧ (∀ j, j = 0 ∨ 13 ≤ j → Fb j = F j) ∧ (∀ j, 12 ≤ j → Fb2 j = F2 j) ∧ Fb 9 = F 9 + y ∧ Fb 10 = F 10 := by
  obtain ⟨R, d, f, g, b, hN, k1, k2⟩ := airN hO
  obtain ⟨a1, a2, a3, a4, a5, a6, a7, a8, a9, a10, a11, a12⟩ := hA
  obtain ⟨r3, d3, f3, g3, b3, r1, r2, d2, b2⟩ := id hN
  have o := hO.2.2.2.2.2.2.2.2.2.2
  obtain ⟨br, s1, s2, s3⟩ := nat_of (x := F 11) (lo := 1) (hi := 30) o.1 o.2.1 (by omega)
  by_cases hq : f < br
  · have c1 : F 3 < F 11 := by rw [f3, s3]; exact nI_lt hq (by omega)
    have c2 : ¬ F 11 ≤ F 3 := by rw [f3, s3]; exact nI_ge hq (by omega)
    have c3 : ¬ F2 10 ≤ F2 2 := by rw [← a11, ← a3]; exact c2
    refine ⟨upd (upd (upd (upd F 3 (F 3 - F 3)) 4 (F 4 + F 3)) 6 (F 6 + F 3)) 9 (F 9 + 1), upd (upd (upd (upd F2 2 (F2 2 - F2 2)) 3 (F2 3 + F2 2)) 5 (F2 5 + F2 2)) 8 (F2 8 + 1), 1, ?_, ?_, ?_, ?_, ?_, ?_, rfl, rfl⟩
    · unfold p_X0_breathe
      rw [if_pos c1, pletE, pletE, pletE, pletE]
      have c4 : ¬ (upd (upd (upd F 3 (F 3 - F 3)) 4 ((upd F 3 (F 3 - F 3)) 4 + F 3)) 6 ((upd (upd F 3 (F 3 - F 3)) 4 ((upd F 3 (F 3 - F 3)) 4 + F 3)) 6 + F 3)) 11 ≤ F 3 := c2
      rw [if_neg c4]; rfl
    · intro Kk
      rw [if_neg c3, bi1S, pletE, pletE, pletE]
      have c4 : ¬ (upd (upd (upd F2 2 (F2 2 - F2 2)) 3 ((upd F2 2 (F2 2 - F2 2)) 3 + F2 2)) 5 ((upd (upd F2 2 (F2 2 - F2 2)) 3 ((upd F2 2 (F2 2 - F2 2)) 3 + F2 2)) 5 + F2 2)) 10 ≤ F2 2 := c3
      rw [if_neg c4]; rfl
    · refine ⟨a1, a2, ?_, ?_, a5, ?_, a7, a8, ?_, a10, a11, a12⟩
      · show F 3 - F 3 = F2 2 - F2 2
        rw [a3]
      · show F 4 + F 3 = F2 3 + F2 2
        rw [a3, a4]
      · show F 6 + F 3 = F2 5 + F2 2
        rw [a3, a6]
      · show F 9 + 1 = F2 8 + 1
        rw [a9]
    · refine airMk (R := R) (d := d) (f := 0) (g := g + f) (b := b) ⟨r3, d3, ?_, ?_, b3, r1, r2, d2, b2⟩ (by omega) (by omega) o
      · show F 3 - F 3 = nI 0
        rw [f3, pk_sub (Nat.le_refl f), Nat.sub_self]
      · show F 4 + F 3 = nI (g + f)
        rw [f3, g3, nI_add]
    · intro j hj
      rw [pk_un (by omega), pk_un (by omega), pk_un (by omega), pk_un (by omega)]
    · intro j hj
      rw [pk_un (by omega), pk_un (by omega), pk_un (by omega), pk_un (by omega)]
  · have c1 : ¬ F 3 < F 11 := by rw [f3, s3]; exact nI_nlt (by omega) (by omega)
    have c2 : F 11 ≤ F 3 := by rw [f3, s3]; exact nI_le (by omega) (by omega)
    have c3 : F2 10 ≤ F2 2 := by rw [← a11, ← a3]; exact c2
    have c5 : F 11 ≤ F 11 := by rw [s3]; exact nI_le (Nat.le_refl _) (by omega)
    have c6 : F2 10 ≤ F2 10 := by rw [← a11]; exact c5
    refine ⟨upd (upd (upd F 3 (F 3 - F 11)) 4 (F 4 + F 11)) 6 (F 6 + F 11), upd (upd (upd F2 2 (F2 2 - F2 10)) 3 (F2 3 + F2 10)) 5 (F2 5 + F2 10), 0, ?_, ?_, ?_, ?_, ?_, ?_, ?_, rfl⟩
    · unfold p_X0_breathe
      rw [if_neg c1, pletE, pletE, pletE, pletE]
      have c4 : (upd (upd (upd F 3 (F 3 - F 11)) 4 ((upd F 3 (F 3 - F 11)) 4 + F 11)) 6 ((upd (upd F 3 (F 3 - F 11)) 4 ((upd F 3 (F 3 - F 11)) 4 + F 11)) 6 + F 11)) 11 ≤ F 11 := c5
      rw [if_pos c4]; rfl
    · intro Kk
      rw [if_pos c3, bi1S, pletE, pletE, pletE]
      have c4 : (upd (upd (upd F2 2 (F2 2 - F2 10)) 3 ((upd F2 2 (F2 2 - F2 10)) 3 + F2 10)) 5 ((upd (upd F2 2 (F2 2 - F2 10)) 3 ((upd F2 2 (F2 2 - F2 10)) 3 + F2 10)) 5 + F2 10)) 10 ≤ F2 10 := c6
      rw [if_pos c4]; rfl
    · refine ⟨a1, a2, ?_, ?_, a5, ?_, a7, a8, a9, a10, a11, a12⟩
      · show F 3 - F 11 = F2 2 - F2 10
        rw [a3, a11]
      · show F 4 + F 11 = F2 3 + F2 10
        rw [a4, a11]
      · show F 6 + F 11 = F2 5 + F2 10
        rw [a6, a11]
    · refine airMk (R := R) (d := d) (f := f - br) (g := g + br) (b := b) ⟨r3, d3, ?_, ?_, b3, r1, r2, d2, b2⟩ (by omega) (by omega) o
      · show F 3 - F 11 = nI (f - br)
        rw [f3, s3, pk_sub (by omega)]
      · show F 4 + F 11 = nI (g + br)
        rw [g3, s3, nI_add]
    · intro j hj
      rw [pk_un (by omega), pk_un (by omega), pk_un (by omega)]
    · intro j hj
      rw [pk_un (by omega), pk_un (by omega), pk_un (by omega)]
    · exact (Int32.add_zero _).symm
/-- a man's count of minutes outside -/
theorem stayR {F : tF} {G : tG} {F2 : tF} {G2 : tG} {k : Nat} {v : Int32} (hk : k < 6) (hX : RX F G F2 G2) (h2 : G 0 k = 2) : RX F (stG G 3 (nI k) v) F2 (stG G2 3 (nI k) v) := by
  obtain ⟨hA, hO, ⟨m1, m2, m3, m4, m5, m6, m7⟩, hW, hT, hL, hB, hP⟩ := hX
  refine ⟨hA, hO, ⟨m1, m2, m3, m4, ?_, m6, m7⟩, hW, hT, hL, hB, hP⟩
  intro j hj
  have ecl : (nI k).toNatClampNeg = k := nI_clamp (by omega)
  obtain ⟨r0, r1, r2, r3, r4, r5⟩ := m5 j hj
  refine ⟨r0, r1, ?_, ?_, r4, r5⟩
  · intro q
    obtain ⟨s1, s2, s3, s4⟩ := r2 q
    refine ⟨s1, s2, ?_, s4⟩
    show upd (G 3) (nI k).toNatClampNeg v j = upd (G2 3) (nI k).toNatClampNeg v j
    rw [ecl]
    by_cases e : j = k
    · rw [e, pk_us, pk_us]
    · rw [pk_un e, pk_un e]; exact s3
  · intro q
    have q : ¬ G 0 j = 2 := q
    obtain ⟨s1, s2, s3⟩ := r3 q
    refine ⟨s1, s2, ?_⟩
    show upd (G 3) (nI k).toNatClampNeg v j = 0
    rw [ecl, pk_un (fun e => q (by rw [e]; exact h2))]; exact s3
theorem lackR {F : tF} {G : tG} {F2 : tF} {G2 : tG} (hX : RX F G F2 G2) : RX (upd F 10 (F 10 + 1)) G (upd F2 9 (F2 9 + 1)) G2 := by
  have hA : RAir F F2 := hX.1
  obtain ⟨a1, a2, a3, a4, a5, a6, a7, a8, a9, a10, a11, a12⟩ := hA
  refine rx_air hX ⟨a1, a2, a3, a4, a5, a6, a7, a8, a9, ?_, a11, a12⟩ hX.2.1 ?_ ?_
  · show F 10 + 1 = F2 9 + 1
    rw [a10]
  · intro j hj
    rw [pk_un (by omega)]
  · intro j hj
    rw [pk_un (by omega)]
theorem manX {n : Nat} (hn : 5000 ≤ n) {F : tF} {G : tG} {F2 : tF} {G2 : tG} (hX : RX F G F2 G2) {k : Nat} (hk : k < 6) : ∃ (F' : tF) (G' : tG) (F2' : tF) (G2' : tG) (y : Int32), (∀ K kk, p_X7_passMinute_L12 n K (kk + 1) (nI k) F G = p_X7_passMinute_L12 n K kk (nI (k + 1)) F' G') ∧ (∀ K kk z, p_X8_minutes_L26 n K (kk + 1) (nI k) z F2 G2 = p_X8_minutes_L26 n K kk (nI (k + 1)) (z + y) F2' G2') ∧ RX F' G' F2' G2' ∧ F' 0 = F 0 ∧ F2' 13 = F2 13 ∧ F' 9 + F' 10 = F 9 + F 10 + y := by
  obtain ⟨hA', hO', hM, hW', hT, hL, hB, hP⟩ := id hX
  have hA : RAir F F2 := hA'
  have hO : AirOk F := hO'
  obtain ⟨r0, r1, r2, r3, r4, r5⟩ := hM.2.2.2.2.1 k hk
  have i1 : inB (nI k) 6 = true := inBT (by omega) (by omega)
  have ecl : (nI k).toNatClampNeg = k := nI_clamp (by omega)
  have n10 : ¬ (1 : Int32) = 0 := by decide
  have n20 : ¬ (2 : Int32) = 0 := by decide
  have n12 : ¬ (1 : Int32) = 2 := by decide
  have n02 : ¬ (0 : Int32) = 2 := by decide
  by_cases w0 : G 0 k = 0
  · have w2 : ¬ G 0 k = 2 := by rw [w0]; exact n02
    have v0 : G2 0 k = 0 := r0 ▸ w0
    refine ⟨F, G, F2, G2, 0, ?_, ?_, hX, rfl, rfl, (Int32.add_zero _).symm⟩
    · intro K kk
      rw [p_X7_passMinute_L12, if_neg (lt6 hk), i1, oguardT, ecl, if_pos w0, bi2S, oguardT, if_neg w2, bi2S, pletE, nI_1]
    · intro K kk z
      rw [p_X8_minutes_L26, if_neg (lt6 hk), i1, oguardT, ecl, if_pos v0, bi3S, pletE, pletE, nI_1]
  obtain ⟨Fb, Fb2, y0, b1, b2, b3, b4, b5, b6, b7, b8⟩ := breathX (G := G) hA hO
  have v0 : ¬ G2 0 k = 0 := r0 ▸ w0
  have hXb : RX Fb G Fb2 G2 := rx_air hX b3 b4 b5 b6
  by_cases w2 : G 0 k = 2
  · have v2 : G2 0 k = 2 := r0 ▸ w2
    obtain ⟨s1, s2, s3, h, hh, eh⟩ := r2 w2
    have eh2 : G2 2 k = nI h := s2 ▸ eh
    have m7h := hM.2.2.2.2.2.2 h hh
    have ce := cntOn_some (G 2) (nI h) k hk 6 (by omega)
    rw [if_pos ⟨hk, eh⟩] at ce
    have co := countOn_v (n := n) (by omega) G (nI h)
    have oh := onHose_v (n := n) (by omega) G G2 (nI h) (onHoseR hM hh)
    have hy : (if nI (cntEq (G 2) (nI h) 6) = 2 then some (2 : Int32) else some 1) = some (nI (cntEq (G 2) (nI h) 6)) := by
      rcases (show cntEq (G 2) (nI h) 6 = 1 ∨ cntEq (G 2) (nI h) 6 = 2 by omega) with q | q
      · rw [q]; rfl
      · rw [q]; rfl
    generalize nI (cntEq (G 2) (nI h) 6) = cc at co oh hy
    obtain ⟨v, ev⟩ : ∃ z, z = G 3 k + cc := ⟨_, rfl⟩
    have gv : stG G 3 (nI k) v 3 k = v := by
      show upd (G 3) (nI k).toNatClampNeg v k = v
      rw [ecl, pk_us]
    have gv2 : stG G2 3 (nI k) v 3 k = v := by
      show upd (G2 3) (nI k).toNatClampNeg v k = v
      rw [ecl, pk_us]
    have e13 : Fb 13 = F 13 := b5 13 (Or.inr (by omega))
    have e12 : Fb2 12 = F 13 := (b6 12 (by omega)).trans hM.1.symm
    have hXc : RX Fb (stG G 3 (nI k) v) Fb2 (stG G2 3 (nI k) v) := stayR hk hXb w2
    by_cases hv : v ≤ F 13
    · have cm : p_X2_countMinuteOut n Fb G (nI k) = some (0, Fb, stG G 3 (nI k) v) := by
        unfold p_X2_countMinuteOut
        rw [i1, oguardT, oguardT, ecl, eh, co, bi1S, hy, bi1S, oguardT, ← ev, pletE, oguardT, gv, e13, if_pos hv]; rfl
      obtain ⟨F', G', F2', G2', t1, t2, t3, t4, t5, t6, t7⟩ := toilX hXc hk s1
      have lv : p_X8_live n F2 G2 (nI k) = some (y0, F2', G2') := by
        unfold p_X8_live
        rw [b2]
        rw [i1, oguardT, ecl, if_pos v2, oguardT, oguardT, eh2, oh, bi1S, oguardT, ← s3, ← ev, pletE, oguardT, gv2, e12, if_pos hv, bi2S, t2, bi2S, bi3S]
      refine ⟨F', G', F2', G2', y0, ?_, ?_, t3, t4.trans (b5 0 (Or.inl rfl)), t7.trans (b6 13 (by omega)), ?_⟩
      · intro K kk
        rw [p_X7_passMinute_L12, if_neg (lt6 hk), i1, oguardT, ecl, if_neg w0, b1, bi2S, bi2S, oguardT, if_pos w2, cm, bi3S, if_pos rfl, bi1S, t1, bi2S, bi2S, pletE, nI_1]
      · intro K kk z
        rw [p_X8_minutes_L26, if_neg (lt6 hk), i1, oguardT, ecl, if_neg v0, lv, bi3S, bi3S, pletE, pletE, nI_1]
      · rw [t5, t6, b7, b8]; exact i32a _ _ _
    · have cm : p_X2_countMinuteOut n Fb G (nI k) = some (1, Fb, stG G 3 (nI k) v) := by
        unfold p_X2_countMinuteOut
        rw [i1, oguardT, oguardT, ecl, eh, co, bi1S, hy, bi1S, oguardT, ← ev, pletE, oguardT, gv, e13, if_neg hv]; rfl
      obtain ⟨F', G', F2', G2', t1, t2, t3, t4, t5, t6, t7⟩ := toilX (lackR hXc) hk s1
      have lv : p_X8_live n F2 G2 (nI k) = some (y0 + 1, F2', G2') := by
        unfold p_X8_live
        rw [b2]
        rw [i1, oguardT, ecl, if_pos v2, oguardT, oguardT, eh2, oh, bi1S, oguardT, ← s3, ← ev, pletE, oguardT, gv2, e12, if_neg hv, pletE, pletE, bi2S, t2, bi2S, bi3S]
      refine ⟨F', G', F2', G2', y0 + 1, ?_, ?_, t3, t4.trans (b5 0 (Or.inl rfl)), t7.trans (b6 13 (by omega)), ?_⟩
      · intro K kk
        rw [p_X7_passMinute_L12, if_neg (lt6 hk), i1, oguardT, ecl, if_neg w0, b1, bi2S, bi2S, oguardT, if_pos w2, cm, bi3S, if_neg one_nz, pletE, bi1S, t1, bi2S, bi2S, pletE, nI_1]
      · intro K kk z
        rw [p_X8_minutes_L26, if_neg (lt6 hk), i1, oguardT, ecl, if_neg v0, lv, bi3S, bi3S, pletE, pletE, nI_1]
      · have q9 : F' 9 = Fb 9 := t5
        have q10 : F' 10 = Fb 10 + 1 := t6
        rw [q9, q10, b7, b8]; exact i32b _ _ _
  · have v2 : ¬ G2 0 k = 2 := r0 ▸ w2
    have lv : p_X8_live n F2 G2 (nI k) = some (y0, Fb2, G2) := by
      unfold p_X8_live
      rw [b2]
      rw [i1, oguardT, ecl, if_neg v2, bi3S]
    refine ⟨Fb, G, Fb2, G2, y0, ?_, ?_, hXb, b5 0 (Or.inl rfl), b6 13 (by omega), ?_⟩
    · intro K kk
      rw [p_X7_passMinute_L12, if_neg (lt6 hk), i1, oguardT, ecl, if_neg w0, b1, bi2S, bi2S, oguardT, if_neg w2, bi2S, pletE, nI_1]
    · intro K kk z
      rw [p_X8_minutes_L26, if_neg (lt6 hk), i1, oguardT, ecl, if_neg v0, lv, bi3S, bi3S, pletE, pletE, nI_1]
    · rw [b7, b8]; exact i32a _ _ _
theorem menX {n : Nat} (hn : 5000 ≤ n) : ∀ c i (F : tF) (G : tG) (F2 : tF) (G2 : tG), i + c = 6 → RX F G F2 G2 → ∃ (F' : tF) (G' : tG) (F2' : tF) (G2' : tG) (y : Int32), (∀ K kk, c < kk → p_X7_passMinute_L12 n K kk (nI i) F G = K (nI 6) F' G') ∧ (∀ K kk z, c < kk → p_X8_minutes_L26 n K kk (nI i) z F2 G2 = K (nI 6) (z + y) F2' G2') ∧ RX F' G' F2' G2' ∧ F' 0 = F 0 ∧ F2' 13 = F2 13 ∧ F' 9 + F' 10 = F 9 + F 10 + y := by
  intro c
  induction c with
  | zero =>
    intro i F G F2 G2 hi hX
    have e : i = 6 := by omega
    subst e
    refine ⟨F, G, F2, G2, 0, ?_, ?_, hX, rfl, rfl, (Int32.add_zero _).symm⟩
    · intro K kk hk
      obtain ⟨kk, rfl⟩ : ∃ q, kk = q + 1 := ⟨kk - 1, by omega⟩
      rw [p_X7_passMinute_L12, if_pos (by decide)]
    · intro K kk z hk
      obtain ⟨kk, rfl⟩ : ∃ q, kk = q + 1 := ⟨kk - 1, by omega⟩
      rw [p_X8_minutes_L26, if_pos (by decide), Int32.add_zero]
  | succ c ih =>
    intro i F G F2 G2 hi hX
    obtain ⟨F', G', F2', G2', y, h1, h2, h3, h4, h5, h6⟩ := manX hn hX (k := i) (by omega)
    obtain ⟨F'', G'', F2'', G2'', y', k1, k2, k3, k4, k5, k6⟩ := ih (i + 1) F' G' F2' G2' (by omega) h3
    refine ⟨F'', G'', F2'', G2'', y + y', ?_, ?_, k3, k4.trans h4, k5.trans h5, ?_⟩
    · intro K kk hk
      obtain ⟨kk, rfl⟩ : ∃ q, kk = q + 1 := ⟨kk - 1, by omega⟩
      rw [h1, k1 K kk (by omega)]
    · intro K kk z hk
      obtain ⟨kk, rfl⟩ : ∃ q, kk = q + 1 := ⟨kk - 1, by omega⟩
      rw [h2, k2 K kk _ (by omega), Int32.add_assoc]
    · rw [k6, h6, Int32.add_assoc]
theorem minX {n : Nat} (hn : 5000 ≤ n) {m : Nat} (hm : m ≤ 200) : ∀ c i (F : tF) (G : tG) (F2 : tF) (G2 : tG), i + c = m → RX F G F2 G2 → ∃ (F' : tF) (G' : tG) (F2' : tF) (G2' : tG) (y : Int32), (∀ K kk, c < kk → p_X7_minutes_L32 n (nI m) K kk (nI i) F G = K (nI m) F' G') ∧ (∀ K kk z, c < kk → p_X8_minutes_L18 n (nI m) K kk (nI i) z F2 G2 = K (nI m) (z + y) F2' G2') ∧ RX F' G' F2' G2' ∧ F' 0 = F 0 + nI c ∧ F2' 13 = F2 13 ∧ F' 9 + F' 10 = F 9 + F 10 + y := by
  intro c
  induction c with
  | zero =>
    intro i F G F2 G2 hi hX
    have e : i = m := by omega
    subst e
    have q : nI i ≤ nI i := nI_le (Nat.le_refl _) (by omega)
    refine ⟨F, G, F2, G2, 0, ?_, ?_, hX, (Int32.add_zero _).symm, rfl, (Int32.add_zero _).symm⟩
    · intro K kk hk
      obtain ⟨kk, rfl⟩ : ∃ q, kk = q + 1 := ⟨kk - 1, by omega⟩
      rw [p_X7_minutes_L32, if_pos q]
    · intro K kk z hk
      obtain ⟨kk, rfl⟩ : ∃ q, kk = q + 1 := ⟨kk - 1, by omega⟩
      rw [p_X8_minutes_L18, if_pos q, Int32.add_zero]
  | succ c ih =>
    intro i F G F2 G2 hi hX
    have hX1 : RX (upd F 0 (F 0 + 1)) G F2 G2 := by
      refine (?_ : RR (upd (upd F 0 (F 0 + 1)) 0 (F2 13)) G F2 G2)
      have e : upd (upd F 0 (F 0 + 1)) 0 (F2 13) = upd F 0 (F2 13) := by
        funext j
        by_cases q : j = 0
        · rw [q, pk_us, pk_us]
        · rw [pk_un q, pk_un q, pk_un q]
      rw [e]; exact hX
    obtain ⟨F', G', F2', G2', y, h1, h2, h3, h4, h5, h6⟩ := menX hn 6 0 (upd F 0 (F 0 + 1)) G F2 G2 rfl hX1
    obtain ⟨F'', G'', F2'', G2'', y', k1, k2, k3, k4, k5, k6⟩ := ih (i + 1) F' G' F2' G2' (by omega) h3
    have hp : p_X7_passMinute n F G = some (F', G') := by
      unfold p_X7_passMinute
      rw [pletE]
      exact h1 _ n (by omega)
    have q : ¬ nI m ≤ nI i := nI_ge (by omega) (by omega)
    refine ⟨F'', G'', F2'', G2'', y + y', ?_, ?_, k3, ?_, k5.trans h5, ?_⟩
    · intro K kk hk
      obtain ⟨kk, rfl⟩ : ∃ q, kk = q + 1 := ⟨kk - 1, by omega⟩
      rw [p_X7_minutes_L32, if_neg q, hp, bi2S, pletE, nI_1, k1 K kk (by omega)]
    · intro K kk z hk
      obtain ⟨kk, rfl⟩ : ∃ q, kk = q + 1 := ⟨kk - 1, by omega⟩
      rw [p_X8_minutes_L18, if_neg q]
      refine (h2 _ n z (by omega)).trans ?_
      rw [pletE, nI_1, k2 K kk _ (by omega), Int32.add_assoc]
    · have q0 : F' 0 = F 0 + 1 := h4
      have e1 : (1 : Int32) = nI 1 := rfl
      rw [k4, q0, Int32.add_assoc, e1, nI_add, Nat.add_comm 1 c]
    · have q9 : F' 9 + F' 10 = F 9 + F 10 + y := h6
      rw [k6, q9, Int32.add_assoc]
theorem sim_minutes {n : Nat} (hn : 5000 ≤ n) : simT_minutes n RR := by
  intro F G F2 G2 b1 hR
  unfold p_X7_minutes p_X8_minutes
  rw [withinIf, inIf]
  by_cases h1 : b1 < 1
  · rw [if_pos h1, if_pos h1]
    exact ⟨-2, F, G, F2, G2, rfl, rfl, hR⟩
  by_cases h2 : 200 < b1
  · rw [if_neg h1, if_neg h1, if_pos h2, if_pos h2]
    exact ⟨-2, F, G, F2, G2, rfl, rfl, hR⟩
  rw [if_neg h1, if_neg h1, if_neg h2, if_neg h2]
  obtain ⟨m, m1, m2, m3⟩ := ix_of (m := 1) (n := 200) rfl rfl (by omega) (by omega) h1 h2
  subst m3
  obtain ⟨F', G', F2', G2', y, k1, k2, k3, k4, k5, k6⟩ := minX hn m2 m 0 F G F2 G2 (by omega) (rx_of hR)
  refine ⟨y, F', G', upd F2' 13 (F2' 13 + nI m), G2', ?_, ?_, ?_⟩
  · rw [pletE]
    refine (k1 _ n (by omega)).trans ?_
    rw [k6, Int32.add_comm _ y, Int32.add_sub_cancel]
  · refine (k2 _ n 0 (by omega)).trans ?_
    rw [pletE, Int32.zero_add]
  · obtain ⟨hA, hO, ⟨q1, q2, q3, q4, q5, q6, q7⟩, hW, hT, hL, hB, hP⟩ := k3
    refine ⟨hA, hO, ⟨q1, q2, ?_, q4, q5, q6, q7⟩, hW, hT, hL, hB, hP⟩
    show F' 0 = F2' 13 + nI m
    rw [k4, k5, hR.2.2.1.2.2.1]
