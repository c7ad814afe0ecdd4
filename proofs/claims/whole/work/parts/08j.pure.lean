def kap (M N W : Nat → Int32) (m : Int32) (i t : Nat) : Nat := kd (scO M N W m (nI t) i) (scA M N W m (nI t) i) (scB M N W m (nI t) i)
def LGI (M N W : Nat → Int32) (mm : Nat → Nat) (m : Int32) (i p : Nat) : Prop := ∀ t : Nat, t ≤ 1000 → (mm p < t → scO M N W m (nI t) i = -6 ∧ scA M N W m (nI t) i = W p ∧ scB M N W m (nI t) i = -6) ∧ (t = mm p → scO M N W m (nI t) i = W p) ∧ (t < mm p → 0 ≤ scB M N W m (nI t) i)
def LG0 (M N W : Nat → Int32) (m : Int32) (i : Nat) : Prop := ∀ t : Nat, scO M N W m (nI t) i = -6 ∧ scA M N W m (nI t) i = -6 ∧ scB M N W m (nI t) i = -6
def LGC (M N W : Nat → Int32) (mm : Nat → Nat) (m : Int32) (F0 : tF) (i : Nat) (last : Int32) (F : tF) : Prop := (∀ j, j < 25 → F j = F0 j) ∧ F 25 = nI (cntEq N m i) ∧ ((last = -6 ∧ LG0 M N W m i ∧ F 26 = 0 ∧ F 27 = 0 ∧ F 28 = 0 ∧ F 29 = 0 ∧ F 30 = 0 ∧ F 31 = 0) ∨ ∃ p, p < i ∧ last = nI p ∧ N p = m ∧ LGI M N W mm m i p ∧ LGF F (kap M N W m i) (mm p + 1))
theorem sc_lt {M N W : Nat → Int32} {mm : Nat → Nat} {m : Int32} {i t : Nat} (hm : N i = m) (e1 : M i = nI (mm i)) (e2 : mm i ≤ 1000) (ht : t < mm i) : scO M N W m (nI t) (i + 1) = scO M N W m (nI t) i ∧ scA M N W m (nI t) (i + 1) = scA M N W m (nI t) i ∧ scB M N W m (nI t) (i + 1) = if 0 ≤ scB M N W m (nI t) i then scB M N W m (nI t) i else W i := by
  rw [scO, scA, scB, if_pos hm, if_pos hm, if_pos hm, e1]
  have c1 : ¬ nI (mm i) = nI t := fun z => absurd ((nI_eq (by omega) (by omega)).1 z) (by omega)
  have c2 : nI t ≤ nI (mm i) := nI_le (by omega) (by omega)
  have c3 : ¬ nI (mm i) ≤ nI t := nI_ge ht (by omega)
  rw [if_neg c1, if_pos c2, if_neg c3]
  exact ⟨rfl, rfl, rfl⟩
theorem sc_at {M N W : Nat → Int32} {mm : Nat → Nat} {m : Int32} {i t : Nat} (hm : N i = m) (e1 : M i = nI (mm i)) (ht : t = mm i) : scO M N W m (nI t) (i + 1) = W i := by
  rw [scO, if_pos hm, e1, ht, if_pos rfl]
theorem sc_gt {M N W : Nat → Int32} {mm : Nat → Nat} {m : Int32} {i t : Nat} (hm : N i = m) (e1 : M i = nI (mm i)) (e2 : t ≤ 1000) (ht : mm i < t) : scO M N W m (nI t) (i + 1) = scO M N W m (nI t) i ∧ scA M N W m (nI t) (i + 1) = W i ∧ scB M N W m (nI t) (i + 1) = scB M N W m (nI t) i := by
  rw [scO, scA, scB, if_pos hm, if_pos hm, if_pos hm, e1]
  have c1 : ¬ nI (mm i) = nI t := fun z => absurd ((nI_eq (by omega) (by omega)).1 z) (by omega)
  have c2 : ¬ nI t ≤ nI (mm i) := nI_ge ht (by omega)
  have c3 : nI (mm i) ≤ nI t := nI_le (by omega) (by omega)
  rw [if_neg c1, if_neg c2, if_pos c3]
  refine ⟨rfl, rfl, ?_⟩
  by_cases q : 0 ≤ scB M N W m (nI t) i
  · rw [if_pos q]
  · rw [if_neg q]
theorem sc_no {M N W : Nat → Int32} {m : Int32} {i : Nat} (hm : ¬ N i = m) (t : Int32) : scO M N W m t (i + 1) = scO M N W m t i ∧ scA M N W m t (i + 1) = scA M N W m t i ∧ scB M N W m t (i + 1) = scB M N W m t i := by
  rw [scO, scA, scB, if_neg hm, if_neg hm, if_neg hm]
  exact ⟨rfl, rfl, rfl⟩
theorem m6_0 : ¬ (0 : Int32) ≤ -6 := by decide
theorem kd_a (b : Int32) : kd (-6) (-6) b = 0 := by
  unfold kd
  rw [if_neg (by decide), if_neg m6_0, if_pos (by decide)]
theorem kd_b {a : Int32} (h : a = 0 ∨ a = 1 ∨ a = 2) : kd (-6) a (-6) = 0 := by
  rcases h with rfl | rfl | rfl <;> decide
theorem kd_g {a b : Int32} (ha : a = 0 ∨ a = 1 ∨ a = 2) (hb : b = 0 ∨ b = 1 ∨ b = 2) : kd (-6) a b = if a = 2 ∧ b = 2 then 1 else 2 := by
  rcases ha with rfl | rfl | rfl <;> rcases hb with rfl | rfl | rfl <;> decide
theorem w_0 {a : Int32} (h : a = 0 ∨ a = 1 ∨ a = 2) : 0 ≤ a := by
  rcases h with rfl | rfl | rfl <;> decide
theorem lgStep7 {G : tG} {F0 : tF} {M N W : Nat → Int32} {mm : Nat → Nat} {m : Int32} {e : Nat} (he : e ≤ 40) (hF : F0 24 = nI e) (hG : ∀ j, j < e → G 20 j = M j ∧ G 21 j = N j ∧ G 22 j = W j) (hE : ∀ j, j < e → M j = nI (mm j) ∧ mm j ≤ 1000 ∧ (W j = 0 ∨ W j = 1 ∨ W j = 2)) (hS : ∀ i j, i < j → j < e → N i = m → N j = m → mm i < mm j) (K : Int32 → Int32 → tF → tG → Option (tF × tG)) {i : Nat} {last : Int32} {F : tF} (hi : i < e) (h : LGC M N W mm m F0 i last F) : ∃ (last1 : Int32) (F1 : tF), (∀ k, p_X1_read_L9 m K (k + 1) (nI i) last F G = p_X1_read_L9 m K k (nI (i + 1)) last1 F1 G) ∧ LGC M N W mm m F0 (i + 1) last1 F1 := by
  obtain ⟨l1, l2, l3⟩ := h
  obtain ⟨g1, g2, g3⟩ := hG i hi
  obtain ⟨e1, e2, e3⟩ := hE i hi
  have f24 : F 24 = nI e := (l1 24 (by omega)).trans hF
  have n1 : ¬ nI e ≤ nI i := nI_ge hi (by omega)
  have ii : inB (nI i) 40 = true := inBT (by omega) (by omega)
  have ci : (nI i).toNatClampNeg = i := nI_clamp (by omega)
  by_cases hm : N i = m
  · have cN : cntEq N m (i + 1) = cntEq N m i + 1 := by rw [cntEq, if_pos hm]
    rcases l3 with ⟨q, z, f26, f27, f28, f29, f30, f31⟩ | ⟨p, hp, q, hpm, z, f⟩
    · have kz : ∀ j, 0 ≤ j → j < 0 + mm i → kap M N W m (i + 1) j = 0 := by
        intro j _ hj
        obtain ⟨s1, s2, s3⟩ := sc_lt (W := W) hm e1 e2 (show j < mm i by omega)
        obtain ⟨z1, z2, z3⟩ := z j
        unfold kap
        rw [s1, s2, z1, z2]; exact kd_a _
      obtain ⟨r1, r2, r3, r4, r5⟩ := run_z (mm i) kz
      rw [Nat.zero_add] at r1 r2 r3 r4 r5
      have r5 : srS (kap M N W m (i + 1)) (mm i) = 0 ∧ mrS (kap M N W m (i + 1)) (mm i) = 0 := by
        rcases r5 with r5 | r5
        · rw [r5]; exact ⟨rfl, rfl⟩
        · exact r5
      have lw : LGW F (kap M N W m (i + 1)) (mm i) := by
        refine ⟨?_, ?_, ?_, ?_, ?_⟩
        · rw [f26, r1]; rfl
        · rw [f27, r2]; rfl
        · rw [f28, r3]; rfl
        · rw [f29, r4]; rfl
        · rw [f31, r5.2]; rfl
      have ke : kap M N W m (i + 1) (mm i) = if W i = 2 then 1 else 0 := by
        unfold kap
        rw [sc_at hm e1 rfl]; exact kd_own (w_0 e3) _ _
      obtain ⟨F1, v1, v2, v3, v4⟩ := entry_v G lw (w := W i) (fun _ => by rw [f30, r5.1]; rfl) ke e2
      refine ⟨nI i, F1, ?_, ?_, ?_, Or.inr ⟨i, by omega, rfl, hm, ?_, v2⟩⟩
      · intro k
        rw [p_X1_read_L9, f24, if_neg n1, ii, ci, g2, g3]
        simp only [oguardT, if_pos hm, q, if_true, bi2S, g3, iteS, bi1S, v1, bi3S, pletE, nI_1]
      · intro j hj
        rw [v4 j hj]; exact l1 j hj
      · rw [v3, l2, cN]; exact nI_1 _
      · intro t ht
        refine ⟨fun h1 => ?_, fun h1 => sc_at hm e1 h1, fun h1 => ?_⟩
        · obtain ⟨s1, s2, s3⟩ := sc_gt (W := W) hm e1 ht h1
          exact ⟨s1.trans (z t).1, s2, s3.trans (z t).2.2⟩
        · obtain ⟨s1, s2, s3⟩ := sc_lt (W := W) hm e1 e2 h1
          rw [s3, (z t).2.2, if_neg m6_0]; exact w_0 e3
    · have hpe : p < e := by omega
      obtain ⟨u1, u2, u3⟩ := hE p hpe
      obtain ⟨y1, y2, y3⟩ := hG p hpe
      have hlt : mm p < mm i := hS p i hp hi hpm hm
      obtain ⟨len, hlen⟩ : ∃ len, mm i = mm p + 1 + len := ⟨mm i - (mm p + 1), by omega⟩
      have ip : inB (nI p) 40 = true := inBT (by omega) (by omega)
      have cp : (nI p).toNatClampNeg = p := nI_clamp (by omega)
      have kc : ∀ j, j < mm p + 1 → kap M N W m i j = kap M N W m (i + 1) j := by
        intro j hj
        obtain ⟨s1, s2, s3⟩ := sc_lt (W := W) hm e1 e2 (show j < mm i by omega)
        obtain ⟨z1, z2, z3⟩ := z j (by omega)
        unfold kap
        rw [s1, s2, s3]
        rcases Nat.lt_or_ge j (mm p) with w | w
        · rw [if_pos (z3 w)]
        · rw [z2 (by omega), kd_own (w_0 u3), kd_own (w_0 u3)]
      have kg : ∀ j, mm p + 1 ≤ j → j < mm p + 1 + len → kap M N W m (i + 1) j = if W p = 2 ∧ W i = 2 then 1 else 2 := by
        intro j j1 j2
        obtain ⟨s1, s2, s3⟩ := sc_lt (W := W) hm e1 e2 (show j < mm i by omega)
        obtain ⟨z1, z2, z3⟩ := (z j (by omega)).1 (by omega)
        unfold kap
        rw [s1, s2, s3, z1, z2, z3, if_neg m6_0]
        exact kd_g u3 e3
      have ke : kap M N W m (i + 1) (mm i) = if W i = 2 then 1 else 0 := by
        unfold kap
        rw [sc_at hm e1 rfl]; exact kd_own (w_0 e3) _ _
      have kp : kap M N W m (i + 1) (mm p) = if W p = 2 then 1 else 0 := by
        rw [← kc (mm p) (by omega)]
        unfold kap
        rw [(z (mm p) u2).2.1 rfl]; exact kd_own (w_0 u3) _ _
      have f' : LGF F (kap M N W m (i + 1)) (mm p + 1) := LF_cong kc f
      have hln : (M i - M p) - 1 = nI len := by
        rw [e1, u1, pk_sub (by omega)]
        have s := pk_sub (a := mm i - mm p) (b := 1) (by omega)
        rw [show mm i - mm p - 1 = len by omega] at s
        exact s
      have np : ¬ nI p = -6 := nI_m6 (by omega)
      have li : LGI M N W mm m (i + 1) i := by
        intro t ht
        refine ⟨fun h1 => ?_, fun h1 => sc_at hm e1 h1, fun h1 => ?_⟩
        · obtain ⟨s1, s2, s3⟩ := sc_gt (W := W) hm e1 ht h1
          obtain ⟨z1, z2, z3⟩ := (z t ht).1 (by omega)
          exact ⟨s1.trans z1, s2, s3.trans z3⟩
        · obtain ⟨s1, s2, s3⟩ := sc_lt (W := W) hm e1 e2 h1
          rw [s3]
          by_cases w : 0 ≤ scB M N W m (nI t) i
          · rw [if_pos w]; exact w
          · rw [if_neg w]; exact w_0 e3
      by_cases hb : W p = 2 ∧ W i = 2
      · have gs := gap_s f' (len := len) (fun j j1 j2 => by rw [kg j j1 j2, if_pos hb]) (by omega)
        rw [← hlen] at gs
        obtain ⟨F1, v1, v2, v3, v4⟩ := entry_v G gs.1 (w := W i) (fun _ => gs.2) ke e2
        have rg : p_X1_readGap F G (nI len) 1 = some (aSure F (nI len), G) := rfl
        refine ⟨nI i, F1, ?_, ?_, ?_, Or.inr ⟨i, by omega, rfl, hm, li, v2⟩⟩
        · intro k
          rw [p_X1_read_L9, f24, if_neg n1, ii, ci, g2, g3, q, ip, cp, y3, y1, g1, hln]
          rw [if_pos hb.2] at v1
          simp only [oguardT, if_pos hm, if_neg np, if_pos hb.1, if_pos hb.2, bi1S, rg, bi2S, g3, v1, bi3S, pletE, nI_1]
        · intro j hj
          rw [v4 j hj, aSure_o _ _ (by omega)]; exact l1 j hj
        · rw [v3, aSure_o _ _ (by omega), l2, cN]; exact nI_1 _
      · obtain ⟨gd1, gd2, gd3⟩ := gap_d f' (len := len) (fun j j1 j2 => by rw [kg j j1 j2, if_neg hb]) (by omega)
        rw [← hlen] at gd1 gd3
        have h30 : W i = 2 → aDark F (nI len) 30 = nI (srS (kap M N W m (i + 1)) (mm i)) := by
          intro wi
          rw [gd2]
          rcases gd3 with w | w
          · have wp : ¬ W p = 2 := fun wp => hb ⟨wp, wi⟩
            rw [if_neg wp] at kp
            have em : mm i = mm p + 1 := by omega
            rw [em, srS, kp]; rfl
          · rw [w]; rfl
        obtain ⟨F1, v1, v2, v3, v4⟩ := entry_v G gd1 (w := W i) h30 ke e2
        have rg : p_X1_readGap F G (nI len) 0 = some (aDark F (nI len), G) := rfl
        have y59 : (if W p = 2 then (if W i = 2 then some (1 : Int32) else some 0) else some 0) = some 0 := by
          by_cases wp : W p = 2
          · rw [if_pos wp, if_neg (fun wi => hb ⟨wp, wi⟩)]
          · rw [if_neg wp]
        refine ⟨nI i, F1, ?_, ?_, ?_, Or.inr ⟨i, by omega, rfl, hm, li, v2⟩⟩
        · intro k
          rw [p_X1_read_L9, f24, if_neg n1, ii, ci, g2, g3, q, ip, cp, y3, y1, g1, hln]
          simp only [oguardT, if_pos hm, if_neg np]
          rw [y59]
          simp only [bi1S, rg, bi2S, g3, iteS, v1, bi3S, pletE, nI_1]
        · intro j hj
          rw [v4 j hj, aDark_o _ _ (by omega)]; exact l1 j hj
        · rw [v3, aDark_o _ _ (by omega), l2, cN]; exact nI_1 _
  · refine ⟨last, F, ?_, l1, ?_, ?_⟩
    · intro k
      rw [p_X1_read_L9, f24, if_neg n1, ii, ci, g2, oguardT, if_neg hm, bi3S, pletE, nI_1]
    · rw [l2, cntEq, if_neg hm]; rfl
    · rcases l3 with ⟨q, z, f⟩ | ⟨p, hp, q, hpm, z, f⟩
      · refine Or.inl ⟨q, ?_, f⟩
        intro t
        obtain ⟨s1, s2, s3⟩ := sc_no (M := M) (W := W) hm (nI t)
        rw [s1, s2, s3]; exact z t
      · refine Or.inr ⟨p, by omega, q, hpm, ?_, LF_cong ?_ f⟩
        · intro t ht
          obtain ⟨s1, s2, s3⟩ := sc_no (M := M) (W := W) hm (nI t)
          rw [s1, s2, s3]; exact z t ht
        · intro j _
          obtain ⟨s1, s2, s3⟩ := sc_no (M := M) (W := W) hm (nI j)
          unfold kap
          rw [s1, s2, s3]
theorem read7_L {G : tG} {F0 : tF} {M N W : Nat → Int32} {mm : Nat → Nat} {m : Int32} {e : Nat} (he : e ≤ 40) (hF : F0 24 = nI e) (hG : ∀ j, j < e → G 20 j = M j ∧ G 21 j = N j ∧ G 22 j = W j) (hE : ∀ j, j < e → M j = nI (mm j) ∧ mm j ≤ 1000 ∧ (W j = 0 ∨ W j = 1 ∨ W j = 2)) (hS : ∀ i j, i < j → j < e → N i = m → N j = m → mm i < mm j) (K : Int32 → Int32 → tF → tG → Option (tF × tG)) : ∀ c i k last F, i + c = e → c < k → LGC M N W mm m F0 i last F → ∃ last' F', p_X1_read_L9 m K k (nI i) last F G = K (nI e) last' F' G ∧ LGC M N W mm m F0 e last' F' := by
  intro c
  induction c with
  | zero =>
    intro i k last F hi hk h
    obtain ⟨k, rfl⟩ : ∃ q, k = q + 1 := ⟨k - 1, by omega⟩
    have e : i = e := by omega
    subst e
    refine ⟨last, F, ?_, h⟩
    rw [p_X1_read_L9, (h.1 24 (by omega)).trans hF, if_pos (nI_le (Nat.le_refl _) (by omega))]
  | succ c ih =>
    intro i k last F hi hk h
    obtain ⟨k, rfl⟩ : ∃ q, k = q + 1 := ⟨k - 1, by omega⟩
    obtain ⟨last1, F1, h1, h2⟩ := lgStep7 he hF hG hE hS K (show i < e by omega) h
    obtain ⟨last', F', k1, k2⟩ := ih (i + 1) k last1 F1 (by omega) (by omega) h2
    exact ⟨last', F', (h1 k).trans k1, k2⟩
