/-! best: the class's table of latest begins -/
def LAi (k : Nat) (U r L lp : Nat → Nat) (S i a : Nat) : Prop := (a = 0 ∨ vM k L (a - 1)) ∧ ∀ x, vM k L x → (x < a ↔ ∃ t, t < i ∧ firE U S t ∧ seM k L x (r t) < lp (delB S t))
theorem vP_lt {k : Nat} {L : Nat → Nat} (hk : k ≤ 5) {a : Nat} (h : a = 0 ∨ vM k L (a - 1)) : a ≤ 2560 := by
  rcases h with h | h
  · omega
  · have := vM_lt hk h
    omega
theorem latest5_L {n : Nat} (hn : 5000 ≤ n) {F : tF} {G : tG} {c ra ta k : Nat} {wo od r U L lp : Nat → Nat} (hD : DTok c ra ta k wo od r U L) (hC : DCl F G c ra ta k wo od r U L) {S : Nat} (hS : S < 2 ^ c) (hG : ∀ T, T < S → G 15 T = encP (lp T)) (hv : ∀ T, T < S → lp T = 0 ∨ vM k L (lp T - 1)) (K : Int32 → Int32 → Option Int32) : ∀ d i kk a, i + d = c → d < kk → LAi k U r L lp S i a → ∃ a', p_X4_latestOf_L5 n F G (nI S) K kk (nI i) (encP a) = K (nI c) (encP a') ∧ LAi k U r L lp S c a' := by
  obtain ⟨d1, d2, d3, d4, d5, d6⟩ := hD
  obtain ⟨c1, c2, c3, c4, c5, c6⟩ := hC
  have p12 := pow12 d1
  intro d
  induction d with
  | zero =>
    intro i kk a hi hd ha
    obtain ⟨kk, rfl⟩ : ∃ q, kk = q + 1 := ⟨kk - 1, by omega⟩
    have e : i = c := by omega
    subst e
    refine ⟨a, ?_, ha⟩
    rw [p_X4_latestOf_L5, c1, if_pos (nI_le (Nat.le_refl _) (by omega))]
  | succ d ih =>
    intro i kk a hi hd ha
    obtain ⟨kk, rfl⟩ : ∃ q, kk = q + 1 := ⟨kk - 1, by omega⟩
    have hic : i < c := by omega
    obtain ⟨e1, e2, e3, e4⟩ := c5 i hic
    obtain ⟨u1, u2, u3, u4⟩ := d5 i hic
    obtain ⟨f1, f2⟩ := first7 (G := G) (U := U) (S := S) (t := i) (by omega) (by omega) (by omega) e4
    have skip : (¬ firE U S i ∨ lp (delB S i) = 0) → LAi k U r L lp S (i + 1) a := by
      intro q
      refine ⟨ha.1, fun x hx => (ha.2 x hx).trans ⟨?_, ?_⟩⟩
      · intro ⟨t, t1, t2, t3⟩
        exact ⟨t, by omega, t2, t3⟩
      · intro ⟨t, t1, t2, t3⟩
        by_cases e : t = i
        · rw [e] at t2 t3
          rcases q with q | q
          · exact absurd t2 q
          · rw [q] at t3; omega
        · exact ⟨t, by omega, t2, t3⟩
    rw [p_X4_latestOf_L5, c1, if_neg (nI_ge hic (by omega))]
    by_cases hf : firE U S i
    · have hdl := delB_lt (S := S) (t := i) (by omega) hf.1
      have ed : nI S &&& (((1 : Int32) <<< (nI i &&& 31)) ^^^ (-1)) = nI (delB S i) := bitOut (by omega)
      rw [f1 hf, bi1S, if_neg one_nz, ed, inBT (by omega) (by omega), oguardT, nI_clamp (by omega), pletE, hG _ hdl]
      have hvl := vP_lt d4 (hv _ hdl)
      by_cases hz : lp (delB S i) = 0
      · rw [if_pos ((encP_m1 (by omega)).2 hz), bi1S, pletE, nI_1]
        exact ih (i + 1) kk a (by omega) (by omega) (skip (Or.inr hz))
      · have hvm : vM k L (lp (delB S i) - 1) := by
          rcases hv _ hdl with q | q
          · exact absurd q hz
          · exact q
        have hal := vP_lt d4 ha.1
        have hbv := lbM_v d6 (r := r i) hvm
        have hbl := vP_lt d4 hbv
        rw [if_neg (fun y => hz ((encP_m1 (by omega)).1 y)), left7 (r := r) (by omega) e3, bi1S, encP_pos (by omega), late_v hn d4 u3 c6 d6 hvm, bi1S, pletE, encP_mx (by omega) (by omega), bi1S, pletE, nI_1]
        refine ih (i + 1) kk _ (by omega) (by omega) ⟨?_, ?_⟩
        · rcases Nat.lt_or_ge a (lbM L (lp (delB S i) - 1) (r i)) with w | w
          · rw [mx_r (Nat.le_of_lt w)]; exact hbv
          · rw [mx_l w]; exact ha.1
        · intro x hx
          have gl := galois d4 d6 (r := r i) hx hvm
          rw [show lp (delB S i) - 1 + 1 = lp (delB S i) by omega] at gl
          rw [mx_lt, ha.2 x hx, ← gl]
          refine ⟨?_, ?_⟩
          · intro q
            rcases q with ⟨t, t1, t2, t3⟩ | q
            · exact ⟨t, by omega, t2, t3⟩
            · exact ⟨i, by omega, hf, q⟩
          · intro ⟨t, t1, t2, t3⟩
            by_cases e : t = i
            · rw [e] at t3; exact Or.inr t3
            · exact Or.inl ⟨t, by omega, t2, t3⟩
    · rw [f2 hf, bi1S, if_pos rfl, bi1S, pletE, nI_1]
      exact ih (i + 1) kk a (by omega) (by omega) (skip (Or.inl hf))
theorem shut0I {ra ta s : Nat} (hs : s < 4096) : nI s &&& nI (ra ||| ta) = 0 ↔ shutE ra ta s := by
  rw [and0I hs]
  refine ⟨fun h i q => ?_, fun h i q => ?_⟩
  · have w := h i q
    rw [Nat.testBit_or, Bool.or_eq_false_iff] at w
    exact w
  · rw [Nat.testBit_or, Bool.or_eq_false_iff]
    exact h i q
def FLi (G0 : tG) (c ra ta k : Nat) (U r L : Nat → Nat) (s : Nat) (G : tG) (lp : Nat → Nat) : Prop := (∀ j, j ≠ 15 → G j = G0 j) ∧ (∀ T, T < s → G 15 T = encP (lp T)) ∧ LPok c ra ta k U r L lp s
theorem find25_L {n : Nat} (hn : 5000 ≤ n) {F : tF} {G0 : tG} {c ra ta k : Nat} {wo od r U L : Nat → Nat} (hD : DTok c ra ta k wo od r U L) (hC : DCl F G0 c ra ta k wo od r U L) (K : Int32 → tG → Option (tF × tG)) : ∀ d s kk G lp, s + d = 2 ^ c → d < kk → 1 ≤ s → FLi G0 c ra ta k U r L s G lp → ∃ G' lp', p_X4_findLatest_L25 n F (nI (ra ||| ta)) K kk (nI s) G = K (nI (2 ^ c)) G' ∧ FLi G0 c ra ta k U r L (2 ^ c) G' lp' := by
  have p12 := pow12 hD.1
  have c1 := hC.1
  have d4 := hD.2.2.2.1
  have d6 := hD.2.2.2.2.2
  intro d
  induction d with
  | zero =>
    intro s kk G lp hs hd h1 hI
    obtain ⟨kk, rfl⟩ : ∃ q, kk = q + 1 := ⟨kk - 1, by omega⟩
    have e : s = 2 ^ c := by omega
    rw [e] at hI ⊢
    refine ⟨G, lp, ?_, hI⟩
    rw [p_X4_findLatest_L25, c1, bit1c hD.1, if_pos (nI_le (Nat.le_refl _) (by omega))]
  | succ d ih =>
    intro s kk G lp hs hd h1 hI
    obtain ⟨kk, rfl⟩ : ∃ q, kk = q + 1 := ⟨kk - 1, by omega⟩
    obtain ⟨i1, i2, i3⟩ := hI
    have hsc : s < 2 ^ c := by omega
    have hvT : ∀ T, T < s → lp T = 0 ∨ vM k L (lp T - 1) := by
      intro T hT
      rcases Nat.eq_zero_or_pos T with e | e
      · rw [e, i3.1]; exact lastP_v d6
      · exact (i3.2 T e hT).1
    have cs : (nI s).toNatClampNeg = s := nI_clamp (by omega)
    have step : ∀ v, (v = 0 ∨ vM k L (v - 1)) → (∀ x, vM k L x → (x < v ↔ shutE ra ta s ∧ ∃ t, t < c ∧ firE U s t ∧ seM k L x (r t) < lp (delB s t))) → FLi G0 c ra ta k U r L (s + 1) (stG G 15 (nI s) (encP v)) (fun T => if T = s then v else lp T) := by
      intro v v1 v2
      refine ⟨?_, ?_, ?_, ?_⟩
      · intro j hj
        refine Eq.trans ?_ (i1 j hj)
        show (if j = 15 then _ else G j) = G j
        rw [if_neg hj]
      · intro T hT
        show upd (G 15) (nI s).toNatClampNeg (encP v) T = encP (if T = s then v else lp T)
        rw [cs]
        by_cases e : T = s
        · rw [if_pos e, e, pk_us]
        · rw [if_neg e, pk_un e]; exact i2 T (by omega)
      · show (if 0 = s then v else lp 0) = lastP k L
        rw [if_neg (by omega)]; exact i3.1
      · intro T T0 hT
        show ((if T = s then v else lp T) = 0 ∨ vM k L ((if T = s then v else lp T) - 1)) ∧ ∀ x, vM k L x → (x < (if T = s then v else lp T) ↔ shutE ra ta T ∧ ∃ t, t < c ∧ firE U T t ∧ seM k L x (r t) < (if delB T t = s then v else lp (delB T t)))
        by_cases e : T = s
        · rw [if_pos e, e]
          refine ⟨v1, fun x hx => (v2 x hx).trans ⟨?_, ?_⟩⟩
          · intro ⟨q, t, t1, t2, t3⟩
            have l := delB_lt (S := s) (t := t) (by omega) t2.1
            exact ⟨q, t, t1, t2, by rw [if_neg (by omega)]; exact t3⟩
          · intro ⟨q, t, t1, t2, t3⟩
            have l := delB_lt (S := s) (t := t) (by omega) t2.1
            rw [if_neg (by omega)] at t3
            exact ⟨q, t, t1, t2, t3⟩
        · rw [if_neg e]
          obtain ⟨w1, w2⟩ := i3.2 T T0 (by omega)
          refine ⟨w1, fun x hx => (w2 x hx).trans ⟨?_, ?_⟩⟩
          · intro ⟨q, t, t1, t2, t3⟩
            have l := delB_le T t
            exact ⟨q, t, t1, t2, by rw [if_neg (by omega)]; exact t3⟩
          · intro ⟨q, t, t1, t2, t3⟩
            have l := delB_le T t
            rw [if_neg (by omega)] at t3
            exact ⟨q, t, t1, t2, t3⟩
    rw [p_X4_findLatest_L25, c1, bit1c hD.1, if_neg (nI_ge hsc (by omega)), inBT (by omega) (by omega)]
    by_cases hz : shutE ra ta s
    · have hC' : DCl F G c ra ta k wo od r U L := DCl_cg hC (fun _ _ _ _ => rfl) (fun j _ _ => i1 j (by omega))
      obtain ⟨v, v1, v2⟩ := latest5_L hn hD hC' hsc i2 hvT (fun _ z => some z) c 0 n 0 (by omega) (by have := hD.1; omega) ⟨Or.inl rfl, fun x _ => ⟨fun q => absurd q (by omega), fun ⟨t, t1, _⟩ => absurd t1 (by omega)⟩⟩
      have v3 : p_X4_latestOf n F G (nI s) = some (encP v) := v1
      rw [if_pos ((shut0I (by omega)).2 hz), v3, bi1S, bi1S, oguardT, pletE, pletE, nI_1]
      refine ih (s + 1) kk _ _ (by omega) (by omega) (by omega) (step v v2.1 ?_)
      intro x hx
      exact (v2.2 x hx).trans ⟨fun q => ⟨hz, q⟩, fun q => q.2⟩
    · rw [if_neg (fun y => hz ((shut0I (by omega)).1 y)), bi1S, oguardT, pletE, pletE, nI_1]
      refine ih (s + 1) kk _ _ (by omega) (by omega) (by omega) (step 0 (Or.inl rfl) ?_)
      intro x hx
      exact ⟨fun q => absurd q (by omega), fun q => absurd q.1 hz⟩
theorem last_m {F : tF} {G : tG} {k : Nat} {L : Nat → Nat} (hk : k ≤ 5) (hF : F 19 = nI k) (hG : ∀ j, j < k → G 12 j = nI (L j)) : p_X5_lastMoment F G = some (encP (lastP k L)) := by
  unfold p_X5_lastMoment lastP
  rw [hF]
  by_cases h : k = 0
  · rw [if_pos ((nI0 (by omega)).2 h), bi1S, if_pos h, encP_0]
  · have e : nI k - 1 = nI (k - 1) := pk_sub (b := 1) (by omega)
    rw [if_neg (fun y => h ((nI0 (by omega)).1 y)), e, inBT (by omega) (by omega), oguardT, nI_clamp (by omega), hG (k - 1) (by omega)]
    unfold p_X5_moment
    rw [bi1S, mom, bi1S, if_neg h, encP_s]
theorem find_v {n : Nat} (hn : 5000 ≤ n) {F : tF} {G : tG} {c ra ta k : Nat} {wo od r U L : Nat → Nat} (hD : DTok c ra ta k wo od r U L) (hC : DCl F G c ra ta k wo od r U L) : ∃ G' lp, p_X4_findLatest n F G = some (F, G') ∧ FLi G c ra ta k U r L (2 ^ c) G' lp := by
  have p12 := pow12 hD.1
  have pp : 0 < 2 ^ c := Nat.two_pow_pos c
  have e0 : (0 : Int32).toNatClampNeg = 0 := nI_clamp (n := 0) (by omega)
  have i0 : inB 0 4096 = true := inBT (k := 0) (by omega) (by omega)
  unfold p_X4_findLatest
  rw [pletE, last_m hD.2.2.2.1 hC.2.2.2.1 hC.2.2.2.2.2, bi1S, i0, oguardT, pletE, hC.2.1, hC.2.2.1, fa_or]
  refine find25_L hn hD hC (fun _ G25l => some (F, G25l)) (2 ^ c - 1) 1 n _ (fun _ => lastP k L) (by omega) (by omega) (by omega) ⟨?_, ?_, rfl, ?_⟩
  · intro j hj
    show (if j = 15 then _ else G j) = G j
    rw [if_neg hj]
  · intro T hT
    show upd (G 15) (0 : Int32).toNatClampNeg (encP (lastP k L)) T = encP (lastP k L)
    rw [e0, show T = 0 by omega, pk_us]
  · intro S s0 s1
    omega
