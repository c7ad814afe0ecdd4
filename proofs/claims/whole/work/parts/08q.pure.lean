def GE (G0 : tG) (c : Nat) (G : tG) (E : Nat → Nat) : Prop := (∀ j, j ≠ 16 → G j = G0 j) ∧ ∀ T, T < 2 ^ c → G 16 T = nI (rfM (E T))
theorem may8 {F : tF} {G : tG} {ra ta s i : Nat} {U : Nat → Nat} (h16 : F 16 = nI ra) (h17 : F 17 = nI ta) (hra : ra < 4096) (hta : ta < 4096) (hs : s < 4096) (hi : i < 12) (hU : U i < 4096) (hG : G 7 i = nI (U i)) : (mayE ra ta U s i → (if ((((nI s ||| (F 16)) ||| (F 17)) >>> (nI i &&& 31)) &&& 1) = 0 then oguard (inB (nI i) 12) ((if (((G 7 (nI i).toNatClampNeg) &&& ((F 16) ^^^ (-1))) &&& (nI s ^^^ (-1))) = 0 then some (1 : Int32) else some (0))) else some (0)) = some 1) ∧ (¬ mayE ra ta U s i → (if ((((nI s ||| (F 16)) ||| (F 17)) >>> (nI i &&& 31)) &&& 1) = 0 then oguard (inB (nI i) 12) ((if (((G 7 (nI i).toNatClampNeg) &&& ((F 16) ^^^ (-1))) &&& (nI s ^^^ (-1))) = 0 then some (1 : Int32) else some (0))) else some (0)) = some 0) := by
  rw [h16, h17, fa_or, fa_or, inBT hi (by omega), oguardT, nI_clamp (by omega), hG]
  have l : s ||| ra ||| ta < 2 ^ 12 := Nat.or_lt_two_pow (Nat.or_lt_two_pow hs hra) hta
  have bz := bitZ (a := s ||| ra ||| ta) (t := i) (by omega) hi
  have wz := who0I (u := U i) (ra := ra) (s := s) hU
  have eb : (s ||| ra ||| ta).testBit i = false ↔ s.testBit i = false ∧ ra.testBit i = false ∧ ta.testBit i = false := by
    rw [Nat.testBit_or, Nat.testBit_or, Bool.or_eq_false_iff, Bool.or_eq_false_iff, and_assoc]
  by_cases h1 : (nI (s ||| ra ||| ta) >>> (nI i &&& 31)) &&& 1 = 0
  · rw [if_pos h1]
    obtain ⟨b1, b2, b3⟩ := eb.1 (bz.1 h1)
    by_cases h2 : (nI (U i) &&& (nI ra ^^^ (-1))) &&& (nI s ^^^ (-1)) = 0
    · rw [if_pos h2]
      exact ⟨fun _ => rfl, fun z => absurd ⟨b1, b2, b3, wz.1 h2⟩ z⟩
    · rw [if_neg h2]
      exact ⟨fun z => absurd (wz.2 z.2.2.2) h2, fun _ => rfl⟩
  · rw [if_neg h1]
    exact ⟨fun z => absurd (bz.2 (eb.2 ⟨z.1, z.2.1, z.2.2.1⟩)) h1, fun _ => rfl⟩
theorem lay50_L {n : Nat} (hn : 5000 ≤ n) {F : tF} {G0 : tG} {c ra ta k : Nat} {wo od r U L : Nat → Nat} (hD : DTok c ra ta k wo od r U L) (hC : DRf F G0 c ra ta k wo od r U L) {D x s : Nat} (hx : vW k L x ∨ x = 100000) (hs : s < 2 ^ c) (K : Int32 → tG → Option (tF × tG)) : ∀ d i kk G E, i + d = c → d < kk → GE G0 c G E → ENi c ra ta k U r L D x s i E → ∃ z G' E', p_X8_layEnds_L50 n F (nI s) K kk (nI i) G = K z G' ∧ GE G0 c G' E' ∧ ENi c ra ta k U r L D x s c E' := by
  obtain ⟨d1, d2, d3, d4, d5, d6⟩ := id hD
  obtain ⟨c1, c2, c3, c4, c5, c6⟩ := id hC
  have p12 := pow12 d1
  intro d
  induction d with
  | zero =>
    intro i kk G E hi hd hG hE
    obtain ⟨kk, rfl⟩ : ∃ q, kk = q + 1 := ⟨kk - 1, by omega⟩
    have e : i = c := by omega
    subst e
    refine ⟨nI i, G, E, ?_, hG, hE⟩
    rw [p_X8_layEnds_L50, c1, if_pos (nI_le (Nat.le_refl _) (by omega))]
  | succ d ih =>
    intro i kk G E hi hd hG hE
    obtain ⟨kk, rfl⟩ : ∃ q, kk = q + 1 := ⟨kk - 1, by omega⟩
    have hic : i < c := by omega
    obtain ⟨g1, g2⟩ := id hG
    obtain ⟨e1, e2, e3, e4⟩ := c5 i hic
    obtain ⟨u1, u2, u3, u4⟩ := d5 i hic
    have is : inB (nI s) 4096 = true := inBT (by omega) (by omega)
    have cs : (nI s).toNatClampNeg = s := nI_clamp (by omega)
    have g7 := g1 7 (by omega)
    have g8 := g1 8 (by omega)
    have g6 := g1 6 (by omega)
    rw [p_X8_layEnds_L50, c1, if_neg (nI_ge hic (by omega)), is, oguardT, cs, g2 s hs]
    have esv : E s < 100000 → vW k L (E s) := by
      intro q
      by_cases e : s = D
      · rw [e, hE.1] at q ⊢
        rcases hx with w | w
        · exact w
        · omega
      · rcases hE.2.1 s hs e with w | w
        · omega
        · exact Or.inl w
    by_cases hlt : E s < 100000
    · have hv := esv hlt
      have hrl : rfM (E s) < 100000 := by
        rcases hv with w | ⟨w1, w2⟩
        · obtain ⟨q1, q2, q3⟩ := rf_lt d4 d6 w
          omega
        · rw [w2]; decide
      rw [if_neg (show ¬ (100000 : Int32) ≤ nI (rfM (E s)) from nI_ge (b := 100000) hrl (by omega))]
      obtain ⟨m1, m2⟩ := may8 (F := F) (G := G) (ra := ra) (ta := ta) (s := s) (i := i) (U := U) c2 c3 (by omega) (by omega) (by omega) (by omega) (by omega) (by rw [g7]; exact e4)
      by_cases hm : mayE ra ta U s i
      · have pt : 2 ^ i < 2 ^ c := Nat.pow_lt_pow_right (by omega) hic
        have hQ : s ||| 2 ^ i < 2 ^ c := Nat.or_lt_two_pow hs pt
        have ew := endw_v (n := n) hn (F := F) (G := G) (t := i) (x := E s) (r := r) d4 (by omega) u3 c4 (fun j hj => by rw [g8]; exact c6 j hj) d6 (by rw [g6]; exact e3) hv
        have eq : nI s ||| (1 : Int32) <<< (nI i &&& 31) = nI (s ||| 2 ^ i) := bitIn (by omega)
        have iQ : inB (nI (s ||| 2 ^ i)) 4096 = true := inBT (by omega) (by omega)
        have cQ : (nI (s ||| 2 ^ i)).toNatClampNeg = s ||| 2 ^ i := nI_clamp (by omega)
        have qb := insB_bit s i i
        rw [decide_eq_true rfl, Bool.or_true] at qb
        have hDs := hE.2.2.1 s hs hlt
        have hDQ : s ||| 2 ^ i ≠ D := fun e => by
          rw [e] at qb
          exact absurd ((hDs i qb).symm.trans hm.1) (by decide)
        have vQ := hE.2.1 _ hQ hDQ
        have vy := seM_w d4 d6 (r := r i) hv
        have rl := rf_le d4 d6 vQ vy
        have b1 := rf_b d4 d6 vQ
        have b2 := rf_b d4 d6 vy
        have hmin : (if nI (rfM (E (s ||| 2 ^ i))) ≤ nI (rfM (seM k L (E s) (r i))) then some (nI (rfM (E (s ||| 2 ^ i)))) else some (nI (rfM (seM k L (E s) (r i))))) = some (nI (rfM (mnN (E (s ||| 2 ^ i)) (seM k L (E s) (r i))))) := by
          by_cases w : E (s ||| 2 ^ i) ≤ seM k L (E s) (r i)
          · rw [if_pos (nI_le (rl.2 w) (by omega)), mn_l w]
          · rw [if_neg (nI_ge (by have := mt rl.1 w; omega) (by omega)), mn_r w]
        rw [m1 hm, bi1S, if_neg one_nz, oguardT, ew, bi1S, pletE, eq, iQ, oguardT, cQ, g2 _ hQ, oguardT, hmin, bi1S, oguardT, pletE, bi1S, pletE, nI_1]
        refine ih (i + 1) kk _ _ (by omega) (by omega) ⟨?_, ?_⟩ (relax d4 d6 hic hs hlt hv hm hE)
        · intro j hj
          refine Eq.trans ?_ (g1 j hj)
          show (if j = 16 then _ else G j) = G j
          rw [if_neg hj]
        · intro T hT
          show upd (G 16) (nI (s ||| 2 ^ i)).toNatClampNeg _ T = nI (rfM (if T = s ||| 2 ^ i then _ else E T))
          rw [cQ]
          by_cases e : T = s ||| 2 ^ i
          · rw [if_pos e, e, pk_us]
          · rw [if_neg e, pk_un e]; exact g2 T hT
      · rw [m2 hm, bi1S, if_pos rfl, bi1S, pletE, nI_1]
        refine ih (i + 1) kk G E (by omega) (by omega) hG ?_
        obtain ⟨h1, h2, h3, h4, h5⟩ := hE
        refine ⟨h1, h2, h3, ?_, h5⟩
        intro S hS q t ht hor hmt
        by_cases e : S = s ∧ t = i
        · rw [e.1, e.2] at hmt; exact absurd hmt hm
        · exact h4 S hS q t ht (by omega) hmt
    · have ef : E s = 100000 := by
        by_cases e : s = D
        · rw [e, hE.1]
          rcases hx with w | w
          · rw [e, hE.1] at hlt
            rcases w with w | w
            · have := vM_lt d4 w
              omega
            · omega
          · exact w
        · rcases hE.2.1 s hs e with w | w
          · exact w
          · have := vM_lt d4 w
            omega
      rw [ef, if_pos (show (100000 : Int32) ≤ nI (rfM 100000) by decide)]
      refine ⟨nI i, G, E, rfl, hG, ?_⟩
      obtain ⟨h1, h2, h3, h4, h5⟩ := hE
      refine ⟨h1, h2, h3, ?_, h5⟩
      intro S hS q t ht hor hmt
      by_cases e : S = s
      · rw [e] at q; omega
      · exact h4 S hS q t ht (by omega) hmt
theorem lay37_L {n : Nat} (hn : 5000 ≤ n) {F : tF} {G0 : tG} {c ra ta k : Nat} {wo od r U L : Nat → Nat} (hD : DTok c ra ta k wo od r U L) (hC : DRf F G0 c ra ta k wo od r U L) {D x : Nat} (hx : vW k L x ∨ x = 100000) (K : Int32 → tG → Option (tF × tG)) : ∀ d s kk G E, s + d = 2 ^ c → d < kk → GE G0 c G E → ENi c ra ta k U r L D x s 0 E → ∃ G' E', p_X8_layEnds_L37 n F K kk (nI s) G = K (nI (2 ^ c)) G' ∧ GE G0 c G' E' ∧ ENi c ra ta k U r L D x (2 ^ c) 0 E' := by
  have p12 := pow12 hD.1
  intro d
  induction d with
  | zero =>
    intro s kk G E hs hd hG hE
    obtain ⟨kk, rfl⟩ : ∃ q, kk = q + 1 := ⟨kk - 1, by omega⟩
    have e : s = 2 ^ c := by omega
    rw [e] at hE ⊢
    refine ⟨G, E, ?_, hG, hE⟩
    rw [p_X8_layEnds_L37, hC.1, bit1c hD.1, if_pos (nI_le (Nat.le_refl _) (by omega))]
  | succ d ih =>
    intro s kk G E hs hd hG hE
    obtain ⟨kk, rfl⟩ : ∃ q, kk = q + 1 := ⟨kk - 1, by omega⟩
    rw [p_X8_layEnds_L37, hC.1, bit1c hD.1, if_neg (nI_ge (by omega) (by omega))]
    obtain ⟨z, G', E', q1, q2, q3⟩ := lay50_L hn hD hC (D := D) hx (s := s) (by omega) (fun (z50_0 : Int32) (G50l : tG) => plet (nI s + 1) (fun (x181 : Int32) => p_X8_layEnds_L37 n F K kk x181 G50l)) c 0 n G E (by omega) (by have := hD.1; omega) hG hE
    have e4 : ENi c ra ta k U r L D x (s + 1) 0 E' := by
      obtain ⟨h1, h2, h3, h4, h5⟩ := q3
      refine ⟨h1, h2, h3, ?_, ?_⟩
      · intro S hS q t ht hor hmt
        exact h4 S hS q t ht (by omega) hmt
      · intro S hS hSD q
        obtain ⟨P, t, p1, p2, p3⟩ := h5 S hS hSD q
        exact ⟨P, t, p1, by omega, p3⟩
    obtain ⟨G'', E'', r1, r2, r3⟩ := ih (s + 1) kk G' E' (by omega) (by omega) q2 e4
    refine ⟨G'', E'', ?_, r2, r3⟩
    refine q1.trans ?_
    rw [pletE, nI_1]; exact r1
theorem lay2_L {F : tF} {G0 : tG} {c D x : Nat} (hc : c ≤ 12) (h15 : F 15 = nI c) (hDc : D < 2 ^ c) (K : Int32 → tG → Option (tF × tG)) : ∀ d s kk G, s + d = 2 ^ c → d < kk → (∀ j, j ≠ 16 → G j = G0 j) → (∀ T, T < s → G 16 T = nI (rfM (if T = D then x else 100000))) → ∃ G', p_X8_layEnds_L2 F (nI D) (nI (rfM x)) K kk (nI s) G = K (nI (2 ^ c)) G' ∧ (∀ j, j ≠ 16 → G' j = G0 j) ∧ (∀ T, T < 2 ^ c → G' 16 T = nI (rfM (if T = D then x else 100000))) := by
  have p12 := pow12 hc
  intro d
  induction d with
  | zero =>
    intro s kk G hs hd g1 g2
    obtain ⟨kk, rfl⟩ : ∃ q, kk = q + 1 := ⟨kk - 1, by omega⟩
    have e : s = 2 ^ c := by omega
    rw [e] at g2 ⊢
    refine ⟨G, ?_, g1, g2⟩
    rw [p_X8_layEnds_L2, h15, bit1c hc, if_pos (nI_le (Nat.le_refl _) (by omega))]
  | succ d ih =>
    intro s kk G hs hd g1 g2
    obtain ⟨kk, rfl⟩ : ∃ q, kk = q + 1 := ⟨kk - 1, by omega⟩
    have cs : (nI s).toNatClampNeg = s := nI_clamp (by omega)
    have ey : (if nI s = nI D then some (nI (rfM x)) else some (100000 : Int32)) = some (nI (rfM (if s = D then x else 100000))) := by
      by_cases e : s = D
      · rw [if_pos (by rw [e]), if_pos e]
      · rw [if_neg (fun z => e ((nI_eq (by omega) (by omega)).1 z)), if_neg e]; rfl
    rw [p_X8_layEnds_L2, h15, bit1c hc, if_neg (nI_ge (by omega) (by omega)), ey, bi1S, inBT (by omega) (by omega), oguardT, pletE, pletE, nI_1]
    refine ih (s + 1) kk _ (by omega) (by omega) ?_ ?_
    · intro j hj
      refine Eq.trans ?_ (g1 j hj)
      show (if j = 16 then _ else G j) = G j
      rw [if_neg hj]
    · intro T hT
      show upd (G 16) (nI s).toNatClampNeg _ T = _
      rw [cs]
      by_cases e : T = s
      · rw [e, pk_us]
      · rw [pk_un e]; exact g2 T (by omega)
theorem lay_v {n : Nat} (hn : 5000 ≤ n) {F : tF} {G : tG} {c ra ta k : Nat} {wo od r U L : Nat → Nat} (hD : DTok c ra ta k wo od r U L) (hC : DRf F G c ra ta k wo od r U L) {D x : Nat} (hDc : D < 2 ^ c) (hx : vW k L x ∨ x = 100000) : ∃ G' E, p_X8_layEnds n F G (nI D) (nI (rfM x)) = some (F, G') ∧ GE G c G' E ∧ ENok c ra ta k U r L D x E := by
  have p12 := pow12 hD.1
  have pp : 0 < 2 ^ c := Nat.two_pow_pos c
  unfold p_X8_layEnds
  obtain ⟨G1, q1, q2, q3⟩ := lay2_L (F := F) (G0 := G) (D := D) (x := x) hD.1 hC.1 hDc (fun (z2_0 : Int32) (G2l : tG) => p_X8_layEnds_L37 n F (fun (z37_0 : Int32) (G37l : tG) => some (F, G37l)) n 0 G2l) (2 ^ c) 0 n G (by omega) (by omega) (fun _ _ => rfl) (fun T hT => absurd hT (by omega))
  obtain ⟨G2, E, r1, r2, r3⟩ := lay37_L hn hD hC (D := D) hx (fun (z37_0 : Int32) (G37l : tG) => some (F, G37l)) (2 ^ c) 0 n G1 (fun T => if T = D then x else 100000) (by omega) (by omega) ⟨q2, q3⟩ (by
    refine ⟨if_pos rfl, fun S _ hSD => Or.inl (if_neg hSD), ?_, ?_, ?_⟩
    · intro S hS q
      have q : (if S = D then x else 100000) < 100000 := q
      by_cases e : S = D
      · rw [e]; exact sub_rf D
      · rw [if_neg e] at q; omega
    · intro S hS q t ht hor
      omega
    · intro S hS hSD q
      have q : (if S = D then x else 100000) < 100000 := q
      rw [if_neg hSD] at q; omega)
  refine ⟨G2, E, q1.trans r1, r2, ?_⟩
  obtain ⟨h1, h2, h3, h4, h5⟩ := r3
  refine ⟨h1, h2, h3, ?_, ?_⟩
  · intro S hS q t ht hmt
    exact h4 S hS q t ht (Or.inl hS) hmt
  · intro S hS hSD q
    obtain ⟨P, t, p1, p2, p3⟩ := h5 S hS hSD q
    exact ⟨P, t, p1, p3⟩
