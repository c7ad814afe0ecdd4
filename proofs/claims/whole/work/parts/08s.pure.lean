/-! best: the order, step by step -/
def nxQ (k : Nat) (U r L lp : Nat → Nat) (R x t : Nat) : Prop := firE U R t ∧ seM k L x (r t) < lp (delB R t)
theorem next7_L {n : Nat} (hn : 5000 ≤ n) {F : tF} {G : tG} {c ra ta k : Nat} {wo od r U L lp : Nat → Nat} (hD : DTok c ra ta k wo od r U L) (hC : DCl F G c ra ta k wo od r U L) (hl : LPok c ra ta k U r L lp (2 ^ c)) (h15 : ∀ T, T < 2 ^ c → G 15 T = encP (lp T)) {R x t : Nat} (hR : R < 2 ^ c) (hx : vM k L x) (ht : t < c) (hq : nxQ k U r L lp R x t) (K : Int32 → Option Int32) : ∀ d i kk, i + d = t → d < kk → (∀ j, j < t → ¬ nxQ k U r L lp R x j) → p_X4_nextOf_L3 n F G (nI R) (nI x) K kk (nI i) = some (nI t) := by
  obtain ⟨d1, d2, d3, d4, d5, d6⟩ := id hD
  obtain ⟨c1, c2, c3, c4, c5, c6⟩ := id hC
  have p12 := pow12 d1
  intro d
  induction d with
  | zero =>
    intro i kk hi hd hno
    obtain ⟨kk, rfl⟩ : ∃ q, kk = q + 1 := ⟨kk - 1, by omega⟩
    have e : i = t := by omega
    subst e
    obtain ⟨e1, e2, e3, e4⟩ := c5 i ht
    obtain ⟨u1, u2, u3, u4⟩ := d5 i ht
    obtain ⟨f1, -⟩ := first7 (G := G) (U := U) (S := R) (t := i) (by omega) (by omega) (by omega) e4
    have hdl := delB_lt (S := R) (t := i) (by omega) hq.1.1
    have lpl := lp_le d4 d6 hl (S := delB R i) (by omega)
    have q2 := hq.2
    have ed : nI R &&& (((1 : Int32) <<< (nI i &&& 31)) ^^^ (-1)) = nI (delB R i) := bitOut (by omega)
    rw [p_X4_nextOf_L3, c1, if_neg (nI_ge ht (by omega)), f1 hq.1, bi1S, if_neg one_nz, left7 (r := r) (by omega) e3, bi1S, soon_v hn d4 u3 c4 c6 d6 hx, bi1S, if_neg (fun z => by have := (encE_m1 (by omega)).1 z; omega), ed, inBT (by omega) (by omega), oguardT, nI_clamp (by omega), h15 _ (by omega), encE_n (by omega), if_neg (fun z => (encP_ltN (by omega) (by omega)).1 z q2)]
  | succ d ih =>
    intro i kk hi hd hno
    obtain ⟨kk, rfl⟩ : ∃ q, kk = q + 1 := ⟨kk - 1, by omega⟩
    have hic : i < c := by omega
    obtain ⟨e1, e2, e3, e4⟩ := c5 i hic
    obtain ⟨u1, u2, u3, u4⟩ := d5 i hic
    obtain ⟨f1, f2⟩ := first7 (G := G) (U := U) (S := R) (t := i) (by omega) (by omega) (by omega) e4
    have nx := ih (i + 1) kk (by omega) (by omega) hno
    rw [p_X4_nextOf_L3, c1, if_neg (nI_ge hic (by omega))]
    by_cases hf : firE U R i
    · have hdl := delB_lt (S := R) (t := i) (by omega) hf.1
      have lpl := lp_le d4 d6 hl (S := delB R i) (by omega)
      have ed : nI R &&& (((1 : Int32) <<< (nI i &&& 31)) ^^^ (-1)) = nI (delB R i) := bitOut (by omega)
      have nq : ¬ seM k L x (r i) < lp (delB R i) := fun z => hno i (by omega) ⟨hf, z⟩
      have sv := seM_v d4 d6 (r := r i) hx
      have sl : seM k L x (r i) ≤ 100000 := by
        rcases sv with w | w
        · omega
        · have := vM_lt d4 w
          omega
      rw [f1 hf, bi1S, if_neg one_nz, left7 (r := r) (by omega) e3, bi1S, soon_v hn d4 u3 c4 c6 d6 hx, bi1S]
      by_cases z : seM k L x (r i) = 100000
      · rw [if_pos ((encE_m1 sl).2 z), pletE, nI_1]; exact nx
      · rw [if_neg (fun y => z ((encE_m1 sl).1 y)), ed, inBT (by omega) (by omega), oguardT, nI_clamp (by omega), h15 _ (by omega), encE_n z, if_pos ((encP_ltN (by omega) (by omega)).2 nq), pletE, nI_1]; exact nx
    · rw [f2 hf, bi1S, if_pos rfl, pletE, nI_1]; exact nx
theorem may8b {F : tF} {G : tG} {ra ta B D R i : Nat} {U : Nat → Nat} (h21 : F 21 = nI B) (h16 : F 16 = nI ra) (hB : B < 4096) (hDl : D < 4096) (hi : i < 12) (hU : U i < 4096) (hG : G 7 i = nI (U i)) (hs : shutE ra ta B) (hw : whoE ra U B) (hR : ∀ j, R.testBit j = (B.testBit j && !D.testBit j)) : (firE U R i → (if (((F 21) >>> (nI i &&& 31)) &&& 1) = 1 then (if ((nI D >>> (nI i &&& 31)) &&& 1) = 0 then oguard (inB (nI i) 12) ((if (((G 7 (nI i).toNatClampNeg) &&& ((F 16) ^^^ (-1))) &&& (nI D ^^^ (-1))) = 0 then some (1 : Int32) else some (0))) else some (0)) else some (0)) = some 1) ∧ (¬ firE U R i → (if (((F 21) >>> (nI i &&& 31)) &&& 1) = 1 then (if ((nI D >>> (nI i &&& 31)) &&& 1) = 0 then oguard (inB (nI i) 12) ((if (((G 7 (nI i).toNatClampNeg) &&& ((F 16) ^^^ (-1))) &&& (nI D ^^^ (-1))) = 0 then some (1 : Int32) else some (0))) else some (0)) else some (0)) = some 0) := by
  rw [h21, h16, inBT hi (by omega), oguardT, nI_clamp (by omega), hG]
  have bo := bitO (a := B) (t := i) (by omega) hi
  have bz := bitZ (a := D) (t := i) (by omega) hi
  have wz := who0I (u := U i) (ra := ra) (s := D) hU
  by_cases h1 : (nI B >>> (nI i &&& 31)) &&& 1 = 1
  · rw [if_pos h1]
    have b1 := bo.1 h1
    by_cases h2 : (nI D >>> (nI i &&& 31)) &&& 1 = 0
    · rw [if_pos h2]
      have b2 := bz.1 h2
      have hRi : R.testBit i = true := by rw [hR, b1, b2]; rfl
      by_cases h3 : (nI (U i) &&& (nI ra ^^^ (-1))) &&& (nI D ^^^ (-1)) = 0
      · rw [if_pos h3]
        refine ⟨fun _ => rfl, fun z => absurd ⟨hRi, ?_⟩ z⟩
        intro j q
        rw [hR]
        rcases wz.1 h3 j q with w | w
        · cases hb : B.testBit j with
          | false => rfl
          | true => rw [(hs j hb).1] at w; exact absurd w (by decide)
        · rw [w, Bool.not_true, Bool.and_false]
      · rw [if_neg h3]
        refine ⟨fun z => absurd (wz.2 ?_) h3, fun _ => rfl⟩
        intro j q
        rcases hw i b1 j q with w | w
        · exact Or.inl w
        · have v := z.2 j q
          rw [hR, w, Bool.true_and] at v
          cases hd : D.testBit j with
          | true => exact Or.inr rfl
          | false => rw [hd] at v; exact absurd v (by decide)
    · rw [if_neg h2]
      refine ⟨fun z => absurd (bz.2 ?_) h2, fun _ => rfl⟩
      have v := z.1
      rw [hR, b1, Bool.true_and, Bool.not_eq_true'] at v
      exact v
  · rw [if_neg h1]
    refine ⟨fun z => absurd (bo.2 ?_) h1, fun _ => rfl⟩
    have v := z.1
    rw [hR, Bool.and_eq_true] at v
    exact v.1
theorem next8_L {n : Nat} (hn : 5000 ≤ n) {H : tF} {J0 : tG} {c ra ta k : Nat} {wo od r U L lp : Nat → Nat} (hD : DTok c ra ta k wo od r U L) (hC : DRf H J0 c ra ta k wo od r U L) (hl : LPok c ra ta k U r L lp (2 ^ c)) {B D R x t : Nat} (h21 : H 21 = nI B) (hB : B < 2 ^ c) (hDB : sbs D B) (hs : shutE ra ta B) (hw : whoE ra U B) (hR : R < 2 ^ c) (hRb : ∀ j, R.testBit j = (B.testBit j && !D.testBit j)) (hx : vM k L x) (ht : t < c) (hq : nxQ k U r L lp R x t) (K : Int32 → Int32 → Int32 → tF → tG → Option (tF × tG)) : ∀ d i kk z1 J, i + d = t → d + 1 < kk → (∀ j, j < t → ¬ nxQ k U r L lp R x j) → (∀ j, j ≠ 16 → J j = J0 j) → ∃ z J', p_X8_layBest_L118 n (nI (rfM x)) (nI D) K kk (nI i) z1 (-6) H J = K z (nI (rfM (seM k L x (r t)))) (nI t) H J' ∧ ∀ j, j ≠ 16 → J' j = J0 j := by
  obtain ⟨d1, d2, d3, d4, d5, d6⟩ := id hD
  obtain ⟨c1, c2, c3, c4, c5, c6⟩ := id hC
  have p12 := pow12 d1
  have hDc : D < 2 ^ c := Nat.lt_of_le_of_lt (Nat.le_of_testBit hDB) hB
  have iB : inB (H 21) 4096 = true := by rw [h21]; exact inBT (by omega) (by omega)
  have cB : (H 21).toNatClampNeg = B := by rw [h21]; exact nI_clamp (by omega)
  have work : ∀ i J, i < c → firE U R i → (∀ j, j ≠ 16 → J j = J0 j) → ∃ J', (∀ j, j ≠ 16 → J' j = J0 j) ∧ bi1 (p_X8_endWith n H J (nI (rfM x)) (nI i)) (fun x190 => bi2 (p_X8_layEnds n H J (nI D ||| (1 <<< (nI i &&& 31))) x190) (fun F204 G204 => bi1 ((if 100000 ≤ x190 then some ((-6)) else oguard (inB (F204 21) 4096) ((if 100000 ≤ (G204 16 (F204 21).toNatClampNeg) then some ((-6)) else some (nI i))))) (fun (y211_0 : Int32) => some (x190, y211_0, F204, G204)))) = some (nI (rfM (seM k L x (r i))), (if seM k L x (r i) < lp (delB R i) then nI i else -6), H, J') := by
    intro i J hic hf hJ
    obtain ⟨e1, e2, e3, e4⟩ := c5 i hic
    obtain ⟨u1, u2, u3, u4⟩ := d5 i hic
    have hCJ : DRf H J c ra ta k wo od r U L := DRf_cg hC (fun _ _ _ => rfl) (fun j _ _ => hJ j (by omega))
    have ew := endw_v (n := n) hn (F := H) (G := J) (t := i) (x := x) (r := r) d4 (by omega) u3 c4 hCJ.2.2.2.2.2 d6 (hCJ.2.2.2.2.1 i hic).2.2.1 (Or.inl hx)
    have eq : nI D ||| (1 : Int32) <<< (nI i &&& 31) = nI (D ||| 2 ^ i) := bitIn (by omega)
    have pt : 2 ^ i < 2 ^ c := Nat.pow_lt_pow_right (by omega) hic
    have hQ : D ||| 2 ^ i < 2 ^ c := Nat.or_lt_two_pow hDc pt
    have sv := seM_v d4 d6 (r := r i) hx
    obtain ⟨J1, E, q1, q2, q3⟩ := lay_v (n := n) hn hD hCJ (D := D ||| 2 ^ i) (x := seM k L x (r i)) hQ (by
      rcases sv with w | w
      · exact Or.inr w
      · exact Or.inl (Or.inl w))
    refine ⟨J1, fun j hj => (q2.1 j hj).trans (hJ j hj), ?_⟩
    have hdl := delB_lt (S := R) (t := i) (by omega) hf.1
    have lpl := lp_le d4 d6 hl (S := delB R i) (by omega)
    have bR : B.testBit i = true ∧ D.testBit i = false := by
      have w := hf.1
      rw [hRb, Bool.and_eq_true, Bool.not_eq_true'] at w
      exact w
    rw [ew, bi1S, eq, q1, bi2S, iB, cB, q2.2 B hB]
    rcases sv with w | w
    · rw [w, if_pos (show (100000 : Int32) ≤ nI (rfM 100000) by decide), bi1S, if_neg (by omega)]
    · have wl := vM_lt d4 w
      obtain ⟨s1, s2, s3⟩ := rf_lt d4 d6 w
      rw [if_neg (show ¬ (100000 : Int32) ≤ nI (rfM (seM k L x (r i))) from nI_ge (b := 100000) (by omega) (by omega)), oguardT]
      have sD : sbs (D ||| 2 ^ i) B := by
        refine sub_un hDB ?_
        intro j q
        rw [Nat.testBit_two_pow] at q
        rw [← of_decide_eq_true q]; exact bR.1
      have fe := feas (R0 := delB R i) d1 d4 d6 hl q3 w hB sD (fun j q _ => hs j q) (fun j q _ => hw j q) (by omega) (by
        intro j
        rw [delB_bit (by omega), hRb, insB_bit]
        by_cases ej : i = j
        · subst ej
          rw [decide_eq_true rfl, Bool.not_true, Bool.and_false, Bool.or_true, Bool.not_true, Bool.and_false]
        · rw [decide_eq_false ej, Bool.not_false, Bool.and_true, Bool.or_false])
      have Ev : E B = 100000 ∨ vM k L (E B) := by
        by_cases eD : B = D ||| 2 ^ i
        · refine Or.inr ?_
          have w2 := w
          rw [← q3.1, ← eD] at w2
          exact w2
        · exact q3.2.1 B hB eD
      have rb := rf_b d4 d6 Ev
      by_cases z : seM k L x (r i) < lp (delB R i)
      · have zE := fe.2 z
        rw [if_pos z, if_neg (show ¬ (100000 : Int32) ≤ nI (rfM (E B)) from nI_ge (b := 100000) (by have := mt rb.2.1 (by omega); omega) (by omega)), bi1S]
      · have zE : ¬ E B < 100000 := fun y => z (fe.1 y)
        rw [if_neg z, if_pos (show (100000 : Int32) ≤ nI (rfM (E B)) from nI_le (a := 100000) (rb.2.2 zE) (by omega)), bi1S]
  have m6 : ¬ (0 : Int32) ≤ -6 := by decide
  intro d
  induction d with
  | zero =>
    intro i kk z1 J hi hd hno hJ
    obtain ⟨kk, rfl⟩ : ∃ q, kk = q + 2 := ⟨kk - 2, by omega⟩
    have e : i = t := by omega
    subst e
    obtain ⟨J', w1, w2⟩ := work i J ht hq.1 hJ
    obtain ⟨m1, -⟩ := may8b (F := H) (G := J) (ra := ra) (ta := ta) (B := B) (D := D) (R := R) (i := i) (U := U) h21 c2 (by omega) (by omega) (by omega) (by have := (d5 i ht).2.2.2; omega) (by rw [hJ 7 (by omega)]; exact (c5 i ht).2.2.2) hs hw hRb
    rw [p_X8_layBest_L118, c1, if_neg (nI_ge ht (by omega)), if_neg m6, m1 hq.1, bi1S, if_neg one_nz, w2, if_pos hq.2, bi4S, pletE, nI_1, p_X8_layBest_L118, if_pos (nI_pos' (by omega) : (0 : Int32) ≤ nI i)]
    refine ⟨nI (i + 1), J', ?_, w1⟩
    by_cases z : H 15 ≤ nI (i + 1)
    · rw [if_pos z]
    · rw [if_neg z]
  | succ d ih =>
    intro i kk z1 J hi hd hno hJ
    obtain ⟨kk, rfl⟩ : ∃ q, kk = q + 1 := ⟨kk - 1, by omega⟩
    have hic : i < c := by omega
    obtain ⟨m1, m2⟩ := may8b (F := H) (G := J) (ra := ra) (ta := ta) (B := B) (D := D) (R := R) (i := i) (U := U) h21 c2 (by omega) (by omega) (by omega) (by have := (d5 i hic).2.2.2; omega) (by rw [hJ 7 (by omega)]; exact (c5 i hic).2.2.2) hs hw hRb
    rw [p_X8_layBest_L118, c1, if_neg (nI_ge hic (by omega)), if_neg m6]
    by_cases hf : firE U R i
    · obtain ⟨J', w1, w2⟩ := work i J hic hf hJ
      have nq : ¬ seM k L x (r i) < lp (delB R i) := fun z => hno i (by omega) ⟨hf, z⟩
      rw [m1 hf, bi1S, if_neg one_nz, w2, if_neg nq, bi4S, pletE, nI_1]
      exact ih (i + 1) kk _ J' (by omega) (by omega) hno w1
    · rw [m2 hf, bi1S, if_pos rfl, bi4S, pletE, nI_1]
      exact ih (i + 1) kk _ J (by omega) (by omega) hno hJ
