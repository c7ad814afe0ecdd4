def ORv (Fc : tF) (Gc : tG) (Hc : tF) (Jc : tG) (p : Nat) (F : tF) (G : tG) (H : tF) (J : tG) : Prop := (∀ j, j ≠ 20 → F j = Fc j) ∧ F 20 = nI p ∧ (∀ j, j ≠ 13 → j ≠ 14 → G j = Gc j) ∧ (∀ j, j ≠ 22 → H j = Hc j) ∧ H 22 = nI p ∧ (∀ j, j ≠ 16 → j ≠ 17 → j ≠ 18 → J j = Jc j) ∧ (∀ i, i < p → G 13 i = J 17 i ∧ G 14 i = J 18 i) ∧ p ≤ 12
theorem order_L {n m : Nat} (hn : 5000 ≤ n) (hm : 5000 ≤ m) {Fc : tF} {Gc : tG} {Hc : tF} {Jc : tG} {c ra ta k : Nat} {wo od r U L lp : Nat → Nat} (hD : DTok c ra ta k wo od r U L) (hC : DCl Fc Gc c ra ta k wo od r U L) (hR : DRf Hc Jc c ra ta k wo od r U L) (hl : LPok c ra ta k U r L lp (2 ^ c)) (h15 : ∀ T, T < 2 ^ c → Gc 15 T = encP (lp T)) {B : Nat} (h21 : Hc 21 = nI B) (hB : B < 2 ^ c) (hs : shutE ra ta B) (hw : whoE ra U B) : ∀ q p kk kk2 x R D F G H J, cntT R c ≤ q → cntT R c + p ≤ 12 → q < kk → q < kk2 → R < 2 ^ c → sbs D B → (∀ j, R.testBit j = (B.testBit j && !D.testBit j)) → (R = 0 ∨ (vM k L x ∧ x < lp R)) → ORv Fc Gc Hc Jc p F G H J → ∃ p' F' G' H' J', p_X4_setInOrder_L13 n (fun _ _ _ (F13l : tF) (G13l : tG) => some (F13l, G13l)) kk (nI p) (nI x) (nI R) F G = some (F', G') ∧ p_X8_layBest_L100 m (fun _ _ (F100l : tF) (G100l : tG) => some (F100l, G100l)) kk2 (nI (rfM x)) (nI D) H J = some (H', J') ∧ ORv Fc Gc Hc Jc p' F' G' H' J' := by
  obtain ⟨d1, d2, d3, d4, d5, d6⟩ := id hD
  have p12 := pow12 d1
  intro q
  induction q with
  | zero =>
    intro p kk kk2 x R D F G H J hq hp hk hk2 hRc hDB hRb hor hI
    have z : R = 0 := by
      rcases hor with z | ⟨v, l⟩
      · exact z
      · rcases Nat.eq_zero_or_pos R with z | z
        · exact z
        · obtain ⟨-, t, t1, t2, t3⟩ := ((hl.2 R z hRc).2 x v).1 l
          have hdl := delB_lt (S := R) (t := t) (by omega) t2.1
          have w := cntT_lt (a := delB R t) (b := R) (c := c) (fun i y => by rw [delB_bit (by omega), Bool.and_eq_true] at y; exact y.1) hRc (by omega)
          omega
    obtain ⟨kk, rfl⟩ : ∃ q, kk = q + 1 := ⟨kk - 1, by omega⟩
    obtain ⟨kk2, rfl⟩ : ∃ q, kk2 = q + 1 := ⟨kk2 - 1, by omega⟩
    obtain ⟨i1, i2, i3, i4, i5, i6, i7, i8⟩ := id hI
    have eD : D = B := by
      refine sub_an hDB ?_
      intro i y
      have w := hRb i
      rw [z, Nat.zero_testBit, y, Bool.true_and] at w
      cases hd : D.testBit i with
      | true => rfl
      | false => rw [hd] at w; exact absurd w (by decide)
    refine ⟨p, F, G, H, J, ?_, ?_, hI⟩
    · rw [z, p_X4_setInOrder_L13, if_pos (show nI 0 = 0 from rfl)]
      by_cases y : (12 : Int32) ≤ nI p
      · rw [if_pos y]
      · rw [if_neg y]
    · rw [p_X8_layBest_L100, i4 21 (by omega), h21, eD, if_pos rfl]
  | succ q ih =>
    intro p kk kk2 x R D F G H J hq hp hk hk2 hRc hDB hRb hor hI
    obtain ⟨kk, rfl⟩ : ∃ q, kk = q + 1 := ⟨kk - 1, by omega⟩
    obtain ⟨kk2, rfl⟩ : ∃ q, kk2 = q + 1 := ⟨kk2 - 1, by omega⟩
    obtain ⟨i1, i2, i3, i4, i5, i6, i7, i8⟩ := id hI
    rcases Nat.eq_zero_or_pos R with z | z
    · have eD : D = B := by
        refine sub_an hDB ?_
        intro i y
        have w := hRb i
        rw [z, Nat.zero_testBit, y, Bool.true_and] at w
        cases hd : D.testBit i with
        | true => rfl
        | false => rw [hd] at w; exact absurd w (by decide)
      refine ⟨p, F, G, H, J, ?_, ?_, hI⟩
      · rw [z, p_X4_setInOrder_L13, if_pos (show nI 0 = 0 from rfl)]
        by_cases y : (12 : Int32) ≤ nI p
        · rw [if_pos y]
        · rw [if_neg y]
      · rw [p_X8_layBest_L100, i4 21 (by omega), h21, eD, if_pos rfl]
    · obtain ⟨v, l⟩ : vM k L x ∧ x < lp R := by
        rcases hor with y | y
        · omega
        · exact y
      obtain ⟨-, t0, t01, t02, t03⟩ := ((hl.2 R z hRc).2 x v).1 l
      obtain ⟨t, hQ, hmin⟩ := pk_least (nxQ k U r L lp R x) ⟨t0, t02, t03⟩
      have ht : t < c := bit_hi hRc hQ.1.1
      have hdl := delB_lt (S := R) (t := t) (by omega) hQ.1.1
      have cl := cntT_lt (a := delB R t) (b := R) (c := c) (fun i y => by rw [delB_bit (by omega), Bool.and_eq_true] at y; exact y.1) hRc (by omega)
      have hp12 : p < 12 := by omega
      have hCF : DCl F G c ra ta k wo od r U L := DCl_cg hC (fun j _ _ _ => i1 j (by omega)) (fun j _ _ => i3 j (by omega) (by omega))
      have hRH : DRf H J c ra ta k wo od r U L := DRf_cg hR (fun j _ _ => i4 j (by omega)) (fun j _ _ => i6 j (by omega) (by omega) (by omega))
      have g15 : ∀ T, T < 2 ^ c → G 15 T = encP (lp T) := fun T hT => by rw [i3 15 (by omega) (by omega)]; exact h15 T hT
      have lpl := lp_le d4 d6 hl (S := delB R t) (by omega)
      have q2 := hQ.2
      have yv : vM k L (seM k L x (r t)) := by
        rcases seM_v d4 d6 (r := r t) v with w | w
        · omega
        · exact w
      have yl := vM_lt d4 yv
      obtain ⟨s1, s2, s3⟩ := rf_lt d4 d6 yv
      have nx7 : p_X4_nextOf n F G (nI R) (nI x) = some (nI t) := next7_L hn hD hCF hl g15 hRc v ht hQ (fun _ => some (-6)) t 0 n (by omega) (by omega) hmin
      obtain ⟨zz, J1, nx8, hJ1⟩ := next8_L (n := m) hm hD hRH hl (B := B) (D := D) (R := R) (x := x) (t := t) ((i4 21 (by omega)).trans h21) hB hDB hs hw hRc hRb v ht hQ (fun (z118_0 : Int32) (z118_1 : Int32) (z118_2 : Int32) (F118l : tF) (G118l : tG) => oguard (inB (F118l 22) 12) (plet (stG G118l 17 (F118l 22) z118_2) (fun (G251 : tG) => oguard (inB (F118l 22) 12) (plet (stG G251 18 (F118l 22) (z118_1 / 1000)) (fun (G266 : tG) => plet (upd F118l 22 ((F118l 22) + 1)) (fun (F274 : tF) => plet (nI D ||| (1 <<< (z118_2 &&& 31))) (fun (x282 : Int32) => p_X8_layBest_L100 m (fun _ _ (F100l : tF) (G100l : tG) => some (F100l, G100l)) kk2 z118_1 x282 F274 G266))))))) t 0 m 100000 J (by omega) (by omega) hmin (fun _ _ => rfl)
      have e1000 : nI (rfM (seM k L x (r t))) / 1000 = nI (seM k L x (r t) / 512) := by
        have e := pk_div (a := rfM (seM k L x (r t))) (d := 1000) (by omega) (by omega) (by omega)
        rw [show rfM (seM k L x (r t)) / 1000 = seM k L x (r t) / 512 by omega] at e
        exact e
      have ip : inB (nI p) 12 = true := inBT hp12 (by omega)
      have cp : (nI p).toNatClampNeg = p := nI_clamp (by omega)
      have ed : nI R &&& (((1 : Int32) <<< (nI t &&& 31)) ^^^ (-1)) = nI (delB R t) := bitOut (by omega)
      have eq : nI D ||| (1 : Int32) <<< (nI t &&& 31) = nI (D ||| 2 ^ t) := bitIn (by omega)
      have bR : B.testBit t = true ∧ D.testBit t = false := by
        have w := hQ.1.1
        rw [hRb, Bool.and_eq_true, Bool.not_eq_true'] at w
        exact w
      have nDB : ¬ nI D = nI B := by
        intro y
        have w := (nI_eq (a := D) (b := B) (by have := Nat.lt_of_le_of_lt (Nat.le_of_testBit hDB) hB; omega) (by omega)).1 y
        rw [w, bR.1] at bR
        exact absurd bR.2 (by decide)
      have sD : sbs (D ||| 2 ^ t) B := by
        refine sub_un hDB ?_
        intro j y
        rw [Nat.testBit_two_pow] at y
        rw [← of_decide_eq_true y]; exact bR.1
      have rb2 : ∀ j, (delB R t).testBit j = (B.testBit j && !(D ||| 2 ^ t).testBit j) := by
        intro j
        rw [delB_bit (by omega), hRb, insB_bit]
        by_cases ej : t = j
        · subst ej
          rw [decide_eq_true rfl, Bool.not_true, Bool.and_false, Bool.or_true, Bool.not_true, Bool.and_false]
        · rw [decide_eq_false ej, Bool.not_false, Bool.and_true, Bool.or_false]
      have hI' : ORv Fc Gc Hc Jc (p + 1) (upd F 20 (F 20 + 1)) (stG (stG G 13 (nI p) (nI t)) 14 (nI p) (nI (seM k L x (r t) / 512))) (upd H 22 (H 22 + 1)) (stG (stG J1 17 (nI p) (nI t)) 18 (nI p) (nI (seM k L x (r t) / 512))) := by
        refine ⟨?_, ?_, ?_, ?_, ?_, ?_, ?_, by omega⟩
        · intro j hj
          rw [pk_un hj]; exact i1 j hj
        · rw [pk_us, i2]; exact nI_1 p
        · intro j j1 j2
          refine Eq.trans ?_ (i3 j j1 j2)
          show (if j = 14 then _ else (if j = 13 then _ else G j)) = G j
          rw [if_neg j2, if_neg j1]
        · intro j hj
          rw [pk_un hj]; exact i4 j hj
        · rw [pk_us, i5]; exact nI_1 p
        · intro j j1 j2 j3
          refine Eq.trans ?_ ((hJ1 j j1).trans (i6 j j1 j2 j3))
          show (if j = 18 then _ else (if j = 17 then _ else J1 j)) = J1 j
          rw [if_neg j3, if_neg j2]
        · intro i hi
          show upd (G 13) (nI p).toNatClampNeg (nI t) i = upd (J1 17) (nI p).toNatClampNeg (nI t) i ∧ upd (G 14) (nI p).toNatClampNeg (nI (seM k L x (r t) / 512)) i = upd (J1 18) (nI p).toNatClampNeg (nI (seM k L x (r t) / 512)) i
          rw [cp]
          by_cases e : i = p
          · rw [e, pk_us, pk_us, pk_us, pk_us]; exact ⟨rfl, rfl⟩
          · rw [pk_un e, pk_un e, pk_un e, pk_un e, hJ1 17 (by omega), hJ1 18 (by omega)]
            exact i7 i (by omega)
      obtain ⟨p', F', G', H', J', a1, a2, a3⟩ := ih (p + 1) kk kk2 (seM k L x (r t)) (delB R t) (D ||| 2 ^ t) _ _ _ _ (by omega) (by omega) (by omega) (by omega) (by omega) sD rb2 (Or.inr ⟨yv, q2⟩) hI'
      refine ⟨p', F', G', H', J', ?_, ?_, a3⟩
      · rw [p_X4_setInOrder_L13, if_neg (lt12 hp12), if_neg (fun y => by have := (nI0 (a := R) (by omega)).1 y; omega), nx7, bi1S, if_neg (nI_m6 (by omega)), left7 (r := r) (by omega) (hCF.2.2.2.2.1 t ht).2.2.1, bi1S, soon_v hn d4 (d5 t ht).2.2.1 hCF.2.2.2.1 hCF.2.2.2.2.2 d6 v, bi1S, encE_n (by omega), ed, pletE, ip, oguardT, pletE]
        unfold p_X5_tideAt
        rw [bi1S, x512 (by omega), oguardT, pletE, pletE, pletE, nI_1]
        exact a1
      · rw [p_X8_layBest_L100, i4 21 (by omega), h21, if_neg nDB]
        refine nx8.trans ?_
        rw [i5, ip, oguardT, pletE, oguardT, e1000, pletE, pletE, eq, pletE]
        rw [i5] at a2
        exact a2
/-- the plan of the class and that of the reference -/
theorem plan_v {n m : Nat} (hn : 5000 ≤ n) (hm : 5000 ≤ m) {F : tF} {G : tG} {H : tF} {J : tG} {c ra ta k : Nat} {wo od r U L : Nat → Nat} (hD : DTok c ra ta k wo od r U L) (hC : DCl F G c ra ta k wo od r U L) (hR : DRf H J c ra ta k wo od r U L) : ∃ p B F' G' H' J', p_X4_make n F G = some (F', G') ∧ p_X8_layBest m H J = some (H', J') ∧ p ≤ 12 ∧ B < 4096 ∧ F' 20 = nI p ∧ H' 22 = nI p ∧ F' 21 = nI (hpS (fun t => wo t * od t) B c) ∧ F' 22 = nI (hpS r B c) ∧ H' 21 = nI B ∧ (∀ i, i < p → G' 13 i = J' 17 i ∧ G' 14 i = J' 18 i) ∧ (∀ j, j < 20 ∨ 22 < j → F' j = F j) ∧ (∀ j, j < 13 ∨ 15 < j → G' j = G j) ∧ (∀ j, j < 21 → H' j = H j) ∧ (∀ j, j < 16 → J' j = J j) := by
  obtain ⟨d1, d2, d3, d4, d5, d6⟩ := id hD
  have p12 := pow12 d1
  have pp : 0 < 2 ^ c := Nat.two_pow_pos c
  obtain ⟨G1, lp, f1, f2, f3, f4⟩ := find_v hn hD hC
  have w0 : vW k L 0 := by
    rcases Nat.eq_zero_or_pos k with z | z
    · exact Or.inr ⟨z, rfl⟩
    · exact Or.inl ⟨by omega, by omega⟩
  obtain ⟨J1, E, l1, l2, l3⟩ := lay_v (n := m) hm hD hR (D := 0) (x := 0) pp (Or.inl w0)
  have l1' : p_X8_layEnds m H J 0 0 = some (H, J1) := l1
  have hC1 : DCl F G1 c ra ta k wo od r U L := DCl_cg hC (fun _ _ _ _ => rfl) (fun j _ _ => f2 j (by omega))
  have hR1 : DRf H J1 c ra ta k wo od r U L := DRf_cg hR (fun _ _ _ => rfl) (fun j _ _ => l2.1 j (by omega))
  obtain ⟨b, F2, H2, k1, k2, hI⟩ := choose_L hn hm hD hC1 hR1 f4 l3 f3 l2.2 (fun (z14_0 : Int32) (z14_1 : Int32) (F14l : tF) => some (z14_1, F14l, G1)) (fun (z13_0 : Int32) (F13l : tF) => plet (upd F13l 22 0) (fun (F93 : tF) => p_X8_layBest_L100 m (fun (z100_0 : Int32) (z100_1 : Int32) (F100l : tF) (G100l : tG) => some (F100l, G100l)) m 0 0 F93 J1)) (2 ^ c - 1) 1 n m 0 (upd (upd F 21 0) 22 0) (upd H 21 0) (by omega) (by omega) (by omega) (by omega) (by
    refine ⟨?_, ?_, ?_, ?_, rfl, pp, Or.inl rfl⟩
    · intro j j1 j2
      rw [pk_un j2, pk_un j1]
    · rw [hpS_0]; rfl
    · rw [hpS_0]; rfl
    · intro j j1
      rw [pk_un j1])
  obtain ⟨i1, i2, i3, i4, i5, i6, i7⟩ := hI
  have cs : p_X4_chooseSet n F G1 = some (nI b, F2, G1) := by
    unfold p_X4_chooseSet
    rw [pletE, pletE]
    exact k1
  have hb : shutE ra ta b ∧ whoE ra U b ∧ (b = 0 ∨ (vM k L 0 ∧ 0 < lp b)) := by
    rcases Nat.eq_zero_or_pos b with z | z
    · rw [z]
      exact ⟨fun i q => by rw [Nat.zero_testBit] at q; exact absurd q (by decide), fun i q => by rw [Nat.zero_testBit] at q; exact absurd q (by decide), Or.inl rfl⟩
    · obtain ⟨q1, q2⟩ : 0 < lp b ∧ whoE ra U b := by
        rcases i7 with y | y
        · omega
        · exact y
      have v0 : vM k L 0 := by
        rcases w0 with y | ⟨y, -⟩
        · exact y
        · rcases (f4.2 b z i6).1 with w | w
          · omega
          · exact absurd w.1 (by omega)
      exact ⟨(((f4.2 b z i6).2 0 v0).1 q1).1, q2, Or.inr ⟨v0, q1⟩⟩
  obtain ⟨b1, b2, b3⟩ := hb
  have hC2 : DCl (upd F2 20 0) G1 c ra ta k wo od r U L := DCl_cg hC1 (fun j _ _ _ => by rw [pk_un (by omega)]; exact i1 j (by omega) (by omega)) (fun _ _ _ => rfl)
  have hR2 : DRf (upd H2 22 0) J1 c ra ta k wo od r U L := DRf_cg hR1 (fun j _ _ => by rw [pk_un (by omega)]; exact i4 j (by omega)) (fun _ _ _ => rfl)
  have cl := cntT_le b c
  obtain ⟨p, F', G', H', J', o1, o2, o3⟩ := order_L hn hm hD hC2 hR2 f4 f3 (B := b) (by rw [pk_un (by omega)]; exact i5) i6 b1 b2 12 0 n m 0 b 0 (upd F2 20 0) G1 (upd H2 22 0) J1 (by omega) (by omega) (by omega) (by omega) i6 (fun i q => by rw [Nat.zero_testBit] at q; exact absurd q (by decide)) (fun j => by rw [Nat.zero_testBit, Bool.not_false, Bool.and_true]) b3 ⟨fun _ _ => rfl, rfl, fun _ _ _ => rfl, fun _ _ => rfl, rfl, fun _ _ _ _ => rfl, fun i hi => absurd hi (by omega), by omega⟩
  obtain ⟨j1, j2, j3, j4, j5, j6, j7, j8⟩ := o3
  refine ⟨p, b, F', G', H', J', ?_, ?_, j8, by omega, j2, j5, ?_, ?_, ?_, j7, ?_, ?_, ?_, ?_⟩
  · have so : p_X4_setInOrder n F2 G1 (nI b) = some (F', G') := by
      unfold p_X4_setInOrder
      rw [pletE]
      exact o1
    unfold p_X4_make
    rw [f1, bi2S, cs, bi3S, so, bi2S]
  · unfold p_X8_layBest
    rw [l1', bi2S, pletE]
    refine k2.trans ?_
    rw [pletE]
    exact o2
  · rw [j1 21 (by omega), pk_un (by omega)]; exact i2
  · rw [j1 22 (by omega), pk_un (by omega)]; exact i3
  · rw [j4 21 (by omega), pk_un (by omega)]; exact i5
  · intro j hj
    rw [j1 j (by omega), pk_un (by omega)]; exact (i1 j (by omega) (by omega))
  · intro j hj
    rw [j3 j (by omega) (by omega)]; exact f2 j (by omega)
  · intro j hj
    rw [j4 j (by omega), pk_un (by omega)]; exact i4 j (by omega)
  · intro j hj
    rw [j6 j (by omega) (by omega) (by omega)]; exact l2.1 j (by omega)
