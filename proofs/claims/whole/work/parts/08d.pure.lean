/-! bits -/
theorem bitV {a t : Nat} (ha : a < 2 ^ 31) (ht : t < 12) : (nI a >>> (nI t &&& 31)) &&& 1 = nI (a / 2 ^ t % 2) := by
  rw [pk_shrN ha (nI t &&& 31) t (s_l t (by omega))]
  have h : a / 2 ^ t < 2 ^ 32 := Nat.lt_of_le_of_lt (Nat.div_le_self _ _) (by omega)
  have e := pk_andN (n := a / 2 ^ t) h (m := 1) 1 (by decide)
  rw [Nat.pow_one] at e
  exact e
theorem bitT {a t : Nat} : a.testBit t = true ↔ a / 2 ^ t % 2 = 1 := by
  rw [Nat.testBit_eq_decide_div_mod_eq]; exact decide_eq_true_iff
theorem bitF {a t : Nat} : a.testBit t = false ↔ a / 2 ^ t % 2 = 0 := by
  rw [Nat.testBit_eq_decide_div_mod_eq, decide_eq_false_iff_not]; omega
theorem bitZ {a t : Nat} (ha : a < 2 ^ 31) (ht : t < 12) : (nI a >>> (nI t &&& 31)) &&& 1 = 0 ↔ a.testBit t = false := by
  rw [bitV ha ht, bitF]
  exact nI_eq (b := 0) (by omega) (by omega)
theorem bitO {a t : Nat} (ha : a < 2 ^ 31) (ht : t < 12) : (nI a >>> (nI t &&& 31)) &&& 1 = 1 ↔ a.testBit t = true := by
  rw [bitV ha ht, bitT]
  exact nI_eq (b := 1) (by omega) (by omega)
/-! a minute: the relation but for the minute itself -/
def RX (F : tF) (G : tG) (F2 : tF) (G2 : tG) : Prop := RR (upd F 0 (F2 13)) G F2 G2
theorem rx_of {F : tF} {G : tG} {F2 : tF} {G2 : tG} (h : RR F G F2 G2) : RX F G F2 G2 := by
  have e : upd F 0 (F2 13) = F := by
    funext j
    by_cases q : j = 0
    · rw [q, pk_us]; exact h.2.2.1.2.2.1.symm
    · rw [pk_un q]
  unfold RX
  rw [e]; exact h
theorem rx_air {F : tF} {G : tG} {F2 : tF} {G2 : tG} {F' F2' : tF} (hX : RX F G F2 G2) (hA : RAir F' F2') (hO : AirOk F') (e : ∀ k, k = 0 ∨ 13 ≤ k → F' k = F k) (e2 : ∀ k, 12 ≤ k → F2' k = F2 k) : RX F' G F2' G2 := by
  refine RR_air hX hA hO ?_ e2
  intro k hk
  by_cases q : k = 0
  · rw [q, pk_us, pk_us]; exact e2 13 (by omega)
  · rw [pk_un q, pk_un q]; exact e k hk
/-- a minute's work at a thing -/
theorem workR {F : tF} {G : tG} {F2 : tF} {G2 : tG} {F' F2' : tF} {t c ra ra2 ta d kk : Nat} (hc : c ≤ 12) (hta : ta < 2 ^ c) (w1 : F 15 = F2 15) (w3 : F 17 = F2 17) (w4 : F 15 = nI c) (w6 : F 17 = nI ta) (w7 : ∀ t : Nat, t < c → RThing G G2 ra c t) (w8 : ∀ t : Nat, c ≤ t → t < 12 → G 10 t = 0 ∧ G 11 t = 0) (ht : t < c) (hr2 : ra2 < 2 ^ c) (hro : ∀ j, j ≠ t → ra2.testBit j = ra.testBit j) (hrt : ra2.testBit t = true ↔ d + 1 = kk) (hd : G 10 t = nI d) (hk : G 8 t = nI kk) (hdk : d + 1 ≤ kk) (hkk : kk ≤ 200) (e15 : F' 15 = F 15) (u15 : F2' 15 = F2 15) (e17 : F' 17 = F 17) (u17 : F2' 17 = F2 17) (e16 : F' 16 = nI ra2) (u16 : F2' 16 = nI ra2) : RWreck F' (stG G 10 (nI t) (G 10 t + 1)) F2' (stG G2 6 (nI (5 * t + 4)) (G2 6 (5 * t + 4) + 1)) := by
  have ct : (nI t).toNatClampNeg = t := nI_clamp (by omega)
  have c4 : (nI (5 * t + 4)).toNatClampNeg = 5 * t + 4 := nI_clamp (by omega)
  refine ⟨by rw [e15, u15, w1], by rw [e16, u16], by rw [e17, u17, w3], c, ra2, ta, hc, hr2, hta, by rw [e15, w4], e16, by rw [e17, w6], ?_, ?_⟩
  · intro j hj
    obtain ⟨s1, s2, s3, s4, s5, s6, w, o, k, d2, u, s7, s8, s9, s10, s11, s12, s13, s14, s15, s16, s17, s18⟩ := w7 j hj
    show G 6 j = upd (G2 6) (nI (5 * t + 4)).toNatClampNeg (G2 6 (5 * t + 4) + 1) (5 * j) ∧ G 7 j = upd (G2 6) (nI (5 * t + 4)).toNatClampNeg (G2 6 (5 * t + 4) + 1) (5 * j + 1) ∧ G 8 j = upd (G2 6) (nI (5 * t + 4)).toNatClampNeg (G2 6 (5 * t + 4) + 1) (5 * j + 2) ∧ G 9 j = upd (G2 6) (nI (5 * t + 4)).toNatClampNeg (G2 6 (5 * t + 4) + 1) (5 * j + 3) ∧ upd (G 10) (nI t).toNatClampNeg (G 10 t + 1) j = upd (G2 6) (nI (5 * t + 4)).toNatClampNeg (G2 6 (5 * t + 4) + 1) (5 * j + 4) ∧ G 11 j = G2 7 j ∧ (∃ w o k d u : Nat, w ≤ 1000 ∧ o ≤ 100 ∧ 1 ≤ k ∧ k ≤ 200 ∧ d ≤ k ∧ u < 2 ^ c ∧ G 7 j = nI w ∧ G 9 j = nI o ∧ G 8 j = nI k ∧ upd (G 10) (nI t).toNatClampNeg (G 10 t + 1) j = nI d ∧ G 11 j = nI u ∧ (ra2.testBit j = true ↔ d = k))
    rw [ct, c4, pk_un (show 5 * j ≠ 5 * t + 4 by omega), pk_un (show 5 * j + 1 ≠ 5 * t + 4 by omega), pk_un (show 5 * j + 2 ≠ 5 * t + 4 by omega), pk_un (show 5 * j + 3 ≠ 5 * t + 4 by omega)]
    by_cases e : j = t
    · subst e
      have ek : k = kk := (nI_eq (by omega) (by omega)).1 (s15.symm.trans hk)
      rw [pk_us, pk_us]
      refine ⟨s1, s2, s3, s4, by rw [s5], s6, w, o, kk, d + 1, u, s7, s8, by omega, hkk, hdk, s12, s13, s14, hk, ?_, s17, hrt⟩
      rw [hd]; exact nI_1 d
    · rw [pk_un e, pk_un (show 5 * j + 4 ≠ 5 * t + 4 by omega)]
      refine ⟨s1, s2, s3, s4, s5, s6, w, o, k, d2, u, s7, s8, s9, s10, s11, s12, s13, s14, s15, s16, s17, ?_⟩
      rw [hro j e]; exact s18
  · intro j hj hj2
    show upd (G 10) (nI t).toNatClampNeg (G 10 t + 1) j = 0 ∧ G 11 j = 0
    rw [ct, pk_un (show j ≠ t by omega)]
    exact w8 j hj hj2
theorem or_0 (a : Nat) : nI a ||| 0 = nI a := by
  have e : (0 : Int32) = nI 0 := rfl
  rw [e, fa_or, Nat.or_zero]
theorem toilX {F : tF} {G : tG} {F2 : tF} {G2 : tG} (hX : RX F G F2 G2) {k : Nat} (hk : k < 6) (h1 : G 1 k = G2 1 k) : ∃ (F' : tF) (G' : tG) (F2' : tF) (G2' : tG), p_X7_toil F G (nI k) = some (F', G') ∧ p_X8_labour F2 G2 (nI k) = some (F2', G2') ∧ RX F' G' F2' G2' ∧ F' 0 = F 0 ∧ F' 9 = F 9 ∧ F' 10 = F 10 ∧ F2' 13 = F2 13 := by
  obtain ⟨hA, hO, hM, hW', hT, hL, hB, hP⟩ := id hX
  have hW : RWreck F G F2 G2 := hW'
  obtain ⟨w1, w2, w3, c, ra, ta, hc, hra, hta, w4, w5, w6, w7, w8⟩ := id hW
  obtain ⟨r0, r1, r2, r3, r4, r5'⟩ := hM.2.2.2.2.1 k hk
  have r5 : G 4 k = -6 ∨ ∃ t : Nat, nI t < F 15 ∧ t < 12 ∧ G 4 k = nI t := r5'
  have i1 : inB (nI k) 6 = true := inBT (by omega) (by omega)
  have ecl : (nI k).toNatClampNeg = k := nI_clamp (by omega)
  have p12 := pow12 hc
  unfold p_X7_toil p_X8_labour
  rcases r5 with q | ⟨t, t1, t2, q⟩
  · have n0 : (-6 : Int32) < 0 := by decide
    simp only [i1, oguardT, ecl, pletE, ← r4, q, has7, withinIf, if_pos n0, bi1S, bi2S, if_pos (rfl : (0 : Int32) = 0)]
    exact ⟨F, G, F2, G2, rfl, rfl, hX, rfl, rfl, rfl, rfl⟩
  · have ht : t < c := by
      rw [w4] at t1
      exact (nI_ltI (by omega) (by omega)).1 t1
    have hh : p_X6_has F (nI t) = some 1 := by
      have e : F 15 - 1 = nI (c - 1) := by rw [w4]; exact pk_sub (b := 1) (by omega)
      rw [has7, withinV, if_neg (nI_pos (by omega)), e, if_neg (nI_nlt (by omega) (by omega))]
    obtain ⟨g1, g2, g3, g4, g5, g6, w, o, kk, d, u, s7, s8, s9, s10, s11, s12, s13, s14, s15, s16, s17, s18⟩ := w7 t ht
    have x0 : 5 * nI t = nI (5 * t) := pk_mul 5 t
    have x4 : nI (5 * t) + 4 = nI (5 * t + 4) := nI_add _ 4
    have x2 : nI (5 * t) + 2 = nI (5 * t + 2) := nI_add _ 2
    have it : inB (nI t) 12 = true := inBT (by omega) (by omega)
    have ct : (nI t).toNatClampNeg = t := nI_clamp (by omega)
    have j0 : inB (nI (5 * t)) 60 = true := inBT (by omega) (by omega)
    have j2 : inB (nI (5 * t + 2)) 60 = true := inBT (by omega) (by omega)
    have j4 : inB (nI (5 * t + 4)) 60 = true := inBT (by omega) (by omega)
    have c0 : (nI (5 * t)).toNatClampNeg = 5 * t := nI_clamp (by omega)
    have c2 : (nI (5 * t + 2)).toNatClampNeg = 5 * t + 2 := nI_clamp (by omega)
    have c4 : (nI (5 * t + 4)).toNatClampNeg = 5 * t + 4 := nI_clamp (by omega)
    have nt : ¬ nI t < 0 := nI_pos (by omega)
    have f7 : p_X6_isFree F G (nI t) = some (if (G 11 t &&& (F 16 ^^^ (-1))) = 0 then 1 else 0) := by
      unfold p_X6_isFree
      rw [it, oguardT, ct]
      by_cases z : (G 11 t &&& (F 16 ^^^ (-1))) = 0
      · rw [if_pos z, if_pos z]; rfl
      · rw [if_neg z, if_neg z]; rfl
    have f8 : p_X8_isFree F2 G2 (nI t) = some (if (G 11 t &&& (F 16 ^^^ (-1))) = 0 then 1 else 0) := by
      unfold p_X8_isFree
      rw [it, oguardT, ct, ← g6, ← w2]
      by_cases z : (G 11 t &&& (F 16 ^^^ (-1))) = 0
      · rw [if_pos z, if_pos z]; rfl
      · rw [if_neg z, if_neg z]; rfl
    unfold p_X6_canBeWorked p_X7_bit
    simp only [i1, oguardT, ecl, pletE, ← r4, q, hh, bi1S, if_neg one_nz, it, ct, if_neg nt, x0, j0, c0, ← g1, ← h1, f7, f8, ← w2, ← w3]
    by_cases e6 : G 6 t = G 1 k
    · by_cases ef : (G 11 t &&& (F 16 ^^^ (-1))) = 0
      · by_cases eb : ((F 16 ||| F 17) >>> (nI t &&& 31)) &&& 1 = 0
        · have hbit : (ra ||| ta).testBit t = false := by
            rw [w5, w6, fa_or] at eb
            exact (bitZ (Nat.lt_of_lt_of_le (Nat.or_lt_two_pow hra hta) (by omega)) (by omega)).1 eb
          have hrt : ra.testBit t = false := by
            rw [Nat.testBit_or, Bool.or_eq_false_iff] at hbit
            exact hbit.1
          have hdk : d + 1 ≤ kk := by
            have z : ¬ d = kk := fun z => by rw [s18.2 z] at hrt; exact absurd hrt (by decide)
            omega
          have v7 : stG G 10 (nI t) (G 10 t + 1) 10 t = nI (d + 1) := by
            show upd (G 10) (nI t).toNatClampNeg (G 10 t + 1) t = _
            rw [ct, pk_us, s16]; exact nI_1 d
          have v8 : stG G 10 (nI t) (G 10 t + 1) 8 t = nI kk := s15
          have v4 : stG G2 6 (nI (5 * t + 4)) (G2 6 (5 * t + 4) + 1) 6 (5 * t + 4) = nI (d + 1) := by
            show upd (G2 6) (nI (5 * t + 4)).toNatClampNeg (G2 6 (5 * t + 4) + 1) (5 * t + 4) = _
            rw [c4, pk_us, ← g5, s16]; exact nI_1 d
          have v2 : stG G2 6 (nI (5 * t + 4)) (G2 6 (5 * t + 4) + 1) 6 (5 * t + 2) = nI kk := by
            show upd (G2 6) (nI (5 * t + 4)).toNatClampNeg (G2 6 (5 * t + 4) + 1) (5 * t + 2) = _
            rw [c4, pk_un (by omega), ← g3, s15]
          unfold p_X6_workMinute
          simp only [if_pos e6, if_pos ef, if_neg one_nz, if_pos eb, bi1S, show btB 1 = true from rfl, oguardT, it, ct, pletE, v7, v8, x4, x2, j4, j2, c4, c2, v4, v2]
          by_cases ed : d + 1 = kk
          · have n1 : ¬ nI (d + 1) < nI kk := nI_nlt (by omega) (by omega)
            have n2 : nI (d + 1) = nI kk := by rw [ed]
            have hpt : 2 ^ t < 2 ^ c := Nat.pow_lt_pow_right (by omega) ht
            have en : F 16 ||| (1 : Int32) <<< (nI t &&& 31) = nI (ra ||| 2 ^ t) := by rw [w5]; exact bitIn (by omega)
            simp only [if_neg n1, if_pos n2, bi1S, bi2S]
            refine ⟨_, _, _, _, rfl, rfl, ⟨hA, hO, hM, ?_, hT, hL, hB, Or.inl rfl⟩, rfl, rfl, rfl, rfl⟩
            refine workR (ra := ra) (ra2 := ra ||| 2 ^ t) (d := d) (kk := kk) hc hta w1 w3 w4 w6 w7 w8 ht (Nat.or_lt_two_pow hra hpt) ?_ ?_ s16 s15 hdk s10 rfl rfl rfl rfl en en
            · intro j hj
              rw [Nat.testBit_or, Nat.testBit_two_pow_of_ne (fun z => hj z.symm), Bool.or_false]
            · rw [Nat.testBit_or, Nat.testBit_two_pow_self, Bool.or_true]
              exact ⟨fun _ => ed, fun _ => rfl⟩
          · have n1 : nI (d + 1) < nI kk := nI_lt (by omega) (by omega)
            have n2 : ¬ nI (d + 1) = nI kk := fun z => ed ((nI_eq (by omega) (by omega)).1 z)
            have en : F 16 ||| 0 = nI ra := by rw [w5]; exact or_0 ra
            simp only [if_pos n1, if_neg n2, bi1S, bi2S]
            refine ⟨_, _, _, _, rfl, rfl, ⟨hA, hO, hM, ?_, hT, hL, hB, Or.inl rfl⟩, rfl, rfl, rfl, rfl⟩
            refine workR (ra := ra) (ra2 := ra) (d := d) (kk := kk) hc hta w1 w3 w4 w6 w7 w8 ht hra (fun _ _ => rfl) ?_ s16 s15 hdk s10 rfl rfl rfl rfl w5 en
            rw [hrt]
            exact ⟨fun z => absurd z (by decide), fun z => absurd z ed⟩
        · simp only [if_pos e6, if_pos ef, if_neg one_nz, if_neg eb, bi1S, show btB 0 = true from rfl, oguardT, if_pos (rfl : (0 : Int32) = 0), bi2S]
          exact ⟨F, G, F2, G2, rfl, rfl, hX, rfl, rfl, rfl, rfl⟩
      · simp only [if_pos e6, if_neg ef, bi1S, show btB 0 = true from rfl, oguardT, if_pos (rfl : (0 : Int32) = 0), bi2S]
        exact ⟨F, G, F2, G2, rfl, rfl, hX, rfl, rfl, rfl, rfl⟩
    · simp only [if_neg e6, bi1S, if_pos (rfl : (0 : Int32) = 0), bi2S]
      exact ⟨F, G, F2, G2, rfl, rfl, hX, rfl, rfl, rfl, rfl⟩
