/-! best: hope and toil of a set, whole sets, the choice -/
def hpS (f : Nat → Nat) (S : Nat) : Nat → Nat
  | 0 => 0
  | t + 1 => hpS f S t + if S.testBit t = true then f t else 0
theorem hpS_le {f : Nat → Nat} {S m : Nat} : ∀ c, (∀ t, t < c → f t ≤ m) → hpS f S c ≤ c * m
  | 0, _ => by rw [hpS]; omega
  | c + 1, h => by
    have ih := hpS_le (f := f) (S := S) (m := m) c (fun t ht => h t (by omega))
    have w := h c (by omega)
    rw [hpS, Nat.add_mul, Nat.one_mul]
    by_cases q : S.testBit c = true
    · rw [if_pos q]; omega
    · rw [if_neg q]; omega
theorem hpS_0 {f : Nat → Nat} : ∀ c, hpS f 0 c = 0
  | 0 => rfl
  | c + 1 => by rw [hpS, hpS_0 c, Nat.zero_testBit, if_neg (by decide)]
theorem hope7_L {F : tF} {G : tG} {c ra ta k : Nat} {wo od r U L : Nat → Nat} (hD : DTok c ra ta k wo od r U L) (hC : DCl F G c ra ta k wo od r U L) {S : Nat} (hS : S < 4096) (K : Int32 → Int32 → Option Int32) : ∀ d i kk, i + d = c → d < kk → p_X4_hopeOf_L4 F G (nI S) K kk (nI i) (nI (hpS (fun t => wo t * od t) S i)) = K (nI c) (nI (hpS (fun t => wo t * od t) S c))
  | 0, i, kk, hi, hd => by
    obtain ⟨kk, rfl⟩ : ∃ q, kk = q + 1 := ⟨kk - 1, by omega⟩
    have e : i = c := by omega
    subst e
    rw [p_X4_hopeOf_L4, hC.1, if_pos (nI_le (Nat.le_refl _) (by have := hD.1; omega))]
  | d + 1, i, kk, hi, hd => by
    obtain ⟨kk, rfl⟩ : ∃ q, kk = q + 1 := ⟨kk - 1, by omega⟩
    have d1 := hD.1
    obtain ⟨e1, e2, e3, e4⟩ := hC.2.2.2.2.1 i (by omega)
    have ih := hope7_L hD hC hS K d (i + 1) kk (by omega) (by omega)
    rw [p_X4_hopeOf_L4, hC.1, if_neg (nI_ge (by omega) (by omega))]
    unfold p_X7_bit
    rw [bi1S]
    by_cases q : S.testBit i = true
    · rw [if_pos ((bitO (by omega) (by omega)).2 q), inBT (by omega) (by omega), oguardT, oguardT, nI_clamp (by omega), e1, e2, pk_mul, nI_add, pletE, bi1S, pletE, nI_1]
      rw [hpS, if_pos q] at ih
      exact ih
    · rw [if_neg (fun z => q ((bitO (by omega) (by omega)).1 z)), bi1S, pletE, nI_1]
      rw [hpS, if_neg q] at ih
      exact ih
theorem toil7_L {F : tF} {G : tG} {c ra ta k : Nat} {wo od r U L : Nat → Nat} (hD : DTok c ra ta k wo od r U L) (hC : DCl F G c ra ta k wo od r U L) {S : Nat} (hS : S < 4096) (K : Int32 → Int32 → Option Int32) : ∀ d i kk, i + d = c → d < kk → p_X4_toilOf_L4 F G (nI S) K kk (nI i) (nI (hpS r S i)) = K (nI c) (nI (hpS r S c))
  | 0, i, kk, hi, hd => by
    obtain ⟨kk, rfl⟩ : ∃ q, kk = q + 1 := ⟨kk - 1, by omega⟩
    have e : i = c := by omega
    subst e
    rw [p_X4_toilOf_L4, hC.1, if_pos (nI_le (Nat.le_refl _) (by have := hD.1; omega))]
  | d + 1, i, kk, hi, hd => by
    obtain ⟨kk, rfl⟩ : ∃ q, kk = q + 1 := ⟨kk - 1, by omega⟩
    have d1 := hD.1
    obtain ⟨e1, e2, e3, e4⟩ := hC.2.2.2.2.1 i (by omega)
    have ih := toil7_L hD hC hS K d (i + 1) kk (by omega) (by omega)
    rw [p_X4_toilOf_L4, hC.1, if_neg (nI_ge (by omega) (by omega))]
    unfold p_X7_bit
    rw [bi1S]
    by_cases q : S.testBit i = true
    · rw [if_pos ((bitO (by omega) (by omega)).2 q), left7 (r := r) (by omega) e3, bi1S, nI_add, pletE, bi1S, pletE, nI_1]
      rw [hpS, if_pos q] at ih
      exact ih
    · rw [if_neg (fun z => q ((bitO (by omega) (by omega)).1 z)), bi1S, pletE, nI_1]
      rw [hpS, if_neg q] at ih
      exact ih
theorem hope8_L {F : tF} {G : tG} {c ra ta k : Nat} {wo od r U L : Nat → Nat} (hD : DTok c ra ta k wo od r U L) (hC : DRf F G c ra ta k wo od r U L) {S : Nat} (hS : S < 4096) (K : Int32 → Int32 → Option Int32) : ∀ d i kk, i + d = c → d < kk → p_X8_hopeOf_L4 F G (nI S) K kk (nI i) (nI (hpS (fun t => wo t * od t) S i)) = K (nI c) (nI (hpS (fun t => wo t * od t) S c))
  | 0, i, kk, hi, hd => by
    obtain ⟨kk, rfl⟩ : ∃ q, kk = q + 1 := ⟨kk - 1, by omega⟩
    have e : i = c := by omega
    subst e
    rw [p_X8_hopeOf_L4, hC.1, if_pos (nI_le (Nat.le_refl _) (by have := hD.1; omega))]
  | d + 1, i, kk, hi, hd => by
    obtain ⟨kk, rfl⟩ : ∃ q, kk = q + 1 := ⟨kk - 1, by omega⟩
    have d1 := hD.1
    obtain ⟨e1, e2, e3, e4⟩ := hC.2.2.2.2.1 i (by omega)
    have ih := hope8_L hD hC hS K d (i + 1) kk (by omega) (by omega)
    have x1 : (5 : Int32) * nI i + 1 = nI (5 * i + 1) := ix5 (j := 1)
    have x3 : (5 : Int32) * nI i + 3 = nI (5 * i + 3) := ix5 (j := 3)
    have ci1 : (nI (5 * i + 1)).toNatClampNeg = 5 * i + 1 := nI_clamp (by omega)
    have ci3 : (nI (5 * i + 3)).toNatClampNeg = 5 * i + 3 := nI_clamp (by omega)
    rw [p_X8_hopeOf_L4, hC.1, if_neg (nI_ge (by omega) (by omega)), x1, x3, inBT (by omega) (by omega), inBT (by omega) (by omega), oguardT, oguardT, ci1, ci3, e1, e2, bitV (by omega) (by omega), pk_mul, pk_mul, nI_add, pletE, pletE, nI_1]
    by_cases q : S.testBit i = true
    · rw [hpS, if_pos q] at ih
      rw [bitT.1 q, Nat.one_mul]
      exact ih
    · have qf : S.testBit i = false := by
        cases h : S.testBit i with
        | true => exact absurd h q
        | false => rfl
      rw [hpS, if_neg q] at ih
      rw [bitF.1 qf, Nat.zero_mul, Nat.zero_mul]
      exact ih
theorem work8_L {F : tF} {G : tG} {c ra ta k : Nat} {wo od r U L : Nat → Nat} (hD : DTok c ra ta k wo od r U L) (hC : DRf F G c ra ta k wo od r U L) {S : Nat} (hS : S < 4096) (K : Int32 → Int32 → Option Int32) : ∀ d i kk, i + d = c → d < kk → p_X8_workOfSet_L4 F G (nI S) K kk (nI i) (nI (hpS r S i)) = K (nI c) (nI (hpS r S c))
  | 0, i, kk, hi, hd => by
    obtain ⟨kk, rfl⟩ : ∃ q, kk = q + 1 := ⟨kk - 1, by omega⟩
    have e : i = c := by omega
    subst e
    rw [p_X8_workOfSet_L4, hC.1, if_pos (nI_le (Nat.le_refl _) (by have := hD.1; omega))]
  | d + 1, i, kk, hi, hd => by
    obtain ⟨kk, rfl⟩ : ∃ q, kk = q + 1 := ⟨kk - 1, by omega⟩
    have d1 := hD.1
    obtain ⟨e1, e2, e3, e4⟩ := hC.2.2.2.2.1 i (by omega)
    have ih := work8_L hD hC hS K d (i + 1) kk (by omega) (by omega)
    rw [p_X8_workOfSet_L4, hC.1, if_neg (nI_ge (by omega) (by omega)), left8 (r := r) (by omega) e3, bi1S, bitV (by omega) (by omega), pk_mul, nI_add, pletE, pletE, nI_1]
    by_cases q : S.testBit i = true
    · rw [hpS, if_pos q] at ih
      rw [bitT.1 q, Nat.one_mul]
      exact ih
    · have qf : S.testBit i = false := by
        cases h : S.testBit i with
        | true => exact absurd h q
        | false => rfl
      rw [hpS, if_neg q] at ih
      rw [bitF.1 qf, Nat.zero_mul]
      exact ih
theorem whole7_L {F : tF} {G : tG} {c ra ta k : Nat} {wo od r U L : Nat → Nat} (hD : DTok c ra ta k wo od r U L) (hC : DCl F G c ra ta k wo od r U L) {S : Nat} (hS : S < 2 ^ c) : ∀ d i kk, i + d = c → d < kk → (∀ t, t < i → S.testBit t = true → ∀ j, (U t).testBit j = true → ra.testBit j = true ∨ S.testBit j = true) → (whoE ra U S → p_X6_isWhole_L2 F G (nI S) (fun _ => some 1) kk (nI i) = some 1) ∧ (¬ whoE ra U S → p_X6_isWhole_L2 F G (nI S) (fun _ => some 1) kk (nI i) = some 0)
  | 0, i, kk, hi, hd, hb => by
    obtain ⟨kk, rfl⟩ : ∃ q, kk = q + 1 := ⟨kk - 1, by omega⟩
    have e : i = c := by omega
    subst e
    rw [p_X6_isWhole_L2, hC.1, if_pos (nI_le (Nat.le_refl _) (by have := hD.1; omega))]
    exact ⟨fun _ => rfl, fun z => absurd (fun t ht => hb t (bit_hi hS ht) ht) z⟩
  | d + 1, i, kk, hi, hd, hb => by
    obtain ⟨kk, rfl⟩ : ∃ q, kk = q + 1 := ⟨kk - 1, by omega⟩
    have d1 := hD.1
    have p12 := pow12 d1
    obtain ⟨e1, e2, e3, e4⟩ := hC.2.2.2.2.1 i (by omega)
    obtain ⟨u1, u2, u3, u4⟩ := hD.2.2.2.2.1 i (by omega)
    have wz := who0I (u := U i) (ra := ra) (s := S) (by omega)
    have ih := whole7_L hD hC hS d (i + 1) kk (by omega) (by omega)
    rw [p_X6_isWhole_L2, hC.1, if_neg (nI_ge (by omega) (by omega))]
    unfold p_X7_bit
    rw [bi1S]
    by_cases q : S.testBit i = true
    · rw [if_pos ((bitO (by omega) (by omega)).2 q), inBT (by omega) (by omega), oguardT, nI_clamp (by omega), e4, hC.2.1]
      by_cases w : (nI (U i) &&& (nI ra ^^^ (-1))) &&& (nI S ^^^ (-1)) = 0
      · rw [if_pos w, pletE, nI_1]
        refine ih ?_
        intro t ht hst
        by_cases e : t = i
        · rw [e]; exact wz.1 w
        · exact hb t (by omega) hst
      · rw [if_neg w]
        exact ⟨fun z => absurd (wz.2 (z i q)) w, fun _ => rfl⟩
    · rw [if_neg (fun z => q ((bitO (by omega) (by omega)).1 z)), pletE, nI_1]
      refine ih ?_
      intro t ht hst
      by_cases e : t = i
      · rw [e] at hst; exact absurd hst q
      · exact hb t (by omega) hst
def CHvx (F0 H0 : tF) (c ra : Nat) (U r hw lp : Nat → Nat) (b : Nat) (F H : tF) : Prop := (∀ j, j ≠ 21 → j ≠ 22 → F j = F0 j) ∧ F 21 = nI (hpS hw b c) ∧ F 22 = nI (hpS r b c) ∧ (∀ j, j ≠ 21 → H j = H0 j) ∧ H 21 = nI b ∧ b < 2 ^ c ∧ (b = 0 ∨ (0 < lp b ∧ whoE ra U b))
theorem choose_L {n m : Nat} (hn : 5000 ≤ n) (hm : 5000 ≤ m) {F0 : tF} {G : tG} {H0 : tF} {G2 : tG} {c ra ta k : Nat} {wo od r U L lp E : Nat → Nat} (hD : DTok c ra ta k wo od r U L) (hC : DCl F0 G c ra ta k wo od r U L) (hR : DRf H0 G2 c ra ta k wo od r U L) (hl : LPok c ra ta k U r L lp (2 ^ c)) (hE : ENok c ra ta k U r L 0 0 E) (h15 : ∀ T, T < 2 ^ c → G 15 T = encP (lp T)) (h16 : ∀ T, T < 2 ^ c → G2 16 T = nI (rfM (E T))) (K : Int32 → Int32 → tF → Option (Int32 × tF × tG)) (K2 : Int32 → tF → Option (tF × tG)) : ∀ d s kk kk2 b F H, s + d = 2 ^ c → d < kk → d < kk2 → 1 ≤ s → CHvx F0 H0 c ra U r (fun t => wo t * od t) lp b F H → ∃ b' F' H', p_X4_chooseSet_L14 n G K kk (nI s) (nI b) F = K (nI (2 ^ c)) (nI b') F' ∧ p_X8_layBest_L13 m G2 K2 kk2 (nI s) H = K2 (nI (2 ^ c)) H' ∧ CHvx F0 H0 c ra U r (fun t => wo t * od t) lp b' F' H' := by
  obtain ⟨d1, d2, d3, d4, d5, d6⟩ := id hD
  have p12 := pow12 d1
  have hpb : ∀ S, hpS (fun t => wo t * od t) S c ≤ 1200000 := by
    intro S
    have w := hpS_le (f := fun t => wo t * od t) (S := S) (m := 100000) c (fun t ht => by
      obtain ⟨u1, u2, -⟩ := d5 t ht
      show wo t * od t ≤ 100000
      have := Nat.mul_le_mul u1 u2
      omega)
    have w2 : c * 100000 ≤ 12 * 100000 := Nat.mul_le_mul d1 (Nat.le_refl _)
    omega
  have tlb : ∀ S, hpS r S c ≤ 2400 := by
    intro S
    have w := hpS_le (f := r) (S := S) (m := 200) c (fun t ht => (d5 t ht).2.2.1)
    have w2 : c * 200 ≤ 12 * 200 := Nat.mul_le_mul d1 (Nat.le_refl _)
    omega
  intro d
  induction d with
  | zero =>
    intro s kk kk2 b F H hs hd hd2 h1 hI
    obtain ⟨kk, rfl⟩ : ∃ q, kk = q + 1 := ⟨kk - 1, by omega⟩
    obtain ⟨kk2, rfl⟩ : ∃ q, kk2 = q + 1 := ⟨kk2 - 1, by omega⟩
    obtain ⟨i1, i2, i3, i4, i5, i6, i7⟩ := id hI
    have e : s = 2 ^ c := by omega
    rw [e]
    refine ⟨b, F, H, ?_, ?_, hI⟩
    · rw [p_X4_chooseSet_L14, i1 15 (by omega) (by omega), hC.1, bit1c d1, if_pos (nI_le (Nat.le_refl _) (by omega))]
    · rw [p_X8_layBest_L13, i4 15 (by omega), hR.1, bit1c d1, if_pos (nI_le (Nat.le_refl _) (by omega))]
  | succ d ih =>
    intro s kk kk2 b F H hs hd hd2 h1 hI
    obtain ⟨kk, rfl⟩ : ∃ q, kk = q + 1 := ⟨kk - 1, by omega⟩
    obtain ⟨kk2, rfl⟩ : ∃ q, kk2 = q + 1 := ⟨kk2 - 1, by omega⟩
    obtain ⟨i1, i2, i3, i4, i5, i6, i7⟩ := id hI
    have hsc : s < 2 ^ c := by omega
    have hCF : DCl F G c ra ta k wo od r U L := DCl_cg hC (fun j _ _ _ => i1 j (by omega) (by omega)) (fun _ _ _ => rfl)
    have hRH : DRf H G2 c ra ta k wo od r U L := DRf_cg hR (fun j _ _ => i4 j (by omega)) (fun _ _ _ => rfl)
    have A := en_0 d1 d4 d6 hl hE (S := s) (by omega) hsc
    have lpl := lp_le d4 d6 hl hsc
    have Ev := rf_b d4 d6 (hE.2.1 s hsc (by omega))
    have is : inB (nI s) 4096 = true := inBT (by omega) (by omega)
    have cs : (nI s).toNatClampNeg = s := nI_clamp (by omega)
    obtain ⟨wh1, wh2⟩ := whole7_L hD hCF hsc c 0 n (by omega) (by omega) (fun t ht => absurd ht (by omega))
    have ho7 : p_X4_hopeOf n F G (nI s) = some (nI (hpS (fun t => wo t * od t) s c)) := hope7_L hD hCF (by omega) (fun _ z => some z) c 0 n (by omega) (by omega)
    have to7 : p_X4_toilOf n F G (nI s) = some (nI (hpS r s c)) := toil7_L hD hCF (by omega) (fun _ z => some z) c 0 n (by omega) (by omega)
    have ho8 : ∀ S, S < 4096 → p_X8_hopeOf m H G2 (nI S) = some (nI (hpS (fun t => wo t * od t) S c)) := fun S hS => hope8_L hD hRH hS (fun _ z => some z) c 0 m (by omega) (by omega)
    have to8 : ∀ S, S < 4096 → p_X8_workOfSet m H G2 (nI S) = some (nI (hpS r S c)) := fun S hS => work8_L hD hRH hS (fun _ z => some z) c 0 m (by omega) (by omega)
    have bs := hpb s
    have bb := hpb b
    have ts := tlb s
    have tb := tlb b
    rw [p_X4_chooseSet_L14, hCF.1, bit1c d1, if_neg (nI_ge hsc (by omega)), is, oguardT, cs, h15 s hsc, p_X8_layBest_L13, hRH.1, bit1c d1, if_neg (nI_ge hsc (by omega)), is, oguardT, cs, h16 s hsc]
    by_cases hA : E s < 100000
    · obtain ⟨A1, A2⟩ := A.1 hA
      have g1 : ¬ (100000 : Int32) ≤ nI (rfM (E s)) := nI_ge (b := 100000) (by have := mt Ev.2.1 (by omega); omega) (by omega)
      have g2 : ¬ encP (lp s) = -1 := fun z => by have := (encP_m1 (by omega)).1 z; omega
      have whv : p_X6_isWhole n F G (nI s) = some 1 := wh1 A2
      rw [if_neg g1, if_neg g2, whv, bi1S, if_neg one_nz, ho7, bi1S, to7, bi1S, i2, i3, i5, ho8 s (by omega), bi1S, ho8 b (by omega), bi1S, nI_1]
      simp only [pletE]
      have hnew : CHvx F0 H0 c ra U r (fun t => wo t * od t) lp s (upd (upd F 21 (nI (hpS (fun t => wo t * od t) s c))) 22 (nI (hpS r s c))) (upd H 21 (nI s)) := by
        refine ⟨?_, rfl, rfl, ?_, rfl, hsc, Or.inr ⟨A1, A2⟩⟩
        · intro j j1 j2
          rw [pk_un j2, pk_un j1]; exact i1 j j1 j2
        · intro j j1
          rw [pk_un j1]; exact i4 j j1
      have hold : CHvx F0 H0 c ra U r (fun t => wo t * od t) lp b F (upd H 21 (nI b)) := by
        refine ⟨i1, i2, i3, ?_, rfl, i6, i7⟩
        intro j j1
        rw [pk_un j1]; exact i4 j j1
      have sgn : ((0 : Int32) < nI (hpS (fun t => wo t * od t) s c) - nI (hpS (fun t => wo t * od t) b c) ↔ hpS (fun t => wo t * od t) b c < hpS (fun t => wo t * od t) s c) ∧ (nI (hpS (fun t => wo t * od t) s c) - nI (hpS (fun t => wo t * od t) b c) = 0 ↔ hpS (fun t => wo t * od t) s c = hpS (fun t => wo t * od t) b c) := by
        have e := pk_sub_toInt (a := hpS (fun t => wo t * od t) s c) (b := hpS (fun t => wo t * od t) b c) (by omega) (by omega)
        have z0 : (0 : Int32).toInt = 0 := rfl
        refine ⟨?_, ?_⟩
        · rw [Int32.lt_iff_toInt_lt, e, z0]; omega
        · rw [← Int32.toInt_inj, e, z0]; omega
      generalize hpS (fun t => wo t * od t) s c = hs1 at *
      generalize hpS (fun t => wo t * od t) b c = hb1 at *
      by_cases q1 : hb1 < hs1
      · rw [if_pos (nI_lt q1 (by omega)), if_pos (sgn.1.2 q1), bi2S, bi1S, bi1S]
        exact ih (s + 1) kk kk2 s _ _ (by omega) (by omega) (by omega) (by omega) hnew
      · rw [if_neg (nI_nlt (by omega) (by omega)), if_neg (fun z => q1 (sgn.1.1 z))]
        by_cases q2 : hs1 = hb1
        · rw [if_pos ((nI_eq (by omega) (by omega)).2 q2), if_pos (sgn.2.2 q2), to8 s (by omega), bi1S, to8 b (by omega), bi1S]
          by_cases q3 : hpS r b c ≤ hpS r s c
          · have z := nI_le q3 (by omega)
            rw [if_pos z, if_pos z, bi2S, bi1S, bi1S]
            exact ih (s + 1) kk kk2 b _ _ (by omega) (by omega) (by omega) (by omega) hold
          · have z : ¬ nI (hpS r b c) ≤ nI (hpS r s c) := nI_ge (by omega) (by omega)
            rw [if_neg z, if_neg z, bi2S, bi1S, bi1S]
            exact ih (s + 1) kk kk2 s _ _ (by omega) (by omega) (by omega) (by omega) hnew
        · rw [if_neg (fun z => q2 ((nI_eq (by omega) (by omega)).1 z)), if_neg (fun z => q2 (sgn.2.1 z)), bi2S, bi1S, bi1S]
          exact ih (s + 1) kk kk2 b _ _ (by omega) (by omega) (by omega) (by omega) hold
    · have g1 : (100000 : Int32) ≤ nI (rfM (E s)) := nI_le (a := 100000) (Ev.2.2 hA) (by omega)
      rw [if_pos g1, bi1S, pletE, nI_1]
      have skip : (if encP (lp s) = -1 then some (nI b, F) else bi1 (p_X6_isWhole n F G (nI s)) (fun x36 => (if x36 = 0 then some (nI b, F) else bi1 (p_X4_hopeOf n F G (nI s)) (fun x47 => bi1 (p_X4_toilOf n F G (nI s)) (fun x54 => (if (F 21) < x47 then plet (upd F 21 x47) (fun (F91 : tF) => plet (upd F91 22 x54) (fun (F97 : tF) => some (nI s, F97))) else (if x47 = (F 21) then (if (F 22) ≤ x54 then some (nI b, F) else plet (upd F 21 x47) (fun (F91 : tF) => plet (upd F91 22 x54) (fun (F97 : tF) => some (nI s, F97)))) else some (nI b, F)))))))) = some (nI b, F) := by
        by_cases z : lp s = 0
        · rw [if_pos ((encP_m1 (by omega)).2 z)]
        · have whv : p_X6_isWhole n F G (nI s) = some 0 := wh2 (fun y => hA (A.2 ⟨by omega, y⟩))
          rw [if_neg (fun y => z ((encP_m1 (by omega)).1 y)), whv, bi1S, if_pos rfl]
      rw [skip, bi2S, pletE]
      exact ih (s + 1) kk kk2 b F H (by omega) (by omega) (by omega) (by omega) hI
