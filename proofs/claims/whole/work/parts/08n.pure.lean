/-! best: the data, and the class's moments -/
def DTok (c ra ta k : Nat) (wo od r U L : Nat → Nat) : Prop := c ≤ 12 ∧ ra < 2 ^ c ∧ ta < 2 ^ c ∧ k ≤ 5 ∧ (∀ t, t < c → wo t ≤ 1000 ∧ od t ≤ 100 ∧ r t ≤ 200 ∧ U t < 2 ^ c) ∧ ∀ j, j < k → L j ≤ 300
def DCl (F : tF) (G : tG) (c ra ta k : Nat) (wo od r U L : Nat → Nat) : Prop := F 15 = nI c ∧ F 16 = nI ra ∧ F 17 = nI ta ∧ F 19 = nI k ∧ (∀ t, t < c → G 7 t = nI (wo t) ∧ G 9 t = nI (od t) ∧ G 8 t - G 10 t = nI (r t) ∧ G 11 t = nI (U t)) ∧ ∀ j, j < k → G 12 j = nI (L j)
def DRf (F2 : tF) (G2 : tG) (c ra ta k : Nat) (wo od r U L : Nat → Nat) : Prop := F2 15 = nI c ∧ F2 16 = nI ra ∧ F2 17 = nI ta ∧ F2 18 = nI k ∧ (∀ t, t < c → G2 6 (5 * t + 1) = nI (wo t) ∧ G2 6 (5 * t + 3) = nI (od t) ∧ G2 6 (5 * t + 2) - G2 6 (5 * t + 4) = nI (r t) ∧ G2 7 t = nI (U t)) ∧ ∀ j, j < k → G2 8 j = nI (L j)
theorem DCl_cg {F F' : tF} {G G' : tG} {c ra ta k : Nat} {wo od r U L : Nat → Nat} (h : DCl F G c ra ta k wo od r U L) (hF : ∀ j, 15 ≤ j → j ≤ 19 → j ≠ 18 → F' j = F j) (hG : ∀ j, 7 ≤ j → j ≤ 12 → G' j = G j) : DCl F' G' c ra ta k wo od r U L := by
  unfold DCl
  rw [hF 15 (by omega) (by omega) (by omega), hF 16 (by omega) (by omega) (by omega), hF 17 (by omega) (by omega) (by omega), hF 19 (by omega) (by omega) (by omega), hG 7 (by omega) (by omega), hG 8 (by omega) (by omega), hG 9 (by omega) (by omega), hG 10 (by omega) (by omega), hG 11 (by omega) (by omega), hG 12 (by omega) (by omega)]
  exact h
theorem DRf_cg {F F' : tF} {G G' : tG} {c ra ta k : Nat} {wo od r U L : Nat → Nat} (h : DRf F G c ra ta k wo od r U L) (hF : ∀ j, 15 ≤ j → j ≤ 18 → F' j = F j) (hG : ∀ j, 6 ≤ j → j ≤ 8 → G' j = G j) : DRf F' G' c ra ta k wo od r U L := by
  unfold DRf
  rw [hF 15 (by omega) (by omega), hF 16 (by omega) (by omega), hF 17 (by omega) (by omega), hF 18 (by omega) (by omega), hG 6 (by omega) (by omega), hG 7 (by omega) (by omega), hG 8 (by omega) (by omega)]
  exact h
/-- -1 for none, else the number less one -/
def encP (p : Nat) : Int32 := nI p - 1
def encE (y : Nat) : Int32 := if y = 100000 then -1 else nI y
theorem encP_s (p : Nat) : encP (p + 1) = nI p := nI_pred p
theorem encP_0 : encP 0 = -1 := by decide
theorem encP_pos {p : Nat} (h : 0 < p) : encP p = nI (p - 1) := by
  obtain ⟨q, rfl⟩ : ∃ q, p = q + 1 := ⟨p - 1, by omega⟩
  exact encP_s q
theorem encP_i {p : Nat} (h : p < 2 ^ 30) : (encP p).toInt = (p : Int) - 1 := pk_sub_toInt (b := 1) h (by omega)
theorem m1_i : (-1 : Int32).toInt = -1 := rfl
theorem encP_m1 {p : Nat} (h : p < 2 ^ 30) : encP p = -1 ↔ p = 0 := by
  refine ⟨fun q => ?_, fun q => by rw [q]; exact encP_0⟩
  have e := congrArg Int32.toInt q
  rw [encP_i h, m1_i] at e
  omega
theorem encP_lt {p q : Nat} (hp : p < 2 ^ 30) (hq : q < 2 ^ 30) : encP p < encP q ↔ p < q := by
  rw [Int32.lt_iff_toInt_lt, encP_i hp, encP_i hq]; omega
theorem encP_ltN {p q : Nat} (hp : p < 2 ^ 30) (hq : q < 2 ^ 30) : encP p < nI q ↔ ¬ q < p := by
  rw [Int32.lt_iff_toInt_lt, encP_i hp, nI_toInt (by omega)]; omega
theorem encP_mx {p q : Nat} (hp : p < 2 ^ 30) (hq : q < 2 ^ 30) : (if encP p < encP q then encP q else encP p) = encP (mxN p q) := by
  by_cases z : p < q
  · rw [if_pos ((encP_lt hp hq).2 z), mx_r (by omega)]
  · rw [if_neg (fun y => z ((encP_lt hp hq).1 y)), mx_l (by omega)]
theorem mx_lt {x a b : Nat} : x < mxN a b ↔ x < a ∨ x < b := by
  rcases Nat.lt_or_ge a b with q | q
  · rw [mx_r (Nat.le_of_lt q)]; omega
  · rw [mx_l q]; omega
theorem encE_m1 {y : Nat} (h : y ≤ 100000) : encE y = -1 ↔ y = 100000 := by
  unfold encE
  by_cases q : y = 100000
  · rw [if_pos q]; exact ⟨fun _ => q, fun _ => rfl⟩
  · rw [if_neg q]
    refine ⟨fun z => ?_, fun z => absurd z q⟩
    have e := congrArg Int32.toInt z
    rw [nI_toInt (by omega), m1_i] at e
    omega
theorem encE_n {y : Nat} (h : ¬ y = 100000) : encE y = nI y := if_neg h
theorem mom {b u : Nat} : nI b * 512 + nI u = nI (512 * b + u) := by
  have e : nI b * 512 = nI (b * 512) := pk_mul b 512
  rw [e, nI_add, Nat.mul_comm]
theorem x512 {x : Nat} (h : x < 2 ^ 31) : nI x / 512 = nI (x / 512) := pk_div (d := 512) h (by omega) (by omega)
theorem r512 {x : Nat} (h : x < 2 ^ 31) : nI x - nI x / 512 * 512 = nI (x % 512) := pk_rem (d := 512) h (by omega) (by omega)
theorem bit1c {c : Nat} (h : c ≤ 12) : (1 : Int32) <<< (nI c &&& 31) = nI (2 ^ c) := by
  have p := pow12 h
  have q := pk_shlN (n := 1) (nI c &&& 31) c (s_l c (by omega)) (by rw [Nat.one_mul]; omega)
  rw [Nat.one_mul] at q
  exact q
theorem and0 {a b : Nat} : a &&& b = 0 ↔ ∀ i, a.testBit i = true → b.testBit i = false := by
  refine ⟨fun h i q => ?_, fun h => ?_⟩
  · have e := congrArg (fun z => Nat.testBit z i) h
    have e : (a &&& b).testBit i = (0 : Nat).testBit i := e
    rw [Nat.testBit_and, q, Nat.zero_testBit, Bool.true_and] at e
    exact e
  · apply Nat.eq_of_testBit_eq
    intro i
    rw [Nat.testBit_and, Nat.zero_testBit]
    cases q : a.testBit i with
    | false => rfl
    | true => rw [h i q]; rfl
theorem and0I {a b : Nat} (ha : a < 4096) : nI a &&& nI b = 0 ↔ ∀ i, a.testBit i = true → b.testBit i = false := by
  rw [fa_and, ← and0]
  exact nI_eq (b := 0) (Nat.lt_of_le_of_lt Nat.and_le_left (by omega)) (by omega)
theorem notb {s i : Nat} (hi : i < 32) : (s ^^^ (2 ^ 32 - 1)).testBit i = !s.testBit i := by
  rw [Nat.testBit_xor, Nat.testBit_two_pow_sub_one, decide_eq_true hi, Bool.xor_true]
theorem who0I {u ra s : Nat} (hu : u < 2 ^ 12) : (nI u &&& (nI ra ^^^ (-1))) &&& (nI s ^^^ (-1)) = 0 ↔ ∀ i, u.testBit i = true → ra.testBit i = true ∨ s.testBit i = true := by
  rw [notN, notN, fa_and, fa_and]
  have l : u &&& (ra ^^^ (2 ^ 32 - 1)) &&& (s ^^^ (2 ^ 32 - 1)) < 2 ^ 31 := Nat.lt_of_le_of_lt Nat.and_le_left (Nat.lt_of_le_of_lt Nat.and_le_left (by omega))
  have z := nI_eq (b := 0) l (by omega)
  have z' : nI (u &&& (ra ^^^ (2 ^ 32 - 1)) &&& (s ^^^ (2 ^ 32 - 1))) = 0 ↔ u &&& (ra ^^^ (2 ^ 32 - 1)) &&& (s ^^^ (2 ^ 32 - 1)) = 0 := z
  rw [z', and0]
  refine ⟨fun h i q => ?_, fun h i q => ?_⟩
  · have hi : i < 32 := by have := bit_hi hu q; omega
    cases hr : ra.testBit i with
    | true => exact Or.inl rfl
    | false =>
      have w := h i (by rw [Nat.testBit_and, q, notb hi, hr]; rfl)
      rw [notb hi] at w
      cases hs : s.testBit i with
      | true => exact Or.inr rfl
      | false => rw [hs] at w; exact absurd w (by decide)
  · rw [Nat.testBit_and, Bool.and_eq_true] at q
    have hi : i < 32 := by have := bit_hi hu q.1; omega
    have q2 := q.2
    rw [notb hi] at q2
    rw [notb hi]
    rcases h i q.1 with w | w
    · rw [w] at q2; exact absurd q2 (by decide)
    · rw [w]; rfl
theorem left7 {G : tG} {r : Nat → Nat} {t : Nat} (ht : t < 12) (h : G 8 t - G 10 t = nI (r t)) : p_X6_left G (nI t) = some (nI (r t)) := by
  unfold p_X6_left
  rw [inBT ht (by omega), oguardT, oguardT, nI_clamp (by omega), h]
theorem soon38_L {F : tF} {G : tG} {k r : Nat} {L : Nat → Nat} (hk : k ≤ 5) (hr : r ≤ 200) (hF : F 19 = nI k) (hG : ∀ j, j < k → G 12 j = nI (L j)) (hL : ∀ j, j < k → L j ≤ 300) : ∀ d b kk, b + d = k → d < kk → p_X5_soonestEnd_L38 F G (nI r) (fun _ => some (-1)) kk (nI b) = some (encE (fse L r d b))
  | 0, b, kk, hb, hd => by
    obtain ⟨kk, rfl⟩ : ∃ q, kk = q + 1 := ⟨kk - 1, by omega⟩
    rw [p_X5_soonestEnd_L38, hF, if_pos (nI_le (by omega) (by omega))]; rfl
  | d + 1, b, kk, hb, hd => by
    obtain ⟨kk, rfl⟩ : ∃ q, kk = q + 1 := ⟨kk - 1, by omega⟩
    have l := hL b (by omega)
    rw [p_X5_soonestEnd_L38, hF, if_neg (nI_ge (by omega) (by omega)), inBT (by omega) (by omega), oguardT, nI_clamp (by omega), hG b (by omega), fse]
    by_cases h : r ≤ L b
    · rw [if_neg (nI_nlt h (by omega)), if_pos h]
      unfold p_X5_moment
      rw [bi1S, mom, encE_n (by omega)]
    · rw [if_pos (nI_lt (by omega) (by omega)), if_neg h, pletE, nI_1]
      exact soon38_L hk hr hF hG hL d (b + 1) kk (by omega) (by omega)
theorem soon_v {n : Nat} (hn : 5000 ≤ n) {F : tF} {G : tG} {k x r : Nat} {L : Nat → Nat} (hk : k ≤ 5) (hr : r ≤ 200) (hF : F 19 = nI k) (hG : ∀ j, j < k → G 12 j = nI (L j)) (hL : ∀ j, j < k → L j ≤ 300) (hx : vM k L x) : p_X5_soonestEnd n F G (nI x) (nI r) = some (encE (seM k L x r)) := by
  have hx2 := vM_lt hk hx
  obtain ⟨x1, x2⟩ := hx
  have l := hL _ x1
  unfold p_X5_soonestEnd p_X5_tideAt
  rw [bi1S, r512 (by omega), x512 (by omega), hF, if_neg (nI_ge x1 (by omega)), inBT (by omega) (by omega), oguardT, nI_clamp (by omega), hG _ x1, nI_add]
  unfold seM
  by_cases h : x % 512 + r ≤ L (x / 512)
  · rw [if_neg (nI_nlt h (by omega)), if_pos ⟨x1, h⟩, nI_add, encE_n (by omega)]
  · rw [if_pos (nI_lt (by omega) (by omega)), if_neg (fun q => h q.2), pletE, nI_1]
    exact soon38_L hk hr hF hG hL (k - (x / 512 + 1)) (x / 512 + 1) n (by omega) (by omega)
theorem late20_L {G : tG} {k r : Nat} {L : Nat → Nat} (hk : k ≤ 5) (hr : r ≤ 200) (hG : ∀ j, j < k → G 12 j = nI (L j)) (hL : ∀ j, j < k → L j ≤ 300) : ∀ b kk, b ≤ k → b < kk → p_X5_latestBegin_L20 G (nI r) (fun _ => some (-1)) kk (encP b) = some (encP (lbS L r b))
  | 0, kk, hb, hd => by
    obtain ⟨kk, rfl⟩ : ∃ q, kk = q + 1 := ⟨kk - 1, by omega⟩
    rw [p_X5_latestBegin_L20, encP_0, if_pos (by decide), lbS, encP_0]
  | b + 1, kk, hb, hd => by
    obtain ⟨kk, rfl⟩ : ∃ q, kk = q + 1 := ⟨kk - 1, by omega⟩
    have l := hL b (by omega)
    rw [p_X5_latestBegin_L20, encP_s, if_neg (nI_pos (by omega)), inBT (by omega) (by omega), oguardT, nI_clamp (by omega), hG b (by omega), lbS]
    by_cases h : r ≤ L b
    · rw [if_neg (nI_nlt h (by omega)), if_pos h, oguardT, pk_sub h]
      unfold p_X5_moment
      rw [bi1S, mom, encP_s]
    · rw [if_pos (nI_lt (by omega) (by omega)), if_neg h, pletE]
      have e : nI b + (-1) = encP b := by
        apply Int32.toInt_inj.1
        rw [encP_i (by omega), fb_addI (by rw [nI_toInt (by omega), m1_i]; omega) (by rw [nI_toInt (by omega), m1_i]; omega), nI_toInt (by omega), m1_i]; omega
      rw [e]
      exact late20_L hk hr hG hL b kk (by omega) (by omega)
theorem late_v {n : Nat} (hn : 5000 ≤ n) {G : tG} {k e r : Nat} {L : Nat → Nat} (hk : k ≤ 5) (hr : r ≤ 200) (hG : ∀ j, j < k → G 12 j = nI (L j)) (hL : ∀ j, j < k → L j ≤ 300) (he : vM k L e) : p_X5_latestBegin n G (nI e) (nI r) = some (encP (lbM L e r)) := by
  have he2 := vM_lt hk he
  obtain ⟨e1, e2⟩ := he
  have l := hL _ e1
  unfold p_X5_latestBegin p_X5_tideAt
  rw [r512 (by omega), bi1S, x512 (by omega)]
  unfold lbM
  by_cases h : r ≤ e % 512
  · rw [if_neg (nI_nlt h (by omega)), if_pos h, pk_sub (by omega), encP_s]
  · rw [if_pos (nI_lt (by omega) (by omega)), if_neg h, pletE]
    exact late20_L hk hr hG hL (e / 512) n (by omega) (by omega)
theorem first7 {G : tG} {U : Nat → Nat} {S t : Nat} (hS : S < 4096) (ht : t < 12) (hU : U t < 4096) (hG : G 11 t = nI (U t)) : (firE U S t → p_X4_mayBeFirst G (nI S) (nI t) = some 1) ∧ (¬ firE U S t → p_X4_mayBeFirst G (nI S) (nI t) = some 0) := by
  unfold p_X4_mayBeFirst p_X7_bit firE
  rw [bi1S]
  by_cases h : S.testBit t = true
  · rw [if_pos ((bitO (by omega) ht).2 h), inBT ht (by omega), oguardT, nI_clamp (by omega), hG]
    by_cases q : nI (U t) &&& nI S = 0
    · rw [if_pos q]
      exact ⟨fun _ => rfl, fun z => absurd ⟨h, (and0I hU).1 q⟩ z⟩
    · rw [if_neg q]
      exact ⟨fun z => absurd ((and0I hU).2 z.2) q, fun _ => rfl⟩
  · rw [if_neg (fun z => h ((bitO (by omega) ht).1 z))]
    exact ⟨fun z => absurd z.1 h, fun _ => rfl⟩
