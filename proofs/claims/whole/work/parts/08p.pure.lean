/-! best: the reference's moments and its table of soonest ends -/
def rfM (y : Nat) : Nat := if y = 100000 then 100000 else 1000 * (y / 512) + y % 512
def vW (k : Nat) (L : Nat → Nat) (x : Nat) : Prop := vM k L x ∨ (k = 0 ∧ x = 0)
theorem rf_far : rfM 100000 = 100000 := rfl
theorem rf_n {y : Nat} (h : ¬ y = 100000) : rfM y = 1000 * (y / 512) + y % 512 := if_neg h
theorem rf_lt {k : Nat} {L : Nat → Nat} (hk : k ≤ 5) (hL : ∀ j, j < k → L j ≤ 300) {y : Nat} (h : vM k L y) : rfM y = 1000 * (y / 512) + y % 512 ∧ y % 512 ≤ 300 ∧ y / 512 < 5 := by
  have l := vM_lt hk h
  have q := hL _ h.1
  exact ⟨rf_n (by omega), Nat.le_trans h.2 q, by have := h.1; omega⟩
theorem rf_le {k : Nat} {L : Nat → Nat} (hk : k ≤ 5) (hL : ∀ j, j < k → L j ≤ 300) {a b : Nat} (ha : a = 100000 ∨ vM k L a) (hb : b = 100000 ∨ vM k L b) : rfM a ≤ rfM b ↔ a ≤ b := by
  rcases ha with ha | ha <;> rcases hb with hb | hb
  · rw [ha, hb]; omega
  · obtain ⟨q1, q2, q3⟩ := rf_lt hk hL hb
    have l := vM_lt hk hb
    rw [ha, q1, rf_far]; omega
  · obtain ⟨q1, q2, q3⟩ := rf_lt hk hL ha
    have l := vM_lt hk ha
    rw [hb, q1, rf_far]; omega
  · obtain ⟨q1, q2, q3⟩ := rf_lt hk hL ha
    obtain ⟨s1, s2, s3⟩ := rf_lt hk hL hb
    rw [q1, s1]; omega
theorem rf_b {k : Nat} {L : Nat → Nat} (hk : k ≤ 5) (hL : ∀ j, j < k → L j ≤ 300) {a : Nat} (ha : a = 100000 ∨ vM k L a) : rfM a ≤ 100000 ∧ (100000 ≤ rfM a ↔ ¬ a < 100000) := by
  rcases ha with ha | ha
  · rw [ha, rf_far]; omega
  · obtain ⟨q1, q2, q3⟩ := rf_lt hk hL ha
    have l := vM_lt hk ha
    rw [q1]; omega
theorem left8 {G : tG} {r : Nat → Nat} {t : Nat} (ht : t < 12) (h : G 6 (5 * t + 2) - G 6 (5 * t + 4) = nI (r t)) : p_X8_left G (nI t) = some (nI (r t)) := by
  have x2 : (5 : Int32) * nI t + 2 = nI (5 * t + 2) := ix5 (j := 2)
  have x4 : (5 : Int32) * nI t + 4 = nI (5 * t + 4) := ix5 (j := 4)
  unfold p_X8_left
  rw [x2, x4, inBT (by omega) (by omega), inBT (by omega) (by omega), oguardT, oguardT, nI_clamp (by omega), nI_clamp (by omega), h]
theorem m1000 {b u : Nat} : (1000 : Int32) * nI b + nI u = nI (1000 * b + u) := by
  have e : (1000 : Int32) * nI b = nI (1000 * b) := pk_mul 1000 b
  rw [e, nI_add]
theorem ew13_L {F : tF} {G : tG} {k t : Nat} {r L : Nat → Nat} (hk : k ≤ 5) (ht : t < 12) (hr : r t ≤ 200) (hF : F 18 = nI k) (hG : ∀ j, j < k → G 8 j = nI (L j)) (hL : ∀ j, j < k → L j ≤ 300) (hl : G 6 (5 * t + 2) - G 6 (5 * t + 4) = nI (r t)) : ∀ d b kk, b + d = k → d < kk → p_X8_endWith_L13 F G (nI t) (fun (z13_0 : Int32) (z13_1 : Int32) => bi1 ((if z13_1 < (F 18) then bi1 (p_X8_left G (nI t)) (fun x70 => some ((((1000 * z13_1) + z13_0) + x70))) else some (100000))) (fun (y52_0 : Int32) => some y52_0)) kk 0 (nI b) = some (nI (rfM (fse L (r t) d b)))
  | 0, b, kk, hb, hd => by
    obtain ⟨kk, rfl⟩ : ∃ q, kk = q + 1 := ⟨kk - 1, by omega⟩
    rw [p_X8_endWith_L13, hF, if_pos (nI_le (by omega) (by omega)), if_neg (nI_nlt (by omega) (by omega)), bi1S]; rfl
  | d + 1, b, kk, hb, hd => by
    obtain ⟨kk, rfl⟩ : ∃ q, kk = q + 1 := ⟨kk - 1, by omega⟩
    have l := hL b (by omega)
    rw [p_X8_endWith_L13, hF, if_neg (nI_ge (by omega) (by omega)), left8 ht hl, bi1S, inBT (by omega) (by omega), oguardT, nI_clamp (by omega), hG b (by omega), Int32.zero_add, fse]
    by_cases h : r t ≤ L b
    · rw [if_pos (nI_le h (by omega)), if_pos h, if_pos (nI_lt (by omega) (by omega)), bi1S, bi1S, Int32.add_zero, m1000, rf_n (by omega)]
      rw [show (512 * b + r t) / 512 = b by omega, show (512 * b + r t) % 512 = r t by omega]
    · rw [if_neg (nI_ge (by omega) (by omega)), if_neg h, pletE, nI_1]
      have ih := ew13_L hk ht hr hF hG hL hl d (b + 1) kk (by omega) (by omega)
      rw [hF, left8 ht hl] at ih
      exact ih
theorem endw_v {n : Nat} (hn : 5000 ≤ n) {F : tF} {G : tG} {k t x : Nat} {r L : Nat → Nat} (hk : k ≤ 5) (ht : t < 12) (hr : r t ≤ 200) (hF : F 18 = nI k) (hG : ∀ j, j < k → G 8 j = nI (L j)) (hL : ∀ j, j < k → L j ≤ 300) (hl : G 6 (5 * t + 2) - G 6 (5 * t + 4) = nI (r t)) (hx : vW k L x) : p_X8_endWith n F G (nI (rfM x)) (nI t) = some (nI (rfM (seM k L x (r t)))) := by
  have ew := ew13_L hk ht hr hF hG hL hl
  unfold p_X8_endWith
  rcases hx with hx | ⟨k0, x0⟩
  · obtain ⟨q1, q2, q3⟩ := rf_lt hk hL hx
    obtain ⟨x1, x2⟩ := hx
    have l := hL _ x1
    have e1 : nI (rfM x) / 1000 = nI (x / 512) := by
      have e := pk_div (a := rfM x) (d := 1000) (by omega) (by omega) (by omega)
      rw [show rfM x / 1000 = x / 512 by omega] at e
      exact e
    have e2 : nI (rfM x) - nI (rfM x) / 1000 * 1000 = nI (x % 512) := by
      have e := pk_rem (a := rfM x) (d := 1000) (by omega) (by omega) (by omega)
      rw [show rfM x % 1000 = x % 512 by omega] at e
      exact e
    rw [e2, e1, pletE, pletE]
    obtain ⟨m, rfl⟩ : ∃ q, n = q + 1 := ⟨n - 1, by omega⟩
    rw [p_X8_endWith_L13, if_neg (by rw [hF]; exact nI_ge x1 (by omega)), left8 ht hl, bi1S, inBT (by omega) (by omega), oguardT, nI_clamp (by omega), hG _ x1, nI_add]
    unfold seM
    by_cases h : x % 512 + r t ≤ L (x / 512)
    · rw [if_pos (nI_le h (by omega)), if_pos (by rw [hF]; exact nI_lt x1 (by omega)), bi1S, bi1S, m1000, nI_add, if_pos ⟨x1, h⟩, rf_n (by omega)]
      rw [show (x + r t) / 512 = x / 512 by omega, show (x + r t) % 512 = x % 512 + r t by omega, Nat.add_assoc]
    · rw [if_neg (nI_ge (by omega) (by omega)), pletE, nI_1, if_neg (fun q => h q.2)]
      have w := ew (k - (x / 512 + 1)) (x / 512 + 1) m (by omega) (by omega)
      rw [left8 ht hl] at w
      exact w
  · subst x0
    subst k0
    have e1 : nI (rfM 0) / 1000 = nI 0 := by decide
    have e2 : nI (rfM 0) - nI (rfM 0) / 1000 * 1000 = 0 := by decide
    rw [e2, e1, pletE, pletE]
    exact ew 0 0 n rfl (by omega)
theorem seM_w {k : Nat} {L : Nat → Nat} (hk : k ≤ 5) (hL : ∀ j, j < k → L j ≤ 300) {x r : Nat} (hx : vW k L x) : seM k L x r = 100000 ∨ vM k L (seM k L x r) := by
  rcases hx with hx | ⟨k0, x0⟩
  · exact seM_v hk hL hx
  · subst x0
    subst k0
    exact Or.inl rfl
def ENi (c ra ta k : Nat) (U r L : Nat → Nat) (D x s i : Nat) (E : Nat → Nat) : Prop := E D = x ∧ (∀ S, S < 2 ^ c → S ≠ D → E S = 100000 ∨ vM k L (E S)) ∧ (∀ S, S < 2 ^ c → E S < 100000 → sbs D S) ∧ (∀ S, S < 2 ^ c → E S < 100000 → ∀ t, t < c → (S < s ∨ (S = s ∧ t < i)) → mayE ra ta U S t → E (S ||| 2 ^ t) ≤ seM k L (E S) (r t)) ∧ ∀ S, S < 2 ^ c → S ≠ D → E S < 100000 → ∃ P t, P < S ∧ P ≤ s ∧ t < c ∧ S = P ||| 2 ^ t ∧ mayE ra ta U P t ∧ E P < 100000 ∧ E S = seM k L (E P) (r t)
def mnN (a b : Nat) : Nat := if a ≤ b then a else b
theorem mn_l {a b : Nat} (h : a ≤ b) : mnN a b = a := if_pos h
theorem mn_r {a b : Nat} (h : ¬ a ≤ b) : mnN a b = b := if_neg h
/-- one relaxation -/
theorem relax {c ra ta k : Nat} {U r L : Nat → Nat} {D x s i : Nat} {E : Nat → Nat} (hk : k ≤ 5) (hL : ∀ j, j < k → L j ≤ 300) (hic : i < c) (hs : s < 2 ^ c) (hEs : E s < 100000) (hv : vW k L (E s)) (hm : mayE ra ta U s i) (h : ENi c ra ta k U r L D x s i E) : ENi c ra ta k U r L D x s (i + 1) (fun T => if T = s ||| 2 ^ i then mnN (E (s ||| 2 ^ i)) (seM k L (E s) (r i)) else E T) := by
  obtain ⟨h1, h2, h3, h4, h5⟩ := h
  have pt : 2 ^ i < 2 ^ c := Nat.pow_lt_pow_right (by omega) hic
  have hQ : s ||| 2 ^ i < 2 ^ c := Nat.or_lt_two_pow hs pt
  have qb := insB_bit s i i
  rw [decide_eq_true rfl, Bool.or_true] at qb
  have hsQ : s < s ||| 2 ^ i := by
    have l : s ≤ s ||| 2 ^ i := Nat.le_of_testBit (sub_ol s (2 ^ i))
    have n : s ≠ s ||| 2 ^ i := fun e => by
      rw [← e, hm.1] at qb; exact absurd qb (by decide)
    omega
  have hDs := h3 s hs hEs
  have hDQ : s ||| 2 ^ i ≠ D := fun e => by
    rw [e] at qb
    exact absurd ((hDs i qb).symm.trans hm.1) (by decide)
  have yv := seM_w hk hL (r := r i) hv
  have mv : mnN (E (s ||| 2 ^ i)) (seM k L (E s) (r i)) = 100000 ∨ vM k L (mnN (E (s ||| 2 ^ i)) (seM k L (E s) (r i))) := by
    by_cases w : E (s ||| 2 ^ i) ≤ seM k L (E s) (r i)
    · rw [mn_l w]; exact h2 _ hQ hDQ
    · rw [mn_r w]; exact yv
  have mle : mnN (E (s ||| 2 ^ i)) (seM k L (E s) (r i)) ≤ E (s ||| 2 ^ i) ∧ mnN (E (s ||| 2 ^ i)) (seM k L (E s) (r i)) ≤ seM k L (E s) (r i) := by
    by_cases w : E (s ||| 2 ^ i) ≤ seM k L (E s) (r i)
    · rw [mn_l w]; exact ⟨Nat.le_refl _, w⟩
    · rw [mn_r w]; exact ⟨by omega, Nat.le_refl _⟩
  generalize hmn : mnN (E (s ||| 2 ^ i)) (seM k L (E s) (r i)) = v at mv mle
  have vor : v = E (s ||| 2 ^ i) ∨ v = seM k L (E s) (r i) := by
    rw [← hmn]
    by_cases w : E (s ||| 2 ^ i) ≤ seM k L (E s) (r i)
    · exact Or.inl (mn_l w)
    · exact Or.inr (mn_r w)
  refine ⟨?_, ?_, ?_, ?_, ?_⟩
  · show (if D = s ||| 2 ^ i then v else E D) = x
    rw [if_neg (fun e => hDQ e.symm)]; exact h1
  · intro S hS hSD
    show (if S = s ||| 2 ^ i then v else E S) = 100000 ∨ vM k L (if S = s ||| 2 ^ i then v else E S)
    by_cases e : S = s ||| 2 ^ i
    · rw [if_pos e]; exact mv
    · rw [if_neg e]; exact h2 S hS hSD
  · intro S hS hlt
    have hlt : (if S = s ||| 2 ^ i then v else E S) < 100000 := hlt
    by_cases e : S = s ||| 2 ^ i
    · rw [e]; exact sub_tr hDs (sub_ol _ _)
    · rw [if_neg e] at hlt; exact h3 S hS hlt
  · intro S hS hlt t ht hor hmt
    have hlt : (if S = s ||| 2 ^ i then v else E S) < 100000 := hlt
    show (if S ||| 2 ^ t = s ||| 2 ^ i then v else E (S ||| 2 ^ t)) ≤ seM k L (if S = s ||| 2 ^ i then v else E S) (r t)
    have hSQ : ¬ S = s ||| 2 ^ i := by omega
    rw [if_neg hSQ] at hlt ⊢
    by_cases old : S < s ∨ (S = s ∧ t < i)
    · have w := h4 S hS hlt t ht old hmt
      by_cases e : S ||| 2 ^ t = s ||| 2 ^ i
      · rw [if_pos e]; rw [e] at w; omega
      · rw [if_neg e]; exact w
    · have e1 : S = s := by omega
      have e2 : t = i := by omega
      rw [e1, e2, if_pos rfl]; exact mle.2
  · intro S hS hSD hlt
    have hlt : (if S = s ||| 2 ^ i then v else E S) < 100000 := hlt
    show ∃ P t, P < S ∧ P ≤ s ∧ t < c ∧ S = P ||| 2 ^ t ∧ mayE ra ta U P t ∧ (if P = s ||| 2 ^ i then v else E P) < 100000 ∧ (if S = s ||| 2 ^ i then v else E S) = seM k L (if P = s ||| 2 ^ i then v else E P) (r t)
    have fwd : ∀ z, E S < 100000 → z = E S → ∃ P t, P < S ∧ P ≤ s ∧ t < c ∧ S = P ||| 2 ^ t ∧ mayE ra ta U P t ∧ (if P = s ||| 2 ^ i then v else E P) < 100000 ∧ z = seM k L (if P = s ||| 2 ^ i then v else E P) (r t) := by
      intro z q ez
      obtain ⟨P, t, p1, p2, p3, p4, p5, p6, p7⟩ := h5 S hS hSD q
      refine ⟨P, t, p1, p2, p3, p4, p5, ?_, ?_⟩
      · rw [if_neg (by omega)]; exact p6
      · rw [if_neg (by omega), ez]; exact p7
    by_cases e : S = s ||| 2 ^ i
    · rw [if_pos e] at hlt ⊢
      rcases vor with w | w
      · rw [← e] at w
        exact fwd v (by omega) w
      · refine ⟨s, i, by omega, Nat.le_refl s, hic, e, hm, ?_, ?_⟩
        · rw [if_neg (by omega)]; exact hEs
        · rw [if_neg (by omega)]; exact w
    · rw [if_neg e] at hlt ⊢
      exact fwd (E S) hlt rfl
