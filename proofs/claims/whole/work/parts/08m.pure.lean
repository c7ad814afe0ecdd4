/-! best: sets of things, the latest begin (class) and the soonest end (reference) -/
def mayE (ra ta : Nat) (U : Nat → Nat) (S t : Nat) : Prop := S.testBit t = false ∧ ra.testBit t = false ∧ ta.testBit t = false ∧ ∀ i, (U t).testBit i = true → ra.testBit i = true ∨ S.testBit i = true
def firE (U : Nat → Nat) (S t : Nat) : Prop := S.testBit t = true ∧ ∀ i, (U t).testBit i = true → S.testBit i = false
def shutE (ra ta S : Nat) : Prop := ∀ i, S.testBit i = true → ra.testBit i = false ∧ ta.testBit i = false
def whoE (ra : Nat) (U : Nat → Nat) (S : Nat) : Prop := ∀ t, S.testBit t = true → ∀ i, (U t).testBit i = true → ra.testBit i = true ∨ S.testBit i = true
def delB (S t : Nat) : Nat := S &&& (2 ^ t ^^^ (2 ^ 32 - 1))
theorem bit_hi {S c i : Nat} (hS : S < 2 ^ c) (h : S.testBit i = true) : i < c := by
  rcases Nat.lt_or_ge i c with q | q
  · exact q
  · rw [Nat.testBit_lt_two_pow (Nat.lt_of_lt_of_le hS (Nat.pow_le_pow_right (by omega) q))] at h
    exact absurd h (by decide)
theorem delB_bit {S : Nat} (hS : S < 2 ^ 12) (t i : Nat) : (delB S t).testBit i = (S.testBit i && !decide (t = i)) := by
  unfold delB
  rw [Nat.testBit_and, Nat.testBit_xor, Nat.testBit_two_pow, Nat.testBit_two_pow_sub_one]
  cases h : S.testBit i with
  | false => rw [Bool.false_and, Bool.false_and]
  | true =>
    have hi : i < 32 := by have := bit_hi hS h; omega
    rw [decide_eq_true hi, Bool.true_and, Bool.true_and, Bool.xor_true]
theorem insB_bit (S t i : Nat) : (S ||| 2 ^ t).testBit i = (S.testBit i || decide (t = i)) := by
  rw [Nat.testBit_or, Nat.testBit_two_pow]
theorem delB_le (S t : Nat) : delB S t ≤ S := Nat.and_le_left
theorem delB_lt {S t : Nat} (hS : S < 2 ^ 12) (h : S.testBit t = true) : delB S t < S := by
  have l := delB_le S t
  have n : delB S t ≠ S := fun e => by
    have q := delB_bit hS t t
    rw [e, h, decide_eq_true rfl] at q
    exact absurd q (by decide)
  omega
def LPok (c ra ta k : Nat) (U r L : Nat → Nat) (lp : Nat → Nat) (m : Nat) : Prop := lp 0 = lastP k L ∧ ∀ S, 0 < S → S < m → (lp S = 0 ∨ vM k L (lp S - 1)) ∧ ∀ x, vM k L x → (x < lp S ↔ shutE ra ta S ∧ ∃ t, t < c ∧ firE U S t ∧ seM k L x (r t) < lp (delB S t))
def ENok (c ra ta k : Nat) (U r L : Nat → Nat) (D x : Nat) (E : Nat → Nat) : Prop := E D = x ∧ (∀ S, S < 2 ^ c → S ≠ D → E S = 100000 ∨ vM k L (E S)) ∧ (∀ S, S < 2 ^ c → E S < 100000 → sbs D S) ∧ (∀ S, S < 2 ^ c → E S < 100000 → ∀ t, t < c → mayE ra ta U S t → E (S ||| 2 ^ t) ≤ seM k L (E S) (r t)) ∧ ∀ S, S < 2 ^ c → S ≠ D → E S < 100000 → ∃ P t, P < S ∧ t < c ∧ S = P ||| 2 ^ t ∧ mayE ra ta U P t ∧ E P < 100000 ∧ E S = seM k L (E P) (r t)
theorem lp_le {c ra ta k : Nat} {U r L lp : Nat → Nat} (hk : k ≤ 5) (hL : ∀ j, j < k → L j ≤ 300) (hl : LPok c ra ta k U r L lp (2 ^ c)) {S : Nat} (hS : S < 2 ^ c) : lp S ≤ 2560 := by
  have q : lp S = 0 ∨ vM k L (lp S - 1) := by
    rcases Nat.eq_zero_or_pos S with e | e
    · rw [e, hl.1]; exact lastP_v hL
    · exact (hl.2 S e hS).1
  rcases q with q | q
  · omega
  · have := vM_lt hk q
    omega
theorem en_v {c ra ta k : Nat} {U r L E : Nat → Nat} {D x S : Nat} (hE : ENok c ra ta k U r L D x E) (hx : vM k L x) (hS : S < 2 ^ c) (h : E S < 100000) : vM k L (E S) := by
  by_cases e : S = D
  · rw [e, hE.1]; exact hx
  · rcases hE.2.1 S hS e with q | q
    · omega
    · exact q
theorem bxt {a b : Nat} (h : ∀ i, a.testBit i = b.testBit i) : a = b := Nat.eq_of_testBit_eq h
theorem feas_s {c ra ta k : Nat} {U r L lp E : Nat → Nat} {D x B : Nat} (hc : c ≤ 12) (hl : LPok c ra ta k U r L lp (2 ^ c)) (hE : ENok c ra ta k U r L D x E) (hx : vM k L x) (hsh : ∀ i, B.testBit i = true → D.testBit i = false → ra.testBit i = false ∧ ta.testBit i = false) {R0 : Nat} (hR0 : ∀ i, R0.testBit i = (B.testBit i && !D.testBit i)) : ∀ S, S < 2 ^ c → E S < 100000 → sbs S B → ∀ R, R < 2 ^ c → (∀ i, R.testBit i = (B.testBit i && !S.testBit i)) → E S < lp R → x < lp R0 := by
  intro S
  induction S using Nat.strongRecOn with
  | ind S ih =>
    intro hS h1 hSB R hR hRb hlt
    by_cases e : S = D
    · have eR : R = R0 := bxt (fun i => by rw [hRb, hR0, e])
      rw [e, hE.1, eR] at hlt; exact hlt
    · obtain ⟨P, t, p1, p2, p3, p4, p5, p6⟩ := hE.2.2.2.2 S hS e h1
      obtain ⟨m1, m2, m3, m4⟩ := p4
      have hP : P < 2 ^ c := by omega
      have sb : ∀ i, S.testBit i = (P.testBit i || decide (t = i)) := fun i => by rw [p3]; exact insB_bit P t i
      have pt : 2 ^ t < 2 ^ c := Nat.pow_lt_pow_right (by omega) p2
      have hQ : R ||| 2 ^ t < 2 ^ c := Nat.or_lt_two_pow hR pt
      have hPB : sbs P B := fun i q => hSB i (by rw [sb, q, Bool.true_or])
      have hBt : B.testBit t = true := hSB t (by rw [sb, decide_eq_true rfl, Bool.or_true])
      have hQb : ∀ i, (R ||| 2 ^ t).testBit i = (B.testBit i && !P.testBit i) := by
        intro i
        rw [insB_bit, hRb, sb]
        by_cases ei : t = i
        · subst ei
          rw [decide_eq_true rfl, hBt, m1]; rfl
        · rw [decide_eq_false ei, Bool.or_false, Bool.or_false]
      have hDP : sbs D P := hE.2.2.1 P hP p5
      have hQs : ∀ i, (R ||| 2 ^ t).testBit i = true → ra.testBit i = false ∧ ta.testBit i = false := by
        intro i q
        rw [hQb, Bool.and_eq_true, Bool.not_eq_true'] at q
        refine hsh i q.1 ?_
        cases hd : D.testBit i with
        | false => rfl
        | true => rw [hDP i hd] at q; exact absurd q.2 (by decide)
      have hQt : (R ||| 2 ^ t).testBit t = true := by rw [insB_bit, decide_eq_true rfl, Bool.or_true]
      have hQ0 : 0 < R ||| 2 ^ t := by
        rcases Nat.eq_zero_or_pos (R ||| 2 ^ t) with z | z
        · rw [z, Nat.zero_testBit] at hQt; exact absurd hQt (by decide)
        · exact z
      have hdel : delB (R ||| 2 ^ t) t = R := by
        refine bxt (fun i => ?_)
        rw [delB_bit (Nat.lt_of_lt_of_le hQ (Nat.pow_le_pow_right (by omega) hc)), insB_bit]
        by_cases ei : t = i
        · subst ei
          have z : R.testBit t = false := by rw [hRb, sb, decide_eq_true rfl, Bool.or_true, Bool.not_true, Bool.and_false]
          rw [decide_eq_true rfl, z]; rfl
        · rw [decide_eq_false ei, Bool.or_false, Bool.not_false, Bool.and_true]
      have lt2 : E P < lp (R ||| 2 ^ t) := by
        refine ((hl.2 _ hQ0 hQ).2 (E P) (en_v hE hx hP p5)).2 ⟨hQs, t, p2, ⟨hQt, ?_⟩, ?_⟩
        · intro i q
          cases hq : (R ||| 2 ^ t).testBit i with
          | false => rfl
          | true =>
            rcases m4 i q with w | w
            · rw [(hQs i hq).1] at w; exact absurd w (by decide)
            · rw [hQb, w, Bool.not_true, Bool.and_false] at hq; exact absurd hq (by decide)
        · rw [hdel, ← p6]; exact hlt
      exact ih P p1 hP p5 hPB _ hQ hQb lt2
theorem feas_c {c ra ta k : Nat} {U r L lp E : Nat → Nat} {D x B : Nat} (hc : c ≤ 12) (hk : k ≤ 5) (hL : ∀ j, j < k → L j ≤ 300) (hl : LPok c ra ta k U r L lp (2 ^ c)) (hE : ENok c ra ta k U r L D x E) (hx : vM k L x) (hB : B < 2 ^ c) (hwh : ∀ t, B.testBit t = true → D.testBit t = false → ∀ i, (U t).testBit i = true → ra.testBit i = true ∨ B.testBit i = true) : ∀ R, R < 2 ^ c → ∀ S, S < 2 ^ c → E S < 100000 → sbs S B → (∀ i, R.testBit i = (B.testBit i && !S.testBit i)) → E S < lp R → E B < 100000 := by
  intro R
  induction R using Nat.strongRecOn with
  | ind R ih =>
    intro hR S hS h1 hSB hRb hlt
    rcases Nat.eq_zero_or_pos R with z | z
    · have e : S = B := by
        refine sub_an hSB ?_
        intro i q
        have w := hRb i
        rw [z, Nat.zero_testBit, q, Bool.true_and] at w
        cases hs : S.testBit i with
        | true => rfl
        | false => rw [hs] at w; exact absurd w (by decide)
      rw [← e]; exact h1
    · have hv := en_v hE hx hS h1
      obtain ⟨hsh, t, t1, ⟨f1, f2⟩, t3⟩ := ((hl.2 R z hR).2 (E S) hv).1 hlt
      have hR12 : R < 2 ^ 12 := Nat.lt_of_lt_of_le hR (Nat.pow_le_pow_right (by omega) hc)
      have q1 : B.testBit t = true ∧ S.testBit t = false := by
        have w := f1
        rw [hRb, Bool.and_eq_true, Bool.not_eq_true'] at w
        exact w
      have hDS := hE.2.2.1 S hS h1
      have hDt : D.testBit t = false := by
        cases hd : D.testBit t with
        | false => rfl
        | true => rw [hDS t hd] at q1; exact absurd q1.2 (by decide)
      have hmay : mayE ra ta U S t := by
        refine ⟨q1.2, (hsh t f1).1, (hsh t f1).2, ?_⟩
        intro i q
        rcases hwh t q1.1 hDt i q with w | w
        · exact Or.inl w
        · have v := hRb i
          rw [f2 i q, w, Bool.true_and] at v
          cases hs : S.testBit i with
          | true => exact Or.inr rfl
          | false => rw [hs] at v; exact absurd v (by decide)
      have pt : 2 ^ t < 2 ^ c := Nat.pow_lt_pow_right (by omega) t1
      have hS' : S ||| 2 ^ t < 2 ^ c := Nat.or_lt_two_pow hS pt
      have le := hE.2.2.2.1 S hS h1 t t1 hmay
      have hdl := delB_lt hR12 f1
      have lpl := lp_le hk hL hl (S := delB R t) (by omega)
      refine ih (delB R t) hdl (by omega) (S ||| 2 ^ t) hS' (by omega) ?_ ?_ (by omega)
      · refine sub_un hSB ?_
        intro i q
        rw [Nat.testBit_two_pow] at q
        rw [← of_decide_eq_true q]; exact q1.1
      · intro i
        rw [delB_bit hR12, hRb, insB_bit]
        by_cases ei : t = i
        · subst ei
          rw [decide_eq_true rfl, Bool.not_true, Bool.and_false, Bool.or_true, Bool.not_true, Bool.and_false]
        · rw [decide_eq_false ei, Bool.not_false, Bool.and_true, Bool.or_false]
theorem feas {c ra ta k : Nat} {U r L lp E : Nat → Nat} {D x B R0 : Nat} (hc : c ≤ 12) (hk : k ≤ 5) (hL : ∀ j, j < k → L j ≤ 300) (hl : LPok c ra ta k U r L lp (2 ^ c)) (hE : ENok c ra ta k U r L D x E) (hx : vM k L x) (hB : B < 2 ^ c) (hDB : sbs D B) (hsh : ∀ i, B.testBit i = true → D.testBit i = false → ra.testBit i = false ∧ ta.testBit i = false) (hwh : ∀ t, B.testBit t = true → D.testBit t = false → ∀ i, (U t).testBit i = true → ra.testBit i = true ∨ B.testBit i = true) (hR : R0 < 2 ^ c) (hR0 : ∀ i, R0.testBit i = (B.testBit i && !D.testBit i)) : E B < 100000 ↔ x < lp R0 := by
  have hD : D < 2 ^ c := by
    refine Nat.lt_of_le_of_lt (Nat.le_of_testBit hDB) hB
  refine ⟨fun h => ?_, fun h => ?_⟩
  · refine feas_s hc hl hE hx hsh hR0 B hB h (sub_rf B) 0 (by omega) ?_ ?_
    · intro i
      rw [Nat.zero_testBit]
      cases B.testBit i <;> rfl
    · rw [hl.1]; exact last_v hL (en_v hE hx hB h)
  · have h1 : E D < 100000 := by
      rw [hE.1]
      have := vM_lt hk hx
      omega
    exact feas_c hc hk hL hl hE hx hB hwh R0 hR D hD h1 hDB hR0 (by rw [hE.1]; exact h)
theorem en_sw {c ra ta k : Nat} {U r L E : Nat → Nat} {x : Nat} (hE : ENok c ra ta k U r L 0 x E) : ∀ S, S < 2 ^ c → E S < 100000 → shutE ra ta S ∧ whoE ra U S := by
  intro S
  induction S using Nat.strongRecOn with
  | ind S ih =>
    intro hS h
    by_cases e : S = 0
    · rw [e]
      exact ⟨fun i q => by rw [Nat.zero_testBit] at q; exact absurd q (by decide), fun i q => by rw [Nat.zero_testBit] at q; exact absurd q (by decide)⟩
    · obtain ⟨P, t, p1, p2, p3, ⟨m1, m2, m3, m4⟩, p5, p6⟩ := hE.2.2.2.2 S hS e h
      obtain ⟨i1, i2⟩ := ih P p1 (by omega) p5
      have sb : ∀ i, S.testBit i = true → P.testBit i = true ∨ t = i := by
        intro i q
        rw [p3, insB_bit, Bool.or_eq_true, decide_eq_true_iff] at q
        exact q
      have hPS : ∀ i, P.testBit i = true → S.testBit i = true := fun i q => by rw [p3, insB_bit, q, Bool.true_or]
      refine ⟨fun i q => ?_, fun j q i u => ?_⟩
      · rcases sb i q with w | w
        · exact i1 i w
        · rw [← w]; exact ⟨m2, m3⟩
      · rcases sb j q with w | w
        · rcases i2 j w i u with v | v
          · exact Or.inl v
          · exact Or.inr (hPS i v)
        · rw [← w] at u
          rcases m4 i u with v | v
          · exact Or.inl v
          · exact Or.inr (hPS i v)
/-- which sets can be raised: alike for class and reference -/
theorem en_0 {c ra ta k : Nat} {U r L lp E : Nat → Nat} (hc : c ≤ 12) (hk : k ≤ 5) (hL : ∀ j, j < k → L j ≤ 300) (hl : LPok c ra ta k U r L lp (2 ^ c)) (hE : ENok c ra ta k U r L 0 0 E) {S : Nat} (h0 : 0 < S) (hS : S < 2 ^ c) : E S < 100000 ↔ 0 < lp S ∧ whoE ra U S := by
  rcases Nat.eq_zero_or_pos k with z | z
  · refine ⟨fun h => ?_, fun h => ?_⟩
    · rcases hE.2.1 S hS (by omega) with q | q
      · omega
      · exact absurd q.1 (by omega)
    · rcases (hl.2 S h0 hS).1 with q | q
      · omega
      · exact absurd q.1 (by omega)
  · have v0 : vM k L 0 := ⟨by omega, by omega⟩
    have hb : ∀ i, S.testBit i = (S.testBit i && !(0 : Nat).testBit i) := fun i => by rw [Nat.zero_testBit, Bool.not_false, Bool.and_true]
    have hz : sbs 0 S := fun i q => by rw [Nat.zero_testBit] at q; exact absurd q (by decide)
    refine ⟨fun h => ?_, fun h => ?_⟩
    · obtain ⟨s1, s2⟩ := en_sw hE S hS h
      exact ⟨(feas hc hk hL hl hE v0 hS hz (fun i q _ => s1 i q) (fun t q _ => s2 t q) hS hb).1 h, s2⟩
    · obtain ⟨s1, -⟩ := ((hl.2 S h0 hS).2 0 v0).1 h.1
      exact (feas hc hk hL hl hE v0 hS hz (fun i q _ => s1 i q) (fun t q _ => h.2 t q) hS hb).2 h.1
