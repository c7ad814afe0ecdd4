/-! best: moments of tides -/
def fse (L : Nat → Nat) (r : Nat) : Nat → Nat → Nat
  | 0, _ => 100000
  | d + 1, b => if r ≤ L b then 512 * b + r else fse L r d (b + 1)
def seM (k : Nat) (L : Nat → Nat) (x r : Nat) : Nat := if x / 512 < k ∧ x % 512 + r ≤ L (x / 512) then x + r else fse L r (k - (x / 512 + 1)) (x / 512 + 1)
def lbS (L : Nat → Nat) (r : Nat) : Nat → Nat
  | 0 => 0
  | b + 1 => if r ≤ L b then 512 * b + (L b - r) + 1 else lbS L r b
def lbM (L : Nat → Nat) (e r : Nat) : Nat := if r ≤ e % 512 then e - r + 1 else lbS L r (e / 512)
def vM (k : Nat) (L : Nat → Nat) (x : Nat) : Prop := x / 512 < k ∧ x % 512 ≤ L (x / 512)
def lastP (k : Nat) (L : Nat → Nat) : Nat := if k = 0 then 0 else 512 * (k - 1) + L (k - 1) + 1
theorem fse_spec (L : Nat → Nat) (r : Nat) : ∀ d b, (fse L r d b = 100000 ∧ ∀ j, b ≤ j → j < b + d → L j < r) ∨ ∃ j, b ≤ j ∧ j < b + d ∧ r ≤ L j ∧ fse L r d b = 512 * j + r ∧ ∀ i, b ≤ i → i < j → L i < r
  | 0, b => Or.inl ⟨rfl, fun j j1 j2 => absurd j2 (by omega)⟩
  | d + 1, b => by
    rw [fse]
    by_cases h : r ≤ L b
    · rw [if_pos h]
      exact Or.inr ⟨b, Nat.le_refl b, by omega, h, rfl, fun i i1 i2 => absurd i2 (by omega)⟩
    · rw [if_neg h]
      rcases fse_spec L r d (b + 1) with ⟨p1, p2⟩ | ⟨j, p1, p2, p3, p4, p5⟩
      · refine Or.inl ⟨p1, fun j j1 j2 => ?_⟩
        by_cases e : j = b
        · rw [e]; omega
        · exact p2 j (by omega) (by omega)
      · refine Or.inr ⟨j, by omega, by omega, p3, p4, fun i i1 i2 => ?_⟩
        by_cases e : i = b
        · rw [e]; omega
        · exact p5 i (by omega) i2
theorem lbS_spec (L : Nat → Nat) (r : Nat) : ∀ b, (lbS L r b = 0 ∧ ∀ j, j < b → L j < r) ∨ ∃ j, j < b ∧ r ≤ L j ∧ lbS L r b = 512 * j + (L j - r) + 1 ∧ ∀ i, j < i → i < b → L i < r
  | 0 => Or.inl ⟨rfl, fun j j1 => absurd j1 (by omega)⟩
  | b + 1 => by
    rw [lbS]
    by_cases h : r ≤ L b
    · rw [if_pos h]
      exact Or.inr ⟨b, by omega, h, rfl, fun i i1 i2 => absurd i2 (by omega)⟩
    · rw [if_neg h]
      rcases lbS_spec L r b with ⟨p1, p2⟩ | ⟨j, p1, p2, p3, p4⟩
      · refine Or.inl ⟨p1, fun j j1 => ?_⟩
        by_cases e : j = b
        · rw [e]; omega
        · exact p2 j (by omega)
      · refine Or.inr ⟨j, by omega, p2, p3, fun i i1 i2 => ?_⟩
        by_cases e : i = b
        · rw [e]; omega
        · exact p4 i i1 (by omega)
theorem L_cg {L : Nat → Nat} {a b : Nat} (h : a = b) : L a = L b := by rw [h]
/-- work begun at x is ended at e or ahead of it just when x lies ahead of the latest begin -/
theorem galois {k : Nat} {L : Nat → Nat} (hk : k ≤ 5) (hL : ∀ j, j < k → L j ≤ 300) {x e r : Nat} (hx : vM k L x) (he : vM k L e) : seM k L x r < e + 1 ↔ x < lbM L e r := by
  obtain ⟨x1, x2⟩ := hx
  obtain ⟨e1, e2⟩ := he
  have l1 := hL _ x1
  have l2 := hL _ e1
  unfold seM lbM
  by_cases h1 : x / 512 < k ∧ x % 512 + r ≤ L (x / 512)
  · rw [if_pos h1]
    have h1 := h1.2
    by_cases h2 : r ≤ e % 512
    · rw [if_pos h2]
      omega
    · rw [if_neg h2]
      rcases lbS_spec L r (e / 512) with ⟨p1, p2⟩ | ⟨j, p1, p2, p3, p4⟩
      · rw [p1]
        refine ⟨fun q => ?_, fun q => absurd q (by omega)⟩
        exfalso
        by_cases ee : x / 512 = e / 512
        · omega
        · have w := p2 (x / 512) (by omega)
          omega
      · rw [p3]
        have lj := hL j (by omega)
        refine ⟨fun q => ?_, fun q => ?_⟩
        · by_cases ee : x / 512 = e / 512
          · omega
          · by_cases ej : x / 512 = j
            · have w := L_cg (L := L) ej
              omega
            · by_cases gj : j < x / 512
              · have w := p4 (x / 512) gj (by omega)
                omega
              · omega
        · omega
  · rw [if_neg h1]
    have h1 : L (x / 512) < x % 512 + r := by
      rcases Nat.lt_or_ge (L (x / 512)) (x % 512 + r) with w | w
      · exact w
      · exact absurd ⟨x1, w⟩ h1
    rcases fse_spec L r (k - (x / 512 + 1)) (x / 512 + 1) with ⟨p1, p2⟩ | ⟨j, p1, p2, p3, p4, p5⟩
    · rw [p1]
      refine ⟨fun q => absurd q (by omega), fun q => ?_⟩
      exfalso
      by_cases h2 : r ≤ e % 512
      · rw [if_pos h2] at q
        by_cases ee : x / 512 = e / 512
        · have w := L_cg (L := L) ee
          omega
        · have w := p2 (e / 512) (by omega) (by omega)
          omega
      · rw [if_neg h2] at q
        rcases lbS_spec L r (e / 512) with ⟨s1, s2⟩ | ⟨i, s1, s2, s3, s4⟩
        · rw [s1] at q; omega
        · rw [s3] at q
          have li := hL i (by omega)
          by_cases ei : x / 512 = i
          · have w := L_cg (L := L) ei
            omega
          · have w := p2 i (by omega) (by omega)
            omega
    · rw [p4]
      have lj := hL j (by omega)
      by_cases h2 : r ≤ e % 512
      · rw [if_pos h2]
        refine ⟨fun q => by omega, fun q => ?_⟩
        by_cases ee : x / 512 = e / 512
        · have w := L_cg (L := L) ee
          omega
        · by_cases gj : e / 512 < j
          · have w := p5 (e / 512) (by omega) gj
            omega
          · omega
      · rw [if_neg h2]
        rcases lbS_spec L r (e / 512) with ⟨s1, s2⟩ | ⟨i, s1, s2, s3, s4⟩
        · rw [s1]
          refine ⟨fun q => ?_, fun q => absurd q (by omega)⟩
          exfalso
          have w := s2 j (by omega)
          omega
        · rw [s3]
          have li := hL i (by omega)
          refine ⟨fun q => ?_, fun q => ?_⟩
          · by_cases gj : i < j
            · have w := s4 j gj (by omega)
              omega
            · omega
          · by_cases ei : x / 512 = i
            · have w := L_cg (L := L) ei
              omega
            · by_cases gj : i < j
              · have w := p5 i (by omega) gj
                omega
              · omega
theorem seM_v {k : Nat} {L : Nat → Nat} (hk : k ≤ 5) (hL : ∀ j, j < k → L j ≤ 300) {x r : Nat} (hx : vM k L x) : seM k L x r = 100000 ∨ vM k L (seM k L x r) := by
  obtain ⟨x1, x2⟩ := hx
  have l1 := hL _ x1
  unfold seM vM
  by_cases h1 : x / 512 < k ∧ x % 512 + r ≤ L (x / 512)
  · rw [if_pos h1]
    have e : (x + r) / 512 = x / 512 := by omega
    refine Or.inr ⟨by omega, ?_⟩
    rw [e]; omega
  · rw [if_neg h1]
    rcases fse_spec L r (k - (x / 512 + 1)) (x / 512 + 1) with ⟨p1, p2⟩ | ⟨j, p1, p2, p3, p4, p5⟩
    · exact Or.inl p1
    · have lj := hL j (by omega)
      rw [p4]
      have e : (512 * j + r) / 512 = j := by omega
      refine Or.inr ⟨by omega, ?_⟩
      rw [e]; omega
theorem lbM_v {k : Nat} {L : Nat → Nat} (hL : ∀ j, j < k → L j ≤ 300) {e r : Nat} (he : vM k L e) : lbM L e r = 0 ∨ vM k L (lbM L e r - 1) := by
  obtain ⟨e1, e2⟩ := he
  have l2 := hL _ e1
  unfold lbM vM
  by_cases h2 : r ≤ e % 512
  · rw [if_pos h2]
    have e : (e - r + 1 - 1) / 512 = e / 512 := by omega
    refine Or.inr ⟨by omega, ?_⟩
    rw [e]; omega
  · rw [if_neg h2]
    rcases lbS_spec L r (e / 512) with ⟨s1, s2⟩ | ⟨i, s1, s2, s3, s4⟩
    · exact Or.inl s1
    · rw [s3]
      have li := hL i (by omega)
      have e : (512 * i + (L i - r) + 1 - 1) / 512 = i := by omega
      refine Or.inr ⟨by omega, ?_⟩
      rw [e]; omega
theorem last_v {k : Nat} {L : Nat → Nat} (hL : ∀ j, j < k → L j ≤ 300) {x : Nat} (hx : vM k L x) : x < lastP k L := by
  obtain ⟨x1, x2⟩ := hx
  have l1 := hL _ x1
  unfold lastP
  rw [if_neg (by omega)]
  by_cases e : x / 512 = k - 1
  · have w := L_cg (L := L) e
    omega
  · omega
theorem lastP_v {k : Nat} {L : Nat → Nat} (hL : ∀ j, j < k → L j ≤ 300) : lastP k L = 0 ∨ vM k L (lastP k L - 1) := by
  unfold lastP vM
  by_cases h : k = 0
  · rw [if_pos h]; exact Or.inl rfl
  · rw [if_neg h]
    have li := hL (k - 1) (by omega)
    have e : (512 * (k - 1) + L (k - 1) + 1 - 1) / 512 = k - 1 := by omega
    refine Or.inr ⟨by omega, ?_⟩
    rw [e]; omega
theorem vM_lt {k : Nat} {L : Nat → Nat} (hk : k ≤ 5) {x : Nat} (hx : vM k L x) : x < 2560 := by
  obtain ⟨x1, x2⟩ := hx
  omega
