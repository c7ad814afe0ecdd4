theorem nlt6 {i : Nat} (h : i ≤ 6) : ¬ (6 : Int32) < nI i := nI_nlt (a := 6) (b := i) h (by omega)
theorem lt7 {i : Nat} (h : i < 7) : ¬ (7 : Int32) ≤ nI i := nI_ge (b := 7) h (by omega)
/-- tugs a, b are d apart or more from each of c signs from i on -/
def farB (X Y : Nat → Nat) (a b d : Nat) : Nat → Nat → Bool
  | 0, _ => true
  | c + 1, i => if ¬ X i = 0 ∧ dst (X i) a + dst (Y i) b < d then false else farB X Y a b d c (i + 1)
theorem far7_L (G : tG) (X Y : Nat → Nat) (hS : Sg G X Y) {a b d : Nat} (ha : a ≤ 7) (hb : b ≤ 7) (hd : d ≤ 10) : ∀ c i k, i + c = 12 → c < k → p_X3_isFarFromAll_L3 G (nI a) (nI b) (nI d) (fun _ => some 1) k (nI i) = some (if farB X Y a b d c i = true then 1 else 0)
  | 0, i, k, hi, hk => by
    obtain ⟨k, rfl⟩ : ∃ q, k = q + 1 := ⟨k - 1, by omega⟩
    have e : i = 12 := by omega
    subst e
    rw [p_X3_isFarFromAll_L3, if_pos (by decide), farB, if_pos rfl]
  | c + 1, i, k, hi, hk => by
    obtain ⟨k, rfl⟩ : ∃ q, k = q + 1 := ⟨k - 1, by omega⟩
    have hlt : i < 12 := by omega
    obtain ⟨g1, g2, g3, g4, g5⟩ := hS i hlt
    have ih := far7_L G X Y hS ha hb hd c (i + 1) k (by omega) (by omega)
    rw [p_X3_isFarFromAll_L3, if_neg (lt12 hlt), isSetIf G hlt, g1, farB]
    by_cases z : X i = 0
    · have q : ¬ (¬ X i = 0 ∧ dst (X i) a + dst (Y i) b < d) := fun w => w.1 z
      rw [if_pos ((nI0 (by omega)).2 z), if_neg q, pletE, nI_1]; exact ih
    · have c1 : ¬ nI (X i) = 0 := fun w => z ((nI0 (by omega)).1 w)
      rw [if_neg c1, fromSign_v G hlt g1 g2 g3 g4 ha hb, bi1S]
      by_cases w : dst (X i) a + dst (Y i) b < d
      · have q : ¬ X i = 0 ∧ dst (X i) a + dst (Y i) b < d := ⟨z, w⟩
        have c2 : ¬ nI d ≤ nI (dst (X i) a + dst (Y i) b) := nI_ge w (by omega)
        rw [if_neg c2, if_pos q, if_neg (by decide)]
      · have q : ¬ (¬ X i = 0 ∧ dst (X i) a + dst (Y i) b < d) := fun y => w y.2
        have c2 : nI d ≤ nI (dst (X i) a + dst (Y i) b) := nI_le (by omega) (by unfold dst; omega)
        rw [if_pos c2, if_neg q, pletE, nI_1]; exact ih
theorem far8_L (G2 : tG) (X Y : Nat → Nat) (hX : ∀ j, j < 12 → G2 9 j = nI (X j) ∧ G2 10 j = nI (Y j) ∧ X j ≤ 6 ∧ Y j ≤ 6) {a b d : Nat} (ha : a ≤ 7) (hb : b ≤ 7) (hd : d ≤ 10) (K : Int32 → Int32 → Option Int32) : ∀ c i k (o : Bool), i + c = 12 → c < k → p_X8_free_L35 G2 (nI d) (nI a) (nI b) K k (nI i) (if o = true then 1 else 0) = K (nI 12) (if (o && farB X Y a b d c i) = true then 1 else 0)
  | 0, i, k, o, hi, hk => by
    obtain ⟨k, rfl⟩ : ∃ q, k = q + 1 := ⟨k - 1, by omega⟩
    have e : i = 12 := by omega
    subst e
    rw [p_X8_free_L35, if_pos (by decide), farB, Bool.and_true]
  | c + 1, i, k, o, hi, hk => by
    obtain ⟨k, rfl⟩ : ∃ q, k = q + 1 := ⟨k - 1, by omega⟩
    have hlt : i < 12 := by omega
    obtain ⟨g1, g2, g3, g4⟩ := hX i hlt
    rw [p_X8_free_L35, if_neg (lt12 hlt), inBT hlt (by omega), oguardT, nI_clamp (by omega), g1, farB]
    cases o with
    | false =>
      have ih := far8_L G2 X Y hX ha hb hd K c (i + 1) k false (by omega) (by omega)
      rw [if_neg (show ¬ (false = true) by decide)] at ih ⊢
      rw [if_pos rfl, bi1S, pletE, nI_1, ih, Bool.false_and, Bool.false_and]
    | true =>
      rw [if_pos rfl, if_neg one_nz, Bool.true_and]
      by_cases z : X i = 0
      · have ih := far8_L G2 X Y hX ha hb hd K c (i + 1) k true (by omega) (by omega)
        have q : ¬ (¬ X i = 0 ∧ dst (X i) a + dst (Y i) b < d) := fun w => w.1 z
        rw [if_pos rfl, Bool.true_and] at ih
        rw [if_pos ((nI0 (by omega)).2 z), if_neg q, bi1S, pletE, nI_1, ih]
      · have c1 : ¬ nI (X i) = 0 := fun w => z ((nI0 (by omega)).1 w)
        rw [if_neg c1, apart8_v G2 hlt g1 g2 g3 g4 ha hb, bi1S]
        by_cases w : dst (X i) a + dst (Y i) b < d
        · have ih := far8_L G2 X Y hX ha hb hd K c (i + 1) k false (by omega) (by omega)
          have q : ¬ X i = 0 ∧ dst (X i) a + dst (Y i) b < d := ⟨z, w⟩
          rw [if_neg (show ¬ (false = true) by decide), Bool.false_and] at ih
          rw [if_pos (nI_lt w (by omega)), if_pos q, bi1S, pletE, nI_1, ih]
        · have ih := far8_L G2 X Y hX ha hb hd K c (i + 1) k true (by omega) (by omega)
          have q : ¬ (¬ X i = 0 ∧ dst (X i) a + dst (Y i) b < d) := fun y => w y.2
          have c2 : ¬ nI (dst (X i) a + dst (Y i) b) < nI d := nI_nlt (by omega) (by unfold dst; omega)
          rw [if_pos rfl, Bool.true_and] at ih
          rw [if_neg c2, if_neg q, bi1S, pletE, nI_1, ih]
def fB (X Y : Nat → Nat) (d a : Nat) : Nat → Nat → Option Nat
  | 0, _ => none
  | c + 1, b => if farB X Y a b d 12 0 = true then some (10 * a + b) else fB X Y d a c (b + 1)
def fA (X Y : Nat → Nat) (d : Nat) : Nat → Nat → Option Nat
  | 0, _ => none
  | c + 1, a => (fB X Y d a 6 1).elim (fA X Y d c (a + 1)) some
theorem tab {a b : Nat} : (10 : Int32) * nI a + nI b = nI (10 * a + b) := by
  have e : (10 : Int32) * nI a = nI (10 * a) := pk_mul 10 a
  rw [e, nI_add]
theorem b7_L (n : Nat) (hn : 12 < n) (G : tG) (X Y : Nat → Nat) (hS : Sg G X Y) {a d : Nat} (ha : a ≤ 7) (hd : d ≤ 10) (K : Int32 → Option Int32) : ∀ c b k, b + c = 7 → c < k → p_X3_firstFree_L10 n G (nI d) (nI a) K k (nI b) = (fB X Y d a c b).elim (K (nI 7)) (fun r => some (nI r))
  | 0, b, k, hb, hk => by
    obtain ⟨k, rfl⟩ : ∃ q, k = q + 1 := ⟨k - 1, by omega⟩
    have e : b = 7 := by omega
    subst e
    rw [p_X3_firstFree_L10, if_pos (by decide)]; rfl
  | c + 1, b, k, hb, hk => by
    obtain ⟨k, rfl⟩ : ∃ q, k = q + 1 := ⟨k - 1, by omega⟩
    have ih := b7_L n hn G X Y hS ha hd K c (b + 1) k (by omega) (by omega)
    have f := far7_L G X Y hS (b := b) ha (by omega) hd 12 0 n (by omega) (by omega)
    have f' : p_X3_isFarFromAll n G (nI a) (nI b) (nI d) = some (if farB X Y a b d 12 0 = true then 1 else 0) := f
    rw [p_X3_firstFree_L10, if_neg (nlt6 (i := b) (by omega)), f', bi1S, fB]
    by_cases q : farB X Y a b d 12 0 = true
    · rw [if_pos q, if_pos q, if_neg one_nz, tab]; rfl
    · rw [if_neg q, if_neg q, if_pos rfl, pletE, nI_1]; exact ih
theorem a7_L (n : Nat) (hn : 12 < n) (G : tG) (X Y : Nat → Nat) (hS : Sg G X Y) {d : Nat} (hd : d ≤ 10) (K : Int32 → Option Int32) : ∀ c a k, a + c = 7 → c < k → p_X3_firstFree_L2 n G (nI d) K k (nI a) = (fA X Y d c a).elim (K (nI 7)) (fun r => some (nI r))
  | 0, a, k, hb, hk => by
    obtain ⟨k, rfl⟩ : ∃ q, k = q + 1 := ⟨k - 1, by omega⟩
    have e : a = 7 := by omega
    subst e
    rw [p_X3_firstFree_L2, if_pos (by decide)]; rfl
  | c + 1, a, k, hb, hk => by
    obtain ⟨k, rfl⟩ : ∃ q, k = q + 1 := ⟨k - 1, by omega⟩
    have ih := a7_L n hn G X Y hS hd K c (a + 1) k (by omega) (by omega)
    have f := fun K2 => b7_L n hn G X Y hS (a := a) (d := d) (by omega) hd K2 6 1 n (by omega) (by omega)
    have e1 : nI 1 = 1 := rfl
    rw [e1] at f
    rw [p_X3_firstFree_L2, if_neg (nlt6 (i := a) (by omega)), f, fA]
    cases fB X Y d a 6 1 with
    | none =>
      show plet (nI a + 1) _ = _
      rw [pletE, nI_1]; exact ih
    | some r => rfl
theorem b8_L (n : Nat) (hn : 12 < n) (G2 : tG) (X Y : Nat → Nat) (hX : ∀ j, j < 12 → G2 9 j = nI (X j) ∧ G2 10 j = nI (Y j) ∧ X j ≤ 6 ∧ Y j ≤ 6) {a d : Nat} (ha : a ≤ 7) (hd : d ≤ 10) (K : Int32 → Option Int32) : ∀ c b k, b + c = 7 → c < k → p_X8_free_L23 n G2 (nI d) (nI a) K k (nI b) = (fB X Y d a c b).elim (K (nI 7)) (fun r => some (nI r))
  | 0, b, k, hb, hk => by
    obtain ⟨k, rfl⟩ : ∃ q, k = q + 1 := ⟨k - 1, by omega⟩
    have e : b = 7 := by omega
    subst e
    rw [p_X8_free_L23, if_pos (by decide)]; rfl
  | c + 1, b, k, hb, hk => by
    obtain ⟨k, rfl⟩ : ∃ q, k = q + 1 := ⟨k - 1, by omega⟩
    have ih := b8_L n hn G2 X Y hX ha hd K c (b + 1) k (by omega) (by omega)
    have f := fun K2 => far8_L G2 X Y hX (b := b) ha (by omega) hd K2 12 0 n true (by omega) (by omega)
    have e0 : nI 0 = 0 := rfl
    have f' : ∀ K2, p_X8_free_L35 G2 (nI d) (nI a) (nI b) K2 n 0 1 = K2 (nI 12) (if (true && farB X Y a b d 12 0) = true then 1 else 0) := fun K2 => f K2
    rw [p_X8_free_L23, if_neg (lt7 (i := b) (by omega)), f', Bool.true_and, fB]
    by_cases q : farB X Y a b d 12 0 = true
    · rw [if_pos q, if_pos q, if_neg one_nz, tab]; rfl
    · rw [if_neg q, if_neg q, if_pos rfl, pletE, nI_1]; exact ih
theorem a8_L (n : Nat) (hn : 12 < n) (G2 : tG) (X Y : Nat → Nat) (hX : ∀ j, j < 12 → G2 9 j = nI (X j) ∧ G2 10 j = nI (Y j) ∧ X j ≤ 6 ∧ Y j ≤ 6) {d : Nat} (hd : d ≤ 10) (K : Int32 → Option Int32) : ∀ c a k, a + c = 7 → c < k → p_X8_free_L15 n G2 (nI d) K k (nI a) = (fA X Y d c a).elim (K (nI 7)) (fun r => some (nI r))
  | 0, a, k, hb, hk => by
    obtain ⟨k, rfl⟩ : ∃ q, k = q + 1 := ⟨k - 1, by omega⟩
    have e : a = 7 := by omega
    subst e
    rw [p_X8_free_L15, if_pos (by decide)]; rfl
  | c + 1, a, k, hb, hk => by
    obtain ⟨k, rfl⟩ : ∃ q, k = q + 1 := ⟨k - 1, by omega⟩
    have ih := a8_L n hn G2 X Y hX hd K c (a + 1) k (by omega) (by omega)
    have f := fun K2 => b8_L n hn G2 X Y hX (a := a) (d := d) (by omega) hd K2 6 1 n (by omega) (by omega)
    have e1 : nI 1 = 1 := rfl
    rw [e1] at f
    rw [p_X8_free_L15, if_neg (lt7 (i := a) (by omega)), f, fA]
    cases fB X Y d a 6 1 with
    | none =>
      show plet (nI a + 1) _ = _
      rw [pletE, nI_1]; exact ih
    | some r => rfl
theorem sim_free {n : Nat} (hn : 5000 ≤ n) : simT_free n RR := by
  intro F G F2 G2 b1 hR
  obtain ⟨hA, hO, hM, hW, hT, hL, hB, hP⟩ := id hR
  obtain ⟨X, Y, hS, hX⟩ := sgOf hL
  unfold p_X7_free p_X8_free p_X3_firstFree
  simp only [withinIf, inIf]
  by_cases h1 : b1 < 1
  · simp only [if_pos h1]
    exact ⟨-2, rfl, rfl⟩
  by_cases h2 : 10 < b1
  · simp only [if_neg h1, if_pos h2]
    exact ⟨-2, rfl, rfl⟩
  simp only [if_neg h1, if_neg h2]
  obtain ⟨d, -, d2, d3⟩ := ix_of (m := 1) (n := 10) rfl rfl (by omega) (by omega) h1 h2
  subst d3
  have e7 := a7_L n (by omega) G X Y hS d2 (fun _ => some (-6)) 6 1 n (by omega) (by omega)
  have e8 := a8_L n (by omega) G2 X Y (fun j hj => ⟨(hX j hj).1, (hX j hj).2, (hS j hj).2.2.1, (hS j hj).2.2.2.1⟩) d2 (fun _ => some (-6)) 6 1 n (by omega) (by omega)
  have e1 : nI 1 = 1 := rfl
  rw [e1] at e7 e8
  rw [e7, e8]
  cases fA X Y d 6 1 with
  | none => exact ⟨-6, rfl, rfl⟩
  | some r => exact ⟨nI r, rfl, rfl⟩
