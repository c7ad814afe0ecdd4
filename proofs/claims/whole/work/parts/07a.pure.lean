theorem fb_rng (x : Int32) : -2147483648 ≤ x.toInt ∧ x.toInt < 2147483648 := by
  have h1 := Int32.le_toInt x
  have h2 := Int32.toInt_lt x
  omega
theorem fb_bmod {z : Int} (h1 : -2147483648 ≤ z) (h2 : z < 2147483648) : z.bmod (2 ^ 32) = z := by
  rw [Int.bmod_eq_of_le (by omega) (by omega)]
theorem fb_addI {x y : Int32} (h1 : -2147483648 ≤ x.toInt + y.toInt) (h2 : x.toInt + y.toInt < 2147483648) : (x + y).toInt = x.toInt + y.toInt := by
  rw [Int32.toInt_add, fb_bmod h1 h2]
theorem fb_subI {x y : Int32} (h1 : -2147483648 ≤ x.toInt - y.toInt) (h2 : x.toInt - y.toInt < 2147483648) : (x - y).toInt = x.toInt - y.toInt := by
  rw [Int32.toInt_sub, fb_bmod h1 h2]
theorem fb_mulI {x y : Int32} (h1 : -2147483648 ≤ x.toInt * y.toInt) (h2 : x.toInt * y.toInt < 2147483648) : (x * y).toInt = x.toInt * y.toInt := by
  rw [Int32.toInt_mul, fb_bmod h1 h2]
theorem fb_negI {x : Int32} (h : x.toInt ≠ -2147483648) : (-x).toInt = -x.toInt := by
  have := fb_rng x
  rw [Int32.toInt_neg, fb_bmod (by omega) (by omega)]
theorem fb_ofI {z : Int} (h1 : -2147483648 ≤ z) (h2 : z < 2147483648) : (Int32.ofInt z).toInt = z := by
  rw [Int32.toInt_ofInt, fb_bmod h1 h2]
theorem fb_asI (x : Int32) : Int32.ofInt x.toInt = x := Int32.ofInt_toInt x
theorem fb_rngL (x : Int64) : -9223372036854775808 ≤ x.toInt ∧ x.toInt < 9223372036854775808 := by
  have h1 := Int64.le_toInt x
  have h2 := Int64.toInt_lt x
  omega
theorem fb_bmodL {z : Int} (h1 : -9223372036854775808 ≤ z) (h2 : z < 9223372036854775808) : z.bmod (2 ^ 64) = z := by
  rw [Int.bmod_eq_of_le (by omega) (by omega)]
theorem fb_addL {x y : Int64} (h1 : -9223372036854775808 ≤ x.toInt + y.toInt) (h2 : x.toInt + y.toInt < 9223372036854775808) : (x + y).toInt = x.toInt + y.toInt := by
  rw [Int64.toInt_add, fb_bmodL h1 h2]
theorem fb_subL {x y : Int64} (h1 : -9223372036854775808 ≤ x.toInt - y.toInt) (h2 : x.toInt - y.toInt < 9223372036854775808) : (x - y).toInt = x.toInt - y.toInt := by
  rw [Int64.toInt_sub, fb_bmodL h1 h2]
theorem fb_mulL {x y : Int64} (h1 : -9223372036854775808 ≤ x.toInt * y.toInt) (h2 : x.toInt * y.toInt < 9223372036854775808) : (x * y).toInt = x.toInt * y.toInt := by
  rw [Int64.toInt_mul, fb_bmodL h1 h2]
theorem pletE {α β : Type} (a : α) (k : α → β) : plet a k = k a := rfl
theorem oguardT {α : Type} (k : Option α) : oguard true k = k := rfl
theorem bi1S {α β : Type} (a : α) (k : α → Option β) : bi1 (some a) k = k a := rfl
theorem bi2S {α α2 β : Type} (a : α) (a2 : α2) (k : α → α2 → Option β) : bi2 (some (a, a2)) k = k a a2 := rfl
theorem bi3S {α α2 α3 β : Type} (a : α) (a2 : α2) (a3 : α3) (k : α → α2 → α3 → Option β) : bi3 (some (a, a2, a3)) k = k a a2 a3 := rfl
theorem bi4S {α α2 α3 α4 β : Type} (a : α) (a2 : α2) (a3 : α3) (a4 : α4) (k : α → α2 → α3 → α4 → Option β) : bi4 (some (a, a2, a3, a4)) k = k a a2 a3 a4 := rfl
theorem iteS {α : Type} {c : Prop} {i : Decidable c} (a b : α) : (@ite _ c i (some a) (some b)) = some (@ite _ c i a b) := by cases i <;> rfl
theorem inBT {k N : Nat} (h : k < N) (hN : N < 2 ^ 31) : inB (nI k) N = true := decide_eq_true (nI_in h hN)
/-! tests of numbers: what a call makes of them -/
theorem withinIf {α : Type} (a lo hi : Int32) (X Y : Option α) : bi1 (p_X7_within a lo hi) (fun x => if x = 0 then X else Y) = if a < lo then X else if hi < a then X else Y := by
  unfold p_X7_within
  by_cases h1 : a < lo
  · rw [if_pos h1, if_pos h1]; rfl
  · rw [if_neg h1, if_neg h1]
    by_cases h2 : hi < a
    · rw [if_pos h2, if_pos h2]; rfl
    · rw [if_neg h2, if_neg h2]; rfl
theorem inIf {α : Type} (a lo hi : Int32) (X Y : Option α) : bi1 (p_X8_in a lo hi) (fun x => if x = 0 then X else Y) = if a < lo then X else if hi < a then X else Y := by
  unfold p_X8_in
  by_cases h1 : a < lo
  · rw [if_pos h1, if_pos h1]; rfl
  · rw [if_neg h1, if_neg h1]
    by_cases h2 : hi < a
    · rw [if_pos h2, if_pos h2]; rfl
    · rw [if_neg h2, if_neg h2]; rfl
theorem withinV (a lo hi : Int32) : p_X7_within a lo hi = some (if a < lo then 0 else if hi < a then 0 else 1) := by
  unfold p_X7_within
  by_cases h1 : a < lo
  · rw [if_pos h1, if_pos h1]; rfl
  · rw [if_neg h1, if_neg h1]
    by_cases h2 : hi < a
    · rw [if_pos h2, if_pos h2]; rfl
    · rw [if_neg h2, if_neg h2]; rfl
theorem inV (a lo hi : Int32) : p_X8_in a lo hi = some (if a < lo then 0 else if hi < a then 0 else 1) := by
  unfold p_X8_in
  by_cases h1 : a < lo
  · rw [if_pos h1, if_pos h1]; rfl
  · rw [if_neg h1, if_neg h1]
    by_cases h2 : hi < a
    · rw [if_pos h2, if_pos h2]; rfl
    · rw [if_neg h2, if_neg h2]; rfl
def inR (a lo hi : Int32) : Int32 := if a < lo then 0 else if hi < a then 0 else 1
theorem inR_bt (a lo hi : Int32) : btB (inR a lo hi) = true := by
  unfold inR
  by_cases h1 : a < lo
  · rw [if_pos h1]; rfl
  · rw [if_neg h1]
    by_cases h2 : hi < a
    · rw [if_pos h2]; rfl
    · rw [if_neg h2]; rfl
theorem isMan7 (a : Int32) : p_X7_isMan a = p_X7_within a 0 5 := by
  unfold p_X7_isMan; rw [withinV]; exact congrArg (fun b => oguard b (some (inR a 0 5))) (inR_bt a 0 5)
theorem isMan8 (a : Int32) : p_X8_isMan a = p_X8_in a 0 5 := by
  unfold p_X8_isMan; rw [inV]; exact congrArg (fun b => oguard b (some (inR a 0 5))) (inR_bt a 0 5)
theorem isHose7 (a : Int32) : p_X7_isHose a = p_X7_within a 0 2 := by
  unfold p_X7_isHose; rw [withinV]; exact congrArg (fun b => oguard b (some (inR a 0 2))) (inR_bt a 0 2)
theorem isHose8 (a : Int32) : p_X8_isHose a = p_X8_in a 0 2 := by
  unfold p_X8_isHose; rw [inV]; exact congrArg (fun b => oguard b (some (inR a 0 2))) (inR_bt a 0 2)
theorem isSquare7 (a : Int32) : p_X7_isSquare a = p_X7_within a 0 48 := by
  unfold p_X7_isSquare; rw [withinV]; exact congrArg (fun b => oguard b (some (inR a 0 48))) (inR_bt a 0 48)
theorem isSquare8 (a : Int32) : p_X8_isSquare a = p_X8_in a 0 48 := by
  unfold p_X8_isSquare; rw [inV]; exact congrArg (fun b => oguard b (some (inR a 0 48))) (inR_bt a 0 48)
theorem has7 (F : tF) (a : Int32) : p_X6_has F a = p_X7_within a 0 ((F 15) - 1) := by
  unfold p_X6_has; rw [withinV]; exact congrArg (fun b => oguard b (some (inR a 0 ((F 15) - 1)))) (inR_bt a 0 ((F 15) - 1))
theorem isThing8 (F : tF) (a : Int32) : p_X8_isThing F a = p_X8_in a 0 ((F 15) - 1) := by
  unfold p_X8_isThing; rw [inV]; exact congrArg (fun b => oguard b (some (inR a 0 ((F 15) - 1)))) (inR_bt a 0 ((F 15) - 1))
theorem ix_of {a lo hi : Int32} {m n : Nat} (hl : lo = nI m) (hh : hi = nI n) (hn : n < 2 ^ 31) (hm : m ≤ n) (h1 : ¬ a < lo) (h2 : ¬ hi < a) : ∃ j : Nat, m ≤ j ∧ j ≤ n ∧ a = nI j := by
  rw [hl, Int32.lt_iff_toInt_lt, nI_toInt (by omega)] at h1
  rw [hh, Int32.lt_iff_toInt_lt, nI_toInt hn] at h2
  refine ⟨a.toInt.toNat, by omega, by omega, ?_⟩
  apply Int32.toInt_inj.1
  rw [nI_toInt (by omega)]; omega
/-! THE RELATION between the class's state (F, G) and the reference's (F2, G2) -/
def RAir (F F2 : tF) : Prop := F 1 = F2 0 ∧ F 2 = F2 1 ∧ F 3 = F2 2 ∧ F 4 = F2 3 ∧ F 5 = F2 4 ∧ F 6 = F2 5 ∧ F 7 = F2 6 ∧ F 8 = F2 7 ∧ F 9 = F2 8 ∧ F 10 = F2 9 ∧ F 11 = F2 10 ∧ F 12 = F2 11
def AirOk (F : tF) : Prop := 100 ≤ (F 1).toInt ∧ (F 1).toInt ≤ 5000 ∧ 0 ≤ (F 2).toInt ∧ (F 2).toInt ≤ 90 ∧ 0 ≤ (F 3).toInt ∧ 0 ≤ (F 4).toInt ∧ (F 3).toInt + (F 4).toInt ≤ (F 1).toInt * (10 + (F 2).toInt) / 10 ∧ (F 3).toInt + (F 4).toInt ≤ 5000 + 500 * (F 8).toInt ∧ 0 ≤ (F 8).toInt ∧ (F 8).toInt ≤ 40 ∧ 1 ≤ (F 11).toInt ∧ (F 11).toInt ≤ 30 ∧ 1 ≤ (F 12).toInt ∧ (F 12).toInt ≤ 100
/-- how many of the first k places hold x -/
def cntEq (f : Nat → Int32) (x : Int32) : Nat → Nat
  | 0 => 0
  | k + 1 => cntEq f x k + if f k = x then 1 else 0
def RMan (G G2 : tG) (c : Int32) (j : Nat) : Prop := G 0 j = G2 0 j ∧ (G 0 j = 0 ∨ G 0 j = 1 ∨ G 0 j = 2) ∧ (G 0 j = 2 → G 1 j = G2 1 j ∧ G 2 j = G2 2 j ∧ G 3 j = G2 3 j ∧ ∃ h : Nat, h < 3 ∧ G 2 j = nI h) ∧ (¬ G 0 j = 2 → G 1 j = -6 ∧ G 2 j = -6 ∧ G 3 j = 0) ∧ G 4 j = G2 4 j ∧ (G 4 j = -6 ∨ ∃ t : Nat, nI t < c ∧ t < 12 ∧ G 4 j = nI t)
def RMen (F : tF) (G : tG) (F2 : tF) (G2 : tG) : Prop := F 13 = F2 12 ∧ F 14 = F2 14 ∧ F 0 = F2 13 ∧ (∃ q : Nat, q ≤ 48 ∧ F 14 = nI q) ∧ (∀ j : Nat, j < 6 → RMan G G2 (F 15) j) ∧ (∀ j : Nat, j < 3 → G 5 j = G2 5 j) ∧ ∀ h : Nat, h < 3 → cntEq (G 2) (nI h) 6 ≤ 2
def RThing (G G2 : tG) (ra : Nat) (c t : Nat) : Prop := G 6 t = G2 6 (5 * t) ∧ G 7 t = G2 6 (5 * t + 1) ∧ G 8 t = G2 6 (5 * t + 2) ∧ G 9 t = G2 6 (5 * t + 3) ∧ G 10 t = G2 6 (5 * t + 4) ∧ G 11 t = G2 7 t ∧ (∃ w o k d u : Nat, w ≤ 1000 ∧ o ≤ 100 ∧ 1 ≤ k ∧ k ≤ 200 ∧ d ≤ k ∧ u < 2 ^ c ∧ G 7 t = nI w ∧ G 9 t = nI o ∧ G 8 t = nI k ∧ G 10 t = nI d ∧ G 11 t = nI u ∧ (ra.testBit t = true ↔ d = k))
def RWreck (F : tF) (G : tG) (F2 : tF) (G2 : tG) : Prop := F 15 = F2 15 ∧ F 16 = F2 16 ∧ F 17 = F2 17 ∧ ∃ c ra ta : Nat, c ≤ 12 ∧ ra < 2 ^ c ∧ ta < 2 ^ c ∧ F 15 = nI c ∧ F 16 = nI ra ∧ F 17 = nI ta ∧ (∀ t : Nat, t < c → RThing G G2 ra c t) ∧ ∀ t : Nat, c ≤ t → t < 12 → G 10 t = 0 ∧ G 11 t = 0
def RTide (F : tF) (G : tG) (F2 : tF) (G2 : tG) : Prop := F 19 = F2 18 ∧ ∃ k : Nat, k ≤ 5 ∧ F 19 = nI k ∧ ∀ j : Nat, j < k → G 12 j = G2 8 j ∧ ∃ q : Nat, 1 ≤ q ∧ q ≤ 300 ∧ G 12 j = nI q
def RSign (G G2 : tG) (j : Nat) : Prop := G 16 j = G2 9 j ∧ G 17 j = G2 10 j ∧ ∃ a b : Nat, G 16 j = nI a ∧ G 17 j = nI b ∧ ((a = 0 ∧ b = 0) ∨ (1 ≤ a ∧ a ≤ 6 ∧ 1 ≤ b ∧ b ≤ 6))
def RLine (F : tF) (G : tG) (F2 : tF) (G2 : tG) : Prop := F 23 = F2 19 ∧ (∀ j : Nat, j < 12 → RSign G G2 j) ∧ (∀ i j : Nat, i < 12 → j < 12 → i ≠ j → ¬ G 16 i = 0 → ¬ (G 16 i = G 16 j ∧ G 17 i = G 17 j)) ∧ ∃ h : Nat, h ≤ 4 ∧ F 23 = nI h ∧ ∀ j : Nat, j < h → G 18 j = G2 11 j ∧ G 19 j = G2 12 j ∧ ∃ a b : Nat, a ≤ 7 ∧ b ≤ 7 ∧ G 18 j = nI a ∧ G 19 j = nI b
def RBook (F : tF) (G : tG) (F2 : tF) (G2 : tG) : Prop := F 24 = F2 20 ∧ ∃ e : Nat, e ≤ 40 ∧ F 24 = nI e ∧ (∀ j : Nat, j < e → G 20 j = G2 13 j ∧ G 21 j = G2 14 j ∧ G 22 j = G2 15 j ∧ ∃ m k w : Nat, m ≤ 1000 ∧ k ≤ 5 ∧ w ≤ 2 ∧ G 20 j = nI m ∧ G 21 j = nI k ∧ G 22 j = nI w) ∧ ∀ i j : Nat, i < j → j < e → G 20 i ≤ G 20 j ∧ (G 21 i = G 21 j → G 20 i < G 20 j)
def wdEq (F : tF) (G : tG) (F0 : tF) (G0 : tG) : Prop := F 15 = F0 15 ∧ F 16 = F0 16 ∧ F 17 = F0 17 ∧ F 19 = F0 19 ∧ G 7 = G0 7 ∧ G 8 = G0 8 ∧ G 9 = G0 9 ∧ G 10 = G0 10 ∧ G 11 = G0 11 ∧ G 12 = G0 12
def PlanOk (F : tF) (G : tG) : Prop := ∃ (n : Nat) (F0 : tF) (G0 : tG) (F1 : tF) (G1 : tG), 5000 ≤ n ∧ wdEq F G F0 G0 ∧ p_X4_make n F0 G0 = some (F1, G1) ∧ F 20 = F1 20 ∧ F 21 = F1 21 ∧ F 22 = F1 22 ∧ G 13 = G1 13 ∧ G 14 = G1 14
def RPlan (F : tF) (G : tG) : Prop := F 18 = 0 ∨ (F 18 = 1 ∧ PlanOk F G)
def RR (F : tF) (G : tG) (F2 : tF) (G2 : tG) : Prop := RAir F F2 ∧ AirOk F ∧ RMen F G F2 G2 ∧ RWreck F G F2 G2 ∧ RTide F G F2 G2 ∧ RLine F G F2 G2 ∧ RBook F G F2 G2 ∧ RPlan F G
