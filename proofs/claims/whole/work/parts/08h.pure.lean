/-! log: a minute is none (0), sure (1) or dark (2) -/
def mxN (x y : Nat) : Nat := if x < y then y else x
theorem mx_l {x y : Nat} (h : y ≤ x) : mxN x y = x := if_neg (by omega)
theorem mx_r {x y : Nat} (h : x ≤ y) : mxN x y = y := by
  rcases Nat.lt_or_ge x y with q | q
  · exact if_pos q
  · rw [mx_l q]; omega
theorem mx_s (x y : Nat) : mxN (mxN x y) (y + 1) = mxN x (y + 1) := by
  rcases Nat.lt_or_ge x y with q | q
  · rw [mx_r (Nat.le_of_lt q), mx_r (by omega), mx_r (by omega)]
  · rw [mx_l q]
theorem mx_le {x y m : Nat} (h : x ≤ m) (k : y ≤ m) : mxN x y ≤ m := by
  rcases Nat.lt_or_ge x y with q | q
  · rw [mx_r (Nat.le_of_lt q)]; exact k
  · rw [mx_l q]; exact h
theorem mx_ge (x y : Nat) : y ≤ mxN x y := by
  rcases Nat.lt_or_ge x y with q | q
  · rw [mx_r (Nat.le_of_lt q)]; exact Nat.le_refl y
  · rw [mx_l q]; exact q
theorem nI_mx {x y : Nat} (hx : x < 2 ^ 31) (hy : y < 2 ^ 31) : (if nI x < nI y then nI y else nI x) = nI (mxN x y) := by
  by_cases q : x < y
  · rw [if_pos (nI_lt q hy), mx_r (by omega)]
  · rw [if_neg (nI_nlt (by omega) hx), mx_l (by omega)]
theorem nI_mx8 {x y : Nat} (hx : x < 2 ^ 31) (hy : y < 2 ^ 31) : (if nI y ≤ nI x then some (nI x) else some (nI y)) = some (nI (mxN x y)) := by
  by_cases q : y ≤ x
  · rw [if_pos (nI_le q hx), mx_l q]
  · rw [if_neg (nI_ge (by omega) hy), mx_r (by omega)]
def stSr (κ : Nat → Nat) : Nat → Nat
  | 0 => 0
  | t + 1 => stSr κ t + if κ t = 1 then 1 else 0
def stDk (κ : Nat → Nat) : Nat → Nat
  | 0 => 0
  | t + 1 => stDk κ t + if κ t = 2 then 1 else 0
def srS (κ : Nat → Nat) : Nat → Nat
  | 0 => 0
  | t + 1 => if κ t = 1 then srS κ t + 1 else 0
def mrS (κ : Nat → Nat) : Nat → Nat
  | 0 => 0
  | t + 1 => if κ t = 0 then 0 else mrS κ t + 1
def lsS (κ : Nat → Nat) : Nat → Nat
  | 0 => 0
  | t + 1 => mxN (lsS κ t) (srS κ (t + 1))
def lmS (κ : Nat → Nat) : Nat → Nat
  | 0 => 0
  | t + 1 => mxN (lmS κ t) (mrS κ (t + 1))
theorem st_le (κ : Nat → Nat) : ∀ t, stSr κ t ≤ t ∧ stDk κ t ≤ t ∧ srS κ t ≤ t ∧ mrS κ t ≤ t ∧ lsS κ t ≤ t ∧ lmS κ t ≤ t ∧ srS κ t ≤ lsS κ t ∧ mrS κ t ≤ lmS κ t
  | 0 => ⟨Nat.le_refl 0, Nat.le_refl 0, Nat.le_refl 0, Nat.le_refl 0, Nat.le_refl 0, Nat.le_refl 0, Nat.le_refl 0, Nat.le_refl 0⟩
  | t + 1 => by
    obtain ⟨h1, h2, h3, h4, h5, h6, -, -⟩ := st_le κ t
    have a : stSr κ (t + 1) ≤ t + 1 := by
      rw [stSr]
      by_cases q : κ t = 1
      · rw [if_pos q]; omega
      · rw [if_neg q]; omega
    have b : stDk κ (t + 1) ≤ t + 1 := by
      rw [stDk]
      by_cases q : κ t = 2
      · rw [if_pos q]; omega
      · rw [if_neg q]; omega
    have c : srS κ (t + 1) ≤ t + 1 := by
      rw [srS]
      by_cases q : κ t = 1
      · rw [if_pos q]; omega
      · rw [if_neg q]; omega
    have d : mrS κ (t + 1) ≤ t + 1 := by
      rw [mrS]
      by_cases q : κ t = 0
      · rw [if_pos q]; omega
      · rw [if_neg q]; omega
    exact ⟨a, b, c, d, mx_le (by omega) c, mx_le (by omega) d, mx_ge _ _, mx_ge _ _⟩
theorem st_cong {κ κ2 : Nat → Nat} : ∀ t, (∀ j, j < t → κ j = κ2 j) → stSr κ t = stSr κ2 t ∧ stDk κ t = stDk κ2 t ∧ srS κ t = srS κ2 t ∧ mrS κ t = mrS κ2 t ∧ lsS κ t = lsS κ2 t ∧ lmS κ t = lmS κ2 t
  | 0, _ => ⟨rfl, rfl, rfl, rfl, rfl, rfl⟩
  | t + 1, h => by
    obtain ⟨h1, h2, h3, h4, h5, h6⟩ := st_cong t (fun j hj => h j (by omega))
    have e := h t (by omega)
    have c : srS κ (t + 1) = srS κ2 (t + 1) := by rw [srS, srS, e, h3]
    have d : mrS κ (t + 1) = mrS κ2 (t + 1) := by rw [mrS, mrS, e, h4]
    exact ⟨by rw [stSr, stSr, e, h1], by rw [stDk, stDk, e, h2], c, d, by rw [lsS, lsS, c, h5], by rw [lmS, lmS, d, h6]⟩
theorem run_s {κ : Nat → Nat} {t : Nat} : ∀ len, (∀ j, t ≤ j → j < t + len → κ j = 1) → stSr κ (t + len) = stSr κ t + len ∧ stDk κ (t + len) = stDk κ t ∧ srS κ (t + len) = srS κ t + len ∧ mrS κ (t + len) = mrS κ t + len ∧ lsS κ (t + len) = mxN (lsS κ t) (srS κ t + len) ∧ lmS κ (t + len) = mxN (lmS κ t) (mrS κ t + len)
  | 0, _ => by
    obtain ⟨-, -, -, -, -, -, a, b⟩ := st_le κ t
    exact ⟨rfl, rfl, rfl, rfl, (mx_l a).symm, (mx_l b).symm⟩
  | len + 1, h => by
    obtain ⟨h1, h2, h3, h4, h5, h6⟩ := run_s len (fun j j1 j2 => h j j1 (by omega))
    have e := h (t + len) (by omega) (by omega)
    have c : srS κ (t + len + 1) = srS κ t + len + 1 := by rw [srS, if_pos e, h3]
    have d : mrS κ (t + len + 1) = mrS κ t + len + 1 := by rw [mrS, if_neg (by omega), h4]
    refine ⟨?_, ?_, c, d, ?_, ?_⟩
    · show stSr κ (t + len) + (if κ (t + len) = 1 then 1 else 0) = _
      rw [if_pos e, h1]; omega
    · show stDk κ (t + len) + (if κ (t + len) = 2 then 1 else 0) = _
      rw [if_neg (by omega), h2]; omega
    · show mxN (lsS κ (t + len)) (srS κ (t + len + 1)) = _
      rw [c, h5]; exact mx_s _ _
    · show mxN (lmS κ (t + len)) (mrS κ (t + len + 1)) = _
      rw [d, h6]; exact mx_s _ _
theorem run_d {κ : Nat → Nat} {t : Nat} : ∀ len, (∀ j, t ≤ j → j < t + len → κ j = 2) → stSr κ (t + len) = stSr κ t ∧ stDk κ (t + len) = stDk κ t + len ∧ (len = 0 ∨ srS κ (t + len) = 0) ∧ mrS κ (t + len) = mrS κ t + len ∧ lsS κ (t + len) = lsS κ t ∧ lmS κ (t + len) = mxN (lmS κ t) (mrS κ t + len)
  | 0, _ => by
    obtain ⟨-, -, -, -, -, -, a, b⟩ := st_le κ t
    exact ⟨rfl, rfl, Or.inl rfl, rfl, rfl, (mx_l b).symm⟩
  | len + 1, h => by
    obtain ⟨h1, h2, h3, h4, h5, h6⟩ := run_d len (fun j j1 j2 => h j j1 (by omega))
    have e := h (t + len) (by omega) (by omega)
    have c : srS κ (t + len + 1) = 0 := by rw [srS, if_neg (by omega)]
    have d : mrS κ (t + len + 1) = mrS κ t + len + 1 := by rw [mrS, if_neg (by omega), h4]
    refine ⟨?_, ?_, Or.inr c, d, ?_, ?_⟩
    · show stSr κ (t + len) + (if κ (t + len) = 1 then 1 else 0) = _
      rw [if_neg (by omega), h1]; omega
    · show stDk κ (t + len) + (if κ (t + len) = 2 then 1 else 0) = _
      rw [if_pos e, h2]; omega
    · show mxN (lsS κ (t + len)) (srS κ (t + len + 1)) = _
      rw [c, h5]; exact mx_l (by omega)
    · show mxN (lmS κ (t + len)) (mrS κ (t + len + 1)) = _
      rw [d, h6]; exact mx_s _ _
theorem run_z {κ : Nat → Nat} {t : Nat} : ∀ len, (∀ j, t ≤ j → j < t + len → κ j = 0) → stSr κ (t + len) = stSr κ t ∧ stDk κ (t + len) = stDk κ t ∧ lsS κ (t + len) = lsS κ t ∧ lmS κ (t + len) = lmS κ t ∧ (len = 0 ∨ (srS κ (t + len) = 0 ∧ mrS κ (t + len) = 0))
  | 0, _ => ⟨rfl, rfl, rfl, rfl, Or.inl rfl⟩
  | len + 1, h => by
    obtain ⟨h1, h2, h3, h4, h5⟩ := run_z len (fun j j1 j2 => h j j1 (by omega))
    have e := h (t + len) (by omega) (by omega)
    have c : srS κ (t + len + 1) = 0 := by rw [srS, if_neg (by omega)]
    have d : mrS κ (t + len + 1) = 0 := by rw [mrS, if_pos e]
    refine ⟨?_, ?_, ?_, ?_, Or.inr ⟨c, d⟩⟩
    · show stSr κ (t + len) + (if κ (t + len) = 1 then 1 else 0) = _
      rw [if_neg (by omega), h1]; omega
    · show stDk κ (t + len) + (if κ (t + len) = 2 then 1 else 0) = _
      rw [if_neg (by omega), h2]; omega
    · show mxN (lsS κ (t + len)) (srS κ (t + len + 1)) = _
      rw [c, h3]; exact mx_l (by omega)
    · show mxN (lmS κ (t + len)) (mrS κ (t + len + 1)) = _
      rw [d, h4]; exact mx_l (by omega)
/-- what a minute is, by the man's own entry, the one ahead and the one behind -/
def kd (o a b : Int32) : Nat := if o = 2 then 1 else if 0 ≤ o then 0 else if a < 0 then 0 else if b < 0 then 0 else if a = 2 then (if b = 2 then 1 else 2) else 2
theorem kd_own {o : Int32} (h : 0 ≤ o) (a b : Int32) : kd o a b = if o = 2 then 1 else 0 := by
  unfold kd
  by_cases q : o = 2
  · rw [if_pos q, if_pos q]
  · rw [if_neg q, if_neg q, if_pos h]
theorem kd3 (o a b : Int32) : kd o a b = 0 ∨ kd o a b = 1 ∨ kd o a b = 2 := by
  unfold kd
  by_cases q1 : o = 2
  · rw [if_pos q1]; exact Or.inr (Or.inl rfl)
  rw [if_neg q1]
  by_cases q2 : 0 ≤ o
  · rw [if_pos q2]; exact Or.inl rfl
  rw [if_neg q2]
  by_cases q3 : a < 0
  · rw [if_pos q3]; exact Or.inl rfl
  rw [if_neg q3]
  by_cases q4 : b < 0
  · rw [if_pos q4]; exact Or.inl rfl
  rw [if_neg q4]
  by_cases q5 : a = 2
  · rw [if_pos q5]
    by_cases q6 : b = 2
    · rw [if_pos q6]; exact Or.inr (Or.inl rfl)
    · rw [if_neg q6]; exact Or.inr (Or.inr rfl)
  · rw [if_neg q5]; exact Or.inr (Or.inr rfl)
theorem kdv (o a b : Int32) : ∃ y : Int32, (if 0 ≤ o then some (0 : Int32) else (if a < 0 then some (0) else (if b < 0 then some (0) else some (1)))) = some y ∧ (if o = 2 then some (1 : Int32) else (if y = 0 then some (0) else (if a = 2 then (if b = 2 then some (1) else some (0)) else some (0)))) = some (if kd o a b = 1 then 1 else 0) ∧ (if y = 0 then some (0 : Int32) else (if (if kd o a b = 1 then (1 : Int32) else 0) = 0 then some (1) else some (0))) = some (if kd o a b = 2 then 1 else 0) := by
  unfold kd
  have p0 : (0 : Int32) ≤ 2 := by decide
  have z0 : (0 : Int32) = 0 := rfl
  by_cases q1 : o = 2
  · subst q1
    refine ⟨0, if_pos p0, ?_, ?_⟩
    · rw [if_pos rfl, if_pos rfl]; rfl
    · rw [if_pos z0, if_pos rfl]; rfl
  by_cases q2 : 0 ≤ o
  · refine ⟨0, if_pos q2, ?_, ?_⟩
    · rw [if_neg q1, if_pos z0, if_neg q1, if_pos q2]; rfl
    · rw [if_pos z0, if_neg q1, if_pos q2]; rfl
  by_cases q3 : a < 0
  · refine ⟨0, by rw [if_neg q2, if_pos q3], ?_, ?_⟩
    · rw [if_neg q1, if_pos z0, if_neg q1, if_neg q2, if_pos q3]; rfl
    · rw [if_pos z0, if_neg q1, if_neg q2, if_pos q3]; rfl
  by_cases q4 : b < 0
  · refine ⟨0, by rw [if_neg q2, if_neg q3, if_pos q4], ?_, ?_⟩
    · rw [if_neg q1, if_pos z0, if_neg q1, if_neg q2, if_neg q3, if_pos q4]; rfl
    · rw [if_pos z0, if_neg q1, if_neg q2, if_neg q3, if_pos q4]; rfl
  refine ⟨1, by rw [if_neg q2, if_neg q3, if_neg q4], ?_, ?_⟩
  · rw [if_neg q1, if_neg one_nz, if_neg q1, if_neg q2, if_neg q3, if_neg q4]
    by_cases q5 : a = 2
    · rw [if_pos q5, if_pos q5]
      by_cases q6 : b = 2
      · rw [if_pos q6, if_pos q6]; rfl
      · rw [if_neg q6, if_neg q6]; rfl
    · rw [if_neg q5, if_neg q5]; rfl
  · rw [if_neg one_nz, if_neg q1, if_neg q2, if_neg q3, if_neg q4]
    by_cases q5 : a = 2
    · rw [if_pos q5]
      by_cases q6 : b = 2
      · rw [if_pos q6]; rfl
      · rw [if_neg q6]; rfl
    · rw [if_neg q5]; rfl
def scO (M N W : Nat → Int32) (m t : Int32) : Nat → Int32
  | 0 => -6
  | i + 1 => if N i = m then (if M i = t then W i else scO M N W m t i) else scO M N W m t i
def scA (M N W : Nat → Int32) (m t : Int32) : Nat → Int32
  | 0 => -6
  | i + 1 => if N i = m then (if t ≤ M i then scA M N W m t i else W i) else scA M N W m t i
def scB (M N W : Nat → Int32) (m t : Int32) : Nat → Int32
  | 0 => -6
  | i + 1 => if N i = m then (if 0 ≤ scB M N W m t i then scB M N W m t i else (if M i ≤ t then scB M N W m t i else W i)) else scB M N W m t i
theorem scan_L (G : tG) (Fl : tF) (m t : Int32) {e : Nat} (he : e ≤ 40) (hF : Fl 20 = nI e) (K : Int32 → Int32 → Int32 → Int32 → Option (tF × tG)) : ∀ c i k, i + c = e → c < k → p_X8_readLog_L50 G Fl m t K k (nI i) (scB (G 13) (G 14) (G 15) m t i) (scA (G 13) (G 14) (G 15) m t i) (scO (G 13) (G 14) (G 15) m t i) = K (nI e) (scB (G 13) (G 14) (G 15) m t e) (scA (G 13) (G 14) (G 15) m t e) (scO (G 13) (G 14) (G 15) m t e)
  | 0, i, k, hi, hk => by
    obtain ⟨k, rfl⟩ : ∃ q, k = q + 1 := ⟨k - 1, by omega⟩
    have e : i = e := by omega
    subst e
    rw [p_X8_readLog_L50, hF, if_pos (nI_le (Nat.le_refl _) (by omega))]
  | c + 1, i, k, hi, hk => by
    obtain ⟨k, rfl⟩ : ∃ q, k = q + 1 := ⟨k - 1, by omega⟩
    have ih := scan_L G Fl m t he hF K c (i + 1) k (by omega) (by omega)
    rw [p_X8_readLog_L50, hF, if_neg (nI_ge (by omega) (by omega)), inBT (by omega) (by omega), nI_clamp (by omega)]
    by_cases hm : G 14 i = m
    · simp only [scB, scA, scO, if_pos hm] at ih
      simp only [if_pos hm, oguardT, iteS, bi1S, bi3S, pletE, nI_1]
      exact ih
    · simp only [scB, scA, scO, if_neg hm] at ih
      simp only [if_neg hm, oguardT, bi3S, pletE, nI_1]
      exact ih
