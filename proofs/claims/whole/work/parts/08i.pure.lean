theorem read_L {n : Nat} (hn : 5000 ≤ n) (F2 : tF) (G2 : tG) (m : Int32) {e : Nat} (he : e ≤ 40) (hF : F2 20 = nI e) (K : Int32 → Int32 → Int32 → tF → Option (tF × tG)) (κ : Nat → Nat) (hκ : ∀ t, t ≤ 1000 → κ t = kd (scO (G2 13) (G2 14) (G2 15) m (nI t) e) (scA (G2 13) (G2 14) (G2 15) m (nI t) e) (scB (G2 13) (G2 14) (G2 15) m (nI t) e)) : ∀ c t k Fl, t + c = 1001 → c < k → (∀ j, j < 23 → Fl j = F2 j) → Fl 23 = nI (stSr κ t) → Fl 24 = nI (stDk κ t) → Fl 25 = nI (lsS κ t) → Fl 26 = nI (lmS κ t) → ∃ Fl', (∀ j, j < 23 → Fl' j = F2 j) ∧ Fl' 23 = nI (stSr κ 1001) ∧ Fl' 24 = nI (stDk κ 1001) ∧ Fl' 25 = nI (lsS κ 1001) ∧ Fl' 26 = nI (lmS κ 1001) ∧ p_X8_readLog_L27 n G2 m K k (nI t) (nI (mrS κ t)) (nI (srS κ t)) Fl = K (nI 1001) (nI (mrS κ 1001)) (nI (srS κ 1001)) Fl' := by
  intro c
  induction c with
  | zero =>
    intro t k Fl ht hk hj e23 e24 e25 e26
    obtain ⟨k, rfl⟩ : ∃ q, k = q + 1 := ⟨k - 1, by omega⟩
    have e : t = 1001 := by omega
    subst e
    refine ⟨Fl, hj, e23, e24, e25, e26, ?_⟩
    rw [p_X8_readLog_L27, if_pos (show (1000 : Int32) < nI 1001 from by decide)]
  | succ c ih =>
    intro t k Fl ht hk hj e23 e24 e25 e26
    obtain ⟨k, rfl⟩ : ∃ q, k = q + 1 := ⟨k - 1, by omega⟩
    obtain ⟨l1, l2, l3, l4, l5, l6, -, -⟩ := st_le κ t
    obtain ⟨l1', l2', l3', l4', l5', l6', -, -⟩ := st_le κ (t + 1)
    have hk3 := kd3 (scO (G2 13) (G2 14) (G2 15) m (nI t) e) (scA (G2 13) (G2 14) (G2 15) m (nI t) e) (scB (G2 13) (G2 14) (G2 15) m (nI t) e)
    obtain ⟨y, v1, v2, v3⟩ := kdv (scO (G2 13) (G2 14) (G2 15) m (nI t) e) (scA (G2 13) (G2 14) (G2 15) m (nI t) e) (scB (G2 13) (G2 14) (G2 15) m (nI t) e)
    rw [← hκ t (by omega)] at hk3 v2 v3
    obtain ⟨s, es⟩ : ∃ s : Int32, s = if κ t = 1 then 1 else 0 := ⟨_, rfl⟩
    obtain ⟨d, ed⟩ : ∃ d : Int32, d = if κ t = 2 then 1 else 0 := ⟨_, rfl⟩
    rw [← es] at v2 v3
    rw [← ed] at v3
    have hs : (if s = 0 then some (0 : Int32) else some 1) = some s ∧ Fl 23 + s = nI (stSr κ (t + 1)) ∧ (if s = 0 then some (0 : Int32) else some (nI (srS κ t) + 1)) = some (nI (srS κ (t + 1))) := by
      rw [es, e23, stSr, srS]
      by_cases q : κ t = 1
      · rw [if_pos q, if_pos q, if_pos q, if_neg one_nz, if_neg one_nz, nI_1, nI_1]; exact ⟨rfl, rfl, rfl⟩
      · rw [if_neg q, if_neg q, if_neg q, if_pos rfl, if_pos rfl, Int32.add_zero]; exact ⟨rfl, rfl, rfl⟩
    have hd : (if d = 0 then some (0 : Int32) else some 1) = some d ∧ Fl 24 + d = nI (stDk κ (t + 1)) := by
      rw [ed, e24, stDk]
      by_cases q : κ t = 2
      · rw [if_pos q, if_pos q, if_neg one_nz, nI_1]; exact ⟨rfl, rfl⟩
      · rw [if_neg q, if_neg q, if_pos rfl, Int32.add_zero]; exact ⟨rfl, rfl⟩
    have hm : (if s = 0 then (if d = 0 then some (0 : Int32) else some (nI (mrS κ t) + 1)) else some (nI (mrS κ t) + 1)) = some (nI (mrS κ (t + 1))) := by
      rw [es, ed, mrS, nI_1]
      rcases hk3 with q | q | q
      · rw [q]; rfl
      · rw [q]; rfl
      · rw [q]; rfl
    obtain ⟨Fa, eFa⟩ : ∃ z : tF, z = upd Fl 23 (Fl 23 + s) := ⟨_, rfl⟩
    obtain ⟨Fb, eFb⟩ : ∃ z : tF, z = upd Fa 24 (Fa 24 + d) := ⟨_, rfl⟩
    have b25 : Fb 25 = nI (lsS κ t) := by rw [eFb, eFa]; exact e25
    obtain ⟨Fc, eFc⟩ : ∃ z : tF, z = upd Fb 25 (nI (lsS κ (t + 1))) := ⟨_, rfl⟩
    have c26 : Fc 26 = nI (lmS κ t) := by rw [eFc, eFb, eFa]; exact e26
    obtain ⟨Fd, eFd⟩ : ∃ z : tF, z = upd Fc 26 (nI (lmS κ (t + 1))) := ⟨_, rfl⟩
    have w1 : (if nI (srS κ (t + 1)) ≤ nI (lsS κ t) then some (nI (lsS κ t)) else some (nI (srS κ (t + 1)))) = some (nI (lsS κ (t + 1))) := nI_mx8 (by omega) (by omega)
    have w2 : (if nI (mrS κ (t + 1)) ≤ nI (lmS κ t) then some (nI (lmS κ t)) else some (nI (mrS κ (t + 1)))) = some (nI (lmS κ (t + 1))) := nI_mx8 (by omega) (by omega)
    obtain ⟨Fl', f1, f2, f3, f4, f5, f6⟩ := ih (t + 1) k Fd (by omega) (by omega) (by
      intro j hj2
      rw [eFd, pk_un (by omega), eFc, pk_un (by omega), eFb, pk_un (by omega), eFa, pk_un (by omega)]
      exact hj j hj2) (by rw [eFd, eFc, eFb, eFa]; exact hs.2.1) (by rw [eFd, eFc, eFb, eFa]; exact hd.2) (by rw [eFd, eFc]; rfl) (by rw [eFd]; rfl)
    refine ⟨Fl', f1, f2, f3, f4, f5, ?_⟩
    rw [p_X8_readLog_L27, if_neg (show ¬ (1000 : Int32) < nI t from nI_nlt (a := 1000) (by omega) (by omega))]
    refine (scan_L G2 Fl m (nI t) he ((hj 20 (by omega)).trans hF) _ e 0 n (by omega) (by omega)).trans ?_
    rw [v1, bi1S, v2, bi1S, v3, bi1S, hs.1, bi1S, ← eFa, pletE, hd.1, bi1S, ← eFb, pletE, hs.2.2, bi1S, hm, bi1S, b25, w1, bi1S, ← eFc, pletE, c26, w2, bi1S, ← eFd, pletE, pletE, nI_1]
    exact f6
/-- the class's fields hold what the minutes ahead of t make -/
def LGW (F : tF) (κ : Nat → Nat) (t : Nat) : Prop := F 26 = nI (stSr κ t) ∧ F 27 = nI (stDk κ t) ∧ F 28 = nI (lsS κ t) ∧ F 29 = nI (lmS κ t) ∧ F 31 = nI (mrS κ t)
def LGF (F : tF) (κ : Nat → Nat) (t : Nat) : Prop := LGW F κ t ∧ F 30 = nI (srS κ t)
theorem LF_cong {F : tF} {κ κ2 : Nat → Nat} {t : Nat} (h : ∀ j, j < t → κ j = κ2 j) (k : LGF F κ t) : LGF F κ2 t := by
  obtain ⟨h1, h2, h3, h4, h5, h6⟩ := st_cong t h
  obtain ⟨⟨k1, k2, k3, k4, k5⟩, k6⟩ := k
  exact ⟨⟨h1 ▸ k1, h2 ▸ k2, h5 ▸ k3, h6 ▸ k4, h4 ▸ k5⟩, h3 ▸ k6⟩
def aSure (F : tF) (a : Int32) : tF := upd (upd (upd (upd (upd F 26 (F 26 + a)) 30 (F 30 + a)) 28 (if F 28 < F 30 + a then F 30 + a else F 28)) 31 (F 31 + a)) 29 (if F 29 < F 31 + a then F 31 + a else F 29)
theorem aSure_v (F : tF) (G : tG) (a : Int32) : p_X1_addSure F G a = some (aSure F a, G) := rfl
def aDark (F : tF) (a : Int32) : tF := upd (upd (upd (upd F 27 (F 27 + a)) 30 0) 31 (F 31 + a)) 29 (if F 29 < F 31 + a then F 31 + a else F 29)
theorem aDark_v (F : tF) (G : tG) (a : Int32) : p_X1_addDark F G a = some (aDark F a, G) := rfl
theorem aSure_o (F : tF) (a : Int32) {j : Nat} (h : j < 26) : aSure F a j = F j := by
  unfold aSure
  rw [pk_un (by omega), pk_un (by omega), pk_un (by omega), pk_un (by omega), pk_un (by omega)]
theorem aDark_o (F : tF) (a : Int32) {j : Nat} (h : j < 26) : aDark F a j = F j := by
  unfold aDark
  rw [pk_un (by omega), pk_un (by omega), pk_un (by omega), pk_un (by omega)]
theorem gap_s {F : tF} {κ : Nat → Nat} {t len : Nat} (h : LGF F κ t) (hk : ∀ j, t ≤ j → j < t + len → κ j = 1) (hb : t + len ≤ 2000) : LGF (aSure F (nI len)) κ (t + len) := by
  obtain ⟨⟨k1, k2, k3, k4, k5⟩, k6⟩ := h
  obtain ⟨h1, h2, h3, h4, h5, h6⟩ := run_s len hk
  obtain ⟨l1, l2, l3, l4, l5, l6, -, -⟩ := st_le κ t
  refine ⟨⟨?_, ?_, ?_, ?_, ?_⟩, ?_⟩
  · show F 26 + nI len = _
    rw [k1, nI_add, h1]
  · show F 27 = _
    rw [k2, h2]
  · show (if F 28 < F 30 + nI len then F 30 + nI len else F 28) = _
    rw [k3, k6, nI_add, h5]; exact nI_mx (by omega) (by omega)
  · show (if F 29 < F 31 + nI len then F 31 + nI len else F 29) = _
    rw [k4, k5, nI_add, h6]; exact nI_mx (by omega) (by omega)
  · show F 31 + nI len = _
    rw [k5, nI_add, h4]
  · show F 30 + nI len = _
    rw [k6, nI_add, h3]
theorem gap_d {F : tF} {κ : Nat → Nat} {t len : Nat} (h : LGF F κ t) (hk : ∀ j, t ≤ j → j < t + len → κ j = 2) (hb : t + len ≤ 2000) : LGW (aDark F (nI len)) κ (t + len) ∧ aDark F (nI len) 30 = 0 ∧ (len = 0 ∨ srS κ (t + len) = 0) := by
  obtain ⟨⟨k1, k2, k3, k4, k5⟩, k6⟩ := h
  obtain ⟨h1, h2, h3, h4, h5, h6⟩ := run_d len hk
  obtain ⟨l1, l2, l3, l4, l5, l6, -, -⟩ := st_le κ t
  refine ⟨⟨?_, ?_, ?_, ?_, ?_⟩, rfl, h3⟩
  · show F 26 = _
    rw [k1, h1]
  · show F 27 + nI len = _
    rw [k2, nI_add, h2]
  · show F 28 = _
    rw [k3, h5]
  · show (if F 29 < F 31 + nI len then F 31 + nI len else F 29) = _
    rw [k4, k5, nI_add, h6]; exact nI_mx (by omega) (by omega)
  · show F 31 + nI len = _
    rw [k5, nI_add, h4]
theorem entry_v {F : tF} (G : tG) {κ : Nat → Nat} {t : Nat} {w : Int32} (h : LGW F κ t) (h30 : w = 2 → F 30 = nI (srS κ t)) (hk : κ t = if w = 2 then 1 else 0) (hb : t ≤ 1000) : ∃ F', p_X1_readEntry F G (if w = 2 then 1 else 0) = some (F', G) ∧ LGF F' κ (t + 1) ∧ F' 25 = F 25 + 1 ∧ ∀ j, j < 25 → F' j = F j := by
  by_cases q : w = 2
  · rw [if_pos q] at hk
    have g := gap_s (F := upd F 25 (F 25 + 1)) (κ := κ) (t := t) (len := 1) ⟨h, h30 q⟩ (fun j j1 j2 => by rw [show j = t by omega]; exact hk) (by omega)
    refine ⟨aSure (upd F 25 (F 25 + 1)) 1, ?_, g, ?_, ?_⟩
    · rw [if_pos q]; rfl
    · rw [aSure_o _ _ (by omega), pk_us]
    · intro j hj
      rw [aSure_o _ _ (by omega), pk_un (by omega)]
  · rw [if_neg q] at hk
    obtain ⟨k1, k2, k3, k4, k5⟩ := h
    refine ⟨upd (upd (upd F 25 (F 25 + 1)) 30 0) 31 0, ?_, ⟨⟨?_, ?_, ?_, ?_, ?_⟩, ?_⟩, rfl, ?_⟩
    · rw [if_neg q]; rfl
    · show F 26 = _
      rw [k1, stSr, if_neg (by omega)]; rfl
    · show F 27 = _
      rw [k2, stDk, if_neg (by omega)]; rfl
    · show F 28 = _
      rw [k3, lsS, srS, if_neg (by omega), mx_l (by omega)]
    · show F 29 = _
      rw [k4, lmS, mrS, if_pos hk, mx_l (by omega)]
    · show (0 : Int32) = _
      rw [mrS, if_pos hk]; rfl
    · show (0 : Int32) = _
      rw [srS, if_neg (by omega)]; rfl
    · intro j hj
      rw [pk_un (by omega), pk_un (by omega), pk_un (by omega)]
