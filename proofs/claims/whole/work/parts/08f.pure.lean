/-! under: sets of things as numbers -/
def sbs (a b : Nat) : Prop := ∀ i, a.testBit i = true → b.testBit i = true
theorem sub_rf (a : Nat) : sbs a a := fun _ h => h
theorem sub_tr {a b c : Nat} (h : sbs a b) (k : sbs b c) : sbs a c := fun i q => k i (h i q)
theorem sub_an {a b : Nat} (h : sbs a b) (k : sbs b a) : a = b := by
  apply Nat.eq_of_testBit_eq
  intro i
  cases ha : a.testBit i with
  | true => rw [h i ha]
  | false =>
    cases hb : b.testBit i with
    | true => rw [k i hb] at ha; exact absurd ha (by decide)
    | false => rfl
theorem sub_ol (a b : Nat) : sbs a (a ||| b) := fun i q => by rw [Nat.testBit_or, q, Bool.true_or]
theorem sub_or (a b : Nat) : sbs b (a ||| b) := fun i q => by rw [Nat.testBit_or, q, Bool.or_true]
theorem sub_un {a b c : Nat} (h : sbs a c) (k : sbs b c) : sbs (a ||| b) c := fun i q => by
  rw [Nat.testBit_or, Bool.or_eq_true] at q
  rcases q with q | q
  · exact h i q
  · exact k i q
def passU (U : Nat → Nat) : Nat → Nat → Nat → Nat
  | 0, _, s => s
  | c + 1, i, s => passU U c (i + 1) (if s.testBit i = true then s ||| U i else s)
theorem pa_ge (U : Nat → Nat) : ∀ c i s, sbs s (passU U c i s)
  | 0, _, s => sub_rf s
  | c + 1, i, s => by
    rw [passU]
    refine sub_tr ?_ (pa_ge U c (i + 1) _)
    by_cases h : s.testBit i = true
    · rw [if_pos h]; exact sub_ol _ _
    · rw [if_neg h]; exact sub_rf _
theorem pa_lt (U : Nat → Nat) {m : Nat} : ∀ c i s, (∀ k, i ≤ k → k < i + c → U k < 2 ^ m) → s < 2 ^ m → passU U c i s < 2 ^ m
  | 0, _, _, _, h => h
  | c + 1, i, s, hU, h => by
    rw [passU]
    refine pa_lt U c (i + 1) _ (fun k k1 k2 => hU k (by omega) (by omega)) ?_
    by_cases q : s.testBit i = true
    · rw [if_pos q]; exact Nat.or_lt_two_pow h (hU i (by omega) (by omega))
    · rw [if_neg q]; exact h
theorem pa_le (U : Nat → Nat) {T : Nat} : ∀ c i s, (∀ k, i ≤ k → k < i + c → T.testBit k = true → sbs (U k) T) → sbs s T → sbs (passU U c i s) T
  | 0, _, _, _, h => h
  | c + 1, i, s, hU, h => by
    rw [passU]
    refine pa_le U c (i + 1) _ (fun k k1 k2 => hU k (by omega) (by omega)) ?_
    by_cases q : s.testBit i = true
    · rw [if_pos q]; exact sub_un h (hU i (by omega) (by omega) (h i q))
    · rw [if_neg q]; exact h
theorem pa_st (U : Nat → Nat) : ∀ c i s, passU U c i s = s → ∀ k, i ≤ k → k < i + c → s.testBit k = true → sbs (U k) s
  | 0, i, s, _, k, k1, k2, _ => absurd k2 (by omega)
  | c + 1, i, s, h, k, k1, k2, q => by
    rw [passU] at h
    by_cases p : s.testBit i = true
    · rw [if_pos p] at h
      have e : s ||| U i = s := by
        have g := pa_ge U c (i + 1) (s ||| U i)
        rw [h] at g
        exact sub_an g (sub_ol _ _)
      by_cases ki : k = i
      · rw [ki]
        have g := sub_or s (U i)
        rw [e] at g; exact g
      · rw [e] at h
        exact pa_st U c (i + 1) s h k (by omega) (by omega) q
    · rw [if_neg p] at h
      by_cases ki : k = i
      · rw [ki] at q; exact absurd q p
      · exact pa_st U c (i + 1) s h k (by omega) (by omega) q
def cntT (s : Nat) : Nat → Nat
  | 0 => 0
  | k + 1 => cntT s k + if s.testBit k = true then 1 else 0
theorem cntT_le (s : Nat) : ∀ k, cntT s k ≤ k
  | 0 => Nat.le_refl 0
  | k + 1 => by
    have ih := cntT_le s k
    rw [cntT]
    by_cases h : s.testBit k = true
    · rw [if_pos h]; omega
    · rw [if_neg h]; omega
theorem cntT_mono {a b : Nat} (h : sbs a b) : ∀ k, cntT a k ≤ cntT b k
  | 0 => Nat.le_refl 0
  | k + 1 => by
    have ih := cntT_mono h k
    rw [cntT, cntT]
    by_cases q : a.testBit k = true
    · rw [if_pos q, if_pos (h k q)]; omega
    · rw [if_neg q]; omega
theorem cntT_str {a b i : Nat} (h : sbs a b) (ha : a.testBit i = false) (hb : b.testBit i = true) : ∀ d, cntT a (i + 1 + d) + 1 ≤ cntT b (i + 1 + d)
  | 0 => by
    have m := cntT_mono h i
    show cntT a i + (if a.testBit i = true then 1 else 0) + 1 ≤ cntT b i + (if b.testBit i = true then 1 else 0)
    rw [if_pos hb, ha, if_neg (by decide)]; omega
  | d + 1 => by
    have ih := cntT_str h ha hb d
    show cntT a (i + 1 + d) + (if a.testBit (i + 1 + d) = true then 1 else 0) + 1 ≤ cntT b (i + 1 + d) + (if b.testBit (i + 1 + d) = true then 1 else 0)
    by_cases q : a.testBit (i + 1 + d) = true
    · rw [if_pos q, if_pos (h _ q)]; omega
    · rw [if_neg q]; omega
theorem cntT_lt {a b c : Nat} (h : sbs a b) (hb : b < 2 ^ c) (hn : ¬ b = a) : cntT a c + 1 ≤ cntT b c := by
  obtain ⟨i, hi⟩ := Nat.exists_testBit_ne_of_ne hn
  have q : b.testBit i = true := by
    cases hq : b.testBit i with
    | true => rfl
    | false =>
      cases hp : a.testBit i with
      | true => rw [h i hp] at hq; exact absurd hq (by decide)
      | false => exact absurd (hq.trans hp.symm) hi
  have p : a.testBit i = false := by
    cases hp : a.testBit i with
    | true => exact absurd (q.trans hp.symm) hi
    | false => rfl
  have ic : i < c := by
    rcases Nat.lt_or_ge i c with z | z
    · exact z
    · have e := Nat.testBit_lt_two_pow (x := b) (i := i) (Nat.lt_of_lt_of_le hb (Nat.pow_le_pow_right (by omega) z))
      rw [e] at q; exact absurd q (by decide)
  have e := cntT_str h p q (c - (i + 1))
  rw [show i + 1 + (c - (i + 1)) = c by omega] at e
  exact e
def iterP (U : Nat → Nat) (c : Nat) : Nat → Nat → Nat
  | 0, s => s
  | m + 1, s => iterP U c m (passU U c 0 s)
theorem it_st {U : Nat → Nat} {c s : Nat} (h : passU U c 0 s = s) : ∀ m, iterP U c m s = s
  | 0 => rfl
  | m + 1 => by rw [iterP, h]; exact it_st h m
theorem it_ge (U : Nat → Nat) (c : Nat) : ∀ m s, sbs s (iterP U c m s)
  | 0, s => sub_rf s
  | m + 1, s => sub_tr (pa_ge U c 0 s) (it_ge U c m _)
theorem it_lt {U : Nat → Nat} {c : Nat} (hU : ∀ k, k < c → U k < 2 ^ c) : ∀ m s, s < 2 ^ c → iterP U c m s < 2 ^ c
  | 0, _, h => h
  | m + 1, s, h => it_lt hU m _ (pa_lt U c 0 s (fun k _ k2 => hU k (by omega)) h)
theorem it_le {U : Nat → Nat} {c T : Nat} (hT : ∀ k, k < c → T.testBit k = true → sbs (U k) T) : ∀ m s, sbs s T → sbs (iterP U c m s) T
  | 0, _, h => h
  | m + 1, s, h => it_le hT m _ (pa_le U c 0 s (fun k _ k2 => hT k (by omega)) h)
theorem it_cnt {U : Nat → Nat} {c : Nat} (hU : ∀ k, k < c → U k < 2 ^ c) : ∀ m s, s < 2 ^ c → passU U c 0 (iterP U c m s) = iterP U c m s ∨ cntT s c + m ≤ cntT (iterP U c m s) c
  | 0, s, _ => Or.inr (Nat.le_refl _)
  | m + 1, s, h => by
    by_cases q : passU U c 0 s = s
    · rw [it_st q (m + 1)]; exact Or.inl q
    · have l := pa_lt U c 0 s (fun k _ k2 => hU k (by omega)) h
      rcases it_cnt hU m (passU U c 0 s) l with z | z
      · exact Or.inl z
      · have e := cntT_lt (pa_ge U c 0 s) l q
        refine Or.inr ?_
        rw [iterP]; omega
theorem it_cl {U : Nat → Nat} {c : Nat} (hU : ∀ k, k < c → U k < 2 ^ c) {m s : Nat} (hm : c ≤ m) (h : s < 2 ^ c) : ∀ k, k < c → (iterP U c m s).testBit k = true → sbs (U k) (iterP U c m s) := by
  have e : passU U c 0 (iterP U c m s) = iterP U c m s := by
    rcases it_cnt hU m s h with z | z
    · exact z
    · by_cases q : passU U c 0 (iterP U c m s) = iterP U c m s
      · exact q
      · have l := pa_lt U c 0 (iterP U c m s) (fun k _ k2 => hU k (by omega)) (it_lt hU m s h)
        have e := cntT_lt (pa_ge U c 0 (iterP U c m s)) l q
        have b := cntT_le (passU U c 0 (iterP U c m s)) c
        omega
  exact fun k hk q => pa_st U c 0 _ e k (by omega) (by omega) q
/-- what lies over a thing, begun at the thing itself (class) or at what lies straight over it (reference) -/
theorem above_eq {U : Nat → Nat} {c m o t : Nat} (hU : ∀ k, k < c → U k < 2 ^ c) (hm : c ≤ m) (ho : o < c) (hn : t ≠ o) : (iterP U c c (2 ^ o)).testBit t = (iterP U c m (U o)).testBit t := by
  have po : 2 ^ o < 2 ^ c := Nat.pow_lt_pow_right (by omega) ho
  have c1 := it_cl hU (Nat.le_refl c) po
  have c2 := it_cl hU hm (hU o ho)
  have i1 : (iterP U c c (2 ^ o)).testBit o = true := it_ge U c c (2 ^ o) o Nat.testBit_two_pow_self
  have s1 : sbs (iterP U c m (U o)) (iterP U c c (2 ^ o)) := it_le c1 m _ (c1 o ho i1)
  have s2 : sbs (iterP U c c (2 ^ o)) (iterP U c m (U o) ||| 2 ^ o) := by
    refine it_le ?_ c _ (sub_or _ _)
    intro k hk q
    rw [Nat.testBit_or, Bool.or_eq_true] at q
    rcases q with q | q
    · exact sub_tr (c2 k hk q) (sub_ol _ _)
    · have e : o = k := by
        rcases Nat.decEq o k with z | z
        · rw [Nat.testBit_two_pow_of_ne z] at q; exact absurd q (by decide)
        · exact z
      rw [← e]
      exact sub_tr (it_ge U c m (U o)) (sub_ol _ _)
  cases h : (iterP U c m (U o)).testBit t with
  | true => exact s1 t h
  | false =>
    cases g : (iterP U c c (2 ^ o)).testBit t with
    | false => rfl
    | true =>
      have q := s2 t g
      rw [Nat.testBit_or, h, Nat.testBit_two_pow_of_ne (fun z => hn z.symm)] at q
      exact absurd q (by decide)
theorem below19 {F : tF} {G : tG} {U : Nat → Nat} {c : Nat} (hc : c ≤ 12) (hF : F 15 = nI c) (hG : ∀ k, k < c → G 11 k = nI (U k)) (hU : ∀ k, k < c → U k < 2 ^ c) (K : Int32 → Int32 → Option Int32) : ∀ d i k s, i + d = c → d < k → s < 2 ^ c → p_X6_liesBelow_L19 F G K k (nI i) (nI s) = K (nI c) (nI (passU U d i s))
  | 0, i, k, s, hi, hk, hs => by
    obtain ⟨k, rfl⟩ : ∃ q, k = q + 1 := ⟨k - 1, by omega⟩
    have e : i = c := by omega
    subst e
    rw [p_X6_liesBelow_L19, hF, if_pos (nI_le (Nat.le_refl _) (by omega)), passU]
  | d + 1, i, k, s, hi, hk, hs => by
    obtain ⟨k, rfl⟩ : ∃ q, k = q + 1 := ⟨k - 1, by omega⟩
    have p := pow12 hc
    rw [p_X6_liesBelow_L19, hF, if_neg (nI_ge (by omega) (by omega)), passU]
    unfold p_X7_bit
    rw [bi1S]
    by_cases h : s.testBit i = true
    · rw [if_pos ((bitO (by omega) (by omega)).2 h), inBT (by omega) (by omega), oguardT, nI_clamp (by omega), hG i (by omega), fa_or, pletE, bi1S, pletE, nI_1, if_pos h]
      exact below19 hc hF hG hU K d (i + 1) k _ (by omega) (by omega) (Nat.or_lt_two_pow hs (hU i (by omega)))
    · rw [if_neg (fun z => h ((bitO (by omega) (by omega)).1 z)), bi1S, pletE, nI_1, if_neg h]
      exact below19 hc hF hG hU K d (i + 1) k _ (by omega) (by omega) hs
theorem below7 {n : Nat} (hn : 5000 ≤ n) {F : tF} {G : tG} {U : Nat → Nat} {c : Nat} (hc : c ≤ 12) (hF : F 15 = nI c) (hG : ∀ k, k < c → G 11 k = nI (U k)) (hU : ∀ k, k < c → U k < 2 ^ c) (K : Int32 → Int32 → Option Int32) : ∀ d i k s, i + d = c → d < k → s < 2 ^ c → p_X6_liesBelow_L7 n F G K k (nI i) (nI s) = K (nI c) (nI (iterP U c d s))
  | 0, i, k, s, hi, hk, hs => by
    obtain ⟨k, rfl⟩ : ∃ q, k = q + 1 := ⟨k - 1, by omega⟩
    have e : i = c := by omega
    subst e
    rw [p_X6_liesBelow_L7, hF, if_pos (nI_le (Nat.le_refl _) (by omega)), iterP]
  | d + 1, i, k, s, hi, hk, hs => by
    obtain ⟨k, rfl⟩ : ∃ q, k = q + 1 := ⟨k - 1, by omega⟩
    rw [p_X6_liesBelow_L7, hF, if_neg (nI_ge (by omega) (by omega))]
    refine (below19 hc hF hG hU _ c 0 n s (by omega) (by omega) hs).trans ?_
    rw [pletE, nI_1, iterP]
    exact below7 hn hc hF hG hU K d (i + 1) k _ (by omega) (by omega) (pa_lt U c 0 s (fun k _ k2 => hU k (by omega)) hs)
theorem above18 {F : tF} {G : tG} {U : Nat → Nat} {c : Nat} (hc : c ≤ 12) (hF : F 15 = nI c) (hG : ∀ k, k < c → G 7 k = nI (U k)) (hU : ∀ k, k < c → U k < 2 ^ c) (K : Int32 → Int32 → Option Int32) : ∀ d i k s, i + d = c → d < k → s < 2 ^ c → p_X8_above_L18 F G K k (nI i) (nI s) = K (nI c) (nI (passU U d i s))
  | 0, i, k, s, hi, hk, hs => by
    obtain ⟨k, rfl⟩ : ∃ q, k = q + 1 := ⟨k - 1, by omega⟩
    have e : i = c := by omega
    subst e
    rw [p_X8_above_L18, hF, if_pos (nI_le (Nat.le_refl _) (by omega)), passU]
  | d + 1, i, k, s, hi, hk, hs => by
    obtain ⟨k, rfl⟩ : ∃ q, k = q + 1 := ⟨k - 1, by omega⟩
    have p := pow12 hc
    rw [p_X8_above_L18, hF, if_neg (nI_ge (by omega) (by omega)), passU]
    by_cases h : s.testBit i = true
    · rw [if_pos ((bitO (by omega) (by omega)).2 h), inBT (by omega) (by omega), oguardT, nI_clamp (by omega), hG i (by omega), bi1S, pletE, fa_or, pletE, nI_1, if_pos h]
      exact above18 hc hF hG hU K d (i + 1) k _ (by omega) (by omega) (Nat.or_lt_two_pow hs (hU i (by omega)))
    · rw [if_neg (fun z => h ((bitO (by omega) (by omega)).1 z)), bi1S, pletE, or_0, pletE, nI_1, if_neg h]
      exact above18 hc hF hG hU K d (i + 1) k _ (by omega) (by omega) hs
theorem above9 {n : Nat} (hn : 5000 ≤ n) {F : tF} {G : tG} {U : Nat → Nat} {c : Nat} (hc : c ≤ 12) (hF : F 15 = nI c) (hG : ∀ k, k < c → G 7 k = nI (U k)) (hU : ∀ k, k < c → U k < 2 ^ c) (K : Int32 → Int32 → Option Int32) : ∀ d i k s, i + d = 12 → d < k → s < 2 ^ c → p_X8_above_L9 n F G K k (nI i) (nI s) = K (nI 12) (nI (iterP U c d s))
  | 0, i, k, s, hi, hk, hs => by
    obtain ⟨k, rfl⟩ : ∃ q, k = q + 1 := ⟨k - 1, by omega⟩
    have e : i = 12 := by omega
    subst e
    rw [p_X8_above_L9, if_pos (by decide), iterP]
  | d + 1, i, k, s, hi, hk, hs => by
    obtain ⟨k, rfl⟩ : ∃ q, k = q + 1 := ⟨k - 1, by omega⟩
    rw [p_X8_above_L9, if_neg (lt12 (by omega))]
    refine (above18 hc hF hG hU _ c 0 n s (by omega) (by omega) hs).trans ?_
    rw [pletE, nI_1, iterP]
    exact above9 hn hc hF hG hU K d (i + 1) k _ (by omega) (by omega) (pa_lt U c 0 s (fun k _ k2 => hU k (by omega)) hs)
