def p_X2_countBelow_L4 (G : tG) (K4 : Int32 → Int32 → Option (Int32)) : Nat → Int32 → Int32 → Option (Int32)
  | 0, _, _ => none
  | k4 + 1, z4_0, z4_1 => (if 6 ≤ z4_0 then K4 z4_0 z4_1 else oguard (inB z4_0 6) (bi1 ((if (G 0 z4_0.toNatClampNeg) = 0 then some (z4_1) else plet (z4_1 + 1) (fun (x19 : Int32) => some (x19)))) (fun (y16_0 : Int32) => plet (z4_0 + 1) (fun (x22 : Int32) => p_X2_countBelow_L4 G K4 k4 x22 y16_0))))
theorem p_X2_countBelow_L4_k {G : tG} {K0 : Int32 → Int32 → Option (Int32)} {k : Nat} {z4_0 : Int32} {z4_1 : Int32} {x : Int32} (h : p_X2_countBelow_L4 G K0 k z4_0 z4_1 = some x) : ∃ K, K = K0 ∧ p_X2_countBelow_L4 G K k z4_0 z4_1 = some x := ⟨K0, rfl, h⟩
def p_X2_countBelow (n : Nat) (G : tG) : Option (Int32) :=
  p_X2_countBelow_L4 G (fun (z4_0 : Int32) (z4_1 : Int32) => some z4_1) n 0 0
set_option maxHeartbeats 4000000 in
set_option maxRecDepth 100000 in
theorem c_X2_countBelow (l : Launch) (D : va_G) (ad : Nat → Nat) (cA : ClassId) (n : Nat) (F : tF) (G : tG) {r : Int32} (h : p_X2_countBelow n G = some r) : CI l yX2_countBelow wsX2_countBelow ({ frames := 0, cells := 0, slots := 0, locals := 0 } : Room) D cA (wC ad cA F G) [.ref (ad 2)] r (wC ad cA F G) := by
  rw [p_X2_countBelow] at h
  refine metIr (w := wC ad cA) (cc := cX2_countBelow) (maxL := 3) (by decide) rfl (Nat.le_of_ble_eq_true rfl) ?_
  intro p e s m args below meth c A ls Q hE hret
  obtain ⟨hx, hb, hts, hown, hml, hP, hK, hD, hN, hA, hl⟩ := hE
  have hown : s.vm.findClass RX2 = some m.cls := hown
  have hl : lv_has ls 3 [(0, .ref (ad 2))] := hl
  have hS : va_S A s.heap s.heap [] := va_S.rf
  have k_0 : (Cond.fieldLink RX2 9 "BellBook$Crew" "where" "[I").before args s = true := hts _ (List.mem_of_getElem? (i := 1) rfl)
  have n_2 : ∀ w ∈ u_ws RX2 TX2 8, w ∈ wsX2_countBelow := fun w hw => List.mem_cons_of_mem _ (List.mem_append_right _ hw)
  refine lv_iconst (v := 0) hx hb dX2_countBelow_0 (by decide) ?_
  refine lv_istore_n (lv' := [(1, .int (0)), (0, .ref (ad 2))]) hx hb dX2_countBelow_1 rfl hl (by decide) rfl (fun ls hl => ?_)
  refine lv_iconst (v := 0) hx hb dX2_countBelow_2 (by decide) ?_
  refine lv_istore_n (lv' := [(2, .int (0)), (1, .int (0)), (0, .ref (ad 2))]) hx hb dX2_countBelow_3 rfl hl (by decide) rfl (fun ls hl => ?_)
  obtain ⟨K4, eK4, h⟩ := p_X2_countBelow_L4_k h
  have JE4 : ∀ (z4_0 : Int32) (z4_1 : Int32) (H : Heap) (locs : List Loc) (ls : Array Slot), K4 z4_0 z4_1 = some r → va_P D vwCl (wC ad cA F G) H → va_D A (wC ad cA F G) → va_S A s.heap H locs → lv_has ls 3 [(2, .int (z4_0)), (1, .int (z4_1)), (0, .ref (ad 2))] → W p l e ({ frames := 0, cells := 0, slots := 0, locals := 0 } : Room) s m args below meth c H locs 0 0 Q (F0 m 28 ls []) := by
    intro z4_0 z4_1 H locs ls h hP hD hS hl
    rw [eK4] at h
    refine lv_iload_n hx hb dX2_countBelow_28 rfl (lv_at hl 1 rfl) ?_
    exact hret _ _ _ _ _ dX2_countBelow_29 h hP hD hS
  have LL4 : ∀ (k : Nat) (z4_0 : Int32) (z4_1 : Int32) (H : Heap) (locs : List Loc) (ls : Array Slot), p_X2_countBelow_L4 G K4 k z4_0 z4_1 = some r → va_P D vwCl (wC ad cA F G) H → va_D A (wC ad cA F G) → va_S A s.heap H locs → lv_has ls 3 [(2, .int (z4_0)), (1, .int (z4_1)), (0, .ref (ad 2))] → W p l e ({ frames := 0, cells := 0, slots := 0, locals := 0 } : Room) s m args below meth c H locs 0 0 Q (F0 m 4 ls []) := by
    intro k
    induction k with
    | zero =>
      intro z4_0 z4_1 H locs ls h hP hD hS hl
      rw [p_X2_countBelow_L4] at h
      cases h
    | succ k4 ih4 =>
      intro z4_0 z4_1 H locs ls h hP hD hS hl
      rw [p_X2_countBelow_L4] at h
      refine lv_iload_n hx hb dX2_countBelow_4 rfl (lv_at hl 0 rfl) ?_
      refine lv_bipush (v := 6) hx hb dX2_countBelow_5 (by decide) ?_
      refine lv_icmp_ge (tgt := 28) hx hb dX2_countBelow_7 (by decide) (fun c7 => ?_) (fun c7 => ?_)
      · replace h := ifp h c7
        exact JE4 _ _ _ _ _ h hP hD hS (lv_sub hl [0, 1, 2] rfl)
      · replace h := ifn h c7
        refine lv_aload_n hx hb dX2_countBelow_10 rfl (lv_at hl 2 rfl) ?_
        refine va_get (D := D) (ci := 2) (fs := vX2 ad F) (v := .ref (ad 3)) (C := RX2) (T := TX2) (N := 8) hx hb hts n_2 hown hK hP 2 wCg2 rfl 0 (by decide) k_0 (fun _ h9 => h9) rfl dX2_countBelow_11 ?_
        refine lv_iload_n hx hb dX2_countBelow_14 rfl (lv_at hl 0 rfl) ?_
        obtain ⟨g15, h⟩ := og h
        refine va_iald (D := D) hx hb hK hP 3 0 wCg3 rfl (inB_in g15) dX2_countBelow_15 ?_
        obtain ⟨y16_0, q16, h⟩ := bi1e h
        have J16 : ∀ (wy16_0 : Int32), some (wy16_0) = some (y16_0) → ∀ (H : Heap) (locs : List Loc) (ls : Array Slot), va_P D vwCl (wC ad cA F G) H → va_D A (wC ad cA F G) → va_S A s.heap H locs → lv_has ls 3 [(2, .int (z4_0)), (1, .int (wy16_0)), (0, .ref (ad 2))] → W p l e ({ frames := 0, cells := 0, slots := 0, locals := 0 } : Room) s m args below meth c H locs 0 0 Q (F0 m 22 ls []) := by
          intro wy16_0 e9 H locs ls hP hD hS hl
          cases e9
          obtain ⟨x22, ex22⟩ : ∃ z : Int32, z = (z4_0 + 1) := ⟨_, rfl⟩
          replace h := pl h ex22
          refine lv_iinc (v := x22) (lv' := [(2, .int (x22)), (1, .int (y16_0)), (0, .ref (ad 2))]) hx hb dX2_countBelow_22 hl (k := 0) rfl (by rw [ex22]; rfl) (by decide) rfl (fun ls hl => ?_)
          refine lv_goto (tgt := 4) hx hb dX2_countBelow_25 (by decide) ?_
          exact ih4 _ _ _ _ _ h hP hD hS (lv_sub hl [0, 1, 2] rfl)
        refine lv_if_eq (tgt := 22) hx hb dX2_countBelow_16 (by decide) (fun c16 => ?_) (fun c16 => ?_)
        · replace q16 := ifp q16 c16
          exact J16 _ q16 _ _ _ hP hD hS (lv_sub hl [0, 1, 2] rfl)
        · replace q16 := ifn q16 c16
          obtain ⟨x19, ex19⟩ : ∃ z : Int32, z = (z4_1 + 1) := ⟨_, rfl⟩
          replace q16 := pl q16 ex19
          refine lv_iinc (v := x19) (lv' := [(1, .int (x19)), (2, .int (z4_0)), (0, .ref (ad 2))]) hx hb dX2_countBelow_19 hl (k := 1) rfl (by rw [ex19]; rfl) (by decide) rfl (fun ls hl => ?_)
          exact J16 _ q16 _ _ _ hP hD hS (lv_sub hl [1, 0, 2] rfl)
  exact LL4 n 0 0 _ _ _ h hP hD hS (lv_sub hl [0, 1, 2] rfl)

def p_X2_othersOn_L5 (G : tG) (a1 : Int32) (a2 : Int32) (K5 : Int32 → Int32 → Option (Int32)) : Nat → Int32 → Int32 → Option (Int32)
  | 0, _, _ => none
  | k5 + 1, z5_0, z5_1 => (if 6 ≤ z5_0 then K5 z5_0 z5_1 else bi1 ((if z5_0 = a2 then some (z5_1) else oguard (inB z5_0 6) ((if (G 2 z5_0.toNatClampNeg) = a1 then plet (z5_1 + 1) (fun (x29 : Int32) => some (x29)) else some (z5_1))))) (fun (y15_0 : Int32) => plet (z5_0 + 1) (fun (x32 : Int32) => p_X2_othersOn_L5 G a1 a2 K5 k5 x32 y15_0)))
theorem p_X2_othersOn_L5_k {G : tG} {a1 : Int32} {a2 : Int32} {K0 : Int32 → Int32 → Option (Int32)} {k : Nat} {z5_0 : Int32} {z5_1 : Int32} {x : Int32} (h : p_X2_othersOn_L5 G a1 a2 K0 k z5_0 z5_1 = some x) : ∃ K, K = K0 ∧ p_X2_othersOn_L5 G a1 a2 K k z5_0 z5_1 = some x := ⟨K0, rfl, h⟩
def p_X2_othersOn (n : Nat) (G : tG) (a1 : Int32) (a2 : Int32) : Option (Int32) :=
  p_X2_othersOn_L5 G a1 a2 (fun (z5_0 : Int32) (z5_1 : Int32) => some z5_1) n 0 0
set_option maxHeartbeats 4000000 in
set_option maxRecDepth 100000 in
theorem c_X2_othersOn (l : Launch) (D : va_G) (ad : Nat → Nat) (cA : ClassId) (n : Nat) (F : tF) (G : tG) (a1 : Int32) (a2 : Int32) {r : Int32} (h : p_X2_othersOn n G a1 a2 = some r) : CI l yX2_othersOn wsX2_othersOn ({ frames := 0, cells := 0, slots := 0, locals := 0 } : Room) D cA (wC ad cA F G) [.ref (ad 2), .int (a1), .int (a2)] r (wC ad cA F G) := by
  rw [p_X2_othersOn] at h
  refine metIr (w := wC ad cA) (cc := cX2_othersOn) (maxL := 5) (by decide) rfl (Nat.le_of_ble_eq_true rfl) ?_
  intro p e s m args below meth c A ls Q hE hret
  obtain ⟨hx, hb, hts, hown, hml, hP, hK, hD, hN, hA, hl⟩ := hE
  have hown : s.vm.findClass RX2 = some m.cls := hown
  have hl : lv_has ls 5 [(0, .ref (ad 2)), (1, .int (a1)), (2, .int (a2))] := hl
  have hS : va_S A s.heap s.heap [] := va_S.rf
  have k_0 : (Cond.fieldLink RX2 18 "BellBook$Crew" "hose" "[I").before args s = true := hts _ (List.mem_of_getElem? (i := 1) rfl)
  have n_2 : ∀ w ∈ u_ws RX2 TX2 8, w ∈ wsX2_othersOn := fun w hw => List.mem_cons_of_mem _ (List.mem_append_right _ hw)
  refine lv_iconst (v := 0) hx hb dX2_othersOn_0 (by decide) ?_
  refine lv_istore_n (lv' := [(3, .int (0)), (0, .ref (ad 2)), (1, .int (a1)), (2, .int (a2))]) hx hb dX2_othersOn_1 rfl hl (by decide) rfl (fun ls hl => ?_)
  refine lv_iconst (v := 0) hx hb dX2_othersOn_2 (by decide) ?_
  refine lv_istore (lv' := [(4, .int (0)), (3, .int (0)), (0, .ref (ad 2)), (1, .int (a1)), (2, .int (a2))]) hx hb dX2_othersOn_3 hl (by decide) rfl (fun ls hl => ?_)
  obtain ⟨K5, eK5, h⟩ := p_X2_othersOn_L5_k h
  have JE5 : ∀ (z5_0 : Int32) (z5_1 : Int32) (H : Heap) (locs : List Loc) (ls : Array Slot), K5 z5_0 z5_1 = some r → va_P D vwCl (wC ad cA F G) H → va_D A (wC ad cA F G) → va_S A s.heap H locs → lv_has ls 5 [(4, .int (z5_0)), (3, .int (z5_1)), (0, .ref (ad 2)), (1, .int (a1)), (2, .int (a2))] → W p l e ({ frames := 0, cells := 0, slots := 0, locals := 0 } : Room) s m args below meth c H locs 0 0 Q (F0 m 38 ls []) := by
    intro z5_0 z5_1 H locs ls h hP hD hS hl
    rw [eK5] at h
    refine lv_iload_n hx hb dX2_othersOn_38 rfl (lv_at hl 1 rfl) ?_
    exact hret _ _ _ _ _ dX2_othersOn_39 h hP hD hS
  have LL5 : ∀ (k : Nat) (z5_0 : Int32) (z5_1 : Int32) (H : Heap) (locs : List Loc) (ls : Array Slot), p_X2_othersOn_L5 G a1 a2 K5 k z5_0 z5_1 = some r → va_P D vwCl (wC ad cA F G) H → va_D A (wC ad cA F G) → va_S A s.heap H locs → lv_has ls 5 [(4, .int (z5_0)), (3, .int (z5_1)), (0, .ref (ad 2)), (1, .int (a1)), (2, .int (a2))] → W p l e ({ frames := 0, cells := 0, slots := 0, locals := 0 } : Room) s m args below meth c H locs 0 0 Q (F0 m 5 ls []) := by
    intro k
    induction k with
    | zero =>
      intro z5_0 z5_1 H locs ls h hP hD hS hl
      rw [p_X2_othersOn_L5] at h
      cases h
    | succ k5 ih5 =>
      intro z5_0 z5_1 H locs ls h hP hD hS hl
      rw [p_X2_othersOn_L5] at h
      refine lv_iload hx hb dX2_othersOn_5 (lv_at hl 0 rfl) ?_
      refine lv_bipush (v := 6) hx hb dX2_othersOn_7 (by decide) ?_
      refine lv_icmp_ge (tgt := 38) hx hb dX2_othersOn_9 (by decide) (fun c9 => ?_) (fun c9 => ?_)
      · replace h := ifp h c9
        exact JE5 _ _ _ _ _ h hP hD hS (lv_sub hl [0, 1, 2, 3, 4] rfl)
      · replace h := ifn h c9
        refine lv_iload hx hb dX2_othersOn_12 (lv_at hl 0 rfl) ?_
        refine lv_iload_n hx hb dX2_othersOn_14 rfl (lv_at hl 4 rfl) ?_
        obtain ⟨y15_0, q15, h⟩ := bi1e h
        have J15 : ∀ (wy15_0 : Int32), some (wy15_0) = some (y15_0) → ∀ (H : Heap) (locs : List Loc) (ls : Array Slot), va_P D vwCl (wC ad cA F G) H → va_D A (wC ad cA F G) → va_S A s.heap H locs → lv_has ls 5 [(4, .int (z5_0)), (3, .int (wy15_0)), (0, .ref (ad 2)), (1, .int (a1)), (2, .int (a2))] → W p l e ({ frames := 0, cells := 0, slots := 0, locals := 0 } : Room) s m args below meth c H locs 0 0 Q (F0 m 32 ls []) := by
          intro wy15_0 e9 H locs ls hP hD hS hl
          cases e9
          obtain ⟨x32, ex32⟩ : ∃ z : Int32, z = (z5_0 + 1) := ⟨_, rfl⟩
          replace h := pl h ex32
          refine lv_iinc (v := x32) (lv' := [(4, .int (x32)), (3, .int (y15_0)), (0, .ref (ad 2)), (1, .int (a1)), (2, .int (a2))]) hx hb dX2_othersOn_32 hl (k := 0) rfl (by rw [ex32]; rfl) (by decide) rfl (fun ls hl => ?_)
          refine lv_goto (tgt := 5) hx hb dX2_othersOn_35 (by decide) ?_
          exact ih5 _ _ _ _ _ h hP hD hS (lv_sub hl [0, 1, 2, 3, 4] rfl)
        refine lv_icmp_eq (tgt := 32) hx hb dX2_othersOn_15 (by decide) (fun c15 => ?_) (fun c15 => ?_)
        · replace q15 := ifp q15 c15
          exact J15 _ q15 _ _ _ hP hD hS (lv_sub hl [0, 1, 2, 3, 4] rfl)
        · replace q15 := ifn q15 c15
          refine lv_aload_n hx hb dX2_othersOn_18 rfl (lv_at hl 2 rfl) ?_
          refine va_get (D := D) (ci := 2) (fs := vX2 ad F) (v := .ref (ad 5)) (C := RX2) (T := TX2) (N := 8) hx hb hts n_2 hown hK hP 2 wCg2 rfl 2 (by decide) k_0 (fun _ h9 => h9) rfl dX2_othersOn_19 ?_
          refine lv_iload hx hb dX2_othersOn_22 (lv_at hl 0 rfl) ?_
          obtain ⟨g24, q15⟩ := og q15
          refine va_iald (D := D) hx hb hK hP 5 0 wCg5 rfl (inB_in g24) dX2_othersOn_24 ?_
          refine lv_iload_n hx hb dX2_othersOn_25 rfl (lv_at hl 3 rfl) ?_
          refine lv_icmp_ne (tgt := 32) hx hb dX2_othersOn_26 (by decide) (fun c26 => ?_) (fun c26 => ?_)
          · replace q15 := ifn q15 c26
            exact J15 _ q15 _ _ _ hP hD hS (lv_sub hl [0, 1, 2, 3, 4] rfl)
          · replace q15 := ifp q15 c26
            obtain ⟨x29, ex29⟩ : ∃ z : Int32, z = (z5_1 + 1) := ⟨_, rfl⟩
            replace q15 := pl q15 ex29
            refine lv_iinc (v := x29) (lv' := [(3, .int (x29)), (4, .int (z5_0)), (0, .ref (ad 2)), (1, .int (a1)), (2, .int (a2))]) hx hb dX2_othersOn_29 hl (k := 1) rfl (by rw [ex29]; rfl) (by decide) rfl (fun ls hl => ?_)
            exact J15 _ q15 _ _ _ hP hD hS (lv_sub hl [1, 0, 2, 3, 4] rfl)
  exact LL5 n 0 0 _ _ _ h hP hD hS (lv_sub hl [0, 1, 2, 3, 4] rfl)

def p_X2_countOn (n : Nat) (G : tG) (a1 : Int32) : Option (Int32) :=
  bi1 (p_X2_othersOn n G a1 (-6)) (fun x4 => some x4)
set_option maxHeartbeats 4000000 in
set_option maxRecDepth 100000 in
theorem c_X2_countOn (l : Launch) (D : va_G) (ad : Nat → Nat) (cA : ClassId) (n : Nat) (F : tF) (G : tG) (a1 : Int32) {r : Int32} (h : p_X2_countOn n G a1 = some r) : CI l yX2_countOn wsX2_countOn ({ frames := 1, cells := 0, slots := 0, locals := 24 } : Room) D cA (wC ad cA F G) [.ref (ad 2), .int (a1)] r (wC ad cA F G) := by
  rw [p_X2_countOn] at h
  refine metIr (w := wC ad cA) (cc := cX2_countOn) (maxL := 2) (by decide) rfl (Nat.le_of_ble_eq_true rfl) ?_
  intro p e s m args below meth c A ls Q hE hret
  obtain ⟨hx, hb, hts, hown, hml, hP, hK, hD, hN, hA, hl⟩ := hE
  have hown : s.vm.findClass RX2 = some m.cls := hown
  have hl : lv_has ls 2 [(0, .ref (ad 2)), (1, .int (a1))] := hl
  have hS : va_S A s.heap s.heap [] := va_S.rf
  refine lv_aload_n hx hb dX2_countOn_0 rfl (lv_at hl 0 rfl) ?_
  refine lv_iload_n hx hb dX2_countOn_1 rfl (lv_at hl 1 rfl) ?_
  refine lv_bipush (v := (-6)) hx hb dX2_countOn_2 (by decide) ?_
  obtain ⟨x4, h4, h⟩ := bi1e h
  refine callVI (b := ad 2) (As := [.int (a1), .int ((-6))]) (rest := []) ⟨hx, hb, hml, hown, hts⟩ (c_X2_othersOn l D ad cA n F G a1 (-6) h4) (cwV 2 hts gX2_countOn_X2_othersOn rfl rfl rfl (by decide +kernel) ⟨Nat.le_of_ble_eq_true rfl, Nat.le_of_ble_eq_true rfl⟩) (va_recv hK hP (ci := 2) (q0 := 2) rfl wCg2) hP hK hD hN hS hA rfl hl.1 rfl (Nat.le_of_ble_eq_true rfl) dX2_countOn_4 ⟨Nat.zero_le _, Nat.zero_le _⟩ (fun H locs hP hD hS => ?_)
  exact hret _ _ _ _ _ dX2_countOn_7 h hP hD hS

def p_X2_countMinuteOut (n : Nat) (F : tF) (G : tG) (a1 : Int32) : Option (Int32 × tF × tG) :=
  oguard (inB a1 6) (oguard (inB a1 6) (bi1 (p_X2_countOn n G (G 2 a1.toNatClampNeg)) (fun x14 => bi1 ((if x14 = 2 then some (2) else some (1))) (fun (y18_0 : Int32) => oguard (inB a1 6) (plet (stG G 3 a1 ((G 3 a1.toNatClampNeg) + y18_0)) (fun (G27 : tG) => oguard (inB a1 6) (bi1 ((if (G27 3 a1.toNatClampNeg) ≤ (F 13) then some (0) else some (1))) (fun (y38_0 : Int32) => oguard (btB y38_0) (some (y38_0, F, G27))))))))))
set_option maxHeartbeats 4000000 in
set_option maxRecDepth 100000 in
theorem c_X2_countMinuteOut (l : Launch) (D : va_G) (ad : Nat → Nat) (cA : ClassId) (n : Nat) (F : tF) (G : tG) (a1 : Int32) {r : Int32} {F' : tF} {G' : tG} (h : p_X2_countMinuteOut n F G a1 = some (r, F', G')) : CI l yX2_countMinuteOut wsX2_countMinuteOut ({ frames := 2, cells := 0, slots := 0, locals := 45 } : Room) D cA (wC ad cA F G) [.ref (ad 2), .int (a1)] r (wC ad cA F' G') := by
  rw [p_X2_countMinuteOut] at h
  refine metZm (w := wC ad cA) (cc := cX2_countMinuteOut) (maxL := 2) (by decide) rfl (Nat.le_of_ble_eq_true rfl) ?_
  intro p e s m args below meth c A ls Q hE hret
  obtain ⟨hx, hb, hts, hown, hml, hP, hK, hD, hN, hA, hl⟩ := hE
  have hown : s.vm.findClass RX2 = some m.cls := hown
  have hl : lv_has ls 2 [(0, .ref (ad 2)), (1, .int (a1))] := hl
  have hS : va_S A s.heap s.heap [] := va_S.rf
  have k_0 : (Cond.fieldLink RX2 21 "BellBook$Crew" "stayed" "[I").before args s = true := hts _ (List.mem_of_getElem? (i := 1) rfl)
  have n_2 : ∀ w ∈ u_ws RX2 TX2 8, w ∈ wsX2_countMinuteOut := fun w hw => List.mem_cons_of_mem _ (List.mem_append_right _ hw)
  have k_2 : (Cond.fieldLink RX2 18 "BellBook$Crew" "hose" "[I").before args s = true := hts _ (List.mem_of_getElem? (i := 2) rfl)
  have k_3 : (Cond.fieldLink RX2 30 "BellBook$Crew" "stay" "I").before args s = true := hts _ (List.mem_of_getElem? (i := 3) rfl)
  refine lv_aload_n hx hb dX2_countMinuteOut_0 rfl (lv_at hl 0 rfl) ?_
  refine va_get (D := D) (ci := 2) (fs := vX2 ad F) (v := .ref (ad 6)) (C := RX2) (T := TX2) (N := 8) hx hb hts n_2 hown hK hP 2 wCg2 rfl 3 (by decide) k_0 (fun _ h9 => h9) rfl dX2_countMinuteOut_1 ?_
  refine lv_iload_n hx hb dX2_countMinuteOut_4 rfl (lv_at hl 1 rfl) ?_
  refine lv_dup2_11 hx hb dX2_countMinuteOut_5 rfl rfl ?_
  obtain ⟨g6, h⟩ := og h
  refine va_iald (D := D) hx hb hK hP 6 0 wCg6 rfl (inB_in g6) dX2_countMinuteOut_6 ?_
  refine lv_aload_n hx hb dX2_countMinuteOut_7 rfl (lv_at hl 0 rfl) ?_
  refine lv_aload_n hx hb dX2_countMinuteOut_8 rfl (lv_at hl 0 rfl) ?_
  refine va_get (D := D) (ci := 2) (fs := vX2 ad F) (v := .ref (ad 5)) (C := RX2) (T := TX2) (N := 8) hx hb hts n_2 hown hK hP 2 wCg2 rfl 2 (by decide) k_2 (fun _ h9 => h9) rfl dX2_countMinuteOut_9 ?_
  refine lv_iload_n hx hb dX2_countMinuteOut_12 rfl (lv_at hl 1 rfl) ?_
  obtain ⟨g13, h⟩ := og h
  refine va_iald (D := D) hx hb hK hP 5 0 wCg5 rfl (inB_in g13) dX2_countMinuteOut_13 ?_
  obtain ⟨x14, h14, h⟩ := bi1e h
  refine callVI (b := ad 2) (As := [.int ((G 2 a1.toNatClampNeg))]) (rest := [.int ((G 3 a1.toNatClampNeg)), .int (a1), .ref (ad 6)]) ⟨hx, hb, hml, hown, hts⟩ (c_X2_countOn l D ad cA n F G (G 2 a1.toNatClampNeg) h14) (cwV 1 hts gX2_countMinuteOut_X2_countOn rfl rfl rfl (by decide +kernel) ⟨Nat.le_of_ble_eq_true rfl, Nat.le_of_ble_eq_true rfl⟩) (va_recv hK hP (ci := 2) (q0 := 2) rfl wCg2) hP hK hD hN hS hA rfl hl.1 rfl (Nat.le_of_ble_eq_true rfl) dX2_countMinuteOut_14 ⟨Nat.zero_le _, Nat.zero_le _⟩ (fun H locs hP hD hS => ?_)
  refine lv_iconst (v := 2) hx hb dX2_countMinuteOut_17 (by decide) ?_
  obtain ⟨y18_0, q18, h⟩ := bi1e h
  have J18 : ∀ (wy18_0 : Int32), some (wy18_0) = some (y18_0) → ∀ (H : Heap) (locs : List Loc) (ls : Array Slot), va_P D vwCl (wC ad cA F G) H → va_D A (wC ad cA F G) → va_S A s.heap H locs → lv_has ls 2 [(0, .ref (ad 2)), (1, .int (a1))] → W p l e ({ frames := 2, cells := 0, slots := 0, locals := 45 } : Room) s m args below meth c H locs 0 0 Q (F0 m 26 ls [.int (wy18_0), .int ((G 3 a1.toNatClampNeg)), .int (a1), .ref (ad 6)]) := by
    intro wy18_0 e9 H locs ls hP hD hS hl
    cases e9
    refine lv_iadd hx hb dX2_countMinuteOut_26 ?_
    obtain ⟨g27, h⟩ := og h
    obtain ⟨G27, eG27⟩ : ∃ z : tG, z = stG G 3 a1 ((G 3 a1.toNatClampNeg) + y18_0) := ⟨_, rfl⟩
    replace h := pl h eG27
    refine va_iast (D := D) hx hb hK hP hD hS 6 0 wCg6 rfl (inB_in g27) dX2_countMinuteOut_27 (fun H locs hP hD hS => ?_)
    rw [wCa3 eG27] at hP hD
    refine lv_aload_n hx hb dX2_countMinuteOut_28 rfl (lv_at hl 0 rfl) ?_
    refine va_get (D := D) (ci := 2) (fs := vX2 ad F) (v := .ref (ad 6)) (C := RX2) (T := TX2) (N := 8) hx hb hts n_2 hown hK hP 2 wCg2 rfl 3 (by decide) k_0 (fun _ h9 => h9) rfl dX2_countMinuteOut_29 ?_
    refine lv_iload_n hx hb dX2_countMinuteOut_32 rfl (lv_at hl 1 rfl) ?_
    obtain ⟨g33, h⟩ := og h
    refine va_iald (D := D) hx hb hK hP 6 0 wCg6 rfl (inB_in g33) dX2_countMinuteOut_33 ?_
    refine lv_aload_n hx hb dX2_countMinuteOut_34 rfl (lv_at hl 0 rfl) ?_
    refine va_get (D := D) (ci := 2) (fs := vX2 ad F) (v := .int ((F 13))) (C := RX2) (T := TX2) (N := 8) hx hb hts n_2 hown hK hP 2 wCg2 rfl 6 (by decide) k_3 (fun _ h9 => h9) rfl dX2_countMinuteOut_35 ?_
    obtain ⟨y38_0, q38, h⟩ := bi1e h
    have J38 : ∀ (wy38_0 : Int32), some (wy38_0) = some (y38_0) → ∀ (H : Heap) (locs : List Loc) (ls : Array Slot), va_P D vwCl (wC ad cA F G27) H → va_D A (wC ad cA F G27) → va_S A s.heap H locs → lv_has ls 2 [(0, .ref (ad 2)), (1, .int (a1))] → W p l e ({ frames := 2, cells := 0, slots := 0, locals := 45 } : Room) s m args below meth c H locs 0 0 Q (F0 m 46 ls [.int (wy38_0)]) := by
      intro wy38_0 e9 H locs ls hP hD hS hl
      cases e9
      obtain ⟨g46, h⟩ := og h
      exact hret _ _ _ _ _ _ _ dX2_countMinuteOut_46 g46 h hP hD hS
    refine lv_icmp_le (tgt := 45) hx hb dX2_countMinuteOut_38 (by decide) (fun c38 => ?_) (fun c38 => ?_)
    · replace q38 := ifp q38 c38
      refine lv_iconst (v := 0) hx hb dX2_countMinuteOut_45 (by decide) ?_
      exact J38 _ q38 _ _ _ hP hD hS (lv_sub hl [0, 1] rfl)
    · replace q38 := ifn q38 c38
      refine lv_iconst (v := 1) hx hb dX2_countMinuteOut_41 (by decide) ?_
      refine lv_goto (tgt := 46) hx hb dX2_countMinuteOut_42 (by decide) ?_
      exact J38 _ q38 _ _ _ hP hD hS (lv_sub hl [0, 1] rfl)
  refine lv_icmp_ne (tgt := 25) hx hb dX2_countMinuteOut_18 (by decide) (fun c18 => ?_) (fun c18 => ?_)
  · replace q18 := ifn q18 c18
    refine lv_iconst (v := 1) hx hb dX2_countMinuteOut_25 (by decide) ?_
    exact J18 _ q18 _ _ _ hP hD hS (lv_sub hl [0, 1] rfl)
  · replace q18 := ifp q18 c18
    refine lv_iconst (v := 2) hx hb dX2_countMinuteOut_21 (by decide) ?_
    refine lv_goto (tgt := 26) hx hb dX2_countMinuteOut_22 (by decide) ?_
    exact J18 _ q18 _ _ _ hP hD hS (lv_sub hl [0, 1] rfl)

def p_X2_send (F : tF) (G : tG) (a1 : Int32) (a2 : Int32) (a3 : Int32) : Option (tF × tG) :=
  oguard (inB a1 6) (plet (stG G 0 a1 2) (fun (G6 : tG) => oguard (inB a1 6) (plet (stG G6 2 a1 a2) (fun (G13 : tG) => oguard (inB a1 6) (plet (stG G13 1 a1 a3) (fun (G20 : tG) => some (F, G20)))))))
set_option maxHeartbeats 4000000 in
set_option maxRecDepth 100000 in
theorem c_X2_send (l : Launch) (D : va_G) (ad : Nat → Nat) (cA : ClassId) (n : Nat) (F : tF) (G : tG) (a1 : Int32) (a2 : Int32) (a3 : Int32) {F' : tF} {G' : tG} (h : p_X2_send F G a1 a2 a3 = some (F', G')) : CV l yX2_send wsX2_send ({ frames := 0, cells := 0, slots := 0, locals := 0 } : Room) D cA (wC ad cA F G) [.ref (ad 2), .int (a1), .int (a2), .int (a3)] (wC ad cA F' G') := by
  rw [p_X2_send] at h
  refine metVm (w := wC ad cA) (cc := cX2_send) (maxL := 4) (by decide) rfl (Nat.le_of_ble_eq_true rfl) ?_
  intro p e s m args below meth c A ls Q hE hret
  obtain ⟨hx, hb, hts, hown, hml, hP, hK, hD, hN, hA, hl⟩ := hE
  have hown : s.vm.findClass RX2 = some m.cls := hown
  have hl : lv_has ls 4 [(0, .ref (ad 2)), (1, .int (a1)), (2, .int (a2)), (3, .int (a3))] := hl
  have hS : va_S A s.heap s.heap [] := va_S.rf
  have k_0 : (Cond.fieldLink RX2 9 "BellBook$Crew" "where" "[I").before args s = true := hts _ (List.mem_of_getElem? (i := 1) rfl)
  have n_2 : ∀ w ∈ u_ws RX2 TX2 8, w ∈ wsX2_send := fun w hw => List.mem_cons_of_mem _ (List.mem_append_right _ hw)
  have k_2 : (Cond.fieldLink RX2 18 "BellBook$Crew" "hose" "[I").before args s = true := hts _ (List.mem_of_getElem? (i := 2) rfl)
  have k_3 : (Cond.fieldLink RX2 15 "BellBook$Crew" "square" "[I").before args s = true := hts _ (List.mem_of_getElem? (i := 3) rfl)
  refine lv_aload_n hx hb dX2_send_0 rfl (lv_at hl 0 rfl) ?_
  refine va_get (D := D) (ci := 2) (fs := vX2 ad F) (v := .ref (ad 3)) (C := RX2) (T := TX2) (N := 8) hx hb hts n_2 hown hK hP 2 wCg2 rfl 0 (by decide) k_0 (fun _ h9 => h9) rfl dX2_send_1 ?_
  refine lv_iload_n hx hb dX2_send_4 rfl (lv_at hl 1 rfl) ?_
  refine lv_iconst (v := 2) hx hb dX2_send_5 (by decide) ?_
  obtain ⟨g6, h⟩ := og h
  obtain ⟨G6, eG6⟩ : ∃ z : tG, z = stG G 0 a1 2 := ⟨_, rfl⟩
  replace h := pl h eG6
  refine va_iast (D := D) hx hb hK hP hD hS 3 0 wCg3 rfl (inB_in g6) dX2_send_6 (fun H locs hP hD hS => ?_)
  rw [wCa0 eG6] at hP hD
  refine lv_aload_n hx hb dX2_send_7 rfl (lv_at hl 0 rfl) ?_
  refine va_get (D := D) (ci := 2) (fs := vX2 ad F) (v := .ref (ad 5)) (C := RX2) (T := TX2) (N := 8) hx hb hts n_2 hown hK hP 2 wCg2 rfl 2 (by decide) k_2 (fun _ h9 => h9) rfl dX2_send_8 ?_
  refine lv_iload_n hx hb dX2_send_11 rfl (lv_at hl 1 rfl) ?_
  refine lv_iload_n hx hb dX2_send_12 rfl (lv_at hl 2 rfl) ?_
  obtain ⟨g13, h⟩ := og h
  obtain ⟨G13, eG13⟩ : ∃ z : tG, z = stG G6 2 a1 a2 := ⟨_, rfl⟩
  replace h := pl h eG13
  refine va_iast (D := D) hx hb hK hP hD hS 5 0 wCg5 rfl (inB_in g13) dX2_send_13 (fun H locs hP hD hS => ?_)
  rw [wCa2 eG13] at hP hD
  refine lv_aload_n hx hb dX2_send_14 rfl (lv_at hl 0 rfl) ?_
  refine va_get (D := D) (ci := 2) (fs := vX2 ad F) (v := .ref (ad 4)) (C := RX2) (T := TX2) (N := 8) hx hb hts n_2 hown hK hP 2 wCg2 rfl 1 (by decide) k_3 (fun _ h9 => h9) rfl dX2_send_15 ?_
  refine lv_iload_n hx hb dX2_send_18 rfl (lv_at hl 1 rfl) ?_
  refine lv_iload_n hx hb dX2_send_19 rfl (lv_at hl 3 rfl) ?_
  obtain ⟨g20, h⟩ := og h
  obtain ⟨G20, eG20⟩ : ∃ z : tG, z = stG G13 1 a1 a3 := ⟨_, rfl⟩
  replace h := pl h eG20
  refine va_iast (D := D) hx hb hK hP hD hS 4 0 wCg4 rfl (inB_in g20) dX2_send_20 (fun H locs hP hD hS => ?_)
  rw [wCa1 eG20] at hP hD
  exact hret _ _ _ _ _ _ dX2_send_21 h hP hD hS

def p_X3_addHearing (F : tF) (G : tG) (a1 : Int32) (a2 : Int32) : Option (Int32 × tF × tG) :=
  oguard (inB (F 23) 4) (plet (stG G 18 (F 23) a1) (fun (G9 : tG) => oguard (inB (F 23) 4) (plet (stG G9 19 (F 23) a2) (fun (G19 : tG) => plet (upd F 23 ((F 23) + 1)) (fun (F27 : tF) => some ((F27 23), F27, G19))))))
set_option maxHeartbeats 4000000 in
set_option maxRecDepth 100000 in
theorem c_X3_addHearing (l : Launch) (D : va_G) (ad : Nat → Nat) (cA : ClassId) (n : Nat) (F : tF) (G : tG) (a1 : Int32) (a2 : Int32) {r : Int32} {F' : tF} {G' : tG} (h : p_X3_addHearing F G a1 a2 = some (r, F', G')) : CI l yX3_addHearing wsX3_addHearing ({ frames := 0, cells := 0, slots := 0, locals := 0 } : Room) D cA (wC ad cA F G) [.ref (ad 22), .int (a1), .int (a2)] r (wC ad cA F' G') := by
  rw [p_X3_addHearing] at h
  refine metIm (w := wC ad cA) (cc := cX3_addHearing) (maxL := 3) (by decide) rfl (Nat.le_of_ble_eq_true rfl) ?_
  intro p e s m args below meth c A ls Q hE hret
  obtain ⟨hx, hb, hts, hown, hml, hP, hK, hD, hN, hA, hl⟩ := hE
  have hown : s.vm.findClass RX3 = some m.cls := hown
  have hl : lv_has ls 3 [(0, .ref (ad 22)), (1, .int (a1)), (2, .int (a2))] := hl
  have hS : va_S A s.heap s.heap [] := va_S.rf
  have k_0 : (Cond.fieldLink RX3 18 "BellBook$Line" "heardFirst" "[I").before args s = true := hts _ (List.mem_of_getElem? (i := 1) rfl)
  have n_3 : ∀ w ∈ u_ws RX3 TX3 5, w ∈ wsX3_addHearing := fun w hw => List.mem_cons_of_mem _ (List.mem_append_right _ hw)
  have k_2 : (Cond.fieldLink RX3 24 "BellBook$Line" "hearings" "I").before args s = true := hts _ (List.mem_of_getElem? (i := 2) rfl)
  have k_3 : (Cond.fieldLink RX3 21 "BellBook$Line" "heardSecond" "[I").before args s = true := hts _ (List.mem_of_getElem? (i := 3) rfl)
  refine lv_aload_n hx hb dX3_addHearing_0 rfl (lv_at hl 0 rfl) ?_
  refine va_get (D := D) (ci := 3) (fs := vX3 ad F) (v := .ref (ad 25)) (C := RX3) (T := TX3) (N := 5) hx hb hts n_3 hown hK hP 22 wCg22 rfl 2 (by decide) k_0 (fun _ h9 => h9) rfl dX3_addHearing_1 ?_
  refine lv_aload_n hx hb dX3_addHearing_4 rfl (lv_at hl 0 rfl) ?_
  refine va_get (D := D) (ci := 3) (fs := vX3 ad F) (v := .int ((F 23))) (C := RX3) (T := TX3) (N := 5) hx hb hts n_3 hown hK hP 22 wCg22 rfl 4 (by decide) k_2 (fun _ h9 => h9) rfl dX3_addHearing_5 ?_
  refine lv_iload_n hx hb dX3_addHearing_8 rfl (lv_at hl 1 rfl) ?_
  obtain ⟨g9, h⟩ := og h
  obtain ⟨G9, eG9⟩ : ∃ z : tG, z = stG G 18 (F 23) a1 := ⟨_, rfl⟩
  replace h := pl h eG9
  refine va_iast (D := D) hx hb hK hP hD hS 25 0 wCg25 rfl (inB_in g9) dX3_addHearing_9 (fun H locs hP hD hS => ?_)
  rw [wCa18 eG9] at hP hD
  refine lv_aload_n hx hb dX3_addHearing_10 rfl (lv_at hl 0 rfl) ?_
  refine va_get (D := D) (ci := 3) (fs := vX3 ad F) (v := .ref (ad 26)) (C := RX3) (T := TX3) (N := 5) hx hb hts n_3 hown hK hP 22 wCg22 rfl 3 (by decide) k_3 (fun _ h9 => h9) rfl dX3_addHearing_11 ?_
  refine lv_aload_n hx hb dX3_addHearing_14 rfl (lv_at hl 0 rfl) ?_
  refine va_get (D := D) (ci := 3) (fs := vX3 ad F) (v := .int ((F 23))) (C := RX3) (T := TX3) (N := 5) hx hb hts n_3 hown hK hP 22 wCg22 rfl 4 (by decide) k_2 (fun _ h9 => h9) rfl dX3_addHearing_15 ?_
  refine lv_iload_n hx hb dX3_addHearing_18 rfl (lv_at hl 2 rfl) ?_
  obtain ⟨g19, h⟩ := og h
  obtain ⟨G19, eG19⟩ : ∃ z : tG, z = stG G9 19 (F 23) a2 := ⟨_, rfl⟩
  replace h := pl h eG19
  refine va_iast (D := D) hx hb hK hP hD hS 26 0 wCg26 rfl (inB_in g19) dX3_addHearing_19 (fun H locs hP hD hS => ?_)
  rw [wCa19 eG19] at hP hD
  refine lv_aload_n hx hb dX3_addHearing_20 rfl (lv_at hl 0 rfl) ?_
  refine lv_dup hx hb dX3_addHearing_21 rfl ?_
  refine va_get (D := D) (ci := 3) (fs := vX3 ad F) (v := .int ((F 23))) (C := RX3) (T := TX3) (N := 5) hx hb hts n_3 hown hK hP 22 wCg22 rfl 4 (by decide) k_2 (fun _ h9 => h9) rfl dX3_addHearing_22 ?_
  refine lv_iconst (v := 1) hx hb dX3_addHearing_25 (by decide) ?_
  refine lv_iadd hx hb dX3_addHearing_26 ?_
  obtain ⟨F27, eF27⟩ : ∃ f : tF, f = upd F 23 ((F 23) + 1) := ⟨_, rfl⟩
  replace h := pl h eF27
  refine va_put (D := D) (ci := 3) (fs := vX3 ad F) (v := .int (((F 23) + 1))) (ty := .int) (C := RX3) (T := TX3) (N := 5) hx hb hts n_3 tyX3 tyX3_ok nmX3 hown hK hP hD hS 22 wCg22 rfl 4 (by decide) k_2 (fun _ h9 => h9) rfl (tyX3_ok 4 (by decide)) rfl rfl (Nat.le_of_ble_eq_true rfl) dX3_addHearing_27 (fun H locs hP hD hS => ?_)
  rw [wCp23 eF27] at hP hD
  refine lv_aload_n hx hb dX3_addHearing_30 rfl (lv_at hl 0 rfl) ?_
  refine va_get (D := D) (ci := 3) (fs := vX3 ad F27) (v := .int ((F27 23))) (C := RX3) (T := TX3) (N := 5) hx hb hts n_3 hown hK hP 22 wCg22 rfl 4 (by decide) k_2 (fun _ h9 => h9) rfl dX3_addHearing_31 ?_
  exact hret _ _ _ _ _ _ _ dX3_addHearing_34 h hP hD hS

def p_X3_isSet (G : tG) (a1 : Int32) : Option (Int32) :=
  oguard (inB a1 12) (bi1 ((if (G 16 a1.toNatClampNeg) = 0 then some (0) else some (1))) (fun (y6_0 : Int32) => oguard (btB y6_0) (some y6_0)))
set_option maxHeartbeats 4000000 in
set_option maxRecDepth 100000 in
theorem c_X3_isSet (l : Launch) (D : va_G) (ad : Nat → Nat) (cA : ClassId) (n : Nat) (F : tF) (G : tG) (a1 : Int32) {r : Int32} (h : p_X3_isSet G a1 = some r) : CI l yX3_isSet wsX3_isSet ({ frames := 0, cells := 0, slots := 0, locals := 0 } : Room) D cA (wC ad cA F G) [.ref (ad 22), .int (a1)] r (wC ad cA F G) := by
  rw [p_X3_isSet] at h
  refine metZr (w := wC ad cA) (cc := cX3_isSet) (maxL := 2) (by decide) rfl (Nat.le_of_ble_eq_true rfl) ?_
  intro p e s m args below meth c A ls Q hE hret
  obtain ⟨hx, hb, hts, hown, hml, hP, hK, hD, hN, hA, hl⟩ := hE
  have hown : s.vm.findClass RX3 = some m.cls := hown
  have hl : lv_has ls 2 [(0, .ref (ad 22)), (1, .int (a1))] := hl
  have hS : va_S A s.heap s.heap [] := va_S.rf
  have k_0 : (Cond.fieldLink RX3 11 "BellBook$Line" "first" "[I").before args s = true := hts _ (List.mem_of_getElem? (i := 1) rfl)
  have n_3 : ∀ w ∈ u_ws RX3 TX3 5, w ∈ wsX3_isSet := fun w hw => List.mem_cons_of_mem _ (List.mem_append_right _ hw)
  refine lv_aload_n hx hb dX3_isSet_0 rfl (lv_at hl 0 rfl) ?_
  refine va_get (D := D) (ci := 3) (fs := vX3 ad F) (v := .ref (ad 23)) (C := RX3) (T := TX3) (N := 5) hx hb hts n_3 hown hK hP 22 wCg22 rfl 0 (by decide) k_0 (fun _ h9 => h9) rfl dX3_isSet_1 ?_
  refine lv_iload_n hx hb dX3_isSet_4 rfl (lv_at hl 1 rfl) ?_
  obtain ⟨g5, h⟩ := og h
  refine va_iald (D := D) hx hb hK hP 23 0 wCg23 rfl (inB_in g5) dX3_isSet_5 ?_
  obtain ⟨y6_0, q6, h⟩ := bi1e h
  have J6 : ∀ (wy6_0 : Int32), some (wy6_0) = some (y6_0) → ∀ (H : Heap) (locs : List Loc) (ls : Array Slot), va_P D vwCl (wC ad cA F G) H → va_D A (wC ad cA F G) → va_S A s.heap H locs → lv_has ls 2 [(0, .ref (ad 22)), (1, .int (a1))] → W p l e ({ frames := 0, cells := 0, slots := 0, locals := 0 } : Room) s m args below meth c H locs 0 0 Q (F0 m 14 ls [.int (wy6_0)]) := by
    intro wy6_0 e9 H locs ls hP hD hS hl
    cases e9
    obtain ⟨g14, h⟩ := og h
    exact hret _ _ _ _ _ dX3_isSet_14 g14 h hP hD hS
  refine lv_if_eq (tgt := 13) hx hb dX3_isSet_6 (by decide) (fun c6 => ?_) (fun c6 => ?_)
  · replace q6 := ifp q6 c6
    refine lv_iconst (v := 0) hx hb dX3_isSet_13 (by decide) ?_
    exact J6 _ q6 _ _ _ hP hD hS (lv_sub hl [0, 1] rfl)
  · replace q6 := ifn q6 c6
    refine lv_iconst (v := 1) hx hb dX3_isSet_9 (by decide) ?_
    refine lv_goto (tgt := 14) hx hb dX3_isSet_10 (by decide) ?_
    exact J6 _ q6 _ _ _ hP hD hS (lv_sub hl [0, 1] rfl)

def p_X3_countSigns_L4 (G : tG) (K4 : Int32 → Int32 → Option (Int32)) : Nat → Int32 → Int32 → Option (Int32)
  | 0, _, _ => none
  | k4 + 1, z4_0, z4_1 => (if 12 ≤ z4_0 then K4 z4_0 z4_1 else bi1 (p_X3_isSet G z4_0) (fun x12 => bi1 ((if x12 = 0 then some (z4_1) else plet (z4_1 + 1) (fun (x18 : Int32) => some (x18)))) (fun (y15_0 : Int32) => plet (z4_0 + 1) (fun (x21 : Int32) => p_X3_countSigns_L4 G K4 k4 x21 y15_0))))
theorem p_X3_countSigns_L4_k {G : tG} {K0 : Int32 → Int32 → Option (Int32)} {k : Nat} {z4_0 : Int32} {z4_1 : Int32} {x : Int32} (h : p_X3_countSigns_L4 G K0 k z4_0 z4_1 = some x) : ∃ K, K = K0 ∧ p_X3_countSigns_L4 G K k z4_0 z4_1 = some x := ⟨K0, rfl, h⟩
def p_X3_countSigns (n : Nat) (G : tG) : Option (Int32) :=
  p_X3_countSigns_L4 G (fun (z4_0 : Int32) (z4_1 : Int32) => some z4_1) n 0 0
set_option maxHeartbeats 4000000 in
set_option maxRecDepth 100000 in
theorem c_X3_countSigns (l : Launch) (D : va_G) (ad : Nat → Nat) (cA : ClassId) (n : Nat) (F : tF) (G : tG) {r : Int32} (h : p_X3_countSigns n G = some r) : CI l yX3_countSigns wsX3_countSigns ({ frames := 1, cells := 0, slots := 0, locals := 21 } : Room) D cA (wC ad cA F G) [.ref (ad 22)] r (wC ad cA F G) := by
  rw [p_X3_countSigns] at h
  refine metIr (w := wC ad cA) (cc := cX3_countSigns) (maxL := 3) (by decide) rfl (Nat.le_of_ble_eq_true rfl) ?_
  intro p e s m args below meth c A ls Q hE hret
  obtain ⟨hx, hb, hts, hown, hml, hP, hK, hD, hN, hA, hl⟩ := hE
  have hown : s.vm.findClass RX3 = some m.cls := hown
  have hl : lv_has ls 3 [(0, .ref (ad 22))] := hl
  have hS : va_S A s.heap s.heap [] := va_S.rf
  refine lv_iconst (v := 0) hx hb dX3_countSigns_0 (by decide) ?_
  refine lv_istore_n (lv' := [(1, .int (0)), (0, .ref (ad 22))]) hx hb dX3_countSigns_1 rfl hl (by decide) rfl (fun ls hl => ?_)
  refine lv_iconst (v := 0) hx hb dX3_countSigns_2 (by decide) ?_
  refine lv_istore_n (lv' := [(2, .int (0)), (1, .int (0)), (0, .ref (ad 22))]) hx hb dX3_countSigns_3 rfl hl (by decide) rfl (fun ls hl => ?_)
  obtain ⟨K4, eK4, h⟩ := p_X3_countSigns_L4_k h
  have JE4 : ∀ (z4_0 : Int32) (z4_1 : Int32) (H : Heap) (locs : List Loc) (ls : Array Slot), K4 z4_0 z4_1 = some r → va_P D vwCl (wC ad cA F G) H → va_D A (wC ad cA F G) → va_S A s.heap H locs → lv_has ls 3 [(2, .int (z4_0)), (1, .int (z4_1)), (0, .ref (ad 22))] → W p l e ({ frames := 1, cells := 0, slots := 0, locals := 21 } : Room) s m args below meth c H locs 0 0 Q (F0 m 27 ls []) := by
    intro z4_0 z4_1 H locs ls h hP hD hS hl
    rw [eK4] at h
    refine lv_iload_n hx hb dX3_countSigns_27 rfl (lv_at hl 1 rfl) ?_
    exact hret _ _ _ _ _ dX3_countSigns_28 h hP hD hS
  have LL4 : ∀ (k : Nat) (z4_0 : Int32) (z4_1 : Int32) (H : Heap) (locs : List Loc) (ls : Array Slot), p_X3_countSigns_L4 G K4 k z4_0 z4_1 = some r → va_P D vwCl (wC ad cA F G) H → va_D A (wC ad cA F G) → va_S A s.heap H locs → lv_has ls 3 [(2, .int (z4_0)), (1, .int (z4_1)), (0, .ref (ad 22))] → W p l e ({ frames := 1, cells := 0, slots := 0, locals := 21 } : Room) s m args below meth c H locs 0 0 Q (F0 m 4 ls []) := by
    intro k
    induction k with
    | zero =>
      intro z4_0 z4_1 H locs ls h hP hD hS hl
      rw [p_X3_countSigns_L4] at h
      cases h
    | succ k4 ih4 =>
      intro z4_0 z4_1 H locs ls h hP hD hS hl
      rw [p_X3_countSigns_L4] at h
      refine lv_iload_n hx hb dX3_countSigns_4 rfl (lv_at hl 0 rfl) ?_
      refine lv_bipush (v := 12) hx hb dX3_countSigns_5 (by decide) ?_
      refine lv_icmp_ge (tgt := 27) hx hb dX3_countSigns_7 (by decide) (fun c7 => ?_) (fun c7 => ?_)
      · replace h := ifp h c7
        exact JE4 _ _ _ _ _ h hP hD hS (lv_sub hl [0, 1, 2] rfl)
      · replace h := ifn h c7
        refine lv_aload_n hx hb dX3_countSigns_10 rfl (lv_at hl 2 rfl) ?_
        refine lv_iload_n hx hb dX3_countSigns_11 rfl (lv_at hl 0 rfl) ?_
        obtain ⟨x12, h12, h⟩ := bi1e h
        refine callVI (b := ad 22) (As := [.int (z4_0)]) (rest := []) ⟨hx, hb, hml, hown, hts⟩ (c_X3_isSet l D ad cA n F G z4_0 h12) (cwV 1 hts gX3_countSigns_X3_isSet rfl rfl rfl (by decide +kernel) ⟨Nat.le_of_ble_eq_true rfl, Nat.le_of_ble_eq_true rfl⟩) (va_recv hK hP (ci := 3) (q0 := 22) rfl wCg22) hP hK hD hN hS hA rfl hl.1 rfl (Nat.le_of_ble_eq_true rfl) dX3_countSigns_12 ⟨Nat.zero_le _, Nat.zero_le _⟩ (fun H locs hP hD hS => ?_)
        obtain ⟨y15_0, q15, h⟩ := bi1e h
        have J15 : ∀ (wy15_0 : Int32), some (wy15_0) = some (y15_0) → ∀ (H : Heap) (locs : List Loc) (ls : Array Slot), va_P D vwCl (wC ad cA F G) H → va_D A (wC ad cA F G) → va_S A s.heap H locs → lv_has ls 3 [(2, .int (z4_0)), (1, .int (wy15_0)), (0, .ref (ad 22))] → W p l e ({ frames := 1, cells := 0, slots := 0, locals := 21 } : Room) s m args below meth c H locs 0 0 Q (F0 m 21 ls []) := by
          intro wy15_0 e9 H locs ls hP hD hS hl
          cases e9
          obtain ⟨x21, ex21⟩ : ∃ z : Int32, z = (z4_0 + 1) := ⟨_, rfl⟩
          replace h := pl h ex21
          refine lv_iinc (v := x21) (lv' := [(2, .int (x21)), (1, .int (y15_0)), (0, .ref (ad 22))]) hx hb dX3_countSigns_21 hl (k := 0) rfl (by rw [ex21]; rfl) (by decide) rfl (fun ls hl => ?_)
          refine lv_goto (tgt := 4) hx hb dX3_countSigns_24 (by decide) ?_
          exact ih4 _ _ _ _ _ h hP hD hS (lv_sub hl [0, 1, 2] rfl)
        refine lv_if_eq (tgt := 21) hx hb dX3_countSigns_15 (by decide) (fun c15 => ?_) (fun c15 => ?_)
        · replace q15 := ifp q15 c15
          exact J15 _ q15 _ _ _ hP hD hS (lv_sub hl [0, 1, 2] rfl)
        · replace q15 := ifn q15 c15
          obtain ⟨x18, ex18⟩ : ∃ z : Int32, z = (z4_1 + 1) := ⟨_, rfl⟩
          replace q15 := pl q15 ex18
          refine lv_iinc (v := x18) (lv' := [(1, .int (x18)), (2, .int (z4_0)), (0, .ref (ad 22))]) hx hb dX3_countSigns_18 hl (k := 1) rfl (by rw [ex18]; rfl) (by decide) rfl (fun ls hl => ?_)
          exact J15 _ q15 _ _ _ hP hD hS (lv_sub hl [1, 0, 2] rfl)
  exact LL4 n 0 0 _ _ _ h hP hD hS (lv_sub hl [0, 1, 2] rfl)

def p_X7_apart (a0 : Int32) (a1 : Int32) (a2 : Int32) (a3 : Int32) : Option (Int32) :=
  some ((if 0 ≤ (a0 - a2) then (a0 - a2) else 0 - (a0 - a2)) + (if 0 ≤ (a1 - a3) then (a1 - a3) else 0 - (a1 - a3)))
set_option maxHeartbeats 4000000 in
set_option maxRecDepth 100000 in
theorem c_X7_apart (l : Launch) (D : va_G) (ad : Nat → Nat) (cA : ClassId) (n : Nat) (F : tF) (G : tG) (a0 : Int32) (a1 : Int32) (a2 : Int32) (a3 : Int32) {r : Int32} (h : p_X7_apart a0 a1 a2 a3 = some r) : CI l yX7_apart wsX7_apart ({ frames := 1, cells := 0, slots := 0, locals := 21 } : Room) D cA (wC ad cA F G) [.int (a0), .int (a1), .int (a2), .int (a3)] r (wC ad cA F G) := by
  rw [p_X7_apart] at h
  refine metIr (w := wC ad cA) (cc := cX7_apart) (maxL := 4) (by decide) rfl (Nat.le_of_ble_eq_true rfl) ?_
  intro p e s m args below meth c A ls Q hE hret
  obtain ⟨hx, hb, hts, hown, hml, hP, hK, hD, hN, hA, hl⟩ := hE
  have hown : s.vm.findClass RX7 = some m.cls := hown
  have hl : lv_has ls 4 [(0, .int (a0)), (1, .int (a1)), (2, .int (a2)), (3, .int (a3))] := hl
  have hS : va_S A s.heap s.heap [] := va_S.rf
  have k_0 : (Cond.methodLink RX7 347 Lib.Math.abs.name).before args s = true := hts _ (List.mem_of_getElem? (i := 1) rfl)
  have k_1 : (Cond.static Lib.Math.abs.name).before args s = true := hts _ (List.mem_of_getElem? (i := 2) rfl)
  have k_2 : (Cond.initialized "java/lang/Math").before args s = true := hts _ (List.mem_of_getElem? (i := 3) rfl)
  have k_3 : (Cond.code Lib.Math.abs.name Lib.Math.abs.code 1 (some .int)).before args s = true := hts _ (List.mem_of_getElem? (i := 4) rfl)
  refine lv_iload_n hx hb dX7_apart_0 rfl (lv_at hl 0 rfl) ?_
  refine lv_iload_n hx hb dX7_apart_1 rfl (lv_at hl 2 rfl) ?_
  refine lv_isub hx hb dX7_apart_2 ?_
  refine va_mabs hx hb (hml.trans hl.1.symm) hown k_0 k_1 k_2 k_3 (Nat.le_of_ble_eq_true rfl) (Nat.le_of_ble_eq_true rfl) (Nat.zero_le _) (Nat.zero_le _) dX7_apart_3 ?_
  refine lv_iload_n hx hb dX7_apart_6 rfl (lv_at hl 1 rfl) ?_
  refine lv_iload_n hx hb dX7_apart_7 rfl (lv_at hl 3 rfl) ?_
  refine lv_isub hx hb dX7_apart_8 ?_
  refine va_mabs hx hb (hml.trans hl.1.symm) hown k_0 k_1 k_2 k_3 (Nat.le_of_ble_eq_true rfl) (Nat.le_of_ble_eq_true rfl) (Nat.zero_le _) (Nat.zero_le _) dX7_apart_9 ?_
  refine lv_iadd hx hb dX7_apart_12 ?_
  exact hret _ _ _ _ _ dX7_apart_13 h hP hD hS

def p_X3_fromSign (G : tG) (a1 : Int32) (a2 : Int32) (a3 : Int32) : Option (Int32) :=
  oguard (inB a1 12) (oguard (inB a1 12) (bi1 (p_X7_apart (G 16 a1.toNatClampNeg) (G 17 a1.toNatClampNeg) a2 a3) (fun x14 => some x14)))
set_option maxHeartbeats 4000000 in
set_option maxRecDepth 100000 in
theorem c_X3_fromSign (l : Launch) (D : va_G) (ad : Nat → Nat) (cA : ClassId) (n : Nat) (F : tF) (G : tG) (a1 : Int32) (a2 : Int32) (a3 : Int32) {r : Int32} (h : p_X3_fromSign G a1 a2 a3 = some r) : CI l yX3_fromSign wsX3_fromSign ({ frames := 2, cells := 0, slots := 0, locals := 44 } : Room) D cA (wC ad cA F G) [.ref (ad 22), .int (a1), .int (a2), .int (a3)] r (wC ad cA F G) := by
  rw [p_X3_fromSign] at h
  refine metIr (w := wC ad cA) (cc := cX3_fromSign) (maxL := 4) (by decide) rfl (Nat.le_of_ble_eq_true rfl) ?_
  intro p e s m args below meth c A ls Q hE hret
  obtain ⟨hx, hb, hts, hown, hml, hP, hK, hD, hN, hA, hl⟩ := hE
  have hown : s.vm.findClass RX3 = some m.cls := hown
  have hl : lv_has ls 4 [(0, .ref (ad 22)), (1, .int (a1)), (2, .int (a2)), (3, .int (a3))] := hl
  have hS : va_S A s.heap s.heap [] := va_S.rf
  have k_0 : (Cond.fieldLink RX3 11 "BellBook$Line" "first" "[I").before args s = true := hts _ (List.mem_of_getElem? (i := 1) rfl)
  have n_3 : ∀ w ∈ u_ws RX3 TX3 5, w ∈ wsX3_fromSign := fun w hw => List.mem_cons_of_mem _ (List.mem_append_right _ hw)
  have k_2 : (Cond.fieldLink RX3 15 "BellBook$Line" "second" "[I").before args s = true := hts _ (List.mem_of_getElem? (i := 2) rfl)
  have k_3 : (Cond.initialized RX7).before args s = true := hts _ (List.mem_of_getElem? (i := 4) rfl)
  have k_4 : (Cond.static yX7_apart).before args s = true := hts _ (List.mem_of_getElem? (i := 3) rfl)
  refine lv_aload_n hx hb dX3_fromSign_0 rfl (lv_at hl 0 rfl) ?_
  refine va_get (D := D) (ci := 3) (fs := vX3 ad F) (v := .ref (ad 23)) (C := RX3) (T := TX3) (N := 5) hx hb hts n_3 hown hK hP 22 wCg22 rfl 0 (by decide) k_0 (fun _ h9 => h9) rfl dX3_fromSign_1 ?_
  refine lv_iload_n hx hb dX3_fromSign_4 rfl (lv_at hl 1 rfl) ?_
  obtain ⟨g5, h⟩ := og h
  refine va_iald (D := D) hx hb hK hP 23 0 wCg23 rfl (inB_in g5) dX3_fromSign_5 ?_
  refine lv_aload_n hx hb dX3_fromSign_6 rfl (lv_at hl 0 rfl) ?_
  refine va_get (D := D) (ci := 3) (fs := vX3 ad F) (v := .ref (ad 24)) (C := RX3) (T := TX3) (N := 5) hx hb hts n_3 hown hK hP 22 wCg22 rfl 1 (by decide) k_2 (fun _ h9 => h9) rfl dX3_fromSign_7 ?_
  refine lv_iload_n hx hb dX3_fromSign_10 rfl (lv_at hl 1 rfl) ?_
  obtain ⟨g11, h⟩ := og h
  refine va_iald (D := D) hx hb hK hP 24 0 wCg24 rfl (inB_in g11) dX3_fromSign_11 ?_
  refine lv_iload_n hx hb dX3_fromSign_12 rfl (lv_at hl 2 rfl) ?_
  refine lv_iload_n hx hb dX3_fromSign_13 rfl (lv_at hl 3 rfl) ?_
  obtain ⟨x14, h14, h⟩ := bi1e h
  refine callNI (host := "BellBook") (As := [.int ((G 16 a1.toNatClampNeg)), .int ((G 17 a1.toNatClampNeg)), .int (a2), .int (a3)]) (rest := []) ⟨hx, hb, hml, hown, hts⟩ (c_X7_apart l D ad cA n F G (G 16 a1.toNatClampNeg) (G 17 a1.toNatClampNeg) a2 a3 h14) ⟨va_cnB 4 hts gX3_fromSign_X7_apart_n36 rfl rfl rfl hN.2.2.2.2 k_3 (by decide +kernel) ⟨Nat.le_of_ble_eq_true rfl, Nat.le_of_ble_eq_true rfl⟩, k_4, trivial⟩ hP hK hD hN hS hA rfl hl.1 rfl (Nat.le_of_ble_eq_true rfl) dX3_fromSign_14 ⟨Nat.zero_le _, Nat.zero_le _⟩ (fun H locs hP hD hS => ?_)
  exact hret _ _ _ _ _ dX3_fromSign_17 h hP hD hS

def p_X3_isFarFromAll_L3 (G : tG) (a1 : Int32) (a2 : Int32) (a3 : Int32) (K3 : Int32 → Option (Int32)) : Nat → Int32 → Option (Int32)
  | 0, _ => none
  | k3 + 1, z3_0 => (if 12 ≤ z3_0 then K3 z3_0 else bi1 (p_X3_isSet G z3_0) (fun x13 => (if x13 = 0 then plet (z3_0 + 1) (fun (x33 : Int32) => p_X3_isFarFromAll_L3 G a1 a2 a3 K3 k3 x33) else bi1 (p_X3_fromSign G z3_0 a1 a2) (fun x24 => (if a3 ≤ x24 then plet (z3_0 + 1) (fun (x33 : Int32) => p_X3_isFarFromAll_L3 G a1 a2 a3 K3 k3 x33) else some 0)))))
theorem p_X3_isFarFromAll_L3_k {G : tG} {a1 : Int32} {a2 : Int32} {a3 : Int32} {K0 : Int32 → Option (Int32)} {k : Nat} {z3_0 : Int32} {x : Int32} (h : p_X3_isFarFromAll_L3 G a1 a2 a3 K0 k z3_0 = some x) : ∃ K, K = K0 ∧ p_X3_isFarFromAll_L3 G a1 a2 a3 K k z3_0 = some x := ⟨K0, rfl, h⟩
def p_X3_isFarFromAll (n : Nat) (G : tG) (a1 : Int32) (a2 : Int32) (a3 : Int32) : Option (Int32) :=
  p_X3_isFarFromAll_L3 G a1 a2 a3 (fun (z3_0 : Int32) => some 1) n 0
set_option maxHeartbeats 4000000 in
set_option maxRecDepth 100000 in
theorem c_X3_isFarFromAll (l : Launch) (D : va_G) (ad : Nat → Nat) (cA : ClassId) (n : Nat) (F : tF) (G : tG) (a1 : Int32) (a2 : Int32) (a3 : Int32) {r : Int32} (h : p_X3_isFarFromAll n G a1 a2 a3 = some r) : CI l yX3_isFarFromAll wsX3_isFarFromAll ({ frames := 3, cells := 0, slots := 0, locals := 67 } : Room) D cA (wC ad cA F G) [.ref (ad 22), .int (a1), .int (a2), .int (a3)] r (wC ad cA F G) := by
  rw [p_X3_isFarFromAll] at h
  refine metZr (w := wC ad cA) (cc := cX3_isFarFromAll) (maxL := 5) (by decide) rfl (Nat.le_of_ble_eq_true rfl) ?_
  intro p e s m args below meth c A ls Q hE hret
  obtain ⟨hx, hb, hts, hown, hml, hP, hK, hD, hN, hA, hl⟩ := hE
  have hown : s.vm.findClass RX3 = some m.cls := hown
  have hl : lv_has ls 5 [(0, .ref (ad 22)), (1, .int (a1)), (2, .int (a2)), (3, .int (a3))] := hl
  have hS : va_S A s.heap s.heap [] := va_S.rf
  refine lv_iconst (v := 0) hx hb dX3_isFarFromAll_0 (by decide) ?_
  refine lv_istore (lv' := [(4, .int (0)), (0, .ref (ad 22)), (1, .int (a1)), (2, .int (a2)), (3, .int (a3))]) hx hb dX3_isFarFromAll_1 hl (by decide) rfl (fun ls hl => ?_)
  obtain ⟨K3, eK3, h⟩ := p_X3_isFarFromAll_L3_k h
  have JE3 : ∀ (z3_0 : Int32) (H : Heap) (locs : List Loc) (ls : Array Slot), K3 z3_0 = some r → va_P D vwCl (wC ad cA F G) H → va_D A (wC ad cA F G) → va_S A s.heap H locs → lv_has ls 5 [(4, .int (z3_0)), (0, .ref (ad 22)), (1, .int (a1)), (2, .int (a2)), (3, .int (a3))] → W p l e ({ frames := 3, cells := 0, slots := 0, locals := 67 } : Room) s m args below meth c H locs 0 0 Q (F0 m 39 ls []) := by
    intro z3_0 H locs ls h hP hD hS hl
    rw [eK3] at h
    refine lv_iconst (v := 1) hx hb dX3_isFarFromAll_39 (by decide) ?_
    exact hret _ _ _ _ _ dX3_isFarFromAll_40 rfl h hP hD hS
  have LL3 : ∀ (k : Nat) (z3_0 : Int32) (H : Heap) (locs : List Loc) (ls : Array Slot), p_X3_isFarFromAll_L3 G a1 a2 a3 K3 k z3_0 = some r → va_P D vwCl (wC ad cA F G) H → va_D A (wC ad cA F G) → va_S A s.heap H locs → lv_has ls 5 [(4, .int (z3_0)), (0, .ref (ad 22)), (1, .int (a1)), (2, .int (a2)), (3, .int (a3))] → W p l e ({ frames := 3, cells := 0, slots := 0, locals := 67 } : Room) s m args below meth c H locs 0 0 Q (F0 m 3 ls []) := by
    intro k
    induction k with
    | zero =>
      intro z3_0 H locs ls h hP hD hS hl
      rw [p_X3_isFarFromAll_L3] at h
      cases h
    | succ k3 ih3 =>
      intro z3_0 H locs ls h hP hD hS hl
      rw [p_X3_isFarFromAll_L3] at h
      refine lv_iload hx hb dX3_isFarFromAll_3 (lv_at hl 0 rfl) ?_
      refine lv_bipush (v := 12) hx hb dX3_isFarFromAll_5 (by decide) ?_
      refine lv_icmp_ge (tgt := 39) hx hb dX3_isFarFromAll_7 (by decide) (fun c7 => ?_) (fun c7 => ?_)
      · replace h := ifp h c7
        exact JE3 _ _ _ _ h hP hD hS (lv_sub hl [0, 1, 2, 3, 4] rfl)
      · replace h := ifn h c7
        refine lv_aload_n hx hb dX3_isFarFromAll_10 rfl (lv_at hl 1 rfl) ?_
        refine lv_iload hx hb dX3_isFarFromAll_11 (lv_at hl 0 rfl) ?_
        obtain ⟨x13, h13, h⟩ := bi1e h
        refine callVI (b := ad 22) (As := [.int (z3_0)]) (rest := []) ⟨hx, hb, hml, hown, hts⟩ (c_X3_isSet l D ad cA n F G z3_0 h13) (cwV 1 hts gX3_isFarFromAll_X3_isSet rfl rfl rfl (by decide +kernel) ⟨Nat.le_of_ble_eq_true rfl, Nat.le_of_ble_eq_true rfl⟩) (va_recv hK hP (ci := 3) (q0 := 22) rfl wCg22) hP hK hD hN hS hA rfl hl.1 rfl (Nat.le_of_ble_eq_true rfl) dX3_isFarFromAll_13 ⟨Nat.zero_le _, Nat.zero_le _⟩ (fun H locs hP hD hS => ?_)
        refine lv_if_eq (tgt := 33) hx hb dX3_isFarFromAll_16 (by decide) (fun c16 => ?_) (fun c16 => ?_)
        · replace h := ifp h c16
          obtain ⟨x33, ex33⟩ : ∃ z : Int32, z = (z3_0 + 1) := ⟨_, rfl⟩
          replace h := pl h ex33
          refine lv_iinc (v := x33) (lv' := [(4, .int (x33)), (0, .ref (ad 22)), (1, .int (a1)), (2, .int (a2)), (3, .int (a3))]) hx hb dX3_isFarFromAll_33 hl (k := 0) rfl (by rw [ex33]; rfl) (by decide) rfl (fun ls hl => ?_)
          refine lv_goto (tgt := 3) hx hb dX3_isFarFromAll_36 (by decide) ?_
          exact ih3 _ _ _ _ h hP hD hS (lv_sub hl [0, 1, 2, 3, 4] rfl)
        · replace h := ifn h c16
          refine lv_aload_n hx hb dX3_isFarFromAll_19 rfl (lv_at hl 1 rfl) ?_
          refine lv_iload hx hb dX3_isFarFromAll_20 (lv_at hl 0 rfl) ?_
          refine lv_iload_n hx hb dX3_isFarFromAll_22 rfl (lv_at hl 2 rfl) ?_
          refine lv_iload_n hx hb dX3_isFarFromAll_23 rfl (lv_at hl 3 rfl) ?_
          obtain ⟨x24, h24, h⟩ := bi1e h
          refine callVI (b := ad 22) (As := [.int (z3_0), .int (a1), .int (a2)]) (rest := []) ⟨hx, hb, hml, hown, hts⟩ (c_X3_fromSign l D ad cA n F G z3_0 a1 a2 h24) (cwV 3 hts gX3_isFarFromAll_X3_fromSign rfl rfl rfl (by decide +kernel) ⟨Nat.le_of_ble_eq_true rfl, Nat.le_of_ble_eq_true rfl⟩) (va_recv hK hP (ci := 3) (q0 := 22) rfl wCg22) hP hK hD hN hS hA rfl hl.1 rfl (Nat.le_of_ble_eq_true rfl) dX3_isFarFromAll_24 ⟨Nat.zero_le _, Nat.zero_le _⟩ (fun H locs hP hD hS => ?_)
          refine lv_iload_n hx hb dX3_isFarFromAll_27 rfl (lv_at hl 4 rfl) ?_
          refine lv_icmp_ge (tgt := 33) hx hb dX3_isFarFromAll_28 (by decide) (fun c28 => ?_) (fun c28 => ?_)
          · replace h := ifp h c28
            obtain ⟨x33, ex33⟩ : ∃ z : Int32, z = (z3_0 + 1) := ⟨_, rfl⟩
            replace h := pl h ex33
            refine lv_iinc (v := x33) (lv' := [(4, .int (x33)), (0, .ref (ad 22)), (1, .int (a1)), (2, .int (a2)), (3, .int (a3))]) hx hb dX3_isFarFromAll_33 hl (k := 0) rfl (by rw [ex33]; rfl) (by decide) rfl (fun ls hl => ?_)
            refine lv_goto (tgt := 3) hx hb dX3_isFarFromAll_36 (by decide) ?_
            exact ih3 _ _ _ _ h hP hD hS (lv_sub hl [0, 1, 2, 3, 4] rfl)
          · replace h := ifn h c28
            refine lv_iconst (v := 0) hx hb dX3_isFarFromAll_31 (by decide) ?_
            exact hret _ _ _ _ _ dX3_isFarFromAll_32 rfl h hP hD hS
  exact LL3 n 0 _ _ _ h hP hD hS (lv_sub hl [0, 1, 2, 3, 4] rfl)

def p_X3_firstFree_L10 (n : Nat) (G : tG) (a1 : Int32) (z2_0 : Int32) (K10 : Int32 → Option (Int32)) : Nat → Int32 → Option (Int32)
  | 0, _ => none
  | k10 + 1, z10_0 => (if 6 < z10_0 then K10 z10_0 else bi1 (p_X3_isFarFromAll n G z2_0 z10_0 a1) (fun x20 => (if x20 = 0 then plet (z10_0 + 1) (fun (x33 : Int32) => p_X3_firstFree_L10 n G a1 z2_0 K10 k10 x33) else some ((10 * z2_0) + z10_0))))
theorem p_X3_firstFree_L10_k {n : Nat} {G : tG} {a1 : Int32} {z2_0 : Int32} {K0 : Int32 → Option (Int32)} {k : Nat} {z10_0 : Int32} {x : Int32} (h : p_X3_firstFree_L10 n G a1 z2_0 K0 k z10_0 = some x) : ∃ K, K = K0 ∧ p_X3_firstFree_L10 n G a1 z2_0 K k z10_0 = some x := ⟨K0, rfl, h⟩
def p_X3_firstFree_L2 (n : Nat) (G : tG) (a1 : Int32) (K2 : Int32 → Option (Int32)) : Nat → Int32 → Option (Int32)
  | 0, _ => none
  | k2 + 1, z2_0 => (if 6 < z2_0 then K2 z2_0 else p_X3_firstFree_L10 n G a1 z2_0 (fun (z10_0 : Int32) => plet (z2_0 + 1) (fun (x39 : Int32) => p_X3_firstFree_L2 n G a1 K2 k2 x39)) n 1)
theorem p_X3_firstFree_L2_k {n : Nat} {G : tG} {a1 : Int32} {K0 : Int32 → Option (Int32)} {k : Nat} {z2_0 : Int32} {x : Int32} (h : p_X3_firstFree_L2 n G a1 K0 k z2_0 = some x) : ∃ K, K = K0 ∧ p_X3_firstFree_L2 n G a1 K k z2_0 = some x := ⟨K0, rfl, h⟩
def p_X3_firstFree (n : Nat) (G : tG) (a1 : Int32) : Option (Int32) :=
  p_X3_firstFree_L2 n G a1 (fun (z2_0 : Int32) => some (-6)) n 1
set_option maxHeartbeats 4000000 in
set_option maxRecDepth 100000 in
theorem c_X3_firstFree (l : Launch) (D : va_G) (ad : Nat → Nat) (cA : ClassId) (n : Nat) (F : tF) (G : tG) (a1 : Int32) {r : Int32} (h : p_X3_firstFree n G a1 = some r) : CI l yX3_firstFree wsX3_firstFree ({ frames := 4, cells := 0, slots := 0, locals := 91 } : Room) D cA (wC ad cA F G) [.ref (ad 22), .int (a1)] r (wC ad cA F G) := by
  rw [p_X3_firstFree] at h
  refine metIr (w := wC ad cA) (cc := cX3_firstFree) (maxL := 4) (by decide) rfl (Nat.le_of_ble_eq_true rfl) ?_
  intro p e s m args below meth c A ls Q hE hret
  obtain ⟨hx, hb, hts, hown, hml, hP, hK, hD, hN, hA, hl⟩ := hE
  have hown : s.vm.findClass RX3 = some m.cls := hown
  have hl : lv_has ls 4 [(0, .ref (ad 22)), (1, .int (a1))] := hl
  have hS : va_S A s.heap s.heap [] := va_S.rf
  refine lv_iconst (v := 1) hx hb dX3_firstFree_0 (by decide) ?_
  refine lv_istore_n (lv' := [(2, .int (1)), (0, .ref (ad 22)), (1, .int (a1))]) hx hb dX3_firstFree_1 rfl hl (by decide) rfl (fun ls hl => ?_)
  obtain ⟨K2, eK2, h⟩ := p_X3_firstFree_L2_k h
  have JE2 : ∀ (z2_0 : Int32) (H : Heap) (locs : List Loc) (ls : Array Slot), K2 z2_0 = some r → va_P D vwCl (wC ad cA F G) H → va_D A (wC ad cA F G) → va_S A s.heap H locs → lv_has ls 4 [(2, .int (z2_0)), (0, .ref (ad 22)), (1, .int (a1))] → W p l e ({ frames := 4, cells := 0, slots := 0, locals := 91 } : Room) s m args below meth c H locs 0 0 Q (F0 m 45 ls []) := by
    intro z2_0 H locs ls h hP hD hS hl
    rw [eK2] at h
    refine lv_bipush (v := (-6)) hx hb dX3_firstFree_45 (by decide) ?_
    exact hret _ _ _ _ _ dX3_firstFree_47 h hP hD hS
  have LL2 : ∀ (k : Nat) (z2_0 : Int32) (H : Heap) (locs : List Loc) (ls : Array Slot), p_X3_firstFree_L2 n G a1 K2 k z2_0 = some r → va_P D vwCl (wC ad cA F G) H → va_D A (wC ad cA F G) → va_S A s.heap H locs → lv_has ls 4 [(2, .int (z2_0)), (0, .ref (ad 22)), (1, .int (a1))] → W p l e ({ frames := 4, cells := 0, slots := 0, locals := 91 } : Room) s m args below meth c H locs 0 0 Q (F0 m 2 ls []) := by
    intro k
    induction k with
    | zero =>
      intro z2_0 H locs ls h hP hD hS hl
      rw [p_X3_firstFree_L2] at h
      cases h
    | succ k2 ih2 =>
      intro z2_0 H locs ls h hP hD hS hl
      rw [p_X3_firstFree_L2] at h
      refine lv_iload_n hx hb dX3_firstFree_2 rfl (lv_at hl 0 rfl) ?_
      refine lv_bipush (v := 6) hx hb dX3_firstFree_3 (by decide) ?_
      refine lv_icmp_gt (tgt := 45) hx hb dX3_firstFree_5 (by decide) (fun c5 => ?_) (fun c5 => ?_)
      · replace h := ifp h c5
        exact JE2 _ _ _ _ h hP hD hS (lv_sub hl [0, 1, 2] rfl)
      · replace h := ifn h c5
        refine lv_iconst (v := 1) hx hb dX3_firstFree_8 (by decide) ?_
        refine lv_istore_n (lv' := [(3, .int (1)), (2, .int (z2_0)), (0, .ref (ad 22)), (1, .int (a1))]) hx hb dX3_firstFree_9 rfl hl (by decide) rfl (fun ls hl => ?_)
        obtain ⟨K10, eK10, h⟩ := p_X3_firstFree_L10_k h
        have JE10 : ∀ (z10_0 : Int32) (H : Heap) (locs : List Loc) (ls : Array Slot), K10 z10_0 = some r → va_P D vwCl (wC ad cA F G) H → va_D A (wC ad cA F G) → va_S A s.heap H locs → lv_has ls 4 [(3, .int (z10_0)), (2, .int (z2_0)), (0, .ref (ad 22)), (1, .int (a1))] → W p l e ({ frames := 4, cells := 0, slots := 0, locals := 91 } : Room) s m args below meth c H locs 0 0 Q (F0 m 39 ls []) := by
          intro z10_0 H locs ls h hP hD hS hl
          rw [eK10] at h
          obtain ⟨x39, ex39⟩ : ∃ z : Int32, z = (z2_0 + 1) := ⟨_, rfl⟩
          replace h := pl h ex39
          refine lv_iinc (v := x39) (lv' := [(2, .int (x39)), (3, .int (z10_0)), (0, .ref (ad 22)), (1, .int (a1))]) hx hb dX3_firstFree_39 hl (k := 1) rfl (by rw [ex39]; rfl) (by decide) rfl (fun ls hl => ?_)
          refine lv_goto (tgt := 2) hx hb dX3_firstFree_42 (by decide) ?_
          exact ih2 _ _ _ _ h hP hD hS (lv_sub hl [0, 2, 3] rfl)
        have LL10 : ∀ (k : Nat) (z10_0 : Int32) (H : Heap) (locs : List Loc) (ls : Array Slot), p_X3_firstFree_L10 n G a1 z2_0 K10 k z10_0 = some r → va_P D vwCl (wC ad cA F G) H → va_D A (wC ad cA F G) → va_S A s.heap H locs → lv_has ls 4 [(3, .int (z10_0)), (2, .int (z2_0)), (0, .ref (ad 22)), (1, .int (a1))] → W p l e ({ frames := 4, cells := 0, slots := 0, locals := 91 } : Room) s m args below meth c H locs 0 0 Q (F0 m 10 ls []) := by
          intro k
          induction k with
          | zero =>
            intro z10_0 H locs ls h hP hD hS hl
            rw [p_X3_firstFree_L10] at h
            cases h
          | succ k10 ih10 =>
            intro z10_0 H locs ls h hP hD hS hl
            rw [p_X3_firstFree_L10] at h
            refine lv_iload_n hx hb dX3_firstFree_10 rfl (lv_at hl 0 rfl) ?_
            refine lv_bipush (v := 6) hx hb dX3_firstFree_11 (by decide) ?_
            refine lv_icmp_gt (tgt := 39) hx hb dX3_firstFree_13 (by decide) (fun c13 => ?_) (fun c13 => ?_)
            · replace h := ifp h c13
              exact JE10 _ _ _ _ h hP hD hS (lv_sub hl [0, 1, 2, 3] rfl)
            · replace h := ifn h c13
              refine lv_aload_n hx hb dX3_firstFree_16 rfl (lv_at hl 2 rfl) ?_
              refine lv_iload_n hx hb dX3_firstFree_17 rfl (lv_at hl 1 rfl) ?_
              refine lv_iload_n hx hb dX3_firstFree_18 rfl (lv_at hl 0 rfl) ?_
              refine lv_iload_n hx hb dX3_firstFree_19 rfl (lv_at hl 3 rfl) ?_
              obtain ⟨x20, h20, h⟩ := bi1e h
              refine callVI (b := ad 22) (As := [.int (z2_0), .int (z10_0), .int (a1)]) (rest := []) ⟨hx, hb, hml, hown, hts⟩ (c_X3_isFarFromAll l D ad cA n F G z2_0 z10_0 a1 h20) (cwV 3 hts gX3_firstFree_X3_isFarFromAll rfl rfl rfl (by decide +kernel) ⟨Nat.le_of_ble_eq_true rfl, Nat.le_of_ble_eq_true rfl⟩) (va_recv hK hP (ci := 3) (q0 := 22) rfl wCg22) hP hK hD hN hS hA rfl hl.1 rfl (Nat.le_of_ble_eq_true rfl) dX3_firstFree_20 ⟨Nat.zero_le _, Nat.zero_le _⟩ (fun H locs hP hD hS => ?_)
              refine lv_if_eq (tgt := 33) hx hb dX3_firstFree_23 (by decide) (fun c23 => ?_) (fun c23 => ?_)
              · replace h := ifp h c23
                obtain ⟨x33, ex33⟩ : ∃ z : Int32, z = (z10_0 + 1) := ⟨_, rfl⟩
                replace h := pl h ex33
                refine lv_iinc (v := x33) (lv' := [(3, .int (x33)), (2, .int (z2_0)), (0, .ref (ad 22)), (1, .int (a1))]) hx hb dX3_firstFree_33 hl (k := 0) rfl (by rw [ex33]; rfl) (by decide) rfl (fun ls hl => ?_)
                refine lv_goto (tgt := 10) hx hb dX3_firstFree_36 (by decide) ?_
                exact ih10 _ _ _ _ h hP hD hS (lv_sub hl [0, 1, 2, 3] rfl)
              · replace h := ifn h c23
                refine lv_bipush (v := 10) hx hb dX3_firstFree_26 (by decide) ?_
                refine lv_iload_n hx hb dX3_firstFree_28 rfl (lv_at hl 1 rfl) ?_
                refine lv_imul hx hb dX3_firstFree_29 ?_
                refine lv_iload_n hx hb dX3_firstFree_30 rfl (lv_at hl 0 rfl) ?_
                refine lv_iadd hx hb dX3_firstFree_31 ?_
                exact hret _ _ _ _ _ dX3_firstFree_32 h hP hD hS
        exact LL10 n 1 _ _ _ h hP hD hS (lv_sub hl [0, 1, 2, 3] rfl)
  exact LL2 n 1 _ _ _ h hP hD hS (lv_sub hl [0, 1, 2] rfl)

def p_X3_fromRow_L4 (F : tF) (G : tG) (a1 : Int32) (K4 : Int32 → Int32 → Option (Int32)) : Nat → Int32 → Int32 → Option (Int32)
  | 0, _, _ => none
  | k4 + 1, z4_0, z4_1 => (if (F 23) ≤ z4_0 then K4 z4_0 z4_1 else oguard (inB z4_0 4) (oguard (inB z4_0 4) (bi1 (p_X3_fromSign G a1 (G 18 z4_0.toNatClampNeg) (G 19 z4_0.toNatClampNeg)) (fun x27 => plet (z4_1 + x27) (fun (x31 : Int32) => plet (z4_0 + 1) (fun (x32 : Int32) => p_X3_fromRow_L4 F G a1 K4 k4 x32 x31))))))
theorem p_X3_fromRow_L4_k {F : tF} {G : tG} {a1 : Int32} {K0 : Int32 → Int32 → Option (Int32)} {k : Nat} {z4_0 : Int32} {z4_1 : Int32} {x : Int32} (h : p_X3_fromRow_L4 F G a1 K0 k z4_0 z4_1 = some x) : ∃ K, K = K0 ∧ p_X3_fromRow_L4 F G a1 K k z4_0 z4_1 = some x := ⟨K0, rfl, h⟩
def p_X3_fromRow (n : Nat) (F : tF) (G : tG) (a1 : Int32) : Option (Int32) :=
  p_X3_fromRow_L4 F G a1 (fun (z4_0 : Int32) (z4_1 : Int32) => some z4_1) n 0 0
set_option maxHeartbeats 4000000 in
set_option maxRecDepth 100000 in
theorem c_X3_fromRow (l : Launch) (D : va_G) (ad : Nat → Nat) (cA : ClassId) (n : Nat) (F : tF) (G : tG) (a1 : Int32) {r : Int32} (h : p_X3_fromRow n F G a1 = some r) : CI l yX3_fromRow wsX3_fromRow ({ frames := 3, cells := 0, slots := 0, locals := 67 } : Room) D cA (wC ad cA F G) [.ref (ad 22), .int (a1)] r (wC ad cA F G) := by
  rw [p_X3_fromRow] at h
  refine metIr (w := wC ad cA) (cc := cX3_fromRow) (maxL := 4) (by decide) rfl (Nat.le_of_ble_eq_true rfl) ?_
  intro p e s m args below meth c A ls Q hE hret
  obtain ⟨hx, hb, hts, hown, hml, hP, hK, hD, hN, hA, hl⟩ := hE
  have hown : s.vm.findClass RX3 = some m.cls := hown
  have hl : lv_has ls 4 [(0, .ref (ad 22)), (1, .int (a1))] := hl
  have hS : va_S A s.heap s.heap [] := va_S.rf
  have k_0 : (Cond.fieldLink RX3 24 "BellBook$Line" "hearings" "I").before args s = true := hts _ (List.mem_of_getElem? (i := 1) rfl)
  have n_3 : ∀ w ∈ u_ws RX3 TX3 5, w ∈ wsX3_fromRow := fun w hw => List.mem_cons_of_mem _ (List.mem_append_right _ hw)
  have k_2 : (Cond.fieldLink RX3 18 "BellBook$Line" "heardFirst" "[I").before args s = true := hts _ (List.mem_of_getElem? (i := 2) rfl)
  have k_3 : (Cond.fieldLink RX3 21 "BellBook$Line" "heardSecond" "[I").before args s = true := hts _ (List.mem_of_getElem? (i := 3) rfl)
  refine lv_iconst (v := 0) hx hb dX3_fromRow_0 (by decide) ?_
  refine lv_istore_n (lv' := [(2, .int (0)), (0, .ref (ad 22)), (1, .int (a1))]) hx hb dX3_fromRow_1 rfl hl (by decide) rfl (fun ls hl => ?_)
  refine lv_iconst (v := 0) hx hb dX3_fromRow_2 (by decide) ?_
  refine lv_istore_n (lv' := [(3, .int (0)), (2, .int (0)), (0, .ref (ad 22)), (1, .int (a1))]) hx hb dX3_fromRow_3 rfl hl (by decide) rfl (fun ls hl => ?_)
  obtain ⟨K4, eK4, h⟩ := p_X3_fromRow_L4_k h
  have JE4 : ∀ (z4_0 : Int32) (z4_1 : Int32) (H : Heap) (locs : List Loc) (ls : Array Slot), K4 z4_0 z4_1 = some r → va_P D vwCl (wC ad cA F G) H → va_D A (wC ad cA F G) → va_S A s.heap H locs → lv_has ls 4 [(3, .int (z4_0)), (2, .int (z4_1)), (0, .ref (ad 22)), (1, .int (a1))] → W p l e ({ frames := 3, cells := 0, slots := 0, locals := 67 } : Room) s m args below meth c H locs 0 0 Q (F0 m 38 ls []) := by
    intro z4_0 z4_1 H locs ls h hP hD hS hl
    rw [eK4] at h
    refine lv_iload_n hx hb dX3_fromRow_38 rfl (lv_at hl 1 rfl) ?_
    exact hret _ _ _ _ _ dX3_fromRow_39 h hP hD hS
  have LL4 : ∀ (k : Nat) (z4_0 : Int32) (z4_1 : Int32) (H : Heap) (locs : List Loc) (ls : Array Slot), p_X3_fromRow_L4 F G a1 K4 k z4_0 z4_1 = some r → va_P D vwCl (wC ad cA F G) H → va_D A (wC ad cA F G) → va_S A s.heap H locs → lv_has ls 4 [(3, .int (z4_0)), (2, .int (z4_1)), (0, .ref (ad 22)), (1, .int (a1))] → W p l e ({ frames := 3, cells := 0, slots := 0, locals := 67 } : Room) s m args below meth c H locs 0 0 Q (F0 m 4 ls []) := by
    intro k
    induction k with
    | zero =>
      intro z4_0 z4_1 H locs ls h hP hD hS hl
      rw [p_X3_fromRow_L4] at h
      cases h
    | succ k4 ih4 =>
      intro z4_0 z4_1 H locs ls h hP hD hS hl
      rw [p_X3_fromRow_L4] at h
      refine lv_iload_n hx hb dX3_fromRow_4 rfl (lv_at hl 0 rfl) ?_
      refine lv_aload_n hx hb dX3_fromRow_5 rfl (lv_at hl 2 rfl) ?_
      refine va_get (D := D) (ci := 3) (fs := vX3 ad F) (v := .int ((F 23))) (C := RX3) (T := TX3) (N := 5) hx hb hts n_3 hown hK hP 22 wCg22 rfl 4 (by decide) k_0 (fun _ h9 => h9) rfl dX3_fromRow_6 ?_
      refine lv_icmp_ge (tgt := 38) hx hb dX3_fromRow_9 (by decide) (fun c9 => ?_) (fun c9 => ?_)
      · replace h := ifp h c9
        exact JE4 _ _ _ _ _ h hP hD hS (lv_sub hl [0, 1, 2, 3] rfl)
      · replace h := ifn h c9
        refine lv_iload_n hx hb dX3_fromRow_12 rfl (lv_at hl 1 rfl) ?_
        refine lv_aload_n hx hb dX3_fromRow_13 rfl (lv_at hl 2 rfl) ?_
        refine lv_iload_n hx hb dX3_fromRow_14 rfl (lv_at hl 3 rfl) ?_
        refine lv_aload_n hx hb dX3_fromRow_15 rfl (lv_at hl 2 rfl) ?_
        refine va_get (D := D) (ci := 3) (fs := vX3 ad F) (v := .ref (ad 25)) (C := RX3) (T := TX3) (N := 5) hx hb hts n_3 hown hK hP 22 wCg22 rfl 2 (by decide) k_2 (fun _ h9 => h9) rfl dX3_fromRow_16 ?_
        refine lv_iload_n hx hb dX3_fromRow_19 rfl (lv_at hl 0 rfl) ?_
        obtain ⟨g20, h⟩ := og h
        refine va_iald (D := D) hx hb hK hP 25 0 wCg25 rfl (inB_in g20) dX3_fromRow_20 ?_
        refine lv_aload_n hx hb dX3_fromRow_21 rfl (lv_at hl 2 rfl) ?_
        refine va_get (D := D) (ci := 3) (fs := vX3 ad F) (v := .ref (ad 26)) (C := RX3) (T := TX3) (N := 5) hx hb hts n_3 hown hK hP 22 wCg22 rfl 3 (by decide) k_3 (fun _ h9 => h9) rfl dX3_fromRow_22 ?_
        refine lv_iload_n hx hb dX3_fromRow_25 rfl (lv_at hl 0 rfl) ?_
        obtain ⟨g26, h⟩ := og h
        refine va_iald (D := D) hx hb hK hP 26 0 wCg26 rfl (inB_in g26) dX3_fromRow_26 ?_
        obtain ⟨x27, h27, h⟩ := bi1e h
        refine callVI (b := ad 22) (As := [.int (a1), .int ((G 18 z4_0.toNatClampNeg)), .int ((G 19 z4_0.toNatClampNeg))]) (rest := [.int (z4_1)]) ⟨hx, hb, hml, hown, hts⟩ (c_X3_fromSign l D ad cA n F G a1 (G 18 z4_0.toNatClampNeg) (G 19 z4_0.toNatClampNeg) h27) (cwV 3 hts gX3_fromRow_X3_fromSign rfl rfl rfl (by decide +kernel) ⟨Nat.le_of_ble_eq_true rfl, Nat.le_of_ble_eq_true rfl⟩) (va_recv hK hP (ci := 3) (q0 := 22) rfl wCg22) hP hK hD hN hS hA rfl hl.1 rfl (Nat.le_of_ble_eq_true rfl) dX3_fromRow_27 ⟨Nat.zero_le _, Nat.zero_le _⟩ (fun H locs hP hD hS => ?_)
        refine lv_iadd hx hb dX3_fromRow_30 ?_
        refine lv_topi (fun x31 ex31 => ?_)
        replace h := pl h ex31
        refine lv_istore_n (lv' := [(2, .int (x31)), (3, .int (z4_0)), (0, .ref (ad 22)), (1, .int (a1))]) hx hb dX3_fromRow_31 rfl hl (by decide) rfl (fun ls hl => ?_)
        obtain ⟨x32, ex32⟩ : ∃ z : Int32, z = (z4_0 + 1) := ⟨_, rfl⟩
        replace h := pl h ex32
        refine lv_iinc (v := x32) (lv' := [(3, .int (x32)), (2, .int (x31)), (0, .ref (ad 22)), (1, .int (a1))]) hx hb dX3_fromRow_32 hl (k := 1) rfl (by rw [ex32]; rfl) (by decide) rfl (fun ls hl => ?_)
        refine lv_goto (tgt := 4) hx hb dX3_fromRow_35 (by decide) ?_
        exact ih4 _ _ _ _ _ h hP hD hS (lv_sub hl [0, 1, 2, 3] rfl)
  exact LL4 n 0 0 _ _ _ h hP hD hS (lv_sub hl [0, 1, 2, 3] rfl)

def p_X3_fromSignsBehind_L8 (G : tG) (a1 : Int32) (K8 : Int32 → Int32 → Option (Int32)) : Nat → Int32 → Int32 → Option (Int32)
  | 0, _, _ => none
  | k8 + 1, z8_0, z8_1 => (if 12 ≤ z8_0 then K8 z8_0 z8_1 else bi1 (p_X3_isSet G z8_0) (fun x16 => bi1 ((if x16 = 0 then some (z8_1) else oguard (inB a1 12) (oguard (inB a1 12) (bi1 (p_X3_fromSign G z8_0 (G 16 a1.toNatClampNeg) (G 17 a1.toNatClampNeg)) (fun x37 => plet (if x37 < z8_1 then x37 else z8_1) (fun (x43 : Int32) => some (x43))))))) (fun (y19_0 : Int32) => plet (z8_0 + 1) (fun (x44 : Int32) => p_X3_fromSignsBehind_L8 G a1 K8 k8 x44 y19_0))))
theorem p_X3_fromSignsBehind_L8_k {G : tG} {a1 : Int32} {K0 : Int32 → Int32 → Option (Int32)} {k : Nat} {z8_0 : Int32} {z8_1 : Int32} {x : Int32} (h : p_X3_fromSignsBehind_L8 G a1 K0 k z8_0 z8_1 = some x) : ∃ K, K = K0 ∧ p_X3_fromSignsBehind_L8 G a1 K k z8_0 z8_1 = some x := ⟨K0, rfl, h⟩
def p_X3_fromSignsBehind (n : Nat) (G : tG) (a1 : Int32) : Option (Int32) :=
  plet (a1 + 1) (fun (x7 : Int32) => p_X3_fromSignsBehind_L8 G a1 (fun (z8_0 : Int32) (z8_1 : Int32) => some z8_1) n x7 1000)
set_option maxHeartbeats 4000000 in
set_option maxRecDepth 100000 in
theorem c_X3_fromSignsBehind (l : Launch) (D : va_G) (ad : Nat → Nat) (cA : ClassId) (n : Nat) (F : tF) (G : tG) (a1 : Int32) {r : Int32} (h : p_X3_fromSignsBehind n G a1 = some r) : CI l yX3_fromSignsBehind wsX3_fromSignsBehind ({ frames := 3, cells := 0, slots := 0, locals := 67 } : Room) D cA (wC ad cA F G) [.ref (ad 22), .int (a1)] r (wC ad cA F G) := by
  rw [p_X3_fromSignsBehind] at h
  refine metIr (w := wC ad cA) (cc := cX3_fromSignsBehind) (maxL := 4) (by decide) rfl (Nat.le_of_ble_eq_true rfl) ?_
  intro p e s m args below meth c A ls Q hE hret
  obtain ⟨hx, hb, hts, hown, hml, hP, hK, hD, hN, hA, hl⟩ := hE
  have hown : s.vm.findClass RX3 = some m.cls := hown
  have hl : lv_has ls 4 [(0, .ref (ad 22)), (1, .int (a1))] := hl
  have hS : va_S A s.heap s.heap [] := va_S.rf
  have k_0 : (Cond.fieldLink RX3 11 "BellBook$Line" "first" "[I").before args s = true := hts _ (List.mem_of_getElem? (i := 1) rfl)
  have n_3 : ∀ w ∈ u_ws RX3 TX3 5, w ∈ wsX3_fromSignsBehind := fun w hw => List.mem_cons_of_mem _ (List.mem_append_right _ hw)
  have k_2 : (Cond.fieldLink RX3 15 "BellBook$Line" "second" "[I").before args s = true := hts _ (List.mem_of_getElem? (i := 2) rfl)
  have k_3 : (Cond.methodLink RX3 51 Lib.Math.min.name).before args s = true := hts _ (List.mem_of_getElem? (i := 3) rfl)
  have k_4 : (Cond.static Lib.Math.min.name).before args s = true := hts _ (List.mem_of_getElem? (i := 4) rfl)
  have k_5 : (Cond.initialized "java/lang/Math").before args s = true := hts _ (List.mem_of_getElem? (i := 5) rfl)
  have k_6 : (Cond.code Lib.Math.min.name Lib.Math.min.code 2 (some .int)).before args s = true := hts _ (List.mem_of_getElem? (i := 6) rfl)
  refine lv_sipush (v := 1000) hx hb dX3_fromSignsBehind_0 (by decide) ?_
  refine lv_istore_n (lv' := [(2, .int (1000)), (0, .ref (ad 22)), (1, .int (a1))]) hx hb dX3_fromSignsBehind_3 rfl hl (by decide) rfl (fun ls hl => ?_)
  refine lv_iload_n hx hb dX3_fromSignsBehind_4 rfl (lv_at hl 2 rfl) ?_
  refine lv_iconst (v := 1) hx hb dX3_fromSignsBehind_5 (by decide) ?_
  refine lv_iadd hx hb dX3_fromSignsBehind_6 ?_
  refine lv_topi (fun x7 ex7 => ?_)
  replace h := pl h ex7
  refine lv_istore_n (lv' := [(3, .int (x7)), (2, .int (1000)), (0, .ref (ad 22)), (1, .int (a1))]) hx hb dX3_fromSignsBehind_7 rfl hl (by decide) rfl (fun ls hl => ?_)
  obtain ⟨K8, eK8, h⟩ := p_X3_fromSignsBehind_L8_k h
  have JE8 : ∀ (z8_0 : Int32) (z8_1 : Int32) (H : Heap) (locs : List Loc) (ls : Array Slot), K8 z8_0 z8_1 = some r → va_P D vwCl (wC ad cA F G) H → va_D A (wC ad cA F G) → va_S A s.heap H locs → lv_has ls 4 [(3, .int (z8_0)), (2, .int (z8_1)), (0, .ref (ad 22)), (1, .int (a1))] → W p l e ({ frames := 3, cells := 0, slots := 0, locals := 67 } : Room) s m args below meth c H locs 0 0 Q (F0 m 50 ls []) := by
    intro z8_0 z8_1 H locs ls h hP hD hS hl
    rw [eK8] at h
    refine lv_iload_n hx hb dX3_fromSignsBehind_50 rfl (lv_at hl 1 rfl) ?_
    exact hret _ _ _ _ _ dX3_fromSignsBehind_51 h hP hD hS
  have LL8 : ∀ (k : Nat) (z8_0 : Int32) (z8_1 : Int32) (H : Heap) (locs : List Loc) (ls : Array Slot), p_X3_fromSignsBehind_L8 G a1 K8 k z8_0 z8_1 = some r → va_P D vwCl (wC ad cA F G) H → va_D A (wC ad cA F G) → va_S A s.heap H locs → lv_has ls 4 [(3, .int (z8_0)), (2, .int (z8_1)), (0, .ref (ad 22)), (1, .int (a1))] → W p l e ({ frames := 3, cells := 0, slots := 0, locals := 67 } : Room) s m args below meth c H locs 0 0 Q (F0 m 8 ls []) := by
    intro k
    induction k with
    | zero =>
      intro z8_0 z8_1 H locs ls h hP hD hS hl
      rw [p_X3_fromSignsBehind_L8] at h
      cases h
    | succ k8 ih8 =>
      intro z8_0 z8_1 H locs ls h hP hD hS hl
      rw [p_X3_fromSignsBehind_L8] at h
      refine lv_iload_n hx hb dX3_fromSignsBehind_8 rfl (lv_at hl 0 rfl) ?_
      refine lv_bipush (v := 12) hx hb dX3_fromSignsBehind_9 (by decide) ?_
      refine lv_icmp_ge (tgt := 50) hx hb dX3_fromSignsBehind_11 (by decide) (fun c11 => ?_) (fun c11 => ?_)
      · replace h := ifp h c11
        exact JE8 _ _ _ _ _ h hP hD hS (lv_sub hl [0, 1, 2, 3] rfl)
      · replace h := ifn h c11
        refine lv_aload_n hx hb dX3_fromSignsBehind_14 rfl (lv_at hl 2 rfl) ?_
        refine lv_iload_n hx hb dX3_fromSignsBehind_15 rfl (lv_at hl 0 rfl) ?_
        obtain ⟨x16, h16, h⟩ := bi1e h
        refine callVI (b := ad 22) (As := [.int (z8_0)]) (rest := []) ⟨hx, hb, hml, hown, hts⟩ (c_X3_isSet l D ad cA n F G z8_0 h16) (cwV 1 hts gX3_fromSignsBehind_X3_isSet rfl rfl rfl (by decide +kernel) ⟨Nat.le_of_ble_eq_true rfl, Nat.le_of_ble_eq_true rfl⟩) (va_recv hK hP (ci := 3) (q0 := 22) rfl wCg22) hP hK hD hN hS hA rfl hl.1 rfl (Nat.le_of_ble_eq_true rfl) dX3_fromSignsBehind_16 ⟨Nat.zero_le _, Nat.zero_le _⟩ (fun H locs hP hD hS => ?_)
        obtain ⟨y19_0, q19, h⟩ := bi1e h
        have J19 : ∀ (wy19_0 : Int32), some (wy19_0) = some (y19_0) → ∀ (H : Heap) (locs : List Loc) (ls : Array Slot), va_P D vwCl (wC ad cA F G) H → va_D A (wC ad cA F G) → va_S A s.heap H locs → lv_has ls 4 [(3, .int (z8_0)), (2, .int (wy19_0)), (0, .ref (ad 22)), (1, .int (a1))] → W p l e ({ frames := 3, cells := 0, slots := 0, locals := 67 } : Room) s m args below meth c H locs 0 0 Q (F0 m 44 ls []) := by
          intro wy19_0 e9 H locs ls hP hD hS hl
          cases e9
          obtain ⟨x44, ex44⟩ : ∃ z : Int32, z = (z8_0 + 1) := ⟨_, rfl⟩
          replace h := pl h ex44
          refine lv_iinc (v := x44) (lv' := [(3, .int (x44)), (2, .int (y19_0)), (0, .ref (ad 22)), (1, .int (a1))]) hx hb dX3_fromSignsBehind_44 hl (k := 0) rfl (by rw [ex44]; rfl) (by decide) rfl (fun ls hl => ?_)
          refine lv_goto (tgt := 8) hx hb dX3_fromSignsBehind_47 (by decide) ?_
          exact ih8 _ _ _ _ _ h hP hD hS (lv_sub hl [0, 1, 2, 3] rfl)
        refine lv_if_eq (tgt := 44) hx hb dX3_fromSignsBehind_19 (by decide) (fun c19 => ?_) (fun c19 => ?_)
        · replace q19 := ifp q19 c19
          exact J19 _ q19 _ _ _ hP hD hS (lv_sub hl [0, 1, 2, 3] rfl)
        · replace q19 := ifn q19 c19
          refine lv_iload_n hx hb dX3_fromSignsBehind_22 rfl (lv_at hl 1 rfl) ?_
          refine lv_aload_n hx hb dX3_fromSignsBehind_23 rfl (lv_at hl 2 rfl) ?_
          refine lv_iload_n hx hb dX3_fromSignsBehind_24 rfl (lv_at hl 0 rfl) ?_
          refine lv_aload_n hx hb dX3_fromSignsBehind_25 rfl (lv_at hl 2 rfl) ?_
          refine va_get (D := D) (ci := 3) (fs := vX3 ad F) (v := .ref (ad 23)) (C := RX3) (T := TX3) (N := 5) hx hb hts n_3 hown hK hP 22 wCg22 rfl 0 (by decide) k_0 (fun _ h9 => h9) rfl dX3_fromSignsBehind_26 ?_
          refine lv_iload_n hx hb dX3_fromSignsBehind_29 rfl (lv_at hl 3 rfl) ?_
          obtain ⟨g30, q19⟩ := og q19
          refine va_iald (D := D) hx hb hK hP 23 0 wCg23 rfl (inB_in g30) dX3_fromSignsBehind_30 ?_
          refine lv_aload_n hx hb dX3_fromSignsBehind_31 rfl (lv_at hl 2 rfl) ?_
          refine va_get (D := D) (ci := 3) (fs := vX3 ad F) (v := .ref (ad 24)) (C := RX3) (T := TX3) (N := 5) hx hb hts n_3 hown hK hP 22 wCg22 rfl 1 (by decide) k_2 (fun _ h9 => h9) rfl dX3_fromSignsBehind_32 ?_
          refine lv_iload_n hx hb dX3_fromSignsBehind_35 rfl (lv_at hl 3 rfl) ?_
          obtain ⟨g36, q19⟩ := og q19
          refine va_iald (D := D) hx hb hK hP 24 0 wCg24 rfl (inB_in g36) dX3_fromSignsBehind_36 ?_
          obtain ⟨x37, h37, q19⟩ := bi1e q19
          refine callVI (b := ad 22) (As := [.int (z8_0), .int ((G 16 a1.toNatClampNeg)), .int ((G 17 a1.toNatClampNeg))]) (rest := [.int (z8_1)]) ⟨hx, hb, hml, hown, hts⟩ (c_X3_fromSign l D ad cA n F G z8_0 (G 16 a1.toNatClampNeg) (G 17 a1.toNatClampNeg) h37) (cwV 3 hts gX3_fromSignsBehind_X3_fromSign rfl rfl rfl (by decide +kernel) ⟨Nat.le_of_ble_eq_true rfl, Nat.le_of_ble_eq_true rfl⟩) (va_recv hK hP (ci := 3) (q0 := 22) rfl wCg22) hP hK hD hN hS hA rfl hl.1 rfl (Nat.le_of_ble_eq_true rfl) dX3_fromSignsBehind_37 ⟨Nat.zero_le _, Nat.zero_le _⟩ (fun H locs hP hD hS => ?_)
          refine va_mmin hx hb (hml.trans hl.1.symm) hown k_3 k_4 k_5 k_6 (Nat.le_of_ble_eq_true rfl) (Nat.le_of_ble_eq_true rfl) (Nat.zero_le _) (Nat.zero_le _) dX3_fromSignsBehind_40 ?_
          refine lv_topi (fun x43 ex43 => ?_)
          replace q19 := pl q19 ex43
          refine lv_istore_n (lv' := [(2, .int (x43)), (3, .int (z8_0)), (0, .ref (ad 22)), (1, .int (a1))]) hx hb dX3_fromSignsBehind_43 rfl hl (by decide) rfl (fun ls hl => ?_)
          exact J19 _ q19 _ _ _ hP hD hS (lv_sub hl [1, 0, 2, 3] rfl)
  exact LL8 n x7 1000 _ _ _ h hP hD hS (lv_sub hl [0, 1, 2, 3] rfl)

def p_X7_within (a0 : Int32) (a1 : Int32) (a2 : Int32) : Option (Int32) :=
  bi1 ((if a0 < a1 then some (0) else (if a2 < a0 then some (0) else some (1)))) (fun (y2_0 : Int32) => oguard (btB y2_0) (some y2_0))
set_option maxHeartbeats 4000000 in
set_option maxRecDepth 100000 in
theorem c_X7_within (l : Launch) (D : va_G) (ad : Nat → Nat) (cA : ClassId) (n : Nat) (F : tF) (G : tG) (a0 : Int32) (a1 : Int32) (a2 : Int32) {r : Int32} (h : p_X7_within a0 a1 a2 = some r) : CI l yX7_within wsX7_within ({ frames := 0, cells := 0, slots := 0, locals := 0 } : Room) D cA (wC ad cA F G) [.int (a0), .int (a1), .int (a2)] r (wC ad cA F G) := by
  rw [p_X7_within] at h
  refine metZr (w := wC ad cA) (cc := cX7_within) (maxL := 3) (by decide) rfl (Nat.le_of_ble_eq_true rfl) ?_
  intro p e s m args below meth c A ls Q hE hret
  obtain ⟨hx, hb, hts, hown, hml, hP, hK, hD, hN, hA, hl⟩ := hE
  have hown : s.vm.findClass RX7 = some m.cls := hown
  have hl : lv_has ls 3 [(0, .int (a0)), (1, .int (a1)), (2, .int (a2))] := hl
  have hS : va_S A s.heap s.heap [] := va_S.rf
  refine lv_iload_n hx hb dX7_within_0 rfl (lv_at hl 0 rfl) ?_
  refine lv_iload_n hx hb dX7_within_1 rfl (lv_at hl 1 rfl) ?_
  obtain ⟨y2_0, q2, h⟩ := bi1e h
  have J2 : ∀ (wy2_0 : Int32), some (wy2_0) = some (y2_0) → ∀ (H : Heap) (locs : List Loc) (ls : Array Slot), va_P D vwCl (wC ad cA F G) H → va_D A (wC ad cA F G) → va_S A s.heap H locs → lv_has ls 3 [(0, .int (a0)), (1, .int (a1)), (2, .int (a2))] → W p l e ({ frames := 0, cells := 0, slots := 0, locals := 0 } : Room) s m args below meth c H locs 0 0 Q (F0 m 15 ls [.int (wy2_0)]) := by
    intro wy2_0 e9 H locs ls hP hD hS hl
    cases e9
    obtain ⟨g15, h⟩ := og h
    exact hret _ _ _ _ _ dX7_within_15 g15 h hP hD hS
  refine lv_icmp_lt (tgt := 14) hx hb dX7_within_2 (by decide) (fun c2 => ?_) (fun c2 => ?_)
  · replace q2 := ifp q2 c2
    refine lv_iconst (v := 0) hx hb dX7_within_14 (by decide) ?_
    exact J2 _ q2 _ _ _ hP hD hS (lv_sub hl [0, 1, 2] rfl)
  · replace q2 := ifn q2 c2
    refine lv_iload_n hx hb dX7_within_5 rfl (lv_at hl 0 rfl) ?_
    refine lv_iload_n hx hb dX7_within_6 rfl (lv_at hl 2 rfl) ?_
    refine lv_icmp_gt (tgt := 14) hx hb dX7_within_7 (by decide) (fun c7 => ?_) (fun c7 => ?_)
    · replace q2 := ifp q2 c7
      refine lv_iconst (v := 0) hx hb dX7_within_14 (by decide) ?_
      exact J2 _ q2 _ _ _ hP hD hS (lv_sub hl [0, 1, 2] rfl)
    · replace q2 := ifn q2 c7
      refine lv_iconst (v := 1) hx hb dX7_within_10 (by decide) ?_
      refine lv_goto (tgt := 15) hx hb dX7_within_11 (by decide) ?_
      exact J2 _ q2 _ _ _ hP hD hS (lv_sub hl [0, 1, 2] rfl)

def p_X3_isHearing (a0 : Int32) (a1 : Int32) : Option (Int32) :=
  bi1 (p_X7_within a0 0 7) (fun x4 => bi1 ((if x4 = 0 then some (0) else bi1 (p_X7_within a1 0 7) (fun x14 => (if x14 = 0 then some (0) else some (1))))) (fun (y7_0 : Int32) => oguard (btB y7_0) (some y7_0)))
set_option maxHeartbeats 4000000 in
set_option maxRecDepth 100000 in
theorem c_X3_isHearing (l : Launch) (D : va_G) (ad : Nat → Nat) (cA : ClassId) (n : Nat) (F : tF) (G : tG) (a0 : Int32) (a1 : Int32) {r : Int32} (h : p_X3_isHearing a0 a1 = some r) : CI l yX3_isHearing wsX3_isHearing ({ frames := 1, cells := 0, slots := 0, locals := 22 } : Room) D cA (wC ad cA F G) [.int (a0), .int (a1)] r (wC ad cA F G) := by
  rw [p_X3_isHearing] at h
  refine metZr (w := wC ad cA) (cc := cX3_isHearing) (maxL := 2) (by decide) rfl (Nat.le_of_ble_eq_true rfl) ?_
  intro p e s m args below meth c A ls Q hE hret
  obtain ⟨hx, hb, hts, hown, hml, hP, hK, hD, hN, hA, hl⟩ := hE
  have hown : s.vm.findClass RX3 = some m.cls := hown
  have hl : lv_has ls 2 [(0, .int (a0)), (1, .int (a1))] := hl
  have hS : va_S A s.heap s.heap [] := va_S.rf
  have k_0 : (Cond.initialized RX7).before args s = true := hts _ (List.mem_of_getElem? (i := 2) rfl)
  have k_1 : (Cond.static yX7_within).before args s = true := hts _ (List.mem_of_getElem? (i := 1) rfl)
  refine lv_iload_n hx hb dX3_isHearing_0 rfl (lv_at hl 0 rfl) ?_
  refine lv_iconst (v := 0) hx hb dX3_isHearing_1 (by decide) ?_
  refine lv_bipush (v := 7) hx hb dX3_isHearing_2 (by decide) ?_
  obtain ⟨x4, h4, h⟩ := bi1e h
  refine callNI (host := "BellBook") (As := [.int (a0), .int (0), .int (7)]) (rest := []) ⟨hx, hb, hml, hown, hts⟩ (c_X7_within l D ad cA n F G a0 0 7 h4) ⟨va_cnB 3 hts gX3_isHearing_X7_within_n28 rfl rfl rfl hN.2.2.2.1 k_0 (by decide +kernel) ⟨Nat.le_of_ble_eq_true rfl, Nat.le_of_ble_eq_true rfl⟩, k_1, trivial⟩ hP hK hD hN hS hA rfl hl.1 rfl (Nat.le_of_ble_eq_true rfl) dX3_isHearing_4 ⟨Nat.zero_le _, Nat.zero_le _⟩ (fun H locs hP hD hS => ?_)
  obtain ⟨y7_0, q7, h⟩ := bi1e h
  have J7 : ∀ (wy7_0 : Int32), some (wy7_0) = some (y7_0) → ∀ (H : Heap) (locs : List Loc) (ls : Array Slot), va_P D vwCl (wC ad cA F G) H → va_D A (wC ad cA F G) → va_S A s.heap H locs → lv_has ls 2 [(0, .int (a0)), (1, .int (a1))] → W p l e ({ frames := 1, cells := 0, slots := 0, locals := 22 } : Room) s m args below meth c H locs 0 0 Q (F0 m 25 ls [.int (wy7_0)]) := by
    intro wy7_0 e9 H locs ls hP hD hS hl
    cases e9
    obtain ⟨g25, h⟩ := og h
    exact hret _ _ _ _ _ dX3_isHearing_25 g25 h hP hD hS
  refine lv_if_eq (tgt := 24) hx hb dX3_isHearing_7 (by decide) (fun c7 => ?_) (fun c7 => ?_)
  · replace q7 := ifp q7 c7
    refine lv_iconst (v := 0) hx hb dX3_isHearing_24 (by decide) ?_
    exact J7 _ q7 _ _ _ hP hD hS (lv_sub hl [0, 1] rfl)
  · replace q7 := ifn q7 c7
    refine lv_iload_n hx hb dX3_isHearing_10 rfl (lv_at hl 1 rfl) ?_
    refine lv_iconst (v := 0) hx hb dX3_isHearing_11 (by decide) ?_
    refine lv_bipush (v := 7) hx hb dX3_isHearing_12 (by decide) ?_
    obtain ⟨x14, h14, q7⟩ := bi1e q7
    refine callNI (host := "BellBook") (As := [.int (a1), .int (0), .int (7)]) (rest := []) ⟨hx, hb, hml, hown, hts⟩ (c_X7_within l D ad cA n F G a1 0 7 h14) ⟨va_cnB 3 hts gX3_isHearing_X7_within_n28 rfl rfl rfl hN.2.2.2.1 k_0 (by decide +kernel) ⟨Nat.le_of_ble_eq_true rfl, Nat.le_of_ble_eq_true rfl⟩, k_1, trivial⟩ hP hK hD hN hS hA rfl hl.1 rfl (Nat.le_of_ble_eq_true rfl) dX3_isHearing_14 ⟨Nat.zero_le _, Nat.zero_le _⟩ (fun H locs hP hD hS => ?_)
    refine lv_if_eq (tgt := 24) hx hb dX3_isHearing_17 (by decide) (fun c17 => ?_) (fun c17 => ?_)
    · replace q7 := ifp q7 c17
      refine lv_iconst (v := 0) hx hb dX3_isHearing_24 (by decide) ?_
      exact J7 _ q7 _ _ _ hP hD hS (lv_sub hl [0, 1] rfl)
    · replace q7 := ifn q7 c17
      refine lv_iconst (v := 1) hx hb dX3_isHearing_20 (by decide) ?_
      refine lv_goto (tgt := 25) hx hb dX3_isHearing_21 (by decide) ?_
      exact J7 _ q7 _ _ _ hP hD hS (lv_sub hl [0, 1] rfl)

def p_X3_isTugs (a0 : Int32) (a1 : Int32) : Option (Int32) :=
  bi1 (p_X7_within a0 1 6) (fun x4 => bi1 ((if x4 = 0 then some (0) else bi1 (p_X7_within a1 1 6) (fun x14 => (if x14 = 0 then some (0) else some (1))))) (fun (y7_0 : Int32) => oguard (btB y7_0) (some y7_0)))
set_option maxHeartbeats 4000000 in
set_option maxRecDepth 100000 in
theorem c_X3_isTugs (l : Launch) (D : va_G) (ad : Nat → Nat) (cA : ClassId) (n : Nat) (F : tF) (G : tG) (a0 : Int32) (a1 : Int32) {r : Int32} (h : p_X3_isTugs a0 a1 = some r) : CI l yX3_isTugs wsX3_isTugs ({ frames := 1, cells := 0, slots := 0, locals := 22 } : Room) D cA (wC ad cA F G) [.int (a0), .int (a1)] r (wC ad cA F G) := by
  rw [p_X3_isTugs] at h
  refine metZr (w := wC ad cA) (cc := cX3_isTugs) (maxL := 2) (by decide) rfl (Nat.le_of_ble_eq_true rfl) ?_
  intro p e s m args below meth c A ls Q hE hret
  obtain ⟨hx, hb, hts, hown, hml, hP, hK, hD, hN, hA, hl⟩ := hE
  have hown : s.vm.findClass RX3 = some m.cls := hown
  have hl : lv_has ls 2 [(0, .int (a0)), (1, .int (a1))] := hl
  have hS : va_S A s.heap s.heap [] := va_S.rf
  have k_0 : (Cond.initialized RX7).before args s = true := hts _ (List.mem_of_getElem? (i := 2) rfl)
  have k_1 : (Cond.static yX7_within).before args s = true := hts _ (List.mem_of_getElem? (i := 1) rfl)
  refine lv_iload_n hx hb dX3_isTugs_0 rfl (lv_at hl 0 rfl) ?_
  refine lv_iconst (v := 1) hx hb dX3_isTugs_1 (by decide) ?_
  refine lv_bipush (v := 6) hx hb dX3_isTugs_2 (by decide) ?_
  obtain ⟨x4, h4, h⟩ := bi1e h
  refine callNI (host := "BellBook") (As := [.int (a0), .int (1), .int (6)]) (rest := []) ⟨hx, hb, hml, hown, hts⟩ (c_X7_within l D ad cA n F G a0 1 6 h4) ⟨va_cnB 3 hts gX3_isTugs_X7_within_n28 rfl rfl rfl hN.2.2.2.1 k_0 (by decide +kernel) ⟨Nat.le_of_ble_eq_true rfl, Nat.le_of_ble_eq_true rfl⟩, k_1, trivial⟩ hP hK hD hN hS hA rfl hl.1 rfl (Nat.le_of_ble_eq_true rfl) dX3_isTugs_4 ⟨Nat.zero_le _, Nat.zero_le _⟩ (fun H locs hP hD hS => ?_)
  obtain ⟨y7_0, q7, h⟩ := bi1e h
  have J7 : ∀ (wy7_0 : Int32), some (wy7_0) = some (y7_0) → ∀ (H : Heap) (locs : List Loc) (ls : Array Slot), va_P D vwCl (wC ad cA F G) H → va_D A (wC ad cA F G) → va_S A s.heap H locs → lv_has ls 2 [(0, .int (a0)), (1, .int (a1))] → W p l e ({ frames := 1, cells := 0, slots := 0, locals := 22 } : Room) s m args below meth c H locs 0 0 Q (F0 m 25 ls [.int (wy7_0)]) := by
    intro wy7_0 e9 H locs ls hP hD hS hl
    cases e9
    obtain ⟨g25, h⟩ := og h
    exact hret _ _ _ _ _ dX3_isTugs_25 g25 h hP hD hS
  refine lv_if_eq (tgt := 24) hx hb dX3_isTugs_7 (by decide) (fun c7 => ?_) (fun c7 => ?_)
  · replace q7 := ifp q7 c7
    refine lv_iconst (v := 0) hx hb dX3_isTugs_24 (by decide) ?_
    exact J7 _ q7 _ _ _ hP hD hS (lv_sub hl [0, 1] rfl)
  · replace q7 := ifn q7 c7
    refine lv_iload_n hx hb dX3_isTugs_10 rfl (lv_at hl 1 rfl) ?_
    refine lv_iconst (v := 1) hx hb dX3_isTugs_11 (by decide) ?_
    refine lv_bipush (v := 6) hx hb dX3_isTugs_12 (by decide) ?_
    obtain ⟨x14, h14, q7⟩ := bi1e q7
    refine callNI (host := "BellBook") (As := [.int (a1), .int (1), .int (6)]) (rest := []) ⟨hx, hb, hml, hown, hts⟩ (c_X7_within l D ad cA n F G a1 1 6 h14) ⟨va_cnB 3 hts gX3_isTugs_X7_within_n28 rfl rfl rfl hN.2.2.2.1 k_0 (by decide +kernel) ⟨Nat.le_of_ble_eq_true rfl, Nat.le_of_ble_eq_true rfl⟩, k_1, trivial⟩ hP hK hD hN hS hA rfl hl.1 rfl (Nat.le_of_ble_eq_true rfl) dX3_isTugs_14 ⟨Nat.zero_le _, Nat.zero_le _⟩ (fun H locs hP hD hS => ?_)
    refine lv_if_eq (tgt := 24) hx hb dX3_isTugs_17 (by decide) (fun c17 => ?_) (fun c17 => ?_)
    · replace q7 := ifp q7 c17
      refine lv_iconst (v := 0) hx hb dX3_isTugs_24 (by decide) ?_
      exact J7 _ q7 _ _ _ hP hD hS (lv_sub hl [0, 1] rfl)
    · replace q7 := ifn q7 c17
      refine lv_iconst (v := 1) hx hb dX3_isTugs_20 (by decide) ?_
      refine lv_goto (tgt := 25) hx hb dX3_isTugs_21 (by decide) ?_
      exact J7 _ q7 _ _ _ hP hD hS (lv_sub hl [0, 1] rfl)

def p_X3_leastApart_L6 (n : Nat) (G : tG) (K6 : Int32 → Int32 → Option (Int32)) : Nat → Int32 → Int32 → Option (Int32)
  | 0, _, _ => none
  | k6 + 1, z6_0, z6_1 => (if 12 ≤ z6_0 then K6 z6_0 z6_1 else bi1 (p_X3_isSet G z6_0) (fun x14 => bi1 ((if x14 = 0 then some (z6_1) else bi1 (p_X3_fromSignsBehind n G z6_0) (fun x23 => plet (if x23 < z6_1 then x23 else z6_1) (fun (x29 : Int32) => some (x29))))) (fun (y17_0 : Int32) => plet (z6_0 + 1) (fun (x30 : Int32) => p_X3_leastApart_L6 n G K6 k6 x30 y17_0))))
theorem p_X3_leastApart_L6_k {n : Nat} {G : tG} {K0 : Int32 → Int32 → Option (Int32)} {k : Nat} {z6_0 : Int32} {z6_1 : Int32} {x : Int32} (h : p_X3_leastApart_L6 n G K0 k z6_0 z6_1 = some x) : ∃ K, K = K0 ∧ p_X3_leastApart_L6 n G K k z6_0 z6_1 = some x := ⟨K0, rfl, h⟩
def p_X3_leastApart (n : Nat) (G : tG) : Option (Int32) :=
  p_X3_leastApart_L6 n G (fun (z6_0 : Int32) (z6_1 : Int32) => bi1 ((if z6_1 = 1000 then some ((-6)) else some (z6_1))) (fun (y40_0 : Int32) => some y40_0)) n 0 1000
set_option maxHeartbeats 4000000 in
set_option maxRecDepth 100000 in
theorem c_X3_leastApart (l : Launch) (D : va_G) (ad : Nat → Nat) (cA : ClassId) (n : Nat) (F : tF) (G : tG) {r : Int32} (h : p_X3_leastApart n G = some r) : CI l yX3_leastApart wsX3_leastApart ({ frames := 4, cells := 0, slots := 0, locals := 90 } : Room) D cA (wC ad cA F G) [.ref (ad 22)] r (wC ad cA F G) := by
  rw [p_X3_leastApart] at h
  refine metIr (w := wC ad cA) (cc := cX3_leastApart) (maxL := 3) (by decide) rfl (Nat.le_of_ble_eq_true rfl) ?_
  intro p e s m args below meth c A ls Q hE hret
  obtain ⟨hx, hb, hts, hown, hml, hP, hK, hD, hN, hA, hl⟩ := hE
  have hown : s.vm.findClass RX3 = some m.cls := hown
  have hl : lv_has ls 3 [(0, .ref (ad 22))] := hl
  have hS : va_S A s.heap s.heap [] := va_S.rf
  have k_0 : (Cond.methodLink RX3 51 Lib.Math.min.name).before args s = true := hts _ (List.mem_of_getElem? (i := 1) rfl)
  have k_1 : (Cond.static Lib.Math.min.name).before args s = true := hts _ (List.mem_of_getElem? (i := 2) rfl)
  have k_2 : (Cond.initialized "java/lang/Math").before args s = true := hts _ (List.mem_of_getElem? (i := 3) rfl)
  have k_3 : (Cond.code Lib.Math.min.name Lib.Math.min.code 2 (some .int)).before args s = true := hts _ (List.mem_of_getElem? (i := 4) rfl)
  refine lv_sipush (v := 1000) hx hb dX3_leastApart_0 (by decide) ?_
  refine lv_istore_n (lv' := [(1, .int (1000)), (0, .ref (ad 22))]) hx hb dX3_leastApart_3 rfl hl (by decide) rfl (fun ls hl => ?_)
  refine lv_iconst (v := 0) hx hb dX3_leastApart_4 (by decide) ?_
  refine lv_istore_n (lv' := [(2, .int (0)), (1, .int (1000)), (0, .ref (ad 22))]) hx hb dX3_leastApart_5 rfl hl (by decide) rfl (fun ls hl => ?_)
  obtain ⟨K6, eK6, h⟩ := p_X3_leastApart_L6_k h
  have JE6 : ∀ (z6_0 : Int32) (z6_1 : Int32) (H : Heap) (locs : List Loc) (ls : Array Slot), K6 z6_0 z6_1 = some r → va_P D vwCl (wC ad cA F G) H → va_D A (wC ad cA F G) → va_S A s.heap H locs → lv_has ls 3 [(2, .int (z6_0)), (1, .int (z6_1)), (0, .ref (ad 22))] → W p l e ({ frames := 4, cells := 0, slots := 0, locals := 90 } : Room) s m args below meth c H locs 0 0 Q (F0 m 36 ls []) := by
    intro z6_0 z6_1 H locs ls h hP hD hS hl
    rw [eK6] at h
    refine lv_iload_n hx hb dX3_leastApart_36 rfl (lv_at hl 1 rfl) ?_
    refine lv_sipush (v := 1000) hx hb dX3_leastApart_37 (by decide) ?_
    obtain ⟨y40_0, q40, h⟩ := bi1e h
    have J40 : ∀ (wy40_0 : Int32), some (wy40_0) = some (y40_0) → ∀ (H : Heap) (locs : List Loc) (ls : Array Slot), va_P D vwCl (wC ad cA F G) H → va_D A (wC ad cA F G) → va_S A s.heap H locs → lv_has ls 3 [(2, .int (z6_0)), (1, .int (z6_1)), (0, .ref (ad 22))] → W p l e ({ frames := 4, cells := 0, slots := 0, locals := 90 } : Room) s m args below meth c H locs 0 0 Q (F0 m 49 ls [.int (wy40_0)]) := by
      intro wy40_0 e9 H locs ls hP hD hS hl
      cases e9
      exact hret _ _ _ _ _ dX3_leastApart_49 h hP hD hS
    refine lv_icmp_ne (tgt := 48) hx hb dX3_leastApart_40 (by decide) (fun c40 => ?_) (fun c40 => ?_)
    · replace q40 := ifn q40 c40
      refine lv_iload_n hx hb dX3_leastApart_48 rfl (lv_at hl 1 rfl) ?_
      exact J40 _ q40 _ _ _ hP hD hS (lv_sub hl [0, 1, 2] rfl)
    · replace q40 := ifp q40 c40
      refine lv_bipush (v := (-6)) hx hb dX3_leastApart_43 (by decide) ?_
      refine lv_goto (tgt := 49) hx hb dX3_leastApart_45 (by decide) ?_
      exact J40 _ q40 _ _ _ hP hD hS (lv_sub hl [0, 1, 2] rfl)
  have LL6 : ∀ (k : Nat) (z6_0 : Int32) (z6_1 : Int32) (H : Heap) (locs : List Loc) (ls : Array Slot), p_X3_leastApart_L6 n G K6 k z6_0 z6_1 = some r → va_P D vwCl (wC ad cA F G) H → va_D A (wC ad cA F G) → va_S A s.heap H locs → lv_has ls 3 [(2, .int (z6_0)), (1, .int (z6_1)), (0, .ref (ad 22))] → W p l e ({ frames := 4, cells := 0, slots := 0, locals := 90 } : Room) s m args below meth c H locs 0 0 Q (F0 m 6 ls []) := by
    intro k
    induction k with
    | zero =>
      intro z6_0 z6_1 H locs ls h hP hD hS hl
      rw [p_X3_leastApart_L6] at h
      cases h
    | succ k6 ih6 =>
      intro z6_0 z6_1 H locs ls h hP hD hS hl
      rw [p_X3_leastApart_L6] at h
      refine lv_iload_n hx hb dX3_leastApart_6 rfl (lv_at hl 0 rfl) ?_
      refine lv_bipush (v := 12) hx hb dX3_leastApart_7 (by decide) ?_
      refine lv_icmp_ge (tgt := 36) hx hb dX3_leastApart_9 (by decide) (fun c9 => ?_) (fun c9 => ?_)
      · replace h := ifp h c9
        exact JE6 _ _ _ _ _ h hP hD hS (lv_sub hl [0, 1, 2] rfl)
      · replace h := ifn h c9
        refine lv_aload_n hx hb dX3_leastApart_12 rfl (lv_at hl 2 rfl) ?_
        refine lv_iload_n hx hb dX3_leastApart_13 rfl (lv_at hl 0 rfl) ?_
        obtain ⟨x14, h14, h⟩ := bi1e h
        refine callVI (b := ad 22) (As := [.int (z6_0)]) (rest := []) ⟨hx, hb, hml, hown, hts⟩ (c_X3_isSet l D ad cA n F G z6_0 h14) (cwV 1 hts gX3_leastApart_X3_isSet rfl rfl rfl (by decide +kernel) ⟨Nat.le_of_ble_eq_true rfl, Nat.le_of_ble_eq_true rfl⟩) (va_recv hK hP (ci := 3) (q0 := 22) rfl wCg22) hP hK hD hN hS hA rfl hl.1 rfl (Nat.le_of_ble_eq_true rfl) dX3_leastApart_14 ⟨Nat.zero_le _, Nat.zero_le _⟩ (fun H locs hP hD hS => ?_)
        obtain ⟨y17_0, q17, h⟩ := bi1e h
        have J17 : ∀ (wy17_0 : Int32), some (wy17_0) = some (y17_0) → ∀ (H : Heap) (locs : List Loc) (ls : Array Slot), va_P D vwCl (wC ad cA F G) H → va_D A (wC ad cA F G) → va_S A s.heap H locs → lv_has ls 3 [(2, .int (z6_0)), (1, .int (wy17_0)), (0, .ref (ad 22))] → W p l e ({ frames := 4, cells := 0, slots := 0, locals := 90 } : Room) s m args below meth c H locs 0 0 Q (F0 m 30 ls []) := by
          intro wy17_0 e9 H locs ls hP hD hS hl
          cases e9
          obtain ⟨x30, ex30⟩ : ∃ z : Int32, z = (z6_0 + 1) := ⟨_, rfl⟩
          replace h := pl h ex30
          refine lv_iinc (v := x30) (lv' := [(2, .int (x30)), (1, .int (y17_0)), (0, .ref (ad 22))]) hx hb dX3_leastApart_30 hl (k := 0) rfl (by rw [ex30]; rfl) (by decide) rfl (fun ls hl => ?_)
          refine lv_goto (tgt := 6) hx hb dX3_leastApart_33 (by decide) ?_
          exact ih6 _ _ _ _ _ h hP hD hS (lv_sub hl [0, 1, 2] rfl)
        refine lv_if_eq (tgt := 30) hx hb dX3_leastApart_17 (by decide) (fun c17 => ?_) (fun c17 => ?_)
        · replace q17 := ifp q17 c17
          exact J17 _ q17 _ _ _ hP hD hS (lv_sub hl [0, 1, 2] rfl)
        · replace q17 := ifn q17 c17
          refine lv_iload_n hx hb dX3_leastApart_20 rfl (lv_at hl 1 rfl) ?_
          refine lv_aload_n hx hb dX3_leastApart_21 rfl (lv_at hl 2 rfl) ?_
          refine lv_iload_n hx hb dX3_leastApart_22 rfl (lv_at hl 0 rfl) ?_
          obtain ⟨x23, h23, q17⟩ := bi1e q17
          refine callVI (b := ad 22) (As := [.int (z6_0)]) (rest := [.int (z6_1)]) ⟨hx, hb, hml, hown, hts⟩ (c_X3_fromSignsBehind l D ad cA n F G z6_0 h23) (cwV 1 hts gX3_leastApart_X3_fromSignsBehind rfl rfl rfl (by decide +kernel) ⟨Nat.le_of_ble_eq_true rfl, Nat.le_of_ble_eq_true rfl⟩) (va_recv hK hP (ci := 3) (q0 := 22) rfl wCg22) hP hK hD hN hS hA rfl hl.1 rfl (Nat.le_of_ble_eq_true rfl) dX3_leastApart_23 ⟨Nat.zero_le _, Nat.zero_le _⟩ (fun H locs hP hD hS => ?_)
          refine va_mmin hx hb (hml.trans hl.1.symm) hown k_0 k_1 k_2 k_3 (Nat.le_of_ble_eq_true rfl) (Nat.le_of_ble_eq_true rfl) (Nat.zero_le _) (Nat.zero_le _) dX3_leastApart_26 ?_
          refine lv_topi (fun x29 ex29 => ?_)
          replace q17 := pl q17 ex29
          refine lv_istore_n (lv' := [(1, .int (x29)), (2, .int (z6_0)), (0, .ref (ad 22))]) hx hb dX3_leastApart_29 rfl hl (by decide) rfl (fun ls hl => ?_)
          exact J17 _ q17 _ _ _ hP hD hS (lv_sub hl [1, 0, 2] rfl)
  exact LL6 n 0 1000 _ _ _ h hP hD hS (lv_sub hl [0, 1, 2] rfl)

def p_X3_nearestToRow_L9 (n : Nat) (F : tF) (G : tG) (K9 : Int32 → Int32 → Int32 → Option (Int32)) : Nat → Int32 → Int32 → Int32 → Option (Int32)
  | 0, _, _, _ => none
  | k9 + 1, z9_0, z9_1, z9_2 => (if 12 ≤ z9_0 then K9 z9_0 z9_1 z9_2 else bi1 (p_X3_isSet G z9_0) (fun x17 => bi2 ((if x17 = 0 then some (z9_1, z9_2) else bi1 (p_X3_fromRow n F G z9_0) (fun x28 => bi1 ((if x28 = z9_1 then some ((-6)) else some (z9_2))) (fun (y36_0 : Int32) => (if z9_1 ≤ x28 then some (z9_1, y36_0) else some (x28, z9_0)))))) (fun (y20_0 : Int32) (y20_1 : Int32) => plet (z9_0 + 1) (fun (x53 : Int32) => p_X3_nearestToRow_L9 n F G K9 k9 x53 y20_0 y20_1))))
theorem p_X3_nearestToRow_L9_k {n : Nat} {F : tF} {G : tG} {K0 : Int32 → Int32 → Int32 → Option (Int32)} {k : Nat} {z9_0 : Int32} {z9_1 : Int32} {z9_2 : Int32} {x : Int32} (h : p_X3_nearestToRow_L9 n F G K0 k z9_0 z9_1 z9_2 = some x) : ∃ K, K = K0 ∧ p_X3_nearestToRow_L9 n F G K k z9_0 z9_1 z9_2 = some x := ⟨K0, rfl, h⟩
def p_X3_nearestToRow (n : Nat) (F : tF) (G : tG) : Option (Int32) :=
  p_X3_nearestToRow_L9 n F G (fun (z9_0 : Int32) (z9_1 : Int32) (z9_2 : Int32) => some z9_2) n 0 1000 (-6)
set_option maxHeartbeats 4000000 in
set_option maxRecDepth 100000 in
theorem c_X3_nearestToRow (l : Launch) (D : va_G) (ad : Nat → Nat) (cA : ClassId) (n : Nat) (F : tF) (G : tG) {r : Int32} (h : p_X3_nearestToRow n F G = some r) : CI l yX3_nearestToRow wsX3_nearestToRow ({ frames := 4, cells := 0, slots := 0, locals := 90 } : Room) D cA (wC ad cA F G) [.ref (ad 22)] r (wC ad cA F G) := by
  rw [p_X3_nearestToRow] at h
  refine metIr (w := wC ad cA) (cc := cX3_nearestToRow) (maxL := 5) (by decide) rfl (Nat.le_of_ble_eq_true rfl) ?_
  intro p e s m args below meth c A ls Q hE hret
  obtain ⟨hx, hb, hts, hown, hml, hP, hK, hD, hN, hA, hl⟩ := hE
  have hown : s.vm.findClass RX3 = some m.cls := hown
  have hl : lv_has ls 5 [(0, .ref (ad 22))] := hl
  have hS : va_S A s.heap s.heap [] := va_S.rf
  refine lv_bipush (v := (-6)) hx hb dX3_nearestToRow_0 (by decide) ?_
  refine lv_istore_n (lv' := [(1, .int ((-6))), (0, .ref (ad 22))]) hx hb dX3_nearestToRow_2 rfl hl (by decide) rfl (fun ls hl => ?_)
  refine lv_sipush (v := 1000) hx hb dX3_nearestToRow_3 (by decide) ?_
  refine lv_istore_n (lv' := [(2, .int (1000)), (1, .int ((-6))), (0, .ref (ad 22))]) hx hb dX3_nearestToRow_6 rfl hl (by decide) rfl (fun ls hl => ?_)
  refine lv_iconst (v := 0) hx hb dX3_nearestToRow_7 (by decide) ?_
  refine lv_istore_n (lv' := [(3, .int (0)), (2, .int (1000)), (1, .int ((-6))), (0, .ref (ad 22))]) hx hb dX3_nearestToRow_8 rfl hl (by decide) rfl (fun ls hl => ?_)
  obtain ⟨K9, eK9, h⟩ := p_X3_nearestToRow_L9_k h
  have JE9 : ∀ (z9_0 : Int32) (z9_1 : Int32) (z9_2 : Int32) (H : Heap) (locs : List Loc) (ls : Array Slot), K9 z9_0 z9_1 z9_2 = some r → va_P D vwCl (wC ad cA F G) H → va_D A (wC ad cA F G) → va_S A s.heap H locs → lv_has ls 5 [(3, .int (z9_0)), (2, .int (z9_1)), (1, .int (z9_2)), (0, .ref (ad 22))] → W p l e ({ frames := 4, cells := 0, slots := 0, locals := 90 } : Room) s m args below meth c H locs 0 0 Q (F0 m 59 ls []) := by
    intro z9_0 z9_1 z9_2 H locs ls h hP hD hS hl
    rw [eK9] at h
    refine lv_iload_n hx hb dX3_nearestToRow_59 rfl (lv_at hl 2 rfl) ?_
    exact hret _ _ _ _ _ dX3_nearestToRow_60 h hP hD hS
  have LL9 : ∀ (k : Nat) (z9_0 : Int32) (z9_1 : Int32) (z9_2 : Int32) (H : Heap) (locs : List Loc) (ls : Array Slot), p_X3_nearestToRow_L9 n F G K9 k z9_0 z9_1 z9_2 = some r → va_P D vwCl (wC ad cA F G) H → va_D A (wC ad cA F G) → va_S A s.heap H locs → lv_has ls 5 [(3, .int (z9_0)), (2, .int (z9_1)), (1, .int (z9_2)), (0, .ref (ad 22))] → W p l e ({ frames := 4, cells := 0, slots := 0, locals := 90 } : Room) s m args below meth c H locs 0 0 Q (F0 m 9 ls []) := by
    intro k
    induction k with
    | zero =>
      intro z9_0 z9_1 z9_2 H locs ls h hP hD hS hl
      rw [p_X3_nearestToRow_L9] at h
      cases h
    | succ k9 ih9 =>
      intro z9_0 z9_1 z9_2 H locs ls h hP hD hS hl
      rw [p_X3_nearestToRow_L9] at h
      refine lv_iload_n hx hb dX3_nearestToRow_9 rfl (lv_at hl 0 rfl) ?_
      refine lv_bipush (v := 12) hx hb dX3_nearestToRow_10 (by decide) ?_
      refine lv_icmp_ge (tgt := 59) hx hb dX3_nearestToRow_12 (by decide) (fun c12 => ?_) (fun c12 => ?_)
      · replace h := ifp h c12
        exact JE9 _ _ _ _ _ _ h hP hD hS (lv_sub hl [0, 1, 2, 3] rfl)
      · replace h := ifn h c12
        refine lv_aload_n hx hb dX3_nearestToRow_15 rfl (lv_at hl 3 rfl) ?_
        refine lv_iload_n hx hb dX3_nearestToRow_16 rfl (lv_at hl 0 rfl) ?_
        obtain ⟨x17, h17, h⟩ := bi1e h
        refine callVI (b := ad 22) (As := [.int (z9_0)]) (rest := []) ⟨hx, hb, hml, hown, hts⟩ (c_X3_isSet l D ad cA n F G z9_0 h17) (cwV 1 hts gX3_nearestToRow_X3_isSet rfl rfl rfl (by decide +kernel) ⟨Nat.le_of_ble_eq_true rfl, Nat.le_of_ble_eq_true rfl⟩) (va_recv hK hP (ci := 3) (q0 := 22) rfl wCg22) hP hK hD hN hS hA rfl hl.1 rfl (Nat.le_of_ble_eq_true rfl) dX3_nearestToRow_17 ⟨Nat.zero_le _, Nat.zero_le _⟩ (fun H locs hP hD hS => ?_)
        obtain ⟨y20_0, y20_1, q20, h⟩ := bi2e h
        have J20 : ∀ (wy20_0 : Int32) (wy20_1 : Int32), some (wy20_0, wy20_1) = some (y20_0, y20_1) → ∀ (H : Heap) (locs : List Loc) (ls : Array Slot), va_P D vwCl (wC ad cA F G) H → va_D A (wC ad cA F G) → va_S A s.heap H locs → lv_has ls 5 [(3, .int (z9_0)), (2, .int (wy20_0)), (1, .int (wy20_1)), (0, .ref (ad 22))] → W p l e ({ frames := 4, cells := 0, slots := 0, locals := 90 } : Room) s m args below meth c H locs 0 0 Q (F0 m 53 ls []) := by
          intro wy20_0 wy20_1 e9 H locs ls hP hD hS hl
          cases e9
          obtain ⟨x53, ex53⟩ : ∃ z : Int32, z = (z9_0 + 1) := ⟨_, rfl⟩
          replace h := pl h ex53
          refine lv_iinc (v := x53) (lv' := [(3, .int (x53)), (2, .int (y20_0)), (1, .int (y20_1)), (0, .ref (ad 22))]) hx hb dX3_nearestToRow_53 hl (k := 0) rfl (by rw [ex53]; rfl) (by decide) rfl (fun ls hl => ?_)
          refine lv_goto (tgt := 9) hx hb dX3_nearestToRow_56 (by decide) ?_
          exact ih9 _ _ _ _ _ _ h hP hD hS (lv_sub hl [0, 1, 2, 3] rfl)
        refine lv_if_ne (tgt := 26) hx hb dX3_nearestToRow_20 (by decide) (fun c20 => ?_) (fun c20 => ?_)
        · replace q20 := ifn q20 c20
          refine lv_aload_n hx hb dX3_nearestToRow_26 rfl (lv_at hl 3 rfl) ?_
          refine lv_iload_n hx hb dX3_nearestToRow_27 rfl (lv_at hl 0 rfl) ?_
          obtain ⟨x28, h28, q20⟩ := bi1e q20
          refine callVI (b := ad 22) (As := [.int (z9_0)]) (rest := []) ⟨hx, hb, hml, hown, hts⟩ (c_X3_fromRow l D ad cA n F G z9_0 h28) (cwV 1 hts gX3_nearestToRow_X3_fromRow rfl rfl rfl (by decide +kernel) ⟨Nat.le_of_ble_eq_true rfl, Nat.le_of_ble_eq_true rfl⟩) (va_recv hK hP (ci := 3) (q0 := 22) rfl wCg22) hP hK hD hN hS hA rfl hl.1 rfl (Nat.le_of_ble_eq_true rfl) dX3_nearestToRow_28 ⟨Nat.zero_le _, Nat.zero_le _⟩ (fun H locs hP hD hS => ?_)
          refine lv_istore (lv' := [(4, .int (x28)), (3, .int (z9_0)), (2, .int (z9_1)), (1, .int (z9_2)), (0, .ref (ad 22))]) hx hb dX3_nearestToRow_31 hl (by decide) rfl (fun ls hl => ?_)
          refine lv_iload hx hb dX3_nearestToRow_33 (lv_at hl 0 rfl) ?_
          refine lv_iload_n hx hb dX3_nearestToRow_35 rfl (lv_at hl 2 rfl) ?_
          obtain ⟨y36_0, q36, q20⟩ := bi1e q20
          have J36 : ∀ (wy36_0 : Int32), some (wy36_0) = some (y36_0) → ∀ (H : Heap) (locs : List Loc) (ls : Array Slot), va_P D vwCl (wC ad cA F G) H → va_D A (wC ad cA F G) → va_S A s.heap H locs → lv_has ls 5 [(4, .int (x28)), (3, .int (z9_0)), (2, .int (z9_1)), (1, .int (wy36_0)), (0, .ref (ad 22))] → W p l e ({ frames := 4, cells := 0, slots := 0, locals := 90 } : Room) s m args below meth c H locs 0 0 Q (F0 m 42 ls []) := by
            intro wy36_0 e9 H locs ls hP hD hS hl
            cases e9
            refine lv_iload hx hb dX3_nearestToRow_42 (lv_at hl 0 rfl) ?_
            refine lv_iload_n hx hb dX3_nearestToRow_44 rfl (lv_at hl 2 rfl) ?_
            refine lv_icmp_ge (tgt := 53) hx hb dX3_nearestToRow_45 (by decide) (fun c45 => ?_) (fun c45 => ?_)
            · replace q20 := ifp q20 c45
              exact J20 _ _ q20 _ _ _ hP hD hS (lv_sub hl [1, 2, 3, 4] rfl)
            · replace q20 := ifn q20 c45
              refine lv_iload_n hx hb dX3_nearestToRow_48 rfl (lv_at hl 1 rfl) ?_
              refine lv_istore_n (lv' := [(1, .int (z9_0)), (4, .int (x28)), (3, .int (z9_0)), (2, .int (z9_1)), (0, .ref (ad 22))]) hx hb dX3_nearestToRow_49 rfl hl (by decide) rfl (fun ls hl => ?_)
              refine lv_iload hx hb dX3_nearestToRow_50 (lv_at hl 1 rfl) ?_
              refine lv_istore_n (lv' := [(2, .int (x28)), (1, .int (z9_0)), (4, .int (x28)), (3, .int (z9_0)), (0, .ref (ad 22))]) hx hb dX3_nearestToRow_52 rfl hl (by decide) rfl (fun ls hl => ?_)
              exact J20 _ _ q20 _ _ _ hP hD hS (lv_sub hl [3, 0, 1, 4] rfl)
          refine lv_icmp_ne (tgt := 42) hx hb dX3_nearestToRow_36 (by decide) (fun c36 => ?_) (fun c36 => ?_)
          · replace q36 := ifn q36 c36
            exact J36 _ q36 _ _ _ hP hD hS (lv_sub hl [0, 1, 2, 3, 4] rfl)
          · replace q36 := ifp q36 c36
            refine lv_bipush (v := (-6)) hx hb dX3_nearestToRow_39 (by decide) ?_
            refine lv_istore_n (lv' := [(1, .int ((-6))), (4, .int (x28)), (3, .int (z9_0)), (2, .int (z9_1)), (0, .ref (ad 22))]) hx hb dX3_nearestToRow_41 rfl hl (by decide) rfl (fun ls hl => ?_)
            exact J36 _ q36 _ _ _ hP hD hS (lv_sub hl [1, 2, 3, 0, 4] rfl)
        · replace q20 := ifp q20 c20
          refine lv_goto (tgt := 53) hx hb dX3_nearestToRow_23 (by decide) ?_
          exact J20 _ _ q20 _ _ _ hP hD hS (lv_sub hl [0, 1, 2, 3] rfl)
  exact LL9 n 0 1000 (-6) _ _ _ h hP hD hS (lv_sub hl [0, 1, 2, 3] rfl)

def p_X3_onlyOneApart_L6 (G : tG) (a1 : Int32) (a2 : Int32) (K6 : Int32 → Int32 → Option (Int32)) : Nat → Int32 → Int32 → Option (Int32)
  | 0, _, _ => none
  | k6 + 1, z6_0, z6_1 => (if 12 ≤ z6_0 then K6 z6_0 z6_1 else bi1 (p_X3_isSet G z6_0) (fun x16 => (if x16 = 0 then plet (z6_0 + 1) (fun (x49 : Int32) => p_X3_onlyOneApart_L6 G a1 a2 K6 k6 x49 z6_1) else bi1 (p_X3_fromSign G z6_0 a1 a2) (fun x27 => (if x27 = 1 then (if z6_1 = (-6) then plet (z6_0 + 1) (fun (x49 : Int32) => p_X3_onlyOneApart_L6 G a1 a2 K6 k6 x49 z6_0) else some (-6)) else plet (z6_0 + 1) (fun (x49 : Int32) => p_X3_onlyOneApart_L6 G a1 a2 K6 k6 x49 z6_1))))))
theorem p_X3_onlyOneApart_L6_k {G : tG} {a1 : Int32} {a2 : Int32} {K0 : Int32 → Int32 → Option (Int32)} {k : Nat} {z6_0 : Int32} {z6_1 : Int32} {x : Int32} (h : p_X3_onlyOneApart_L6 G a1 a2 K0 k z6_0 z6_1 = some x) : ∃ K, K = K0 ∧ p_X3_onlyOneApart_L6 G a1 a2 K k z6_0 z6_1 = some x := ⟨K0, rfl, h⟩
def p_X3_onlyOneApart (n : Nat) (G : tG) (a1 : Int32) (a2 : Int32) : Option (Int32) :=
  p_X3_onlyOneApart_L6 G a1 a2 (fun (z6_0 : Int32) (z6_1 : Int32) => some z6_1) n 0 (-6)
set_option maxHeartbeats 4000000 in
set_option maxRecDepth 100000 in
theorem c_X3_onlyOneApart (l : Launch) (D : va_G) (ad : Nat → Nat) (cA : ClassId) (n : Nat) (F : tF) (G : tG) (a1 : Int32) (a2 : Int32) {r : Int32} (h : p_X3_onlyOneApart n G a1 a2 = some r) : CI l yX3_onlyOneApart wsX3_onlyOneApart ({ frames := 3, cells := 0, slots := 0, locals := 67 } : Room) D cA (wC ad cA F G) [.ref (ad 22), .int (a1), .int (a2)] r (wC ad cA F G) := by
  rw [p_X3_onlyOneApart] at h
  refine metIr (w := wC ad cA) (cc := cX3_onlyOneApart) (maxL := 5) (by decide) rfl (Nat.le_of_ble_eq_true rfl) ?_
  intro p e s m args below meth c A ls Q hE hret
  obtain ⟨hx, hb, hts, hown, hml, hP, hK, hD, hN, hA, hl⟩ := hE
  have hown : s.vm.findClass RX3 = some m.cls := hown
  have hl : lv_has ls 5 [(0, .ref (ad 22)), (1, .int (a1)), (2, .int (a2))] := hl
  have hS : va_S A s.heap s.heap [] := va_S.rf
  refine lv_bipush (v := (-6)) hx hb dX3_onlyOneApart_0 (by decide) ?_
  refine lv_istore_n (lv' := [(3, .int ((-6))), (0, .ref (ad 22)), (1, .int (a1)), (2, .int (a2))]) hx hb dX3_onlyOneApart_2 rfl hl (by decide) rfl (fun ls hl => ?_)
  refine lv_iconst (v := 0) hx hb dX3_onlyOneApart_3 (by decide) ?_
  refine lv_istore (lv' := [(4, .int (0)), (3, .int ((-6))), (0, .ref (ad 22)), (1, .int (a1)), (2, .int (a2))]) hx hb dX3_onlyOneApart_4 hl (by decide) rfl (fun ls hl => ?_)
  obtain ⟨K6, eK6, h⟩ := p_X3_onlyOneApart_L6_k h
  have JE6 : ∀ (z6_0 : Int32) (z6_1 : Int32) (H : Heap) (locs : List Loc) (ls : Array Slot), K6 z6_0 z6_1 = some r → va_P D vwCl (wC ad cA F G) H → va_D A (wC ad cA F G) → va_S A s.heap H locs → lv_has ls 5 [(4, .int (z6_0)), (3, .int (z6_1)), (0, .ref (ad 22)), (1, .int (a1)), (2, .int (a2))] → W p l e ({ frames := 3, cells := 0, slots := 0, locals := 67 } : Room) s m args below meth c H locs 0 0 Q (F0 m 55 ls []) := by
    intro z6_0 z6_1 H locs ls h hP hD hS hl
    rw [eK6] at h
    refine lv_iload_n hx hb dX3_onlyOneApart_55 rfl (lv_at hl 1 rfl) ?_
    exact hret _ _ _ _ _ dX3_onlyOneApart_56 h hP hD hS
  have LL6 : ∀ (k : Nat) (z6_0 : Int32) (z6_1 : Int32) (H : Heap) (locs : List Loc) (ls : Array Slot), p_X3_onlyOneApart_L6 G a1 a2 K6 k z6_0 z6_1 = some r → va_P D vwCl (wC ad cA F G) H → va_D A (wC ad cA F G) → va_S A s.heap H locs → lv_has ls 5 [(4, .int (z6_0)), (3, .int (z6_1)), (0, .ref (ad 22)), (1, .int (a1)), (2, .int (a2))] → W p l e ({ frames := 3, cells := 0, slots := 0, locals := 67 } : Room) s m args below meth c H locs 0 0 Q (F0 m 6 ls []) := by
    intro k
    induction k with
    | zero =>
      intro z6_0 z6_1 H locs ls h hP hD hS hl
      rw [p_X3_onlyOneApart_L6] at h
      cases h
    | succ k6 ih6 =>
      intro z6_0 z6_1 H locs ls h hP hD hS hl
      rw [p_X3_onlyOneApart_L6] at h
      refine lv_iload hx hb dX3_onlyOneApart_6 (lv_at hl 0 rfl) ?_
      refine lv_bipush (v := 12) hx hb dX3_onlyOneApart_8 (by decide) ?_
      refine lv_icmp_ge (tgt := 55) hx hb dX3_onlyOneApart_10 (by decide) (fun c10 => ?_) (fun c10 => ?_)
      · replace h := ifp h c10
        exact JE6 _ _ _ _ _ h hP hD hS (lv_sub hl [0, 1, 2, 3, 4] rfl)
      · replace h := ifn h c10
        refine lv_aload_n hx hb dX3_onlyOneApart_13 rfl (lv_at hl 2 rfl) ?_
        refine lv_iload hx hb dX3_onlyOneApart_14 (lv_at hl 0 rfl) ?_
        obtain ⟨x16, h16, h⟩ := bi1e h
        refine callVI (b := ad 22) (As := [.int (z6_0)]) (rest := []) ⟨hx, hb, hml, hown, hts⟩ (c_X3_isSet l D ad cA n F G z6_0 h16) (cwV 1 hts gX3_onlyOneApart_X3_isSet rfl rfl rfl (by decide +kernel) ⟨Nat.le_of_ble_eq_true rfl, Nat.le_of_ble_eq_true rfl⟩) (va_recv hK hP (ci := 3) (q0 := 22) rfl wCg22) hP hK hD hN hS hA rfl hl.1 rfl (Nat.le_of_ble_eq_true rfl) dX3_onlyOneApart_16 ⟨Nat.zero_le _, Nat.zero_le _⟩ (fun H locs hP hD hS => ?_)
        refine lv_if_eq (tgt := 49) hx hb dX3_onlyOneApart_19 (by decide) (fun c19 => ?_) (fun c19 => ?_)
        · replace h := ifp h c19
          obtain ⟨x49, ex49⟩ : ∃ z : Int32, z = (z6_0 + 1) := ⟨_, rfl⟩
          replace h := pl h ex49
          refine lv_iinc (v := x49) (lv' := [(4, .int (x49)), (3, .int (z6_1)), (0, .ref (ad 22)), (1, .int (a1)), (2, .int (a2))]) hx hb dX3_onlyOneApart_49 hl (k := 0) rfl (by rw [ex49]; rfl) (by decide) rfl (fun ls hl => ?_)
          refine lv_goto (tgt := 6) hx hb dX3_onlyOneApart_52 (by decide) ?_
          exact ih6 _ _ _ _ _ h hP hD hS (lv_sub hl [0, 1, 2, 3, 4] rfl)
        · replace h := ifn h c19
          refine lv_aload_n hx hb dX3_onlyOneApart_22 rfl (lv_at hl 2 rfl) ?_
          refine lv_iload hx hb dX3_onlyOneApart_23 (lv_at hl 0 rfl) ?_
          refine lv_iload_n hx hb dX3_onlyOneApart_25 rfl (lv_at hl 3 rfl) ?_
          refine lv_iload_n hx hb dX3_onlyOneApart_26 rfl (lv_at hl 4 rfl) ?_
          obtain ⟨x27, h27, h⟩ := bi1e h
          refine callVI (b := ad 22) (As := [.int (z6_0), .int (a1), .int (a2)]) (rest := []) ⟨hx, hb, hml, hown, hts⟩ (c_X3_fromSign l D ad cA n F G z6_0 a1 a2 h27) (cwV 3 hts gX3_onlyOneApart_X3_fromSign rfl rfl rfl (by decide +kernel) ⟨Nat.le_of_ble_eq_true rfl, Nat.le_of_ble_eq_true rfl⟩) (va_recv hK hP (ci := 3) (q0 := 22) rfl wCg22) hP hK hD hN hS hA rfl hl.1 rfl (Nat.le_of_ble_eq_true rfl) dX3_onlyOneApart_27 ⟨Nat.zero_le _, Nat.zero_le _⟩ (fun H locs hP hD hS => ?_)
          refine lv_iconst (v := 1) hx hb dX3_onlyOneApart_30 (by decide) ?_
          refine lv_icmp_eq (tgt := 37) hx hb dX3_onlyOneApart_31 (by decide) (fun c31 => ?_) (fun c31 => ?_)
          · replace h := ifp h c31
            refine lv_iload_n hx hb dX3_onlyOneApart_37 rfl (lv_at hl 1 rfl) ?_
            refine lv_bipush (v := (-6)) hx hb dX3_onlyOneApart_38 (by decide) ?_
            refine lv_icmp_eq (tgt := 46) hx hb dX3_onlyOneApart_40 (by decide) (fun c40 => ?_) (fun c40 => ?_)
            · replace h := ifp h c40
              refine lv_iload hx hb dX3_onlyOneApart_46 (lv_at hl 0 rfl) ?_
              refine lv_istore_n (lv' := [(3, .int (z6_0)), (4, .int (z6_0)), (0, .ref (ad 22)), (1, .int (a1)), (2, .int (a2))]) hx hb dX3_onlyOneApart_48 rfl hl (by decide) rfl (fun ls hl => ?_)
              obtain ⟨x49, ex49⟩ : ∃ z : Int32, z = (z6_0 + 1) := ⟨_, rfl⟩
              replace h := pl h ex49
              refine lv_iinc (v := x49) (lv' := [(4, .int (x49)), (3, .int (z6_0)), (0, .ref (ad 22)), (1, .int (a1)), (2, .int (a2))]) hx hb dX3_onlyOneApart_49 hl (k := 1) rfl (by rw [ex49]; rfl) (by decide) rfl (fun ls hl => ?_)
              refine lv_goto (tgt := 6) hx hb dX3_onlyOneApart_52 (by decide) ?_
              exact ih6 _ _ _ _ _ h hP hD hS (lv_sub hl [0, 1, 2, 3, 4] rfl)
            · replace h := ifn h c40
              refine lv_bipush (v := (-6)) hx hb dX3_onlyOneApart_43 (by decide) ?_
              exact hret _ _ _ _ _ dX3_onlyOneApart_45 h hP hD hS
          · replace h := ifn h c31
            refine lv_goto (tgt := 49) hx hb dX3_onlyOneApart_34 (by decide) ?_
            obtain ⟨x49, ex49⟩ : ∃ z : Int32, z = (z6_0 + 1) := ⟨_, rfl⟩
            replace h := pl h ex49
            refine lv_iinc (v := x49) (lv' := [(4, .int (x49)), (3, .int (z6_1)), (0, .ref (ad 22)), (1, .int (a1)), (2, .int (a2))]) hx hb dX3_onlyOneApart_49 hl (k := 0) rfl (by rw [ex49]; rfl) (by decide) rfl (fun ls hl => ?_)
            refine lv_goto (tgt := 6) hx hb dX3_onlyOneApart_52 (by decide) ?_
            exact ih6 _ _ _ _ _ h hP hD hS (lv_sub hl [0, 1, 2, 3, 4] rfl)
  exact LL6 n 0 (-6) _ _ _ h hP hD hS (lv_sub hl [0, 1, 2, 3, 4] rfl)

def p_X3_put (F : tF) (G : tG) (a1 : Int32) (a2 : Int32) (a3 : Int32) : Option (tF × tG) :=
  oguard (inB a1 12) (plet (stG G 16 a1 a2) (fun (G6 : tG) => oguard (inB a1 12) (plet (stG G6 17 a1 a3) (fun (G13 : tG) => some (F, G13)))))
set_option maxHeartbeats 4000000 in
set_option maxRecDepth 100000 in
theorem c_X3_put (l : Launch) (D : va_G) (ad : Nat → Nat) (cA : ClassId) (n : Nat) (F : tF) (G : tG) (a1 : Int32) (a2 : Int32) (a3 : Int32) {F' : tF} {G' : tG} (h : p_X3_put F G a1 a2 a3 = some (F', G')) : CV l yX3_put wsX3_put ({ frames := 0, cells := 0, slots := 0, locals := 0 } : Room) D cA (wC ad cA F G) [.ref (ad 22), .int (a1), .int (a2), .int (a3)] (wC ad cA F' G') := by
  rw [p_X3_put] at h
  refine metVm (w := wC ad cA) (cc := cX3_put) (maxL := 4) (by decide) rfl (Nat.le_of_ble_eq_true rfl) ?_
  intro p e s m args below meth c A ls Q hE hret
  obtain ⟨hx, hb, hts, hown, hml, hP, hK, hD, hN, hA, hl⟩ := hE
  have hown : s.vm.findClass RX3 = some m.cls := hown
  have hl : lv_has ls 4 [(0, .ref (ad 22)), (1, .int (a1)), (2, .int (a2)), (3, .int (a3))] := hl
  have hS : va_S A s.heap s.heap [] := va_S.rf
  have k_0 : (Cond.fieldLink RX3 11 "BellBook$Line" "first" "[I").before args s = true := hts _ (List.mem_of_getElem? (i := 1) rfl)
  have n_3 : ∀ w ∈ u_ws RX3 TX3 5, w ∈ wsX3_put := fun w hw => List.mem_cons_of_mem _ (List.mem_append_right _ hw)
  have k_2 : (Cond.fieldLink RX3 15 "BellBook$Line" "second" "[I").before args s = true := hts _ (List.mem_of_getElem? (i := 2) rfl)
  refine lv_aload_n hx hb dX3_put_0 rfl (lv_at hl 0 rfl) ?_
  refine va_get (D := D) (ci := 3) (fs := vX3 ad F) (v := .ref (ad 23)) (C := RX3) (T := TX3) (N := 5) hx hb hts n_3 hown hK hP 22 wCg22 rfl 0 (by decide) k_0 (fun _ h9 => h9) rfl dX3_put_1 ?_
  refine lv_iload_n hx hb dX3_put_4 rfl (lv_at hl 1 rfl) ?_
  refine lv_iload_n hx hb dX3_put_5 rfl (lv_at hl 2 rfl) ?_
  obtain ⟨g6, h⟩ := og h
  obtain ⟨G6, eG6⟩ : ∃ z : tG, z = stG G 16 a1 a2 := ⟨_, rfl⟩
  replace h := pl h eG6
  refine va_iast (D := D) hx hb hK hP hD hS 23 0 wCg23 rfl (inB_in g6) dX3_put_6 (fun H locs hP hD hS => ?_)
  rw [wCa16 eG6] at hP hD
  refine lv_aload_n hx hb dX3_put_7 rfl (lv_at hl 0 rfl) ?_
  refine va_get (D := D) (ci := 3) (fs := vX3 ad F) (v := .ref (ad 24)) (C := RX3) (T := TX3) (N := 5) hx hb hts n_3 hown hK hP 22 wCg22 rfl 1 (by decide) k_2 (fun _ h9 => h9) rfl dX3_put_8 ?_
  refine lv_iload_n hx hb dX3_put_11 rfl (lv_at hl 1 rfl) ?_
  refine lv_iload_n hx hb dX3_put_12 rfl (lv_at hl 3 rfl) ?_
  obtain ⟨g13, h⟩ := og h
  obtain ⟨G13, eG13⟩ : ∃ z : tG, z = stG G6 17 a1 a3 := ⟨_, rfl⟩
  replace h := pl h eG13
  refine va_iast (D := D) hx hb hK hP hD hS 24 0 wCg24 rfl (inB_in g13) dX3_put_13 (fun H locs hP hD hS => ?_)
  rw [wCa17 eG13] at hP hD
  exact hret _ _ _ _ _ _ dX3_put_14 h hP hD hS

def p_X3_signOf_L2 (G : tG) (a1 : Int32) (a2 : Int32) (K2 : Int32 → Option (Int32)) : Nat → Int32 → Option (Int32)
  | 0, _ => none
  | k2 + 1, z2_0 => (if 12 ≤ z2_0 then K2 z2_0 else bi1 (p_X3_isSet G z2_0) (fun x10 => (if x10 = 0 then plet (z2_0 + 1) (fun (x28 : Int32) => p_X3_signOf_L2 G a1 a2 K2 k2 x28) else bi1 (p_X3_fromSign G z2_0 a1 a2) (fun x20 => (if x20 = 0 then some z2_0 else plet (z2_0 + 1) (fun (x28 : Int32) => p_X3_signOf_L2 G a1 a2 K2 k2 x28))))))
theorem p_X3_signOf_L2_k {G : tG} {a1 : Int32} {a2 : Int32} {K0 : Int32 → Option (Int32)} {k : Nat} {z2_0 : Int32} {x : Int32} (h : p_X3_signOf_L2 G a1 a2 K0 k z2_0 = some x) : ∃ K, K = K0 ∧ p_X3_signOf_L2 G a1 a2 K k z2_0 = some x := ⟨K0, rfl, h⟩
def p_X3_signOf (n : Nat) (G : tG) (a1 : Int32) (a2 : Int32) : Option (Int32) :=
  p_X3_signOf_L2 G a1 a2 (fun (z2_0 : Int32) => some (-6)) n 0
set_option maxHeartbeats 4000000 in
set_option maxRecDepth 100000 in
theorem c_X3_signOf (l : Launch) (D : va_G) (ad : Nat → Nat) (cA : ClassId) (n : Nat) (F : tF) (G : tG) (a1 : Int32) (a2 : Int32) {r : Int32} (h : p_X3_signOf n G a1 a2 = some r) : CI l yX3_signOf wsX3_signOf ({ frames := 3, cells := 0, slots := 0, locals := 67 } : Room) D cA (wC ad cA F G) [.ref (ad 22), .int (a1), .int (a2)] r (wC ad cA F G) := by
  rw [p_X3_signOf] at h
  refine metIr (w := wC ad cA) (cc := cX3_signOf) (maxL := 4) (by decide) rfl (Nat.le_of_ble_eq_true rfl) ?_
  intro p e s m args below meth c A ls Q hE hret
  obtain ⟨hx, hb, hts, hown, hml, hP, hK, hD, hN, hA, hl⟩ := hE
  have hown : s.vm.findClass RX3 = some m.cls := hown
  have hl : lv_has ls 4 [(0, .ref (ad 22)), (1, .int (a1)), (2, .int (a2))] := hl
  have hS : va_S A s.heap s.heap [] := va_S.rf
  refine lv_iconst (v := 0) hx hb dX3_signOf_0 (by decide) ?_
  refine lv_istore_n (lv' := [(3, .int (0)), (0, .ref (ad 22)), (1, .int (a1)), (2, .int (a2))]) hx hb dX3_signOf_1 rfl hl (by decide) rfl (fun ls hl => ?_)
  obtain ⟨K2, eK2, h⟩ := p_X3_signOf_L2_k h
  have JE2 : ∀ (z2_0 : Int32) (H : Heap) (locs : List Loc) (ls : Array Slot), K2 z2_0 = some r → va_P D vwCl (wC ad cA F G) H → va_D A (wC ad cA F G) → va_S A s.heap H locs → lv_has ls 4 [(3, .int (z2_0)), (0, .ref (ad 22)), (1, .int (a1)), (2, .int (a2))] → W p l e ({ frames := 3, cells := 0, slots := 0, locals := 67 } : Room) s m args below meth c H locs 0 0 Q (F0 m 34 ls []) := by
    intro z2_0 H locs ls h hP hD hS hl
    rw [eK2] at h
    refine lv_bipush (v := (-6)) hx hb dX3_signOf_34 (by decide) ?_
    exact hret _ _ _ _ _ dX3_signOf_36 h hP hD hS
  have LL2 : ∀ (k : Nat) (z2_0 : Int32) (H : Heap) (locs : List Loc) (ls : Array Slot), p_X3_signOf_L2 G a1 a2 K2 k z2_0 = some r → va_P D vwCl (wC ad cA F G) H → va_D A (wC ad cA F G) → va_S A s.heap H locs → lv_has ls 4 [(3, .int (z2_0)), (0, .ref (ad 22)), (1, .int (a1)), (2, .int (a2))] → W p l e ({ frames := 3, cells := 0, slots := 0, locals := 67 } : Room) s m args below meth c H locs 0 0 Q (F0 m 2 ls []) := by
    intro k
    induction k with
    | zero =>
      intro z2_0 H locs ls h hP hD hS hl
      rw [p_X3_signOf_L2] at h
      cases h
    | succ k2 ih2 =>
      intro z2_0 H locs ls h hP hD hS hl
      rw [p_X3_signOf_L2] at h
      refine lv_iload_n hx hb dX3_signOf_2 rfl (lv_at hl 0 rfl) ?_
      refine lv_bipush (v := 12) hx hb dX3_signOf_3 (by decide) ?_
      refine lv_icmp_ge (tgt := 34) hx hb dX3_signOf_5 (by decide) (fun c5 => ?_) (fun c5 => ?_)
      · replace h := ifp h c5
        exact JE2 _ _ _ _ h hP hD hS (lv_sub hl [0, 1, 2, 3] rfl)
      · replace h := ifn h c5
        refine lv_aload_n hx hb dX3_signOf_8 rfl (lv_at hl 1 rfl) ?_
        refine lv_iload_n hx hb dX3_signOf_9 rfl (lv_at hl 0 rfl) ?_
        obtain ⟨x10, h10, h⟩ := bi1e h
        refine callVI (b := ad 22) (As := [.int (z2_0)]) (rest := []) ⟨hx, hb, hml, hown, hts⟩ (c_X3_isSet l D ad cA n F G z2_0 h10) (cwV 1 hts gX3_signOf_X3_isSet rfl rfl rfl (by decide +kernel) ⟨Nat.le_of_ble_eq_true rfl, Nat.le_of_ble_eq_true rfl⟩) (va_recv hK hP (ci := 3) (q0 := 22) rfl wCg22) hP hK hD hN hS hA rfl hl.1 rfl (Nat.le_of_ble_eq_true rfl) dX3_signOf_10 ⟨Nat.zero_le _, Nat.zero_le _⟩ (fun H locs hP hD hS => ?_)
        refine lv_if_eq (tgt := 28) hx hb dX3_signOf_13 (by decide) (fun c13 => ?_) (fun c13 => ?_)
        · replace h := ifp h c13
          obtain ⟨x28, ex28⟩ : ∃ z : Int32, z = (z2_0 + 1) := ⟨_, rfl⟩
          replace h := pl h ex28
          refine lv_iinc (v := x28) (lv' := [(3, .int (x28)), (0, .ref (ad 22)), (1, .int (a1)), (2, .int (a2))]) hx hb dX3_signOf_28 hl (k := 0) rfl (by rw [ex28]; rfl) (by decide) rfl (fun ls hl => ?_)
          refine lv_goto (tgt := 2) hx hb dX3_signOf_31 (by decide) ?_
          exact ih2 _ _ _ _ h hP hD hS (lv_sub hl [0, 1, 2, 3] rfl)
        · replace h := ifn h c13
          refine lv_aload_n hx hb dX3_signOf_16 rfl (lv_at hl 1 rfl) ?_
          refine lv_iload_n hx hb dX3_signOf_17 rfl (lv_at hl 0 rfl) ?_
          refine lv_iload_n hx hb dX3_signOf_18 rfl (lv_at hl 2 rfl) ?_
          refine lv_iload_n hx hb dX3_signOf_19 rfl (lv_at hl 3 rfl) ?_
          obtain ⟨x20, h20, h⟩ := bi1e h
          refine callVI (b := ad 22) (As := [.int (z2_0), .int (a1), .int (a2)]) (rest := []) ⟨hx, hb, hml, hown, hts⟩ (c_X3_fromSign l D ad cA n F G z2_0 a1 a2 h20) (cwV 3 hts gX3_signOf_X3_fromSign rfl rfl rfl (by decide +kernel) ⟨Nat.le_of_ble_eq_true rfl, Nat.le_of_ble_eq_true rfl⟩) (va_recv hK hP (ci := 3) (q0 := 22) rfl wCg22) hP hK hD hN hS hA rfl hl.1 rfl (Nat.le_of_ble_eq_true rfl) dX3_signOf_20 ⟨Nat.zero_le _, Nat.zero_le _⟩ (fun H locs hP hD hS => ?_)
          refine lv_if_ne (tgt := 28) hx hb dX3_signOf_23 (by decide) (fun c23 => ?_) (fun c23 => ?_)
          · replace h := ifn h c23
            obtain ⟨x28, ex28⟩ : ∃ z : Int32, z = (z2_0 + 1) := ⟨_, rfl⟩
            replace h := pl h ex28
            refine lv_iinc (v := x28) (lv' := [(3, .int (x28)), (0, .ref (ad 22)), (1, .int (a1)), (2, .int (a2))]) hx hb dX3_signOf_28 hl (k := 0) rfl (by rw [ex28]; rfl) (by decide) rfl (fun ls hl => ?_)
            refine lv_goto (tgt := 2) hx hb dX3_signOf_31 (by decide) ?_
            exact ih2 _ _ _ _ h hP hD hS (lv_sub hl [0, 1, 2, 3] rfl)
          · replace h := ifp h c23
            refine lv_iload_n hx hb dX3_signOf_26 rfl (lv_at hl 0 rfl) ?_
            exact hret _ _ _ _ _ dX3_signOf_27 h hP hD hS
  exact LL2 n 0 _ _ _ h hP hD hS (lv_sub hl [0, 1, 2, 3] rfl)
